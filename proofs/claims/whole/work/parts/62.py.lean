/-! ===== the pure level: years, steps ===== -/
section YE
variable {vs : (Nat → Int32) → Int32} {n : Nat} {day unmet : Int32} {skill pills slept woken wanted now : Nat → Int32} {size : Int32} {code : Nat → Int32} {ruleSize : Int32} {rule : Nat → Int32} {tsz rm : Int32} {tnum row : Nat → Int64}
theorem L_draw (r : Int32) {m : Nat} (h0 : 0 < m) (hm : m < 1000) : ∃ d r', d < m ∧ X10_draw r (o32 m) = some (o32 d, r') ∧ X11_draw r (o32 m) = some (o32 d, r') := by
  have hu : ∀ x : Int32, ∃ a, a < 65536 ∧ iushr x 16 = o32 a := by
    intro x
    have e : (iushr x 16).toBitVec.toNat = x.toBitVec.toNat / 2 ^ 16 := pk_ushr x 16 16 (by decide)
    refine ⟨x.toBitVec.toNat / 2 ^ 16, ?_, ?_⟩
    · have := x.toBitVec.isLt; omega
    · apply Int32.toBitVec_inj.mp
      apply BitVec.eq_of_toNat_eq
      rw [e]
      exact (pk_tn (n := x.toBitVec.toNat / 2 ^ 16) (by have := x.toBitVec.isLt; omega)).symm
  obtain ⟨a, ha, ea⟩ := hu (r * 1103515245 + 12345)
  have q : (o32 m ≤ 0) = False := by
    show (o32 m ≤ o32 0) = False
    rw [o_le (by omega) (by decide)]; exact eq_false (by omega)
  have z : ¬ o32 m = 0 := by rw [o0 (by omega)]; omega
  refine ⟨a % m, r * 1103515245 + 12345, Nat.mod_lt _ h0, ?_, ?_⟩
  · simp only [X10_draw, q, if_false, gz, if_neg z, ea, pu_mod (show a < 2147483648 by omega) h0 (show m < 2147483648 by omega)]
  · simp only [X11_draw, gz, if_neg z, ea, pu_mod (show a < 2147483648 by omega) h0 (show m < 2147483648 by omega)]
theorem L_two2 {p q : Nat} (hn : n ≤ 7) (hp : p < n) (hq : q < n) : X11_areTwo (o32 n) (o32 p) (o32 q) = some (bi (decide (¬ p = q))) := by
  have h1 : X11_isOne (o32 n) (o32 p) = some 1 := by
    rcases L_one hn (o32 p) with ⟨_, _, _, _, h⟩ | ⟨h, -⟩
    · exact h
    · rw [L_hasn hp hn] at h; exact absurd h (by decide)
  have h2 : X11_isOne (o32 n) (o32 q) = some 1 := by
    rcases L_one hn (o32 q) with ⟨_, _, _, _, h⟩ | ⟨h, -⟩
    · exact h
    · rw [L_hasn hq hn] at h; exact absurd h (by decide)
  simp (disch := omega) only [X11_areTwo, h1, h2, pu_10, if_false, Option.bind_some, o_eq]
  by_cases e : p = q
  · simp [e, bi]
  · simp [e, bi]
theorem L_ystep (hn : n ≤ 7) {y : Int32 × Int32 × Int32 × (Nat → Int32) × (Nat → Int32) × (Nat → Int32) × (Nat → Int32) × (Nat → Int32)} (ey1 : y.1 = o32 n) (hv : RV vs size code) (hm : RM vs ruleSize rule) (hc : VC vs) {m k : Nat} (hk : k < m) (hm' : m < 1000) (acc r u1 u2 : Int32) (u3 u4 u5 u6 u7 u8 u9 : Nat → Int32) (v1 v2 v3 v4 v5 : Int32) (v6 x : Nat → Int32) (h5 : RF n u1 u2 u3 u4 u5 u6 u7 x) : ∃ g g', X10_years_s34 size code (o32 m) y acc (o32 k) r u1 u2 u3 u4 u5 u6 u7 u8 u9 = some (.inl g) ∧ X11_years_s39 (o32 n) ruleSize rule (o32 m) acc (o32 k) v1 v2 v3 v4 v5 r v6 x = some (.inl g') ∧ g.1 = g'.1 ∧ g.2.1 = o32 (k + 1) ∧ g'.2.1 = o32 (k + 1) ∧ g.2.2.1 = g'.2.2.2.2.2.2.2.1 ∧ RF n g.2.2.2.1 g.2.2.2.2.1 g.2.2.2.2.2.1 g.2.2.2.2.2.2.1 g.2.2.2.2.2.2.2.1 g.2.2.2.2.2.2.2.2.1 g.2.2.2.2.2.2.2.2.2.1 g'.2.2.2.2.2.2.2.2.2 := by
  obtain ⟨d, r1, hd, ed, ed'⟩ := L_draw r (m := 4) (by decide) (by decide)
  have f4 : (4 : Int32) = o32 4 := rfl
  have f10 : (10 : Int32) = o32 10 := rfl
  rw [← f4] at ed ed'
  have q2 : ((2 : Int32) ≤ o32 d) = (2 ≤ d) := o_le (a := 2) (by decide) (by omega)
  have q2' : (o32 d < (2 : Int32)) = (d < 2) := o_lt (b := 2) (by omega) (by decide)
  have e2 : (o32 d = (2 : Int32)) = (d = 2) := o_eq (b := 2) (by omega) (by decide)
  have e3 : (o32 d = (3 : Int32)) = (d = 3) := o_eq (b := 3) (by omega) (by decide)
  rcases Nat.lt_or_ge d 2 with d2 | d2
  · have c1 : (2 ≤ d) = False := eq_false (by omega)
    have c2 : (d < 2) = True := eq_true d2
    obtain ⟨g, eg, hg1, hg2⟩ := L_go1 h5 hv hc u8 u9
    obtain ⟨g', eg', hg1', hg2'⟩ := L_goMorning h5.ri (EQ.rf (a := x)) hm hc v1 v2 v3 v4 v5 v6
    simp (disch := omega) only [X10_years_s34, X11_years_s39, X11_years_k72, i_ge, ed, ed', q2, q2', c1, c2, if_false, if_true, ey1, eg, eg', hg1, hg1', Option.bind_some, o_s]
    exact ⟨_, _, rfl, rfl, rfl, rfl, rfl, rfl, hg2.eq hg2'⟩
  · have c1 : (2 ≤ d) = True := eq_true d2
    have c2 : (d < 2) = False := eq_false (by omega)
    rcases Nat.eq_zero_or_pos n with h0 | h0
    · subst h0
      have z1 : (o32 0 ≤ 0) = True := eq_true (by decide)
      have z2 : (o32 0 = 0) = True := eq_true rfl
      simp (disch := omega) only [X10_years_s34, X11_years_s39, X11_years_k72, i_ge, ed, ed', q2, q2', c1, c2, if_false, if_true, ey1, z1, z2, Option.bind_some, o_s]
      exact ⟨_, _, rfl, rfl, rfl, rfl, rfl, rfl, h5⟩
    · have z1 : (o32 n ≤ 0) = False := by
        show (o32 n ≤ o32 0) = False
        rw [o_le (by omega) (by decide)]; exact eq_false (by omega)
      have z2 : (o32 n = 0) = False := by rw [o0 (by omega)]; exact eq_false (by omega)
      obtain ⟨q, r2, hq, eq1, eq1'⟩ := L_draw r1 h0 (show n < 1000 by omega)
      by_cases d3 : d = 2
      · have c3 : (d = 2) = True := eq_true d3
        have c4 : (d = 3) = False := eq_false (by omega)
        obtain ⟨v, r3, hv', eq2, eq2'⟩ := L_draw r2 h0 (show n < 1000 by omega)
        have qe : (o32 q = o32 v) = (q = v) := o_eq (by omega) (by omega)
        rcases L_turn h5 (o32 q) (o32 v) with ⟨a1, a2⟩ | ⟨p, q', xx, hp1, hq1, hne, ep, eqq, hx, -, ex1, ex2, a1, a2, hR⟩
        · have hqv : q = v := by
            rw [L_two2 hn hq hv'] at a2
            by_cases e : q = v
            · exact e
            · simp [e, bi] at a2
          have c5 : (q = v) = True := eq_true hqv
          simp (disch := omega) only [X10_years_s34, X11_years_s39, X11_years_k72, i_ge, ed, ed', q2, q2', c1, c2, if_false, if_true, ey1, z1, z2, eq1, eq1', e2, e3, c3, c4, eq2, eq2', qe, c5, a1, Option.bind_some, o_s]
          exact ⟨_, _, rfl, rfl, rfl, rfl, rfl, rfl, h5⟩
        · have ep' : q = p := by rw [o_eq (by omega) (by omega)] at ep; exact ep
          have eq' : v = q' := by rw [o_eq (by omega) (by omega)] at eqq; exact eqq
          subst ep' eq'
          have c5 : (q = v) = False := eq_false hne
          simp (disch := omega) only [X10_years_s34, X11_years_s39, X11_years_k72, i_ge, ed, ed', q2, q2', c1, c2, if_false, if_true, ey1, z1, z2, eq1, eq1', e2, e3, c3, c4, eq2, eq2', qe, c5, a1, Option.bind_some, o_s, o_la, gi_o, o_cl, ex2]
          exact ⟨_, _, rfl, rfl, rfl, rfl, rfl, rfl, hR⟩
      · have c3 : (d = 2) = False := eq_false d3
        have c4 : (d = 3) = True := eq_true (by omega)
        obtain ⟨v, r3, hv', eq2, eq2'⟩ := L_draw r2 (m := 10) (by decide) (by decide)
        rw [← f10] at eq2 eq2'
        have hb : X0_has (o32 n) (o32 q) = 1 := L_hasn hq hn
        have nv : (o32 v < 0) = False := eq_false (o_nn v (by omega))
        have v9 : (o32 v ≤ (9 : Int32)) = True := by
          show (o32 v ≤ o32 9) = True
          rw [o_le (by omega) (by decide)]; exact eq_true (by omega)
        have a1 : ∃ rr, X0_becomesSkilled (o32 n) u3 (o32 q) (o32 v) = some (rr, upd u3 q (o32 v)) := by
          simp (disch := omega) only [X0_becomesSkilled, hb, pu_10, nv, v9, if_false, if_true, gi_o, o_cl]
          exact ⟨_, rfl⟩
        obtain ⟨rr, a1⟩ := a1
        have n2 : (2 : Int32) ≤ o32 d := by rw [q2]; exact d2
        have nl2 : ¬ o32 d < (2 : Int32) := by rw [q2']; omega
        have ne2 : ¬ o32 d = (2 : Int32) := by rw [e2]; exact d3
        have ye3 : o32 d = (3 : Int32) := by rw [e3]; omega
        have nz1 : ¬ o32 n ≤ 0 := by rw [z1]; exact id
        have nz2 : ¬ o32 n = 0 := by rw [z2]; exact id
        have eC : X10_years_s34 size code (o32 m) y acc (o32 k) r u1 u2 u3 u4 u5 u6 u7 u8 u9 = some (.inl (acc, o32 (k + 1), r3, u1, u2, upd u3 q (o32 v), u4, u5, u6, u7, u8, u9)) := by
          unfold X10_years_s34
          rw [i_ge hk (by omega), ed, Option.bind_some]
          dsimp only
          rw [if_pos n2, ey1, if_neg nz1, eq1, Option.bind_some]
          dsimp only
          rw [if_neg ne2, eq2, Option.bind_some]
          dsimp only
          rw [a1, Option.bind_some, o_s]
        have eM : X11_years_s39 (o32 n) ruleSize rule (o32 m) acc (o32 k) v1 v2 v3 v4 v5 r v6 x = some (.inl (acc, o32 (k + 1), v1, v2, v3, v4, v5, r3, v6, upd x q (o32 v))) := by
          unfold X11_years_s39 X11_years_k72
          rw [i_ge hk (by omega), ed', Option.bind_some]
          dsimp only
          rw [if_pos n2, if_neg nl2, if_neg nz2, eq1', Option.bind_some]
          dsimp only
          rw [if_neg ne2, eq2', Option.bind_some]
          dsimp only
          rw [if_pos ye3, gi_o (by omega) (by omega), o_cl (by omega), o_s]
        exact ⟨_, _, eC, eM, rfl, rfl, rfl, rfl, h5.s_ski (by omega) (fun _ => ⟨v, hv', rfl⟩)⟩
theorem M_years (h : RF n day unmet skill pills slept woken wanted now) (hv : RV vs size code) (hm : RM vs ruleSize rule) (hc : VC vs) (ht : TO tsz rm tnum row) (dr dr' t0 t6 t7 : Int32) (t1 t2 t3 t4 t5 stack thing : Nat → Int32) (len top at' wrong isAsked : Int32) (asked thn : Nat → Int32) (p1 p2 : Int32) : ∃ y y', X10_years dr tsz tnum (o32 n) day unmet skill pills slept woken wanted t0 t6 t7 t1 t2 t3 t4 t5 size code stack thing p1 p2 = some y ∧ X11_years (o32 n) rm len top at' wrong ruleSize isAsked dr' now row rule asked thn p1 p2 = some y' ∧ y.1 = y'.1 ∧ TO y.2.2.1 y'.2.1 y.2.2.2.1 y'.2.2.2.2.2.2.2.2.2.1 := by
  have hn := h.nn
  rcases pu_in p2 (lo := 1) (hi := 60) (by decide) (by decide) with ⟨i1, i2⟩ | ⟨i1, i2, i3⟩ | ⟨m, m1, m2, rfl, i1, i2, i3⟩
  · have i1 : p2 < 1 := i1
    have i2 : X11_in p2 1 60 = 0 := i2
    simp only [X10_years, X11_years, i1, i2, if_true]
    exact ⟨_, _, rfl, rfl, rfl, ht⟩
  · have i1 : ¬ p2 < 1 := i1
    have i2 : ¬ p2 ≤ 60 := i2
    have i3 : X11_in p2 1 60 = 0 := i3
    simp only [X10_years, X11_years, i1, i2, i3, if_true, if_false]
    exact ⟨_, _, rfl, rfl, rfl, ht⟩
  · have i1 : ¬ o32 m < 1 := i1
    have i2 : o32 m ≤ 60 := i2
    have i3 : X11_in (o32 m) 1 60 = 1 := i3
    obtain ⟨y, ey, ey1, hy⟩ := L_trial h t1 t2 t3 t4 t5
    obtain ⟨w, ew, hw⟩ := L_then (n := n) (EQ.rf (a := now)) thn
    obtain ⟨z, z', ez, ez', hz1, hz2⟩ := lp_ct2 (f := fun x34 : Int32 × Int32 × Int32 × Int32 × Int32 × (Nat → Int32) × (Nat → Int32) × (Nat → Int32) × (Nat → Int32) × (Nat → Int32) × (Nat → Int32) × (Nat → Int32) => X10_years_s34 size code (o32 m) y x34.1 x34.2.1 x34.2.2.1 x34.2.2.2.1 x34.2.2.2.2.1 x34.2.2.2.2.2.1 x34.2.2.2.2.2.2.1 x34.2.2.2.2.2.2.2.1 x34.2.2.2.2.2.2.2.2.1 x34.2.2.2.2.2.2.2.2.2.1 x34.2.2.2.2.2.2.2.2.2.2.1 x34.2.2.2.2.2.2.2.2.2.2.2) (f' := fun x39 : Int32 × Int32 × Int32 × Int32 × Int32 × Int32 × Int32 × Int32 × (Nat → Int32) × (Nat → Int32) => X11_years_s39 (o32 n) ruleSize rule (o32 m) x39.1 x39.2.1 x39.2.2.1 x39.2.2.2.1 x39.2.2.2.2.1 x39.2.2.2.2.2.1 x39.2.2.2.2.2.2.1 x39.2.2.2.2.2.2.2.1 x39.2.2.2.2.2.2.2.2.1 x39.2.2.2.2.2.2.2.2.2)
      (fun k x x' => x.1 = x'.1 ∧ x.2.1 = o32 k ∧ x'.2.1 = o32 k ∧ x.2.2.1 = x'.2.2.2.2.2.2.2.1 ∧ RF n x.2.2.2.1 x.2.2.2.2.1 x.2.2.2.2.2.1 x.2.2.2.2.2.2.1 x.2.2.2.2.2.2.2.1 x.2.2.2.2.2.2.2.2.1 x.2.2.2.2.2.2.2.2.2.1 x'.2.2.2.2.2.2.2.2.2)
      (fun z z' => z.1 = z'.1 ∧ RF n z.2.2.1 z.2.2.2.1 z.2.2.2.2.1 z.2.2.2.2.2.1 z.2.2.2.2.2.2.1 z.2.2.2.2.2.2.2.1 z.2.2.2.2.2.2.2.2.1 z'.2.2.2.2.2.2.2.2) m
      ((0 : Int32), (0 : Int32), p1, y.2.1, y.2.2.1, y.2.2.2.1, y.2.2.2.2.1, y.2.2.2.2.2.1, y.2.2.2.2.2.2.1, y.2.2.2.2.2.2.2, stack, thing) ((0 : Int32), (0 : Int32), len, top, at', wrong, isAsked, p1, asked, w) ⟨rfl, rfl, rfl, rfl, hy.eq hw⟩ (by
        rintro k ⟨acc, i, r, u1, u2, u3, u4, u5, u6, u7, u8, u9⟩ ⟨acc', i', v1, v2, v3, v4, v5, r', v6, x⟩ hk ⟨h1, h2, h3, h4, h5⟩
        have h1 : acc = acc' := h1
        have h2 : i = _ := h2
        have h3 : i' = _ := h3
        have h4 : r = r' := h4
        subst h1 h2 h3 h4
        have h5 : RF n u1 u2 u3 u4 u5 u6 u7 x := h5
        exact L_ystep hn ey1 hv hm hc hk (by omega) acc r u1 u2 u3 u4 u5 u6 u7 u8 u9 v1 v2 v3 v4 v5 v6 x h5) (by
        rintro ⟨acc, i, r, u1, u2, u3, u4, u5, u6, u7, u8, u9⟩ ⟨acc', i', v1, v2, v3, v4, v5, r', v6, x⟩ ⟨h1, h2, h3, h4, h5⟩
        have h2 : i = _ := h2
        have h3 : i' = _ := h3
        subst h2 h3
        refine ⟨(acc, r, u1, u2, u3, u4, u5, u6, u7, u8, u9), (acc', v1, v2, v3, v4, v5, r', v6, x), ?_, ?_, h1, h5⟩
        · simp (disch := omega) only [X10_years_s34, i_le]
        · simp (disch := omega) only [X11_years_s39, i_le]) (by omega)
    obtain ⟨acc, r, u1, u2, u3, u4, u5, u6, u7, u8, u9⟩ := z
    obtain ⟨acc', v1, v2, v3, v4, v5, r', v6, x⟩ := z'
    have hz1 : acc = acc' := hz1
    subst hz1
    have hz2 : RF n u1 u2 u3 u4 u5 u6 u7 x := hz2
    obtain ⟨g, eg, hg⟩ := L_wakers hz2 hv hc u8 u9
    obtain ⟨g', eg', hg'⟩ := L_awake hz2.ri (EQ.rf (a := x)) hm hc v1 v2 v3 v4 v5 v6
    obtain ⟨t, t', t'', et, et', et'', ht'⟩ := TO.both tnum row ((u2 - unmet).toInt64) ((o32 (AW vs n x)).toInt64)
    have eu : x 36 = u2 := hz2.unm
    have eu2 : now 36 = unmet := h.unm
    simp only [X10_years, X11_years, i1, i2, i3, pu_10, if_true, if_false, ey, ew, ez, ez', un, ey1, Option.bind_some, gl36, tl36, eu, eu2, eg, eg', hg, hg', et, et', et'']
    exact ⟨_, _, rfl, rfl, rfl, ht'⟩
end YE
