/-! ===== the pure level: worth, spares ===== -/
theorem FO.ye {k : Nat} {f f' o o' v : Int32} (h : FO k f f' o o') (hk : k < 100) (hv : ¬ v = -2) : FO (k + 1) (if o = 0 then v else f) (if f' = -2 then v else f') (o + 1) (o' + 1) := by
  obtain ⟨rfl, rfl, c, h3, rfl, h4⟩ := h
  refine ⟨?_, rfl, c + 1, by omega, o_s c, ?_⟩
  · simp (disch := omega) only [o0]
    rcases h4 with ⟨h5, h6⟩ | ⟨h5, h6⟩
    · rw [if_pos h5, if_pos h6]
    · rw [if_neg h5, if_neg h6]
  · right
    refine ⟨by omega, ?_⟩
    split
    · exact hv
    · rename_i h7
      rcases h4 with ⟨h5, h6⟩ | ⟨h5, h6⟩
      · exact absurd (by rw [h5]; rfl) h7
      · exact h6
theorem o_ne2 {k : Nat} (h : k < 1000) : ¬ o32 k = -2 := by
  intro e
  have h5 := congrArg Int32.toInt e
  rw [o_toInt (by omega), show (-2 : Int32).toInt = -2 by decide] at h5
  omega
section MW
variable {vs : (Nat → Int32) → Int32} {n : Nat} {day unmet : Int32} {skill pills slept woken wanted now : Nat → Int32} {size : Int32} {code : Nat → Int32} {ruleSize : Int32} {rule : Nat → Int32} {tsz rm : Int32} {tnum row : Nat → Int64}
theorem M_worth (h : RF n day unmet skill pills slept woken wanted now) (hv : RV vs size code) (hm : RM vs ruleSize rule) (hc : VC vs) (ht : TO tsz rm tnum row) (t0 t6 t7 : Int32) (t1 t2 t3 t4 t5 stack thing : Nat → Int32) (len top at' wrong isAsked : Int32) (asked thn : Nat → Int32) (p1 : Int32) : ∃ y y', X10_worth tsz tnum (o32 n) day unmet skill pills slept woken wanted t0 t6 t7 t1 t2 t3 t4 t5 size code stack thing p1 = some y ∧ X11_worth (o32 n) rm len top at' wrong ruleSize isAsked now row rule asked thn p1 = some y' ∧ y.1 = y'.1 ∧ TO y.2.1 y'.2.1 y.2.2.1 y'.2.2.2.2.2.2.2.2.1 := by
  have hn := h.nn
  rcases L_one hn p1 with ⟨q, hq, rfl, ho, ho'⟩ | ⟨ho, ho'⟩
  · obtain ⟨y, ey, ey1, hy⟩ := L_trial h t1 t2 t3 t4 t5
    obtain ⟨w, ew, hw⟩ := L_then (n := n) (EQ.rf (a := now)) thn
    obtain ⟨z, z', ez, ez', hz1⟩ := lp_ct2 (f := fun x32 : Int32 × Int32 × Int32 × (Nat → Int32) × (Nat → Int32) × (Nat → Int32) => X10_worth_s32 size code (o32 q) y x32.1 x32.2.1 x32.2.2.1 x32.2.2.2.1 x32.2.2.2.2.1 x32.2.2.2.2.2) (f' := fun x35 : Int32 × Int32 × Int32 × Int32 × Int32 × Int32 × Int32 × Int32 × (Nat → Int32) × (Nat → Int32) => X11_worth_s35 (o32 n) ruleSize rule (o32 q) x35.1 x35.2.1 x35.2.2.1 x35.2.2.2.1 x35.2.2.2.2.1 x35.2.2.2.2.2.1 x35.2.2.2.2.2.2.1 x35.2.2.2.2.2.2.2.1 x35.2.2.2.2.2.2.2.2.1 x35.2.2.2.2.2.2.2.2.2)
      (fun k x x' => FO k x.1 x'.1 x.2.1 x'.2.1 ∧ x.2.2.1 = o32 k ∧ x'.2.2.1 = o32 k ∧ RF n y.2.1 y.2.2.1 x.2.2.2.1 y.2.2.2.2.1 y.2.2.2.2.2.1 y.2.2.2.2.2.2.1 y.2.2.2.2.2.2.2 x'.2.2.2.2.2.2.2.2.2)
      (fun z z' => FO 10 z.1 z'.1 z.2.1 z'.2.1) 10
      ((-2 : Int32), (0 : Int32), (0 : Int32), y.2.2.2.1, stack, thing) ((-2 : Int32), (0 : Int32), (0 : Int32), len, top, at', wrong, isAsked, asked, w) ⟨FO.z, rfl, rfl, hy.eq hw⟩ (by
        rintro k ⟨f, o, i, u1, u2, u3⟩ ⟨f', o', i', v1, v2, v3, v4, v5, v6, x⟩ hk ⟨h1, h2, h3, h4⟩
        have h2 : i = _ := h2
        have h3 : i' = _ := h3
        subst h2 h3
        have h1 : FO k f f' o o' := h1
        have h4 : RF n y.2.1 y.2.2.1 u1 y.2.2.2.2.1 y.2.2.2.2.2.1 y.2.2.2.2.2.2.1 y.2.2.2.2.2.2.2 x := h4
        have h5 := h4.s_ski (k := q) (v := o32 k) (by omega) (fun _ => ⟨k, by omega, rfl⟩)
        have hW : WB n (upd x q (o32 k)) q < 128 := bm_128 hn
        obtain ⟨g, eg, hg⟩ := L_rouses h5 hv hc u2 u3 hq hW
        obtain ⟨g', eg', hg'⟩ := L_isAwake h5.ri EQ.rf hm hc v1 v2 v3 v4 v5 v6 hq
        have ew' := L_wby h5 (q := q) (by omega)
        have e9 : (9 : Int32) = o32 9 := rfl
        have eI : bi (decide (upd x q (o32 k) (7 + q) = 0) && decide (¬ NB vs n (upd x q (o32 k)) q (WB n (upd x q (o32 k)) q) = 0)) = bi (IA vs n (upd x q (o32 k)) q) := rfl
        rw [eI] at hg
        simp (disch := omega) only [X10_worth_s32, X11_worth_s35, e9, i_lt, gi_o, o_cl, ey1, ew', eg, eg', hg, hg', Option.bind_some, o_s, bi_if]
        refine ⟨_, _, rfl, rfl, ?_, rfl, rfl, h5⟩
        cases IA vs n (upd x q (o32 k)) q
        · exact h1.st
        · exact h1.ye (by omega) (o_ne2 (by omega))) (by
        rintro ⟨f, o, i, u1, u2, u3⟩ ⟨f', o', i', v1, v2, v3, v4, v5, v6, x⟩ ⟨h1, h2, h3, h4⟩
        have h2 : i = _ := h2
        have h3 : i' = _ := h3
        subst h2 h3
        exact ⟨(f, o, u1, u2, u3), (f', o', v1, v2, v3, v4, v5, v6, x), rfl, rfl, h1⟩) (by omega)
    obtain ⟨z0, z1, z2, z3, z4⟩ := z
    obtain ⟨z0', z1', z2', z3', z4', z5', z6', z7', z8'⟩ := z'
    obtain ⟨e1, e2, c, c1, c2, c3⟩ := hz1
    have e1 : z0 = z0' := e1
    have e2 : z1 = z1' := e2
    have c2 : z1 = _ := c2
    have c3 : (c = 0 ∧ z0 = -2) ∨ (¬ c = 0 ∧ ¬ z0 = -2) := c3
    subst e1 e2 c2
    obtain ⟨t, t', et, et', ht'⟩ := TO.one tnum row ((o32 c).toInt64)
    have hb : ¬ X0_has (o32 n) (o32 q) = 0 := by rw [ho]; decide
    simp (disch := omega) only [X10_worth, X11_worth, ho', pu_10, Option.bind_some, if_false, hb, ey, ew, ez, ez', un, ey1]
    rcases c3 with ⟨c4, c5⟩ | ⟨c4, c5⟩
    · subst c4 c5
      simp only [if_pos (show o32 0 ≤ 0 by decide), if_true, Option.bind_some]
      exact ⟨_, _, rfl, rfl, rfl, ht⟩
    · have c6 : ¬ o32 c ≤ 0 := by
        show ¬ o32 c ≤ o32 0
        rw [o_le (by omega) (by decide)]; omega
      simp only [c5, c6, if_false, et, et', Option.bind_some]
      exact ⟨_, _, rfl, rfl, rfl, ht'⟩
  · simp only [X10_worth, X11_worth, ho, ho', Option.bind_some, if_true]
    exact ⟨_, _, rfl, rfl, rfl, ht⟩
/-- how many are left unserved when one has left -/
def SPq (vs : (Nat → Int32) → Int32) (n : Nat) (a : Nat → Int32) (q : Nat) : Nat := UM n (GA n a q) (AW vs n (GA n a q))
theorem M_spares (h : RF n day unmet skill pills slept woken wanted now) (hv : RV vs size code) (hm : RM vs ruleSize rule) (hc : VC vs) (ht : TO tsz rm tnum row) (t0 t6 t7 : Int32) (t1 t2 t3 t4 t5 stack thing : Nat → Int32) (len top at' wrong isAsked : Int32) (asked thn : Nat → Int32) : ∃ y y', X10_spares tsz tnum (o32 n) day unmet skill pills slept woken wanted t0 t6 t7 t1 t2 t3 t4 t5 size code stack thing = some y ∧ X11_spares (o32 n) rm len top at' wrong ruleSize isAsked now row rule asked thn = some y' ∧ y.1 = y'.1 ∧ TO y.2.1 y'.2.1 y.2.2.1 y'.2.2.2.2.2.2.2.2.1 := by
  have hn := h.nn
  have hSPq : ∀ q, SPq vs n now q ≤ 7 := fun q => Nat.le_trans (cn_le _ n) hn
  obtain ⟨z, ez, hz⟩ := lp_ct (f := fun x8 : Int32 × Int32 × Int32 × Int32 × Int32 × Int32 × (Nat → Int32) × (Nat → Int32) × (Nat → Int32) × (Nat → Int32) × (Nat → Int32) × (Nat → Int32) × (Nat → Int32) => X10_spares_s8 (o32 n) day unmet skill pills slept woken wanted size code x8.1 x8.2.1 x8.2.2.1 x8.2.2.2.1 x8.2.2.2.2.1 x8.2.2.2.2.2.1 x8.2.2.2.2.2.2.1 x8.2.2.2.2.2.2.2.1 x8.2.2.2.2.2.2.2.2.1 x8.2.2.2.2.2.2.2.2.2.1 x8.2.2.2.2.2.2.2.2.2.2.1 x8.2.2.2.2.2.2.2.2.2.2.2.1 x8.2.2.2.2.2.2.2.2.2.2.2.2)
    (fun k x => ((k = 0 ∧ x.1 = -2 ∧ x.2.1 = 8) ∨ (0 < k ∧ x.1 = o32 (BB 8 (fun _ => true) (SPq vs n now) k).1 ∧ x.2.1 = o32 (BB 8 (fun _ => true) (SPq vs n now) k).2)) ∧ x.2.2.1 = o32 k)
    (fun z => (n = 0 ∧ z.1 = -2) ∨ (0 < n ∧ z.1 = o32 (BB 8 (fun _ => true) (SPq vs n now) n).1 ∧ z.2.1 = o32 (BB 8 (fun _ => true) (SPq vs n now) n).2)) n
    ((-2 : Int32), (8 : Int32), (0 : Int32), t0, t6, t7, t1, t2, t3, t4, t5, stack, thing) ⟨Or.inl ⟨rfl, rfl, rfl⟩, rfl⟩ (by
      rintro k ⟨b, l, i, u0, u1, u2, u3, u4, u5, u6, u7, u8, u9⟩ hk ⟨h1, h2⟩
      have h2 : i = _ := h2
      subst h2
      obtain ⟨y, ey, ey1, hy⟩ := L_trial h u3 u4 u5 u6 u7
      obtain ⟨w', er, hR⟩ := L_rid hy hk
      obtain ⟨g, eg, hg⟩ := L_wakers hR hv hc u8 u9
      have eu := L_unserved hR (up := AW vs n (GA n now k))
      simp (disch := omega) only [X10_spares_s8, i_ge, ey, ey1, er, eg, hg, eu, Option.bind_some, o_s]
      have hS := hSPq k
      have hb2 := BB_le (b0 := 8) (ok := fun _ => true) (lf := SPq vs n now) k
      refine ⟨_, rfl, Or.inr ⟨by omega, ?_, ?_⟩, rfl⟩
      · show (if l ≤ o32 (SPq vs n now k) then b else o32 k) = _
        rcases h1 with ⟨rfl, h3, h4⟩ | ⟨h3, h4, h5⟩
        · have h4 : l = o32 8 := h4
          rw [h4, i_ge (by omega) (by decide), BB_1 rfl (by omega)]
        · have h4 : b = _ := h4
          have h5 : l = _ := h5
          rw [h4, h5, BB_y rfl]
          rcases Nat.lt_or_ge (SPq vs n now k) (BB 8 (fun _ => true) (SPq vs n now) k).2 with hlt | hlt
          · rw [i_ge hlt (by omega), if_pos hlt]
          · rw [i_le hlt (by omega), if_neg (by omega)]
      · show (if l ≤ o32 (SPq vs n now k) then l else o32 (SPq vs n now k)) = _
        rcases h1 with ⟨rfl, h3, h4⟩ | ⟨h3, h4, h5⟩
        · have h4 : l = o32 8 := h4
          rw [h4, i_ge (by omega) (by decide), BB_1 rfl (by omega)]
        · have h5 : l = _ := h5
          rw [h5, BB_y rfl]
          rcases Nat.lt_or_ge (SPq vs n now k) (BB 8 (fun _ => true) (SPq vs n now) k).2 with hlt | hlt
          · rw [i_ge hlt (by omega), if_pos hlt]
          · rw [i_le hlt (by omega), if_neg (by omega)]) (by
      rintro ⟨b, l, i, u0, u1, u2, u3, u4, u5, u6, u7, u8, u9⟩ ⟨h1, h2⟩
      have h2 : i = _ := h2
      subst h2
      refine ⟨(b, l, u0, u1, u2, u3, u4, u5, u6, u7, u8, u9), ?_, ?_⟩
      · simp (disch := omega) only [X10_spares_s8, i_le]
      · rcases h1 with ⟨h3, h4, h5⟩ | h3
        · exact Or.inl ⟨h3, h4⟩
        · exact Or.inr h3) (by omega)
  obtain ⟨b, l, u0, u1, u2, u3, u4, u5, u6, u7, u8, u9⟩ := z
  rcases hz with ⟨h0, hb⟩ | ⟨h0, hb, hl⟩
  · subst h0
    have hb : b = -2 := hb
    subst hb
    have e0 : (o32 0 = 0) = True := eq_true rfl
    simp only [X10_spares, X11_spares, ez, Option.bind_some, un, e0, if_true, if_pos (show (-2 : Int32) < 0 by decide)]
    exact ⟨_, _, rfl, rfl, rfl, ht⟩
  · have hb : b = _ := hb
    have hl : l = _ := hl
    subst hb hl
    have e0 : (o32 n = 0) = False := by rw [o0 (by omega)]; exact eq_false (by omega)
    obtain ⟨z', ez', hz'⟩ := lp_ct (f := fun x23 : Int32 × Int32 × Int32 × Int32 × Int32 × Int32 × Int32 × Int32 × (Nat → Int32) × (Nat → Int32) => X11_spares_s23 (o32 n) ruleSize now rule x23.1 x23.2.1 x23.2.2.1 x23.2.2.2.1 x23.2.2.2.2.1 x23.2.2.2.2.2.1 x23.2.2.2.2.2.2.1 x23.2.2.2.2.2.2.2.1 x23.2.2.2.2.2.2.2.2.1 x23.2.2.2.2.2.2.2.2.2)
      (fun k x => BR 8 (fun _ => true) (SPq vs n now) k x.1 x.2.1 ∧ x.2.2.1 = o32 k)
      (fun z => z.1 = o32 (BB 8 (fun _ => true) (SPq vs n now) n).1 ∧ z.2.1 = o32 (BB 8 (fun _ => true) (SPq vs n now) n).2) n
      ((-1 : Int32), (1000000 : Int32), (0 : Int32), len, top, at', wrong, isAsked, asked, thn) ⟨Or.inl ⟨rfl, rfl, rfl⟩, rfl⟩ (by
        rintro k ⟨b, l, i, v1, v2, v3, v4, v5, v6, x⟩ hk ⟨h1, h2⟩
        have h2 : i = _ := h2
        subst h2
        have h1 : BR 8 (fun _ => true) (SPq vs n now) k b l := h1
        obtain ⟨w, ew, hw⟩ := L_then (n := n) (EQ.rf (a := now)) x
        obtain ⟨r, er, hr⟩ := L_away h.ri hw hk
        obtain ⟨g, eg, hg⟩ := L_awake (GA_ri h.ri hk) hr hm hc v1 v2 v3 v4 v5 v6
        have eu := L_unmet (GA_ri h.ri hk) hr (AW vs n (GA n now k))
        have hS := hSPq k
        simp (disch := omega) only [X11_spares_s23, i_ge, ew, er, eg, hg, eu, Option.bind_some, o_s]
        exact ⟨_, rfl, BR_y h1 rfl (show SPq vs n now k < 8 by omega) (by decide), rfl⟩) (by
        rintro ⟨b, l, i, v1, v2, v3, v4, v5, v6, x⟩ ⟨h1, h2⟩
        have h2 : i = _ := h2
        subst h2
        refine ⟨(b, l, v1, v2, v3, v4, v5, v6, x), ?_, ?_⟩
        · simp (disch := omega) only [X11_spares_s23, i_le]
        · rcases h1 with ⟨h3, -, -⟩ | ⟨-, h3, h4⟩
          · omega
          · exact ⟨h3, h4⟩) (by omega)
    obtain ⟨b', l', v1, v2, v3, v4, v5, v6, x⟩ := z'
    obtain ⟨hb', hl'⟩ := hz'
    have hb' : b' = _ := hb'
    have hl' : l' = _ := hl'
    subst hb' hl'
    have hb2 := BB_le (b0 := 8) (ok := fun _ => true) (lf := SPq vs n now) n
    have nn : (o32 (BB 8 (fun _ => true) (SPq vs n now) n).1 < 0) = False := eq_false (o_nn _ (by omega))
    obtain ⟨g, eg, hg⟩ := L_wakers h hv hc u8 u9
    obtain ⟨g', eg', hg'⟩ := L_awake h.ri (EQ.rf (a := now)) hm hc v1 v2 v3 v4 v5 v6
    obtain ⟨t, t', t'', et, et', et'', ht'⟩ := TO.both tnum row ((o32 (BB 8 (fun _ => true) (SPq vs n now) n).2).toInt64) ((o32 (UM n now (AW vs n now))).toInt64)
    simp only [X10_spares, X11_spares, ez, ez', Option.bind_some, un, e0, nn, if_false, eg, eg', hg, hg', L_unserved h, L_unmet h.ri EQ.rf, et, et', et'']
    exact ⟨_, _, rfl, rfl, rfl, ht'⟩
end MW
