/-! ===== the pure level: wants ===== -/
section WMS
variable {K n : Nat} {day unmet : Int32} {skill pills slept woken wanted now signs text : Nat → Int32} {size typed : Int32} {came : Int32} {valid kN kD kU : Nat → Int32} {kK kP kL kW kT : Nat → Nat → Int32} {kept isKept keptCame : Nat → Int32} {next psz um : Int32} {sN sD sU : Nat → Int32} {sK sP sL sW sT : Nat → Nat → Int32} {undos : Nat → Int32}
theorem L_wcp (hn : n ≤ 7) (comes : Nat → Int32) : ∃ z, lp (fun x22 : Int32 × (Nat → Int32) => X11_wants_s22 (o32 n) now x22.1 x22.2) 1000 ((0 : Int32), comes) = some z ∧ ∀ k, k < n → z k = now (28 + k) := by
  refine lp_ct (fun k x => x.1 = o32 k ∧ ∀ j, j < k → x.2 j = now (28 + j)) _ n _ ⟨rfl, fun j hj => absurd hj (Nat.not_lt_zero j)⟩ ?_ ?_ (by omega)
  · rintro k ⟨i, x⟩ hk ⟨h1, h2⟩
    have h1 : i = _ := h1
    subst h1
    refine ⟨(o32 (k + 1), upd x k (now (28 + k))), ?_, rfl, fun j hj => ?_⟩
    · simp (disch := omega) only [X11_wants_s22, i_ge, o_la, gi_o, o_cl, o_s]
    · show upd x k _ j = _
      by_cases e : j = k
      · subst e; exact pk_us
      · rw [pk_un e]; exact h2 j (by omega)
  · rintro ⟨i, x⟩ ⟨h1, h2⟩
    have h1 : i = _ := h1
    subst h1
    refine ⟨x, ?_, h2⟩
    simp (disch := omega) only [X11_wants_s22, i_le]
theorem L_wba (hn : n ≤ 7) (com : Nat → Int32) : ∃ z, lp (fun x99 : Int32 × (Nat → Int32) => X11_wants_s99 (o32 n) com x99.1 x99.2) 1000 ((0 : Int32), now) = some z ∧ ∀ j, j < 37 → z j = if 28 ≤ j ∧ j < 28 + n then com (j - 28) else now j := by
  refine lp_ct (fun k x => x.1 = o32 k ∧ ∀ j, j < 37 → x.2 j = if 28 ≤ j ∧ j < 28 + k then com (j - 28) else now j) _ n _ ⟨rfl, fun j hj => by rw [if_neg (by omega)]⟩ ?_ ?_ (by omega)
  · rintro k ⟨i, x⟩ hk ⟨h1, h2⟩
    have h1 : i = _ := h1
    subst h1
    refine ⟨(o32 (k + 1), upd x (28 + k) (com k)), ?_, rfl, fun j hj => ?_⟩
    · simp (disch := omega) only [X11_wants_s99, i_ge, o_la, gi_o, o_cl, o_s]
    · show upd x (28 + k) _ j = _
      by_cases e : j = 28 + k
      · subst e
        rw [pk_us, if_pos (by omega), show 28 + k - 28 = k by omega]
      · have h2 : ∀ j, j < 37 → x j = if 28 ≤ j ∧ j < 28 + k then com (j - 28) else now j := h2
        rw [pk_un e, h2 j hj]
        by_cases e2 : 28 ≤ j ∧ j < 28 + k
        · rw [if_pos e2, if_pos (by omega)]
        · rw [if_neg e2, if_neg (by omega)]
  · rintro ⟨i, x⟩ ⟨h1, h2⟩
    have h1 : i = _ := h1
    subst h1
    refine ⟨x, ?_, h2⟩
    simp (disch := omega) only [X11_wants_s99, i_le]
theorem M_wants (h : RF n day unmet skill pills slept woken wanted now) (hx : TX size typed signs text) (hp : PA n next psz um sN sD sU sK sP sL sW sT undos) (hk : KP K n came valid kN kD kU kK kP kL kW kT kept isKept keptCame) (hK : K < 100000) (comes : Nat → Int32) : ∃ y y', X10_wants size signs (o32 n) wanted psz valid = some y ∧ X11_wants (o32 n) typed um came now text comes = some y' ∧ y.1 = y'.1 ∧ TX y.2.1 y'.2.1 signs text ∧ RF n day unmet skill pills slept woken y.2.2.1 y'.2.2.2.2.2.2.2.2.2.1 ∧ PA n next y.2.2.2.1 y'.2.2.2.2.2.2.2.1 sN sD sU sK sP sL sW sT undos ∧ KP (K + 1) n y'.2.2.2.2.2.2.2.2.1 y.2.2.2.2 kN kD kU kK kP kL kW kT kept isKept keptCame := by
  have hn := h.nn
  have hri := h.ri
  have hemp := hx.emp
  obtain ⟨t, c, rfl, rfl, hT⟩ := hx.tc
  have ht := hT.1
  have bt : X11_beginText (o32 t) 60 = ((0 : Int32), o32 t, o32 60, (0 : Int32), (-1 : Int32)) := rfl
  have ha : ∀ k, k < n → (fun k => nt (now (28 + k))) k < 2 ^ n ∧ ((fun k => nt (now (28 + k))) k).testBit k = false := fun k hk => ⟨(hri.wt hk).1, (hri.wt hk).2.2.2⟩
  have hw0 : ∀ k, k < n → wanted k = o32 ((fun k => nt (now (28 + k))) k) := fun k hk => by
    show wanted k = o32 (nt (now (28 + k)))
    rw [← h.wan (by omega)]; exact (hri.wt hk).2.1
  by_cases t0 : t = 0
  · subst t0
    have el : lp (fun x54 : Int32 × Int32 × Int32 × (Nat → Int32) => X10_wants_s54 (o32 0) signs (o32 n) x54.1 x54.2.1 x54.2.2.1 x54.2.2.2) 1000 ((0 : Int32), (-1 : Int32), (0 : Int32), wanted) = some ((0 : Int32), wanted) := lp_e 999 (by
      show X10_wants_s54 (o32 0) signs (o32 n) 0 (-1) 0 wanted = _
      unfold X10_wants_s54
      rw [if_pos (by decide)])
    refine ⟨((0 : Int32), X9_empties, wanted, psz, valid), ((0 : Int32), (0 : Int32), (0 : Int32), o32 0, o32 60, (0 : Int32), (-1 : Int32), um, came, now, comes), ?_, ?_, rfl, hemp, h, hp, hk.mo (by omega)⟩
    · unfold X10_wants X10_wants_k30 X10_wants_k147
      rw [if_pos (by rfl), if_pos (by decide), el, Option.bind_some]
      dsimp only [un]
      rw [if_pos (by decide)]
    · unfold X11_wants
      rw [bt]
      dsimp only
      rw [if_pos (by rfl)]
  · have hz : ¬ o32 t = 0 := by
      show ¬ o32 t = o32 0
      rw [o_eq (by omega) (by decide)]; exact t0
    obtain ⟨f, hf, hf2, hb, hg⟩ := TwO_f n t c (fun k => nt (now (28 + k)))
    have eF := L_wf hT hn ha hf hf2 hb hg
    obtain ⟨com, ecom, hcom⟩ := L_wcp (now := now) hn comes
    obtain ⟨z, ez, hz2⟩ := L_wout hT hn ha hf hf2 hb hg com (fun k hk => by rw [hcom k hk]; exact (hri.wt hk).2.1)
    obtain ⟨z0, z1, z2, z3⟩ := z
    by_cases good : WRi t f c (fun k => nt (now (28 + k)))
    · have ⟨g1, g2, g3⟩ := good
      subst g1
      rw [if_pos ⟨rfl, g2, g3⟩] at eF
      rcases hz2 with ⟨-, q1, q2, q3, q4⟩ | ⟨q1, -⟩
      · have q1 : z0 = _ := q1
        have q2 : z1 = _ := q2
        have q3 : z2 = _ := q3
        subst q1 q2 q3
        have q5 : ∀ k, k < n → z3 k = o32 ((TwS c (fun k => nt (now (28 + k))) f).2.2.2 k) := q4
        have hwr : X11_wasRight (o32 f) (o32 f) (-1) = some (1, -1) := by
          rw [L_wr1 (by omega) (by omega), if_pos (Nat.le_refl f)]
        obtain ⟨w, ew, w1, w2⟩ := L_wdo hT hn ha hg wanted hw0
        obtain ⟨b, eb, hb2⟩ := L_wba (now := now) hn z3
        obtain ⟨v0, v1⟩ := w
        have w1 : v0 = _ := w1
        subst w1
        have w2 : ∀ k, k < 7 → v1 k = if k < n then o32 ((TwS c (fun k => nt (now (28 + k))) f).2.2.2 k) else wanted k := w2
        obtain ⟨i1, i2, i3, i4⟩ := TwS_i hn ha f hg
        have hcnt : 0 < (TwS c (fun k => nt (now (28 + k))) f).2.2.1 := by
          -- the first sign is a digit
          have h0 : ∀ i, i < f → 0 < (TwS c (fun k => nt (now (28 + k))) (i + 1)).2.2.1 := by
            intro i
            induction i with
            | zero =>
              intro _
              rw [TwS_d (c := c) (a := fun k => nt (now (28 + k))) (i := 0) rfl]
              exact Nat.succ_pos _
            | succ i ih =>
              intro hi
              have ih := ih (by omega)
              obtain ⟨-, -, hor⟩ := hg (i + 1) hi
              rcases hor with ⟨g0, -⟩ | ⟨g0, g1, g2⟩ | ⟨g0, g1, g2, g3⟩
              · rw [TwS_d g0]; exact Nat.succ_pos _
              · rw [TwS_s g0 ⟨g1, g2⟩]; exact ih
              · rw [TwS_l g0 (by omega)]; exact ih
          have := h0 (f - 1) (by omega)
          rw [show f - 1 + 1 = f by omega] at this
          exact this
        obtain ⟨fz, efz, hfz, hkp⟩ := L_forgets (n' := n) hk hK
        refine ⟨(o32 (TwS c (fun k => nt (now (28 + k))) f).2.2.1, X9_empties, v1, fz.1, fz.2), (o32 (TwS c (fun k => nt (now (28 + k))) f).2.2.1, (0 : Int32), (0 : Int32), o32 f, o32 60, o32 f, (-1 : Int32), (X11_told came).1, (X11_told came).2, b, z3), ?_, ?_, rfl, hemp, ?_, ?_, hkp⟩
        · unfold X10_wants X10_wants_k30 X10_wants_k147
          rw [if_neg hz, eF, Option.bind_some, if_pos (by decide), ew, Option.bind_some]
          dsimp only [un]
          rw [if_neg (by
            show ¬ o32 (TwS c (fun k => nt (now (28 + k))) f).2.2.1 ≤ o32 0
            rw [o_le (by omega) (by decide)]; omega), efz, Option.bind_some]
        · unfold X11_wants
          rw [bt]
          dsimp only
          rw [if_neg hz, ecom, Option.bind_some, ez, Option.bind_some]
          dsimp only [un]
          rw [hwr, Option.bind_some]
          dsimp only
          rw [if_neg (by decide), eb, Option.bind_some]
        · show RF n day unmet skill pills slept woken v1 b
          refine ⟨hn, ?_, ?_, fun k hk => ?_, fun k hk => ?_⟩
          · rw [hb2 35 (by decide), if_neg (by omega)]; exact h.dy
          · rw [hb2 36 (by decide), if_neg (by omega)]; exact h.unm
          · refine ⟨?_, ?_, ?_, ?_, ?_⟩
            · rw [hb2 k (by omega), if_neg (by omega)]; exact h.ski hk
            · rw [hb2 (7 + k) (by omega), if_neg (by omega)]; exact h.pil hk
            · rw [hb2 (14 + k) (by omega), if_neg (by omega)]; exact h.sle hk
            · rw [hb2 (21 + k) (by omega), if_neg (by omega)]; exact h.wok hk
            · rw [hb2 (28 + k) (by omega), w2 k hk]
              by_cases e : k < n
              · rw [if_pos (by omega), if_pos e, show 28 + k - 28 = k by omega]; exact q5 k e
              · rw [if_neg (by omega), if_neg e]; exact h.wan hk
          · obtain ⟨j1, j2⟩ := i4 k hk
            refine ⟨h.bsk hk, h.bpi hk, ?_, ?_⟩
            · rw [w2 k (by omega), if_pos hk]; exact ⟨_, j1, rfl⟩
            · have h7 := p2_7 hn
              rw [w2 k (by omega), if_pos hk, bt_o (by omega) (by omega), j2]
              decide
        · show PA n next fz.1 (X11_told came).1 sN sD sU sK sP sL sW sT undos
          rw [hfz]
          exact hp.nil _
      · exact absurd good q1
    · rw [if_neg (show ¬ (f = t ∧ 0 < (TwS c (fun k => nt (now (28 + k))) f).1 ∧ 0 < (TwS c (fun k => nt (now (28 + k))) f).2.1) from good)] at eF
      have hwr : X11_wasRight (o32 t) z1 z2 = some (0, o32 f) := by
        rcases hz2 with ⟨q1, -⟩ | ⟨-, q2⟩
        · exact absurd q1 good
        · exact q2
      refine ⟨((-1 : Int32) - o32 f, X9_empties, wanted, psz, valid), ((-1 : Int32) - o32 f, (0 : Int32), (0 : Int32), o32 t, o32 60, z1, o32 f, um, came, now, z3), ?_, ?_, rfl, hemp, h, hp, hk.mo (by omega)⟩
      · unfold X10_wants X10_wants_k30
        rw [if_neg hz, eF, Option.bind_some, if_neg (o_nn f (by omega))]
      · unfold X11_wants
        rw [bt]
        dsimp only
        rw [if_neg hz, ecom, Option.bind_some, ez, Option.bind_some]
        dsimp only [un]
        rw [hwr, Option.bind_some]
        dsimp only
        rw [if_pos rfl]
end WMS
