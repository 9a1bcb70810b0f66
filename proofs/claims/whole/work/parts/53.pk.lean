/-! ===== the pure level: sums, mornings, sheet, count, keep, again ===== -/
section SK
variable {n : Nat} {day unmet : Int32} {skill pills slept woken wanted now : Nat → Int32}
theorem L_sum {f w : Nat → Int32} {B : Nat} (hn : n ≤ 7) (hB : B ≤ 28) (h : ∀ k, k < n → f k = w (B + k)) : ∃ v, X0_sum (o32 n) 7 f = some v ∧ X11_sumOf (o32 n) 37 w (o32 B) = some v := by
  obtain ⟨z, z', e, e', hz⟩ := lp_ct2 (f := fun x4 : Int32 × Int32 => X0_sum_s4 (o32 n) 7 f x4.1 x4.2) (f' := fun x5 : Int32 × Int32 => X11_sumOf_s5 (o32 n) 37 w (o32 B) x5.1 x5.2) (fun k x x' => x.1 = x'.1 ∧ x.2 = o32 k ∧ x'.2 = o32 k) (fun z z' => z = z') n ((0 : Int32), (0 : Int32)) ((0 : Int32), (0 : Int32)) ⟨rfl, rfl, rfl⟩ (by
    rintro k ⟨x, i⟩ ⟨x', i'⟩ hk ⟨h1, h2, h3⟩
    have h1 : x = x' := h1
    have h2 : i = _ := h2
    have h3 : i' = _ := h3
    subst h1 h2 h3
    have e7 : Int32.ofNat 7 = o32 7 := rfl
    simp (disch := omega) only [X0_sum_s4, X11_sumOf_s5, e7, i_ge, gi_o, o_add, o_cl, o_s]
    refine ⟨_, _, rfl, rfl, ?_, rfl, rfl⟩
    show x + f k = x + w (B + k)
    rw [h k hk]) (by
    rintro ⟨x, i⟩ ⟨x', i'⟩ ⟨h1, h2, h3⟩
    have h1 : x = x' := h1
    have h2 : i = _ := h2
    have h3 : i' = _ := h3
    subst h1 h2 h3
    simp (disch := omega) only [X0_sum_s4, X11_sumOf_s5, i_le]
    exact ⟨_, _, rfl, rfl, rfl⟩) (by omega)
  subst hz
  refine ⟨z, ?_, ?_⟩
  · unfold X0_sum; rw [e]; rfl
  · unfold X11_sumOf; rw [e']; rfl
theorem L_aw {w : Nat → Int32} (h : RI n now) (hw : EQ w now) : X11_allWants (o32 n) w = some (o32 (WA n now)) := by
  have hn := h.1
  obtain ⟨z, e, hz⟩ := lp_ct (f := fun x4 : Int32 × Int32 => X11_allWants_s4 (o32 n) w x4.1 x4.2) (fun k x => x = (o32 (su (fun k => pc (nt (now (28 + k)))) k), o32 k)) (fun z => z = o32 (WA n now)) n ((0 : Int32), (0 : Int32)) rfl (by
    rintro k x hk rfl
    have hw' := h.wt hk
    have e1 : w (28 + k) = o32 (nt (now (28 + k))) := by rw [hw _ (by omega)]; exact hw'.2.1
    refine ⟨(o32 (su (fun k => pc (nt (now (28 + k)))) (k + 1)), o32 (k + 1)), ?_, rfl⟩
    simp (disch := omega) only [X11_allWants_s4, i_ge, o_la, gi_o, o_cl, o_s, e1, bc_o hw'.2.2.1, o_add]
    rfl) (by
    rintro x rfl
    refine ⟨o32 (WA n now), ?_, rfl⟩
    simp (disch := omega) only [X11_allWants_s4, i_le]
    rfl) (by omega)
  unfold X11_allWants
  rw [e, hz]
  rfl
theorem M_count (h : RF n day unmet skill pills slept woken wanted now) (tsz ps hs ss xt : Int32) (p1 : Int32) : ∃ y y', X10_count xt tsz (o32 n) day unmet skill pills slept woken wanted ps hs ss p1 = some y ∧ X11_count (o32 n) xt tsz ps hs ss now p1 = some y' ∧ y = y'.1 := by
  have hn := h.nn
  obtain ⟨a4, b4, c4⟩ := L_sum (f := skill) (w := now) (B := 0) hn (by decide) (fun k hk => by rw [Nat.zero_add]; exact (h.ski (by omega)).symm)
  obtain ⟨a5, b5, c5⟩ := L_sum (f := pills) (w := now) (B := 7) hn (by decide) (fun k hk => (h.pil (by omega)).symm)
  obtain ⟨a6, b6, c6⟩ := L_sum (f := slept) (w := now) (B := 14) hn (by decide) (fun k hk => (h.sle (by omega)).symm)
  obtain ⟨a7, b7, c7⟩ := L_sum (f := woken) (w := now) (B := 21) hn (by decide) (fun k hk => (h.wok (by omega)).symm)
  have c4 : X11_sumOf (o32 n) 37 now 0 = some a4 := c4
  have c5 : X11_sumOf (o32 n) 37 now 7 = some a5 := c5
  have c6 : X11_sumOf (o32 n) 37 now 14 = some a6 := c6
  have c7 : X11_sumOf (o32 n) 37 now 21 = some a7 := c7
  simp only [X10_count, X11_count, b4, b5, b6, b7, c4, c5, c6, c7, L_wa h, L_aw h.ri EQ.rf, gl35, gl36, tl35, tl36, h.dy, h.unm, Option.bind_some]
  by_cases q0 : p1 = 0
  · rw [if_pos q0, if_pos q0]
    exact ⟨_, _, rfl, rfl, rfl⟩
  rw [if_neg q0, if_neg q0]
  by_cases q1 : p1 = 1
  · rw [if_pos q1, if_pos q1]
    exact ⟨_, _, rfl, rfl, rfl⟩
  rw [if_neg q1, if_neg q1]
  by_cases q2 : p1 = 2
  · rw [if_pos q2, if_pos q2]
    exact ⟨_, _, rfl, rfl, rfl⟩
  rw [if_neg q2, if_neg q2]
  by_cases q3 : p1 = 3
  · rw [if_pos q3, if_pos q3]
    exact ⟨_, _, rfl, rfl, rfl⟩
  rw [if_neg q3, if_neg q3]
  by_cases q4 : p1 = 4
  · rw [if_pos q4, if_pos q4]
    exact ⟨_, _, rfl, rfl, rfl⟩
  rw [if_neg q4, if_neg q4]
  by_cases q5 : p1 = 5
  · rw [if_pos q5, if_pos q5]
    exact ⟨_, _, rfl, rfl, rfl⟩
  rw [if_neg q5, if_neg q5]
  by_cases q6 : p1 = 6
  · rw [if_pos q6, if_pos q6]
    exact ⟨_, _, rfl, rfl, rfl⟩
  rw [if_neg q6, if_neg q6]
  by_cases q7 : p1 = 7
  · rw [if_pos q7, if_pos q7]
    exact ⟨_, _, rfl, rfl, rfl⟩
  rw [if_neg q7, if_neg q7]
  by_cases q8 : p1 = 8
  · rw [if_pos q8, if_pos q8]
    exact ⟨_, _, rfl, rfl, rfl⟩
  rw [if_neg q8, if_neg q8]
  by_cases q9 : p1 = 9
  · rw [if_pos q9, if_pos q9]
    exact ⟨_, _, rfl, rfl, rfl⟩
  rw [if_neg q9, if_neg q9]
  by_cases q10 : p1 = 10
  · rw [if_pos q10, if_pos q10]
    exact ⟨_, _, rfl, rfl, rfl⟩
  rw [if_neg q10, if_neg q10]
  by_cases q11 : p1 = 11
  · rw [if_pos q11, if_pos q11]
    exact ⟨_, _, rfl, rfl, rfl⟩
  rw [if_neg q11, if_neg q11]
  by_cases q12 : p1 = 12
  · rw [if_pos q12, if_pos q12]
    exact ⟨_, _, rfl, rfl, rfl⟩
  rw [if_neg q12, if_neg q12]
  exact ⟨_, _, rfl, rfl, rfl⟩
theorem pu_9 (x : Int32) : ∃ s, s < 10 ∧ J9_max_7cf53 0 (J9_min_7cf53 9 x) = o32 s := by
  unfold J9_max_7cf53 J9_min_7cf53
  by_cases h : x < 9
  · rw [if_pos h]
    by_cases h2 : 0 < x
    · rw [if_pos h2]
      obtain ⟨q, hq, rfl⟩ := o_of (p := x) (fun h3 => Int32.lt_asymm h2 h3)
      refine ⟨q, ?_, rfl⟩
      have h : o32 q < o32 9 := h
      rw [o_lt hq (by decide)] at h
      omega
    · rw [if_neg h2]; exact ⟨0, by decide, rfl⟩
  · rw [if_neg h]; exact ⟨9, by decide, rfl⟩
theorem L_sheet (h : RF n day unmet skill pills slept woken wanted now) {k1 k2 : Int32} {c1 : Int32} {c2 : Int32} (f1 f2 s1 s2 : Int32) (hv : ∀ i : Nat, i < n → ∀ e : Int32, ((if c1 ≤ o32 i then (0 : Int32) else J9_max_7cf53 0 (J9_min_7cf53 9 (if k1 = 0 then e.toInt8.toInt32 else if k1 = 1 then e.toInt16.toInt32 else e))) = 0 ∧ k2 = 3) ∨ (k1 = k2 ∧ ¬ k2 = 3 ∧ c1 = c2 ∧ f1 = f2 ∧ s1 = s2)) (hf : (k2 = 3) ∨ (f1 = f2)) : ∃ z z', X0_skillsFrom (o32 n) skill k1 c1 f1 s1 = some z ∧ lp (fun x40 : Int32 × Int32 × (Nat → Int32) => X11_sheet_s40 (o32 n) k2 c2 s2 x40.1 x40.2.1 x40.2.2) 1000 (f2, (0 : Int32), now) = some z' ∧ RF n day unmet z pills slept woken wanted z' := by
  have hn := h.nn
  obtain ⟨z, z', e, e', hz⟩ := lp_ct2 (f := fun x6 : Int32 × Int32 × (Nat → Int32) => X0_skillsFrom_s6 (o32 n) k1 c1 s1 x6.1 x6.2.1 x6.2.2) (f' := fun x40 : Int32 × Int32 × (Nat → Int32) => X11_sheet_s40 (o32 n) k2 c2 s2 x40.1 x40.2.1 x40.2.2) (fun k x x' => (k2 = 3 ∨ x.1 = x'.1) ∧ x.2.1 = o32 k ∧ x'.2.1 = o32 k ∧ RF n day unmet x.2.2 pills slept woken wanted x'.2.2) (fun z z' => RF n day unmet z pills slept woken wanted z') n (f1, (0 : Int32), skill) (f2, (0 : Int32), now) ⟨hf, rfl, rfl, h⟩ (by
    rintro k ⟨x, i, sk⟩ ⟨x', i', w⟩ hk ⟨h1, h2, h3, h4⟩
    have h2 : i = _ := h2
    have h3 : i' = _ := h3
    subst h2 h3
    have h1 : k2 = 3 ∨ x = x' := h1
    have h4 : RF n day unmet sk pills slept woken wanted w := h4
    have key : ∃ v : Int32, (∃ s, s < 10 ∧ v = o32 s) ∧ X0_skillsFrom_s6 (o32 n) k1 c1 s1 x (o32 k) sk = some (.inl (x + s1, o32 (k + 1), upd sk k v)) ∧ X11_sheet_s40 (o32 n) k2 c2 s2 x' (o32 k) w = some (.inl (x' + s2, o32 (k + 1), upd w k v)) ∧ (k2 = 3 ∨ x + s1 = x' + s2) := by
      have eC : X0_skillsFrom_s6 (o32 n) k1 c1 s1 x (o32 k) sk = some (.inl (x + s1, o32 (k + 1), upd sk k (if c1 ≤ o32 k then (0 : Int32) else J9_max_7cf53 0 (J9_min_7cf53 9 (if k1 = 0 then x.toInt8.toInt32 else if k1 = 1 then x.toInt16.toInt32 else x))))) := by
        simp (disch := omega) only [X0_skillsFrom_s6, i_ge, gi_o, o_cl, o_s]
        split <;> rfl
      have eb : ∃ s, s < 10 ∧ (if c1 ≤ o32 k then (0 : Int32) else J9_max_7cf53 0 (J9_min_7cf53 9 (if k1 = 0 then x.toInt8.toInt32 else if k1 = 1 then x.toInt16.toInt32 else x))) = o32 s := by
        split
        · exact ⟨0, by decide, rfl⟩
        · exact pu_9 _
      refine ⟨_, eb, eC, ?_, ?_⟩
      · rcases hv k hk x with ⟨g1, g2⟩ | ⟨g1, g2, g3, g4, g5⟩
        · rw [g1]
          subst g2
          simp (disch := omega) only [X11_sheet_s40, i_ge, gi_o, o_cl, o_s, if_true]
        · subst g1 g3 g5
          have h1 : x = x' := h1.resolve_left g2
          subst h1
          have g2' : (k1 = 3) = False := eq_false g2
          simp (disch := omega) only [X11_sheet_s40, i_ge, gi_o, o_cl, o_s, g2', if_false]
          rw [pu_ltle]
          split <;> rfl
      · rcases hv k hk x with ⟨g1, g2⟩ | ⟨g1, g2, g3, g4, g5⟩
        · exact Or.inl g2
        · right
          rw [h1.resolve_left g2, g5]
    obtain ⟨v, hv1, hv2, hv3, hv4⟩ := key
    exact ⟨_, _, hv2, hv3, hv4, rfl, rfl, h4.s_ski (by omega) (fun _ => hv1)⟩) (by
    rintro ⟨x, i, sk⟩ ⟨x', i', w⟩ ⟨h1, h2, h3, h4⟩
    have h2 : i = _ := h2
    have h3 : i' = _ := h3
    subst h2 h3
    simp (disch := omega) only [X0_skillsFrom_s6, X11_sheet_s40, i_le]
    exact ⟨_, _, rfl, rfl, h4⟩) (by omega)
  refine ⟨z, z', ?_, e', hz⟩
  unfold X0_skillsFrom
  rw [e]
  rfl
theorem M_sheet (h : RF n day unmet skill pills slept woken wanted now) (p1 p2 p3 p4 : Int32) : ∃ y y', X10_sheet (o32 n) skill p1 p2 p3 p4 = some y ∧ X11_sheet (o32 n) now p1 p2 p3 p4 = some y' ∧ y.1 = y'.1 ∧ RF n day unmet y.2 pills slept woken wanted y'.2.2 := by
  have hn := h.nn
  rcases pu_in p1 (lo := 0) (hi := 3) (by decide) (by decide) with ⟨i1, i2⟩ | ⟨i1, i2, i3⟩ | ⟨m, m1, m2, rfl, i1, i2, i3⟩
  · have i1 : p1 < 0 := i1
    have i2 : X11_in p1 0 3 = 0 := i2
    simp only [X10_sheet, X11_sheet, i1, i2, if_true]
    exact ⟨_, _, rfl, rfl, rfl, h⟩
  · have i1 : ¬ p1 < 0 := i1
    have i2 : (3 : Int32) < p1 := Int32.not_le.mp i2
    have i3 : X11_in p1 0 3 = 0 := i3
    simp only [X10_sheet, X11_sheet, i1, i2, i3, if_true, if_false]
    exact ⟨_, _, rfl, rfl, rfl, h⟩
  · have i1 : ¬ o32 m < 0 := i1
    have i2 : ¬ (3 : Int32) < o32 m := Int32.not_lt.mpr i2
    have i3 : X11_in (o32 m) 0 3 = 1 := i3
    by_cases h7 : p2 ≤ 7
    · by_cases h3 : m = 3
      · subst h3
        obtain ⟨z, z', e, e', hz⟩ := L_sheet h (k1 := 3) (k2 := 3) (c1 := 0) (c2 := p2) 0 p3 0 p4 (fun i hi x => Or.inl ⟨by rw [if_pos (o_ge0 i (by omega))], rfl⟩) (Or.inl rfl)
        have q1 : (o32 3 = 3) = True := eq_true rfl
        have q2 : ((3 : Int32) ≤ o32 3) = True := eq_true (by decide)
        have q3 : o32 3 = 3 := rfl
        simp only [X10_sheet, X11_sheet, X11_sheet_k34, i1, i2, i3, h7, q1, q2, pu_10, if_true, if_false, e, Option.bind_some]
        rw [q3, e']
        exact ⟨_, _, rfl, rfl, rfl, hz⟩
      · have q1 : (o32 m = 3) = False := by
          show (o32 m = o32 3) = False
          rw [o_eq (by omega) (by decide)]; exact eq_false h3
        have q2 : ((3 : Int32) ≤ o32 m) = False := by
          show (o32 3 ≤ o32 m) = False
          rw [o_le (by decide) (by omega)]; exact eq_false (by omega)
        by_cases h0 : (0 : Int32) ≤ p2
        · obtain ⟨z, z', e, e', hz⟩ := L_sheet h (k1 := o32 m) (k2 := o32 m) (c1 := p2) (c2 := p2) p3 p3 p4 p4 (fun i hi x => Or.inr ⟨rfl, by rw [q1]; exact id, rfl, rfl, rfl⟩) (Or.inr rfl)
          obtain ⟨a4, b4, c4⟩ := L_sum (f := z) (w := z') (B := 0) hn (by decide) (fun k hk => by rw [Nat.zero_add]; exact (hz.ski (by omega)).symm)
          have c4 : X11_sumOf (o32 n) 37 z' 0 = some a4 := c4
          simp only [X10_sheet, X11_sheet, X11_sheet_k34, i1, i2, i3, h7, h0, q1, q2, pu_10, if_true, if_false, e, e', b4, c4, Option.bind_some]
          exact ⟨_, _, rfl, rfl, rfl, hz⟩
        · simp only [X10_sheet, X11_sheet, i1, i2, i3, h7, h0, q1, q2, pu_10, if_true, if_false]
          exact ⟨_, _, rfl, rfl, rfl, h⟩
    · simp only [X10_sheet, X11_sheet, i1, i2, i3, h7, pu_10, if_false]
      exact ⟨_, _, rfl, rfl, rfl, h⟩
theorem M_mornings {vs : (Nat → Int32) → Int32} {csz : Int32} {code : Nat → Int32} {ruleSize : Int32} {rule : Nat → Int32} {tsz rm : Int32} {tnum row : Nat → Int64} {next size um : Int32} {sN sD sU : Nat → Int32} {sK sP sL sW sT : Nat → Nat → Int32} {undos : Nat → Int32} (h : RF n day unmet skill pills slept woken wanted now) (hv : RV vs csz code) (hm : RM vs ruleSize rule) (hc : VC vs) (ht : TO tsz rm tnum row) (hp : PA n next size um sN sD sU sK sP sL sW sT undos) (stack thing : Nat → Int32) (len top at' wrong isAsked : Int32) (asked : Nat → Int32) (p1 : Int32) : ∃ y y', X10_mornings tsz tnum (o32 n) day unmet skill pills slept woken wanted next size sN sD sU sK sP sL sW sT csz code stack thing p1 = some y ∧ X11_mornings (o32 n) rm len top at' wrong ruleSize isAsked um now row rule asked undos p1 = some y' ∧ y.1 = y'.1 ∧ TO y.2.1 y'.2.1 y.2.2.1 y'.2.2.2.2.2.2.2.2.2.2.1 ∧ RF n y.2.2.2.1 y.2.2.2.2.1 skill y.2.2.2.2.2.1 y.2.2.2.2.2.2.1 y.2.2.2.2.2.2.2.1 wanted y'.2.2.2.2.2.2.2.2.2.1 ∧ PA n y.2.2.2.2.2.2.2.2.1 y.2.2.2.2.2.2.2.2.2.1 y'.2.2.2.2.2.2.2.2.1 y.2.2.2.2.2.2.2.2.2.2.1 y.2.2.2.2.2.2.2.2.2.2.2.1 y.2.2.2.2.2.2.2.2.2.2.2.2.1 y.2.2.2.2.2.2.2.2.2.2.2.2.2.1 y.2.2.2.2.2.2.2.2.2.2.2.2.2.2.1 y.2.2.2.2.2.2.2.2.2.2.2.2.2.2.2.1 y.2.2.2.2.2.2.2.2.2.2.2.2.2.2.2.2.1 y.2.2.2.2.2.2.2.2.2.2.2.2.2.2.2.2.2.1 y'.2.2.2.2.2.2.2.2.2.2.2.2 := by
  have hn := h.nn
  rcases pu_in p1 (lo := 0) (hi := 60) (by decide) (by decide) with ⟨i1, i2⟩ | ⟨i1, i2, i3⟩ | ⟨m, m1, m2, rfl, i1, i2, i3⟩
  · have i1 : p1 < 0 := i1
    have i2 : X11_in p1 0 60 = 0 := i2
    simp only [X10_mornings, X11_mornings, i1, i2, if_true]
    exact ⟨_, _, rfl, rfl, rfl, ht, h, hp⟩
  · have i1 : ¬ p1 < 0 := i1
    have i2 : ¬ p1 ≤ 60 := i2
    have i3 : X11_in p1 0 60 = 0 := i3
    simp only [X10_mornings, X11_mornings, i1, i2, i3, if_true, if_false]
    exact ⟨_, _, rfl, rfl, rfl, ht, h, hp⟩
  · have i1 : ¬ o32 m < 0 := i1
    have i2 : o32 m ≤ 60 := i2
    have i3 : X11_in (o32 m) 0 60 = 1 := i3
    obtain ⟨k, ek, hk⟩ := L_marks h hp
    obtain ⟨g, eg, hg1, hg2⟩ := L_goBy h hv hc stack thing (m := m) (by omega)
    obtain ⟨g', eg', hg1', hg2'⟩ := L_goMornings h.ri (EQ.rf (a := now)) hm hc len top at' wrong isAsked asked (m := m) (by omega)
    have hR := hg2.eq hg2'
    obtain ⟨s, es, es'⟩ := L_sum (f := g.2.2.2.2.2.2.2) (w := g'.2.2.2.2.2.2.2) (B := 21) hn (by decide) (fun k hk => (hR.wok (by omega)).symm)
    have es' : X11_sumOf (o32 n) 37 g'.2.2.2.2.2.2.2 21 = some s := es'
    obtain ⟨t, t', t'', et, et', et'', ht'⟩ := TO.both tnum row ((g.2.2.2.2.1 - unmet).toInt64) (s.toInt64)
    have eu : g'.2.2.2.2.2.2.2 36 = g.2.2.2.2.1 := hR.unm
    by_cases h0 : m = 0
    · subst h0
      have q : (o32 0 ≤ 0) = True := eq_true (by decide)
      simp only [X10_mornings, X10_mornings_k52, X11_mornings, X11_mornings_k29, i1, i2, i3, pu_10, q, if_true, if_false, ek, eg, eg', Option.bind_some, gl36, tl36, eu, h.unm, es, es', et, et', et'', hg1, hg1']
      exact ⟨_, _, rfl, rfl, rfl, ht', hR, hk.1⟩
    · have q : (o32 m ≤ 0) = False := by
        show (o32 m ≤ o32 0) = False
        rw [o_le (by omega) (by decide)]; exact eq_false (by omega)
      obtain ⟨k', r, ek', er, hk'⟩ := L_kept hk (EQ.rf (a := now))
      simp only [X10_mornings, X10_mornings_k52, X11_mornings, X11_mornings_k29, i1, i2, i3, pu_10, q, if_true, if_false, ek, eg, eg', ek', er, Option.bind_some, gl36, tl36, eu, h.unm, es, es', et, et', et'', hg1, hg1']
      exact ⟨_, _, rfl, rfl, rfl, ht', hR, hk'⟩
end SK
