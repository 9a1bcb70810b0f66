/-! ===== the pure level: one, row ===== -/
section MOR
variable {vs : (Nat → Int32) → Int32} {n : Nat} {day unmet : Int32} {skill pills slept woken wanted now : Nat → Int32} {csz : Int32} {code : Nat → Int32} {ruleSize : Int32} {rule : Nat → Int32} {tsz rm : Int32} {tnum row : Nat → Int64}
theorem M_row (ht : TO tsz rm tnum row) (p1 : Int32) : ∃ y', X11_row rm row p1 = some y' ∧ ((y'.2 = 1 ∧ (p1 < 0 ∨ ¬ p1 < tsz)) ∨ (y'.2 = 0 ∧ ∃ y, X10_row tsz tnum p1 = some y ∧ y = y'.1)) := by
  obtain ⟨m, hm, rfl, rfl, he⟩ := ht
  unfold X11_row X10_row
  by_cases h0 : p1 < 0
  · refine ⟨_, by rw [if_pos (by rw [in_0]; exact Or.inl h0)], Or.inl ⟨rfl, Or.inl h0⟩⟩
  · obtain ⟨k, hk, rfl⟩ := o_of h0
    by_cases hkm : k < m
    · have hi : X11_in (o32 k) 0 (o32 m - 1) = 1 := by
        obtain ⟨q, rfl⟩ : ∃ q, m = q + 1 := ⟨m - 1, by omega⟩
        rw [pu_m1]
        show X11_in (o32 k) (o32 0) (o32 q) = 1
        rw [in_o (by omega) (by decide) (by omega), decide_eq_true (show 0 ≤ k ∧ k ≤ q by omega)]
        rfl
      refine ⟨_, by rw [hi, if_neg (by decide), gi_o (by omega) (by decide), o_cl (by omega)], Or.inr ⟨rfl, tnum k, ?_, he k hkm⟩⟩
      rw [if_neg h0, if_pos (by rw [o_lt (by omega) (by omega)]; exact hkm), gi_o (by omega) (by decide), o_cl (by omega)]
    · have hi : X11_in (o32 k) 0 (o32 m - 1) = 0 := by
        rcases Nat.eq_zero_or_pos m with e | e
        · subst e
          rw [in_0]
          exact Or.inr (Int32.lt_of_lt_of_le (show o32 0 - 1 < (0 : Int32) by decide) (o_ge0 k (by omega)))
        · obtain ⟨q, rfl⟩ : ∃ q, m = q + 1 := ⟨m - 1, by omega⟩
          rw [pu_m1, in_0]
          exact Or.inr (by rw [o_lt (by omega) (by omega)]; omega)
      refine ⟨_, by rw [hi, if_pos rfl], Or.inl ⟨rfl, Or.inr (by rw [o_lt (by omega) (by omega)]; exact hkm)⟩⟩
theorem M_one (h : RF n day unmet skill pills slept woken wanted now) (hv : RV vs csz code) (hm : RM vs ruleSize rule) (hc : VC vs) (stack thing : Nat → Int32) (len top at' wrong isAsked : Int32) (asked : Nat → Int32) (p1 p2 : Int32) : ∃ y', X11_one (o32 n) len top at' wrong ruleSize isAsked now rule asked p1 p2 = some y' ∧ ((y'.2.1 = 1 ∧ (X0_has (o32 n) p1 = 0 ∨ p2 < 0 ∨ ¬ p2 ≤ 6)) ∨ (y'.2.1 = 0 ∧ ∃ y, X10_one (o32 n) day skill pills slept woken wanted csz code stack thing p1 p2 = some y ∧ y.1 = y'.1)) := by
  have hn := h.nn
  unfold X11_one X11_one_k23
  rcases L_one hn p1 with ⟨q, hq, rfl, ho, ho'⟩ | ⟨ho, ho'⟩
  · rw [ho', Option.bind_some, if_neg (by decide)]
    rcases pu_in p2 (lo := 0) (hi := 6) (by decide) (by decide) with ⟨i1, i2⟩ | ⟨i1, i2, i3⟩ | ⟨m, m1, m2, rfl, i1, i2, i3⟩
    · have i2 : X11_in p2 0 6 = 0 := i2
      exact ⟨_, by rw [if_pos i2], Or.inl ⟨rfl, Or.inr (Or.inl i1)⟩⟩
    · have i3 : X11_in p2 0 6 = 0 := i3
      exact ⟨_, by rw [if_pos i3], Or.inl ⟨rfl, Or.inr (Or.inr i2)⟩⟩
    · have i1 : ¬ o32 m < 0 := i1
      have i2 : o32 m ≤ 6 := i2
      have i3 : X11_in (o32 m) 0 6 = 1 := i3
      have pre : ∀ r, (if o32 m = 0 then (gi (o32 q) 7 (some ((skill (o32 q).toNatClampNeg), stack, thing))) else (if o32 m = 1 then (gi (o32 q) 7 (some ((pills (o32 q).toNatClampNeg), stack, thing))) else (if o32 m = 2 then (gi (o32 q) 7 (some ((slept (o32 q).toNatClampNeg), stack, thing))) else (if o32 m = 3 then (gi (o32 q) 7 (some ((woken (o32 q).toNatClampNeg), stack, thing))) else (if o32 m = 4 then (gi (o32 q) 7 (some ((wanted (o32 q).toNatClampNeg), stack, thing))) else (if o32 m = 5 then ((X0_wanting (o32 n) wanted (o32 q)).bind fun y123 => some (y123, stack, thing)) else ((X0_wanting (o32 n) wanted (o32 q)).bind fun y141 => (X5_needers csz code stack thing (o32 n) day skill slept wanted (o32 q) y141).bind fun y144 => some (y144.1, y144.2.1, y144.2.2)))))))) = some r → X10_one (o32 n) day skill pills slept woken wanted csz code stack thing (o32 q) (o32 m) = some r := by
        intro r hr
        unfold X10_one
        rw [if_neg (by rw [ho]; decide), if_neg i1, if_pos i2]
        exact hr
      rw [if_neg (by rw [i3]; decide)]
      rcases (show m = 0 ∨ m = 1 ∨ m = 2 ∨ m = 3 ∨ m = 4 ∨ m = 5 ∨ m = 6 by omega) with rfl | rfl | rfl | rfl | rfl | rfl | rfl
      · have e : (7 : Int32) * o32 0 + o32 q = o32 q := by
          show o32 7 * o32 0 + o32 q = _
          rw [o_mul, o_add]
          rw [show 7 * 0 + q = q by omega]
        rw [if_neg (by decide), e, gi_o (by omega) (by decide), o_cl (by omega)]
        refine ⟨_, rfl, Or.inr ⟨rfl, _, pre _ (by rw [if_pos (by rfl), gi_o (by omega) (by decide), o_cl (by omega)]), (h.ski (k := q) (by omega)).symm⟩⟩
      · have e : (7 : Int32) * o32 1 + o32 q = o32 (7 + q) := by
          show o32 7 * o32 1 + o32 q = _
          rw [o_mul, o_add]
        rw [if_neg (by decide), e, gi_o (by omega) (by decide), o_cl (by omega)]
        refine ⟨_, rfl, Or.inr ⟨rfl, _, pre _ (by rw [if_neg (by decide), if_pos (by rfl), gi_o (by omega) (by decide), o_cl (by omega)]), (h.pil (k := q) (by omega)).symm⟩⟩
      · have e : (7 : Int32) * o32 2 + o32 q = o32 (14 + q) := by
          show o32 7 * o32 2 + o32 q = _
          rw [o_mul, o_add]
        rw [if_neg (by decide), e, gi_o (by omega) (by decide), o_cl (by omega)]
        refine ⟨_, rfl, Or.inr ⟨rfl, _, pre _ (by rw [if_neg (by decide), if_neg (by decide), if_pos (by rfl), gi_o (by omega) (by decide), o_cl (by omega)]), (h.sle (k := q) (by omega)).symm⟩⟩
      · have e : (7 : Int32) * o32 3 + o32 q = o32 (21 + q) := by
          show o32 7 * o32 3 + o32 q = _
          rw [o_mul, o_add]
        rw [if_neg (by decide), e, gi_o (by omega) (by decide), o_cl (by omega)]
        refine ⟨_, rfl, Or.inr ⟨rfl, _, pre _ (by rw [if_neg (by decide), if_neg (by decide), if_neg (by decide), if_pos (by rfl), gi_o (by omega) (by decide), o_cl (by omega)]), (h.wok (k := q) (by omega)).symm⟩⟩
      · have e : (7 : Int32) * o32 4 + o32 q = o32 (28 + q) := by
          show o32 7 * o32 4 + o32 q = _
          rw [o_mul, o_add]
        rw [if_neg (by decide), e, gi_o (by omega) (by decide), o_cl (by omega)]
        refine ⟨_, rfl, Or.inr ⟨rfl, _, pre _ (by rw [if_neg (by decide), if_neg (by decide), if_neg (by decide), if_neg (by decide), if_pos (by rfl), gi_o (by omega) (by decide), o_cl (by omega)]), (h.wan (k := q) (by omega)).symm⟩⟩
      · rw [if_pos (by decide), if_pos (by rfl), L_wbm h.ri EQ.rf (by omega), Option.bind_some]
        refine ⟨_, rfl, Or.inr ⟨rfl, _, pre _ (by rw [if_neg (by decide), if_neg (by decide), if_neg (by decide), if_neg (by decide), if_neg (by decide), if_pos (by rfl), L_wby h (by omega), Option.bind_some]), rfl⟩⟩
      · obtain ⟨y, ey, hy⟩ := L_neededBy h.ri EQ.rf hm hc len top at' wrong isAsked asked hq
        obtain ⟨w, ew, hw⟩ := L_needers h hv hc stack thing (q := q) (set := WB n now q) hq (bm_128 hn)
        rw [if_pos (by decide), if_neg (by decide), ey, Option.bind_some]
        refine ⟨_, rfl, Or.inr ⟨rfl, _, pre _ (by rw [if_neg (by decide), if_neg (by decide), if_neg (by decide), if_neg (by decide), if_neg (by decide), if_neg (by decide), L_wby h (by omega), Option.bind_some, ew, Option.bind_some]), by rw [hw, hy]⟩⟩
  · rw [ho', Option.bind_some, if_pos rfl]
    exact ⟨_, rfl, Or.inl ⟨rfl, Or.inl ho⟩⟩
end MOR
