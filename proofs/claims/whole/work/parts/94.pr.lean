/-! ===== the pure level: the class reads a rule: it closes, a number goes on, or a fault ===== -/
theorem L_gcl {a code : Nat → Int32} {s g r : List Nat} {p : Nat} (hw : WtR a s) (hc : CdR code g) (hl : g.length + s.length ≤ 40) (hp : 1 ≤ p) (hp4 : p ≤ 4) (m d ht : Int32) (hs : stl 1 s = 0 :: r) : ∃ code', X6_goesBehind (o32 s.length) (o32 p) m d ht a (o32 g.length) code (o32 41) = some ((1 : Int32), o32 r.length, o32 (p - 1), m, (0 : Int32), ht, a, o32 (g ++ stg 1 s).length, code') ∧ CdR code' (g ++ stg 1 s) := by
  obtain ⟨code', es, hcd⟩ := L_stl (a := a) (b := 1) (by decide) (by decide) hw hc hl
  have hsl := stl_le 1 s
  rw [hs] at hsl es
  have hsl : r.length + 1 + (stg 1 s).length = s.length := hsl
  refine ⟨code', ?_, hcd⟩
  have hcl : X6_closes (o32 s.length) (o32 p) a (o32 g.length) code = some ((1 : Int32), o32 r.length, o32 (p - 1), o32 (g ++ stg 1 s).length, code') := by
    unfold X6_closes
    rw [if_neg (by
      show ¬ o32 p = o32 0
      rw [o_eq (by omega) (by decide)]; omega), if_neg (by
      show ¬ o32 s.length = o32 0
      rw [o_eq (by omega) (by decide)]; omega), show (1 : Int32) = o32 1 from rfl, es, Option.bind_some]
    dsimp only
    rw [show o32 (0 :: r).length = o32 (r.length + 1) from rfl, o_sub (show 1 ≤ r.length + 1 by omega), o_sub hp]
    rw [show r.length + 1 - 1 = r.length by omega]
    have hmx : J9_max_7cf53 (0 : Int32) (o32 r.length) = o32 r.length := by
      unfold J9_max_7cf53
      have h0 : (0 : Int32) ≤ o32 r.length := o_ge0 _ (by omega)
      by_cases e : r.length = 0
      · rw [e]; rfl
      · have h1 : (0 : Int32) < o32 r.length := by
          show o32 0 < o32 r.length
          rw [o_lt (by decide) (by omega)]; omega
        have h2 : ¬ o32 r.length ≤ (0 : Int32) := by
          show ¬ o32 r.length ≤ o32 0
          rw [o_le (by omega) (by decide)]; omega
        simp [h0, h1, h2, o_nn r.length (by omega)]
    rw [hmx]
  unfold X6_goesBehind X6_goesBehind_k22
  rw [if_pos (show o32 41 < (48 : Int32) by decide), if_pos (show o32 41 = (41 : Int32) from rfl), hcl, Option.bind_some]
  exact gn_b (Or.inr rfl)
theorem L_gdg {a code : Nat → Int32} {s g0 : List Nat} {v x k : Nat} (hx : dgx x = true) (hc : CdR code (g0 ++ [v])) (hl : g0.length < 40) (hk : 1 ≤ k) (hk3 : k < 3) (p m ht : Int32) : X6_goesBehind (o32 s.length) p m (o32 k) ht a (o32 (g0 ++ [v]).length) code (o32 x) = some ((1 : Int32), o32 s.length, p, m, o32 (k + 1), ht, a, o32 (g0 ++ [10 * v + (x - 48)]).length, upd code g0.length (o32 (10 * v + (x - 48)))) ∧ CdR (upd code g0.length (o32 (10 * v + (x - 48)))) (g0 ++ [10 * v + (x - 48)]) := by
  have hx2 := of_decide_eq_true hx
  have e48 : (48 : Int32) = o32 48 := rfl
  have e57 : (57 : Int32) = o32 57 := rfl
  have e3 : (3 : Int32) = o32 3 := rfl
  have hln : ∀ z : Nat, (g0 ++ [z]).length = g0.length + 1 := fun z => by rw [List.length_append]; rfl
  have hlast : code g0.length = o32 v := by
    have h1 := hc g0.length (by rw [hln]; omega)
    rw [h1]
    simp [List.getD]
  refine ⟨?_, fun j hj => ?_⟩
  · unfold X6_goesBehind X6_goesOnNumber X5_widens
    rw [e48, e57, i_lt (by omega) (by omega), i_lt (by omega) (by omega), if_neg (by
      show ¬ o32 k = o32 0
      rw [o_eq (by omega) (by decide)]; omega), e3, i_gt hk3 (by decide), if_neg (by
      show ¬ o32 (g0 ++ [v]).length ≤ o32 0
      rw [hln, o_le (by omega) (by decide)]; omega), hln, pu_m1, gi_o hl (by decide), gi_o hl (by decide), o_cl (by omega), hlast, o_sub hx2.1, show (10 : Int32) = o32 10 from rfl, o_mul, o_add, Option.bind_some, Option.bind_some, o_s, hln, show v * 10 + (x - 48) = 10 * v + (x - 48) by omega]
    exact gn_b (Or.inr rfl)
  · rw [hln] at hj
    by_cases ej : j = g0.length
    · subst ej
      rw [pk_us]
      simp [List.getD]
    · have hj' : j < g0.length := by omega
      rw [pk_un ej, hc j (by rw [hln]; omega)]
      simp [List.getD, List.getElem?_append_left hj']
