/-! ===== the pure level: the class finds a fault behind a thing ===== -/
theorem L_gno {a code : Nat → Int32} {W z d m ht : Int32} {x p : Nat} (hx : x < 256) (hp : p ≤ 4) (hf : (dgx x = true ∧ (d = 0 ∨ d = 3)) ∨ (x = 41 ∧ p = 0) ∨ (¬ opx x = 0 ∧ bnx (1999 + opx x) = 1 ∧ ¬ ((m >>> (o32 p &&& 31)) &&& (1 : Int32)) = 0) ∨ (dgx x = false ∧ ¬ x = 41 ∧ opx x = 0)) : ∃ y, X6_goesBehind W (o32 p) m d ht a z code (o32 x) = some y ∧ y.1 = 0 := by
  have e48 : (48 : Int32) = o32 48 := rfl
  have e57 : (57 : Int32) = o32 57 := rfl
  have pre : dgx x = false → X6_goesBehind W (o32 p) m d ht a z code (o32 x) = X6_goesBehind_k22 W (o32 p) m ht a z code (o32 x) := by
    intro hd
    have hd2 := of_decide_eq_false hd
    unfold X6_goesBehind
    rw [e48, e57]
    rcases Nat.lt_or_ge x 48 with c1 | c1
    · rw [i_gt c1 (by decide)]
    · rw [i_lt c1 (by omega), i_gt (by omega) (by omega)]
  rcases hf with ⟨hd, hd0⟩ | ⟨rfl, rfl⟩ | ⟨ho, hb, hm⟩ | ⟨hd, h41, ho⟩
  · have hd2 := of_decide_eq_true hd
    unfold X6_goesBehind X6_goesOnNumber
    rw [e48, e57, i_lt (by omega) (by omega), i_lt (by omega) (by omega)]
    rcases hd0 with rfl | rfl
    · rw [if_pos rfl, Option.bind_some]
      dsimp only
      rw [gn_b (Or.inl rfl)]
      exact ⟨_, rfl, rfl⟩
    · rw [if_neg (by decide), if_neg (by decide), Option.bind_some]
      dsimp only
      rw [gn_b (Or.inl rfl)]
      exact ⟨_, rfl, rfl⟩
  · rw [pre (by decide)]
    unfold X6_goesBehind_k22 X6_closes
    rw [if_pos (by rfl), if_pos (show o32 0 = (0 : Int32) from rfl), Option.bind_some]
    dsimp only
    rw [gn_b (Or.inl rfl)]
    exact ⟨_, rfl, rfl⟩
  · obtain ⟨hd, h41⟩ := opx_d ho
    have h7 := opx_b x
    obtain ⟨q, eq⟩ : ∃ q, opx x = q + 1 := ⟨opx x - 1, by omega⟩
    rw [show 1999 + opx x = 2000 + q by omega] at hb
    have eb : X6_bindingOf (o32 (2000 + q)) = o32 (bnx (2000 + q)) := L_bnx (by omega)
    have e2 : (2000 : Int32) + o32 q = o32 (2000 + q) := o_add 2000 q
    rw [pre hd]
    unfold X6_goesBehind_k22
    rw [if_neg (show ¬ o32 x = (41 : Int32) by
      show ¬ o32 x = o32 41
      rw [o_eq (by omega) (by decide)]; exact h41), L_opx hx, Option.bind_some, eq, pu_m1, if_pos (o_ge0 _ (by omega)), e2, eb, hb, if_pos (show o32 1 = (1 : Int32) from rfl), if_neg hm]
    exact ⟨_, rfl, rfl⟩
  · rw [pre hd]
    unfold X6_goesBehind_k22
    rw [if_neg (show ¬ o32 x = (41 : Int32) by
      show ¬ o32 x = o32 41
      rw [o_eq (by omega) (by decide)]; exact h41), L_opx hx, Option.bind_some, ho, if_neg (show ¬ (0 : Int32) ≤ o32 0 - 1 by decide)]
    exact ⟨_, rfl, rfl⟩
