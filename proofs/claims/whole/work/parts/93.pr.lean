/-! ===== the pure level: the class reads a rule, behind a thing ===== -/
theorem opx_d {x : Nat} (h : ¬ opx x = 0) : dgx x = false ∧ ¬ x = 41 := by
  unfold opx at h
  unfold dgx
  constructor
  · apply decide_eq_false
    rintro ⟨h1, h2⟩
    apply h
    rw [if_neg (by omega), if_neg (by omega), if_neg (by omega), if_neg (by omega), if_neg (by omega), if_neg (by omega), if_neg (by omega)]
  · rintro rfl
    exact h rfl
theorem L_gop {a code : Nat → Int32} {s g : List Nat} {x p : Nat} (hx : x < 256) (hw : WtR a s) (hc : CdR code g) (hl : g.length + s.length ≤ 39) (hp : p ≤ 4) (m d ht : Int32) (ho : ¬ opx x = 0) (hm : bnx (1999 + opx x) = 1 → ((m >>> (o32 p &&& 31)) &&& (1 : Int32)) = 0) : ∃ code', X6_goesBehind (o32 s.length) (o32 p) m d ht a (o32 g.length) code (o32 x) = some ((1 : Int32), o32 ((1999 + opx x) :: stl (bnx (1999 + opx x)) s).length, o32 p, m ||| (if bnx (1999 + opx x) = 1 then ((1 : Int32) <<< (o32 p &&& 31)) else (0 : Int32)), (0 : Int32), (0 : Int32), upd a (stl (bnx (1999 + opx x)) s).length (o32 (1999 + opx x)), o32 (g ++ stg (bnx (1999 + opx x)) s).length, code') ∧ CdR code' (g ++ stg (bnx (1999 + opx x)) s) := by
  have h7 := opx_b x
  obtain ⟨hd, h41⟩ := opx_d ho
  have hd2 := of_decide_eq_false hd
  have e48 : (48 : Int32) = o32 48 := rfl
  have e57 : (57 : Int32) = o32 57 := rfl
  obtain ⟨q, eq⟩ : ∃ q, opx x = q + 1 := ⟨opx x - 1, by omega⟩
  have ee : 1999 + opx x = 2000 + q := by omega
  rw [ee] at hm ⊢
  have hb : bnx (2000 + q) = 1 ∨ bnx (2000 + q) = 2 ∨ bnx (2000 + q) = 3 := by
    rcases (show q = 0 ∨ q = 1 ∨ q = 2 ∨ q = 3 ∨ q = 4 ∨ q = 5 ∨ q = 6 by omega) with rfl | rfl | rfl | rfl | rfl | rfl | rfl <;> decide
  obtain ⟨code', es, hcd⟩ := L_stl (a := a) (b := bnx (2000 + q)) (by omega) (by omega) hw hc (by omega)
  have hsl := stl_le (bnx (2000 + q)) s
  have ewf := (L_wfo (a := a) (s := stl (bnx (2000 + q)) s) hw.st (by omega) (v := 2000 + q) (by omega)).1
  have eb : X6_bindingOf (o32 (2000 + q)) = o32 (bnx (2000 + q)) := L_bnx (by omega)
  have e2 : (2000 : Int32) + o32 q = o32 (2000 + q) := o_add 2000 q
  have q1 : (o32 (bnx (2000 + q)) = (1 : Int32)) = (bnx (2000 + q) = 1) := by
    show (o32 _ = o32 1) = _
    rw [o_eq (by omega) (by decide)]
  refine ⟨code', ?_, hcd⟩
  have k84 : X6_goesBehind_k84 (o32 s.length) (o32 p) m a (o32 g.length) code (o32 q) = some ((1 : Int32), o32 ((2000 + q) :: stl (bnx (2000 + q)) s).length, o32 p, m ||| (if bnx (2000 + q) = 1 then ((1 : Int32) <<< (o32 p &&& 31)) else (0 : Int32)), (0 : Int32), (0 : Int32), upd a (stl (bnx (2000 + q)) s).length (o32 (2000 + q)), o32 (g ++ stg (bnx (2000 + q)) s).length, code') := by
    unfold X6_goesBehind_k84
    rw [e2, eb, es, Option.bind_some]
    dsimp only
    rw [ewf, Option.bind_some]
    dsimp only
    by_cases c : bnx (2000 + q) = 1
    · rw [if_pos c, if_pos (by rw [q1]; exact c)]
    · rw [if_neg c, if_neg (by rw [q1]; exact c)]
  have k22 : X6_goesBehind_k22 (o32 s.length) (o32 p) m ht a (o32 g.length) code (o32 x) = X6_goesBehind_k84 (o32 s.length) (o32 p) m a (o32 g.length) code (o32 q) := by
    unfold X6_goesBehind_k22
    rw [if_neg (show ¬ o32 x = (41 : Int32) by
      show ¬ o32 x = o32 41
      rw [o_eq (by omega) (by decide)]; exact h41), L_opx hx, Option.bind_some, eq, pu_m1, if_pos (o_ge0 _ (by omega)), e2, eb]
    by_cases c : bnx (2000 + q) = 1
    · rw [if_pos (by rw [q1]; exact c), if_pos (hm c)]
    · rw [if_neg (by rw [q1]; exact c)]
  unfold X6_goesBehind
  rw [e48, e57]
  rcases Nat.lt_or_ge x 48 with c1 | c1
  · rw [i_gt c1 (by decide), k22, k84]
  · rw [i_lt c1 (by omega), i_gt (by omega) (by omega), k22, k84]
