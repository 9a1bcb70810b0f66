/-! ===== the pure level: a rule's text, the reference's signs ===== -/
def RdH (L nv : Nat) (read : Nat → Int32) (h : Nat → Nat) : Prop := L ≤ 80 ∧ 40 ≤ nv ∧ nv ≤ 80 ∧ ∀ i, i < 100 → ((i < L ∧ i < 40 ∧ h i < 256 ∧ read i = (o32 (h i)).toInt8.toInt32) ∨ (¬ (i < L ∧ i < 40) ∧ h i = 999))
def hvx (x : Nat) : Int32 := if x < 256 then o32 x else -1
section RDS
variable {L nv : Nat} {read : Nat → Int32} {h : Nat → Nat}
theorem hvx_eq {x v : Nat} (hx : x < 256 ∨ x = 999) (hv : v < 256) : (hvx x = o32 v) = (x = v) := by
  unfold hvx
  rcases hx with hx | hx
  · rw [if_pos hx, o_eq (by omega) (by omega)]
  · rw [if_neg (by omega)]
    apply propext
    constructor
    · intro e
      have h2 := congrArg Int32.toInt e
      rw [o_toInt (by omega), show (-1 : Int32).toInt = -1 by decide] at h2
      omega
    · intro e; omega
theorem RdH.bd (hr : RdH L nv read h) {i : Nat} (hi : i < 100) : h i < 256 ∨ h i = 999 := by
  rcases hr.2.2.2 i hi with ⟨-, -, h1, -⟩ | ⟨-, h1⟩
  · exact Or.inl h1
  · exact Or.inr h1
theorem RdH.lt (hr : RdH L nv read h) {i : Nat} (hi : i < 100) (h1 : h i < 256) : i < 40 := by
  rcases hr.2.2.2 i hi with ⟨-, h2, -, -⟩ | ⟨-, h2⟩
  · exact h2
  · omega
theorem L_hx (hr : RdH L nv read h) {i : Nat} (hi : i < 100) : X11_here (o32 L) (o32 40) (o32 i) nv read = some (hvx (h i)) := by
  have ⟨hL, h40, h80, hall⟩ := hr
  unfold X11_here hvx
  rcases hall i hi with ⟨c1, c2, c3, c4⟩ | ⟨c1, c2⟩
  · rw [i_ge c1 (by omega), i_ge c2 (by decide), gi_o (by omega) (by omega), o_cl (by omega), c4, by_255 c3, if_pos c3]
  · rw [if_neg (show ¬ h i < 256 by omega)]
    rcases Nat.lt_or_ge i L with c3 | c3
    · rw [i_ge c3 (by omega), i_le (by omega) (by omega)]
    · rw [i_le c3 (by omega)]
theorem L_px (hr : RdH L nv read h) {i v : Nat} (hi : i < 100) (hv : v < 256) : X11_passes (o32 L) (o32 40) (o32 i) (-1) nv read (o32 v) = some (if h i = v then (1, o32 (i + 1)) else (0, o32 i)) := by
  unfold X11_passes
  rw [if_neg (by rw [fi_m]; exact id), L_hx hr hi, Option.bind_some, o_s]
  by_cases c : h i = v
  · rw [if_pos (by rw [hvx_eq (hr.bd hi) hv]; exact c), if_pos c]
  · rw [if_neg (by rw [hvx_eq (hr.bd hi) hv]; exact c), if_neg c]
theorem L_pxw {len top at' w p1 : Int32} {n' : Nat} (hw : (X11_fine w = 0) = True) : X11_passes len top at' w n' read p1 = some (0, at') := by
  unfold X11_passes
  rw [if_pos (by rw [hw]; exact True.intro)]
theorem in_dg {x : Nat} (hx : x < 256 ∨ x = 999) : X11_in (hvx x) 48 57 = bi (dgx x) := by
  unfold hvx
  rcases hx with hx | hx
  · rw [if_pos hx]
    show X11_in (o32 x) (o32 48) (o32 57) = _
    rw [in_o (by omega) (by decide) (by decide)]
    rfl
  · subst hx
    rfl
theorem L_ox (hr : RdH L nv read h) {i : Nat} (hi : i < 100) : X11_oneOf (o32 L) (o32 40) (o32 i) (-1) nv read 48 10 = some (if dgx (h i) = true then (o32 (h i - 48), o32 (i + 1), -1) else (0, o32 i, o32 i)) := by
  unfold X11_oneOf
  rw [if_neg (by rw [fi_m]; exact id), L_hx hr hi, Option.bind_some, ft_m, o_s, pu_m1, show (48 : Int32) + 10 - 1 = 57 by decide, in_dg (hr.bd hi)]
  cases hd : dgx (h i) with
  | false => rfl
  | true =>
    have hd2 := of_decide_eq_true hd
    have hi4 := hr.lt hi (by omega)
    have h40 := hr.2.1
    have h80 := hr.2.2.1
    rw [if_neg (by decide), if_pos rfl, gi_o (by omega) (by omega), o_cl (by omega)]
    rcases hr.2.2.2 i hi with ⟨c1, c2, c3, c4⟩ | ⟨c1, c2⟩
    · rw [c4, by_lo (by omega), show (48 : Int32) = o32 48 from rfl, o_sub hd2.1]
    · omega
theorem L_nx (hr : RdH L nv read h) {i : Nat} (hi : i < 90) (hd : dgx (h i) = true) : X11_number (o32 L) (o32 40) (o32 i) (-1) nv read 3 = some (o32 (nmv h i), o32 (i + nmk h i), -1) := by
  have e3 : (3 : Int32) = o32 3 := rfl
  have e10 : (10 : Int32) = o32 10 := rfl
  have e1 : (1 : Int32) = o32 1 := rfl
  have hd0 := of_decide_eq_true hd
  have step : ∀ (v k j : Nat), k < 3 → j < 100 → X11_number_s11 (o32 L) (o32 40) nv read 3 (o32 v) (o32 k) (o32 j) (-1) = if dgx (h j) = true then some (.inl (o32 (10 * v + (h j - 48)), o32 (k + 1), o32 (j + 1), -1)) else some (.inr (o32 v, o32 j, -1)) := by
    intro v k j hk hj
    unfold X11_number_s11
    rw [e3, i_ge hk (by decide), if_neg (by rw [fi_m]; exact id), L_hx hr hj, Option.bind_some, in_dg (hr.bd hj), L_ox hr hj]
    cases hdj : dgx (h j) with
    | false => rfl
    | true =>
      rw [if_neg (by decide), if_pos rfl, if_pos rfl, Option.bind_some, o_s]
      dsimp only
      rw [e10, o_mul, o_add]
  have fin : ∀ (v j : Nat), X11_number_s11 (o32 L) (o32 40) nv read 3 (o32 v) (o32 3) (o32 j) (-1) = some (.inr (o32 v, o32 j, -1)) := by
    intro v j
    unfold X11_number_s11
    rw [e3, i_le (Nat.le_refl 3) (by decide)]
  unfold X11_number
  rw [L_ox hr (by omega), hd, if_pos rfl, Option.bind_some]
  have el : lp (fun x11 : Int32 × Int32 × Int32 × Int32 => X11_number_s11 (o32 L) (o32 40) nv read 3 x11.1 x11.2.1 x11.2.2.1 x11.2.2.2) 1000 (o32 (h i - 48), o32 1, o32 (i + 1), (-1 : Int32)) = some (o32 (nmv h i), o32 (i + nmk h i), -1) := by
    unfold nmv nmk
    have s1 := step (h i - 48) 1 (i + 1) (by decide) (by omega)
    cases d1 : dgx (h (i + 1)) with
    | false =>
      rw [d1, if_neg (by decide)] at s1
      rw [if_neg (by decide), if_neg (by decide)]
      exact lp_e 999 s1
    | true =>
      rw [d1, if_pos rfl] at s1
      rw [if_pos rfl, if_pos rfl]
      have s2 := step (10 * (h i - 48) + (h (i + 1) - 48)) 2 (i + 2) (by decide) (by omega)
      refine (lp_c 999 s1).trans ?_
      cases d2 : dgx (h (i + 2)) with
      | false =>
        rw [d2, if_neg (by decide)] at s2
        rw [if_neg (by decide), if_neg (by decide)]
        exact lp_e 998 s2
      | true =>
        rw [d2, if_pos rfl] at s2
        rw [if_pos rfl, if_pos rfl]
        refine (lp_c 998 s2).trans ?_
        have s3 := fin (10 * (10 * (h i - 48) + (h (i + 1) - 48)) + (h (i + 2) - 48)) (i + 2 + 1)
        refine (lp_e 997 s3).trans ?_
        rw [show 10 * (10 * (h i - 48) + (h (i + 1) - 48)) + (h (i + 2) - 48) = 100 * (h i - 48) + 10 * (h (i + 1) - 48) + (h (i + 2) - 48) by omega]
  show (lp _ 1000 (o32 (h i - 48), o32 1, o32 (i + 1), (-1 : Int32))).bind _ = _
  rw [el]
  rfl
end RDS
