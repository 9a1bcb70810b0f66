/-! ===== the pure level: reading THE TEXT ===== -/
theorem gn_c {α : Type} {b : Nat} {x : Option α} (h : b < 256) : gn .char (o32 b) x = x := by
  have h1 : ∀ b : Fin 256, narrow .char (.int (o32 b.val)) = .int (o32 b.val) := by decide +kernel
  unfold gn
  rw [if_pos (h1 ⟨b, h⟩)]
theorem by_255 {b : Nat} (h : b < 256) : (o32 b).toInt8.toInt32 &&& 255 = o32 b := by
  have h1 : ∀ b : Fin 256, (o32 b.val).toInt8.toInt32 &&& 255 = o32 b.val := by decide +kernel
  exact h1 ⟨b, h⟩
theorem by_lo {b : Nat} (h : b < 128) : (o32 b).toInt8.toInt32 = o32 b := by
  have h1 : ∀ b : Fin 128, (o32 b.val).toInt8.toInt32 = o32 b.val := by decide +kernel
  exact h1 ⟨b, h⟩
/-- the signs, as numbers -/
def TC (t : Nat) (c : Nat → Nat) (signs text : Nat → Int32) : Prop := t ≤ 80 ∧ ∀ k, k < 80 → c k < 256 ∧ signs k = o32 (c k) ∧ text k = (o32 (c k)).toInt8.toInt32
theorem TX.tc {size typed : Int32} {signs text : Nat → Int32} (h : TX size typed signs text) : ∃ t c, size = o32 t ∧ typed = o32 t ∧ TC t c signs text := by
  obtain ⟨t, ht, h1, h2, h3⟩ := h
  refine ⟨t, fun k => if hk : k < 80 then (h3 k hk).choose else 0, h1, h2, ht, fun k hk => ?_⟩
  show (if hk : k < 80 then (h3 k hk).choose else 0) < 256 ∧ signs k = o32 (if hk : k < 80 then (h3 k hk).choose else 0) ∧ text k = (o32 (if hk : k < 80 then (h3 k hk).choose else 0)).toInt8.toInt32
  rw [dif_pos hk]
  exact (h3 k hk).choose_spec
theorem TX.emp {size typed : Int32} {signs text : Nat → Int32} (h : TX size typed signs text) : TX 0 0 signs text := by
  obtain ⟨t, ht, h1, h2, h3⟩ := h
  exact ⟨0, by decide, rfl, rfl, h3⟩
theorem fi_m : (X11_fine (-1) = 0) = False := eq_false (by decide)
theorem fi_o {i : Nat} (h : i < 2147483648) : (X11_fine (o32 i) = 0) = True := by
  apply eq_true
  unfold X11_fine
  rw [if_neg]
  intro e
  have h2 := congrArg Int32.toInt e
  rw [o_toInt h, show (-1 : Int32).toInt = -1 by decide] at h2
  omega
theorem ft_m (i : Int32) : X11_fault (-1) i = i := by unfold X11_fault; rw [if_neg (by rw [fi_m]; exact id)]
theorem ft_o {i : Nat} (h : i < 2147483648) (j : Int32) : X11_fault (o32 i) j = o32 i := by unfold X11_fault; rw [if_pos (by rw [fi_o h]; exact True.intro)]
section TCS
variable {t : Nat} {c : Nat → Nat} {signs text : Nat → Int32}
theorem L_at (h : TC t c signs text) {i : Nat} (hi : i < t) : X9_at (o32 t) signs (o32 i) = some (o32 (c i)) := by
  have ht := h.1
  obtain ⟨h1, h2, h3⟩ := h.2 i (by omega)
  have nn : (o32 i < 0) = False := eq_false (o_nn i (by omega))
  simp (disch := omega) only [X9_at, nn, if_false, i_ge, gi_o, o_cl, h2, gn_c h1]
theorem L_at0 (h : TC t c signs text) {i : Nat} (hi : t ≤ i) (hi2 : i < 2147483648) : X9_at (o32 t) signs (o32 i) = some 0 := by
  have ht := h.1
  have nn : (o32 i < 0) = False := eq_false (o_nn i (by omega))
  simp (disch := omega) only [X9_at, nn, if_false, i_le]
theorem L_dg (h : TC t c signs text) {i : Nat} (hi : i < t) (h1 : 48 ≤ c i) (h2 : c i ≤ 57) : X9_digitAt (o32 t) signs (o32 i) = some (o32 (c i - 48)) := by
  have e48 : (48 : Int32) = o32 48 := rfl
  have e57 : (57 : Int32) = o32 57 := rfl
  unfold X9_digitAt
  rw [L_at h hi, Option.bind_some, e48, e57, i_lt (by omega) (by omega), i_lt (by omega) (by omega), o_sub h1]
theorem L_dgn (h : TC t c signs text) {i : Nat} (hi : i < 2147483648) (hb : ¬ (i < t ∧ 48 ≤ c i ∧ c i ≤ 57)) : X9_digitAt (o32 t) signs (o32 i) = some (-1) := by
  have ht := h.1
  have e48 : (48 : Int32) = o32 48 := rfl
  have e57 : (57 : Int32) = o32 57 := rfl
  unfold X9_digitAt
  rcases Nat.lt_or_ge i t with c1 | c1
  · have h1 := (h.2 i (by omega)).1
    rw [L_at h c1, Option.bind_some, e48, e57]
    rcases Nat.lt_or_ge (c i) 48 with c2 | c2
    · rw [i_gt c2 (by omega)]
    · rw [i_lt c2 (by omega), i_gt (by omega) (by omega)]
  · rw [L_at0 h c1 hi, Option.bind_some, if_pos (by decide)]
theorem L_he (h : TC t c signs text) {top i : Nat} (ht : top ≤ 80) (hi : i < 80) : X11_here (o32 t) (o32 top) (o32 i) 80 text = some (if i < t ∧ i < top then o32 (c i) else -1) := by
  have ht2 := h.1
  unfold X11_here
  rcases Nat.lt_or_ge i t with c1 | c1
  · rcases Nat.lt_or_ge i top with c2 | c2
    · obtain ⟨h1, h2, h3⟩ := h.2 i (by omega)
      rw [i_ge c1 (by omega), i_ge c2 (by omega), gi_o (by omega) (by decide), o_cl (by omega), h3, by_255 h1, if_pos ⟨c1, c2⟩]
    · rw [i_ge c1 (by omega), i_le c2 (by omega), if_neg (by omega)]
  · rw [i_le c1 (by omega), if_neg (by omega)]
theorem in_m {lo : Nat} {hi : Int32} (h : lo < 2147483648) : X11_in (-1) (o32 lo) hi = 0 := by
  rw [in_0]
  left
  rw [Int32.lt_iff_toInt_lt, o_toInt h, show (-1 : Int32).toInt = -1 by decide]
  omega
theorem in_o {lo hi m : Nat} (hm : m < 2147483648) (hl : lo < 2147483648) (hh : hi < 2147483648) : X11_in (o32 m) (o32 lo) (o32 hi) = bi (decide (lo ≤ m ∧ m ≤ hi)) := by
  have h1 : (X11_in (o32 m) (o32 lo) (o32 hi) = 0) = (m < lo ∨ hi < m) := by rw [in_0, o_lt hm hl, o_lt hh hm]
  rcases in_bool (o32 m) (o32 lo) (o32 hi) with h2 | h2
  · rw [h1] at h2
    rw [show X11_in (o32 m) (o32 lo) (o32 hi) = 0 by rw [h1]; exact h2, decide_eq_false (by omega)]
    rfl
  · have h3 : ¬ (m < lo ∨ hi < m) := by
      rw [← h1, h2]; decide
    rw [h2, decide_eq_true (by omega)]
    rfl
theorem L_of (h : TC t c signs text) {top i lo cnt : Nat} (ht : top ≤ 80) (hi : i < 80) (hl : 1 ≤ lo) (hc : lo + cnt ≤ 128) : X11_oneOf (o32 t) (o32 top) (o32 i) (-1) 80 text (o32 lo) (o32 cnt) = some (if i < t ∧ i < top ∧ lo ≤ c i ∧ c i < lo + cnt then (o32 (c i - lo), o32 (i + 1), -1) else (0, o32 i, o32 i)) := by
  have ht2 := h.1
  unfold X11_oneOf
  rw [if_neg (by rw [fi_m]; exact id), L_he h ht hi, Option.bind_some, o_add, o_p1 (by omega), ft_m, o_s, pu_m1]
  by_cases c1 : i < t ∧ i < top
  · obtain ⟨h1, h2, h3⟩ := h.2 i (by omega)
    rw [if_pos c1, in_o (by omega) (by omega) (by omega)]
    by_cases c2 : lo ≤ c i ∧ c i ≤ lo + cnt - 1
    · rw [decide_eq_true c2, if_neg (by decide), gi_o (by omega) (by decide), o_cl (by omega), h3, by_lo (by omega), o_sub c2.1, if_pos (by omega)]
    · rw [decide_eq_false c2, if_pos (by decide), if_neg (by omega)]
  · rw [if_neg c1, in_m (by omega), if_pos rfl, if_neg (by omega)]
theorem L_ofw {len top at' w p1 p2 : Int32} (hw : (X11_fine w = 0) = True) : X11_oneOf len top at' w 80 text p1 p2 = some (0, at', w) := by
  unfold X11_oneOf
  rw [if_pos (by rw [hw]; exact True.intro)]
theorem L_ps (h : TC t c signs text) {top i v : Nat} (ht : top ≤ 80) (hi : i < 80) (hv : v < 256) : X11_passes (o32 t) (o32 top) (o32 i) (-1) 80 text (o32 v) = some (if i < t ∧ i < top ∧ c i = v then (1, o32 (i + 1)) else (0, o32 i)) := by
  have ht2 := h.1
  unfold X11_passes
  rw [if_neg (by rw [fi_m]; exact id), L_he h ht hi, Option.bind_some, o_s]
  by_cases c1 : i < t ∧ i < top
  · obtain ⟨h1, h2, h3⟩ := h.2 i (by omega)
    rw [if_pos c1]
    by_cases c2 : c i = v
    · rw [if_pos (by rw [c2]), if_pos ⟨c1.1, c1.2, c2⟩]
    · rw [if_neg (by rw [o_eq (by omega) (by omega)]; exact c2), if_neg (by omega)]
  · rw [if_neg c1, if_neg (by
      intro e
      have h2 := congrArg Int32.toInt e
      rw [o_toInt (by omega), show (-1 : Int32).toInt = -1 by decide] at h2
      omega), if_neg (by omega)]
theorem L_psw {len top at' w p1 : Int32} (hw : (X11_fine w = 0) = True) : X11_passes len top at' w 80 text p1 = some (0, at') := by
  unfold X11_passes
  rw [if_pos (by rw [hw]; exact True.intro)]
theorem L_wr {i len : Nat} {at' : Int32} (hi : i < 2147483648) : X11_wasRight (o32 len) at' (o32 i) = some (0, o32 i) := by
  have e : X11_fine (o32 i) = 0 := by rw [fi_o hi]; exact True.intro
  unfold X11_wasRight X11_wasRight_k19
  rw [ft_o hi, e, gn_b (Or.inl rfl)]
  split <;> rfl
theorem L_wr1 {i len : Nat} (hi : i < 2147483648) (hl : len < 2147483648) : X11_wasRight (o32 len) (o32 i) (-1) = some (if len ≤ i then (1, -1) else (0, o32 i)) := by
  have e : X11_fine (o32 i) = 0 := by rw [fi_o hi]; exact True.intro
  unfold X11_wasRight X11_wasRight_k19
  rw [ft_m, e, gn_b (Or.inl rfl)]
  rcases Nat.lt_or_ge i len with c1 | c1
  · rw [i_ge c1 hl, if_neg (by omega)]
  · rw [i_le c1 hi, if_pos c1]
    exact gn_b (Or.inr (by decide))
end TCS
