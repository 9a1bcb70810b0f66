/-! ===== the pure level: people, and the reference's row ===== -/
theorem sh_b {b : Int32} (h : b = 0 ∨ b = 1) (k : Int32) : b <<< (k &&& 31) = if b = 0 then (0 : Int32) else (1 : Int32) <<< (k &&& 31) := by
  rcases h with h | h
  · subst h
    rw [if_pos rfl]
    apply Int32.toBitVec.inj
    show (0#32) <<< _ = 0#32
    exact BitVec.zero_shiftLeft ..
  · subst h
    rw [if_neg (by decide)]
theorem o_of {p : Int32} (h : ¬ p < 0) : ∃ q : Nat, q < 2147483648 ∧ p = o32 q :=
  ⟨p.toNatClampNeg, Int32.toNatClampNeg_lt p, (Int32.ofNat_toNatClampNeg p (Int32.not_lt.mp h)).symm⟩
theorem in_0 (p a b : Int32) : (X11_in p a b = 0) = (p < a ∨ b < p) := by
  unfold X11_in
  split
  · rename_i h; simp [h]
  · rename_i h
    split
    · rename_i h1; simp [h1]
    · rename_i h1; simp [h, h1]
theorem in_bool (p a b : Int32) : X11_in p a b = 0 ∨ X11_in p a b = 1 := by
  unfold X11_in
  split
  · exact Or.inl rfl
  · split
    · exact Or.inl rfl
    · exact Or.inr rfl
theorem gn_b {α : Type} {v : Int32} {x : Option α} (h : v = 0 ∨ v = 1) : gn .boolean v x = x := by
  unfold gn
  rw [if_pos]
  rcases h with rfl | rfl
  · decide
  · decide
/-- one who is there, or not: both see it -/
theorem L_one {n : Nat} (hn : n ≤ 7) (p : Int32) : (∃ q, q < n ∧ p = o32 q ∧ X0_has (o32 n) p = 1 ∧ X11_isOne (o32 n) p = some 1) ∨ (X0_has (o32 n) p = 0 ∧ X11_isOne (o32 n) p = some 0) := by
  have hi : X11_isOne (o32 n) p = some (X11_in p 0 (o32 n - 1)) := by
    unfold X11_isOne
    exact gn_b (in_bool _ _ _)
  rw [hi]
  by_cases h : p < 0
  · right
    refine ⟨by unfold X0_has; rw [if_pos h], ?_⟩
    unfold X11_in
    rw [if_pos h]
  · obtain ⟨q, hq, rfl⟩ := o_of h
    have hlt : ((o32 n - 1) < o32 q) = (n ≤ q) := by
      rcases Nat.eq_zero_or_pos n with rfl | hp
      · rw [show o32 0 - 1 = (-1 : Int32) by decide, Int32.lt_iff_toInt_lt, o_toInt hq]
        have : (-1 : Int32).toInt = -1 := by decide
        rw [this]
        apply propext
        constructor
        · intro _; exact Nat.zero_le q
        · intro _; omega
      · rw [o_p1 hp, o_lt (by omega) hq]
        apply propext
        omega
    unfold X0_has X11_in
    rw [if_neg h, if_neg h]
    rcases Nat.lt_or_ge q n with h1 | h1
    · left
      refine ⟨q, h1, rfl, ?_, ?_⟩
      · rw [if_neg]
        rw [o_le (by omega) hq]
        omega
      · rw [if_neg]
        rw [hlt]
        omega
    · right
      refine ⟨?_, ?_⟩
      · rw [if_pos]
        rw [o_le (by omega) hq]
        exact h1
      · rw [if_pos]
        rw [hlt]
        exact h1
/-- people and the reference's row -/
def RF (n : Nat) (day unmet : Int32) (skill pills slept woken wanted now : Nat → Int32) : Prop :=
  n ≤ 7 ∧ now 35 = day ∧ now 36 = unmet ∧ (∀ k, k < 7 → now k = skill k ∧ now (7 + k) = pills k ∧ now (14 + k) = slept k ∧ now (21 + k) = woken k ∧ now (28 + k) = wanted k) ∧ (∀ k, k < n → (∃ a, a < 10 ∧ skill k = o32 a) ∧ (∃ a, a < 10 ∧ pills k = o32 a) ∧ bs n (wanted k) ∧ ¬ bt (wanted k) (o32 k))
section RFS
variable {n : Nat} {day unmet : Int32} {skill pills slept woken wanted now : Nat → Int32}
theorem RF.nn (h : RF n day unmet skill pills slept woken wanted now) : n ≤ 7 := h.1
theorem RF.dy (h : RF n day unmet skill pills slept woken wanted now) : now 35 = day := h.2.1
theorem RF.unm (h : RF n day unmet skill pills slept woken wanted now) : now 36 = unmet := h.2.2.1
theorem RF.ski (h : RF n day unmet skill pills slept woken wanted now) {k : Nat} (hk : k < 7) : now k = skill k := (h.2.2.2.1 k hk).1
theorem RF.pil (h : RF n day unmet skill pills slept woken wanted now) {k : Nat} (hk : k < 7) : now (7 + k) = pills k := (h.2.2.2.1 k hk).2.1
theorem RF.sle (h : RF n day unmet skill pills slept woken wanted now) {k : Nat} (hk : k < 7) : now (14 + k) = slept k := (h.2.2.2.1 k hk).2.2.1
theorem RF.wok (h : RF n day unmet skill pills slept woken wanted now) {k : Nat} (hk : k < 7) : now (21 + k) = woken k := (h.2.2.2.1 k hk).2.2.2.1
theorem RF.wan (h : RF n day unmet skill pills slept woken wanted now) {k : Nat} (hk : k < 7) : now (28 + k) = wanted k := (h.2.2.2.1 k hk).2.2.2.2
theorem RF.bsk (h : RF n day unmet skill pills slept woken wanted now) {k : Nat} (hk : k < n) : ∃ a, a < 10 ∧ skill k = o32 a := (h.2.2.2.2 k hk).1
theorem RF.bpi (h : RF n day unmet skill pills slept woken wanted now) {k : Nat} (hk : k < n) : ∃ a, a < 10 ∧ pills k = o32 a := (h.2.2.2.2 k hk).2.1
theorem RF.bwa (h : RF n day unmet skill pills slept woken wanted now) {k : Nat} (hk : k < n) : bs n (wanted k) := (h.2.2.2.2 k hk).2.2.1
theorem RF.bse (h : RF n day unmet skill pills slept woken wanted now) {k : Nat} (hk : k < n) : ¬ bt (wanted k) (o32 k) := (h.2.2.2.2 k hk).2.2.2
end RFS
/-- who wants one -/
theorem L_wanting {n : Nat} {wanted now : Nat → Int32} (hn : n ≤ 7) (hw : ∀ k, k < 7 → now (28 + k) = wanted k) (p : Int32) : ∃ r, X0_wanting (o32 n) wanted p = some r ∧ X11_wantedBy (o32 n) 37 now p = some r ∧ bs n r := by
  obtain ⟨z, z', e, e', hz, hb⟩ := lp_two (f := fun x4 : Int32 × Int32 => X0_wanting_s4 (o32 n) wanted p x4.1 x4.2) (f' := fun x5 : Int32 × Int32 => X11_wantedBy_s5 (o32 n) 37 now p x5.1 x5.2)
    (fun k x x' => x = x' ∧ x.2 = o32 k ∧ bs n x.1) (fun z z' => z = z' ∧ bs n z) n 0 1000 1000 ((0 : Int32), (0 : Int32)) ((0 : Int32), (0 : Int32)) (by
      rintro k ⟨x, y⟩ x' - h2 ⟨rfl, hy, hx⟩
      have hy : y = o32 k := hy
      subst hy
      rcases Nat.lt_or_ge k n with hk | hk
      · right
        have e1 : X0_wanting_s4 (o32 n) wanted p x (o32 k) = some (.inl ((x ||| ((((wanted k) >>> (p &&& 31)) &&& (1 : Int32)) <<< (o32 k &&& 31))), o32 (k + 1))) := by
          simp (disch := omega) only [X0_wanting_s4, i_ge, gi_o, o_cl, o_s]
        have e2 : X11_wantedBy_s5 (o32 n) 37 now p x (o32 k) = some (.inl ((x ||| ((((wanted k) >>> (p &&& 31)) &&& (1 : Int32)) <<< (o32 k &&& 31))), o32 (k + 1))) := by
          simp (disch := omega) only [X11_wantedBy_s5, i_ge, o_la, gi_o, o_cl, o_s]
          rw [hw k (by omega), sh_b (and1 _)]
          simp only [hs_0, bt, Classical.not_not]
        refine ⟨by omega, _, _, e1, e2, rfl, rfl, bs_or hx ?_⟩
        rw [sh_b (and1 _)]
        split
        · exact bs_0 n
        · exact bs_1 hk (by omega)
      · left
        have hk : k = n := by omega
        subst hk
        exact ⟨x, x, by simp (disch := omega) only [X0_wanting_s4, i_le], by simp (disch := omega) only [X11_wantedBy_s5, i_le], rfl, hx⟩) ⟨rfl, rfl, bs_0 n⟩ (by omega) (by omega)
  refine ⟨z, ?_, ?_, hb⟩
  · unfold X0_wanting
    rw [e]
    rfl
  · unfold X11_wantedBy
    rw [e', ← hz]
    rfl
