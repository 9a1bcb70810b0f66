/-! ===== the pure level: small ints, bits, loops ===== -/
def o32 (n : Nat) : Int32 := Int32.ofNat n
theorem o_lit (n : Nat) : (no_index (OfNat.ofNat n) : Int32) = o32 (OfNat.ofNat n) := rfl
theorem o_toInt {a : Nat} (h : a < 2147483648) : (o32 a).toInt = (a : Int) := Int32.toInt_ofNat_of_lt h
theorem o_cl {a : Nat} (h : a < 2147483648) : (o32 a).toNatClampNeg = a := Int32.toNatClampNeg_ofNat_of_lt h
theorem o_lcl {a : Nat} (h : a < 2147483648) : (no_index (OfNat.ofNat a) : Int32).toNatClampNeg = a := Int32.toNatClampNeg_ofNat_of_lt h
theorem o_le {a b : Nat} (ha : a < 2147483648) (hb : b < 2147483648) : (o32 a ≤ o32 b) = (a ≤ b) := by
  rw [Int32.le_iff_toInt_le, o_toInt ha, o_toInt hb]
  exact propext Int.ofNat_le
theorem o_lt {a b : Nat} (ha : a < 2147483648) (hb : b < 2147483648) : (o32 a < o32 b) = (a < b) := by
  rw [Int32.lt_iff_toInt_lt, o_toInt ha, o_toInt hb]
  exact propext Int.ofNat_lt
theorem o_eq {a b : Nat} (ha : a < 2147483648) (hb : b < 2147483648) : (o32 a = o32 b) = (a = b) := by
  apply propext
  constructor
  · intro h
    have h1 := congrArg Int32.toInt h
    rw [o_toInt ha, o_toInt hb] at h1
    exact Int.ofNat.inj h1
  · intro h
    rw [h]
theorem o_add (a b : Nat) : o32 a + o32 b = o32 (a + b) := (Int32.ofNat_add a b).symm
theorem o_mul (a b : Nat) : o32 a * o32 b = o32 (a * b) := (Int32.ofNat_mul a b).symm
theorem o_sub {a b : Nat} (h : b ≤ a) : o32 a - o32 b = o32 (a - b) := (Int32.ofNat_sub a b h).symm
theorem o_s (a : Nat) : o32 a + 1 = o32 (a + 1) := (Int32.ofNat_add a 1).symm
theorem o_la (n a : Nat) : (no_index (OfNat.ofNat n) : Int32) + o32 a = o32 (OfNat.ofNat n + a) := (Int32.ofNat_add n a).symm
theorem o_ra (n a : Nat) : o32 a + (no_index (OfNat.ofNat n) : Int32) = o32 (a + OfNat.ofNat n) := (Int32.ofNat_add a n).symm
theorem o_lm (n a : Nat) : (no_index (OfNat.ofNat n) : Int32) * o32 a = o32 (OfNat.ofNat n * a) := (Int32.ofNat_mul n a).symm
theorem o_p1 {a : Nat} (h : 1 ≤ a) : o32 a - 1 = o32 (a - 1) := (Int32.ofNat_sub a 1 h).symm
theorem o_nn (a : Nat) (h : a < 2147483648) : ¬ (o32 a < 0) := by
  show ¬ (o32 a < o32 0)
  rw [o_lt h (by decide)]
  exact Nat.not_lt_zero a
theorem o_ge0 (a : Nat) (h : a < 2147483648) : (0 : Int32) ≤ o32 a := by
  show o32 0 ≤ o32 a
  rw [o_le (by decide) h]
  exact Nat.zero_le a
theorem gi_o {α : Type} {k n : Nat} {x : Option α} (h : k < n) (hn : n < 2147483648) : gi (o32 k) n x = x := by
  unfold gi
  rw [if_neg]
  rintro (h1 | h1)
  · exact o_nn k (by omega) h1
  · rw [o_cl (by omega)] at h1
    omega
theorem gi_l {α : Type} {k n : Nat} {x : Option α} (h : k < n) (hn : n < 2147483648) : gi (no_index (OfNat.ofNat k) : Int32) n x = x := gi_o h hn
theorem i_ge {α : Type} {n k : Nat} {a b : α} (h : k < n) (hn : n < 2147483648) : (if o32 n ≤ o32 k then a else b) = b := by
  rw [if_neg]
  rw [o_le hn (by omega)]
  omega
theorem i_le {α : Type} {n k : Nat} {a b : α} (h : n ≤ k) (hn : k < 2147483648) : (if o32 n ≤ o32 k then a else b) = a := by
  rw [if_pos]
  rw [o_le (by omega) hn]
  exact h
theorem o_shl {k : Nat} (h : k < 31) : (1 : Int32) <<< (o32 k &&& 31) = o32 (2 ^ k) := by
  have h1 : ∀ k : Fin 31, (1 : Int32) <<< (o32 k.val &&& 31) = o32 (2 ^ k.val) := by decide +kernel
  exact h1 ⟨k, h⟩
theorem o_or (a b : Nat) : o32 a ||| o32 b = o32 (a ||| b) := Int32.toBitVec.inj (BitVec.ofNat_or (w := 32) (x := a) (y := b)).symm
theorem o_and (a b : Nat) : o32 a &&& o32 b = o32 (a &&& b) := Int32.toBitVec.inj (BitVec.ofNat_and (w := 32) (x := a) (y := b)).symm
theorem o_xor (a b : Nat) : o32 a ^^^ o32 b = o32 (a ^^^ b) := Int32.toBitVec.inj (BitVec.ofNat_xor (w := 32) (x := a) (y := b)).symm
theorem and1 (x : Int32) : x &&& 1 = 0 ∨ x &&& 1 = 1 := by
  have h : (x &&& 1).toBitVec = x.toBitVec &&& 1#32 := rfl
  rw [BitVec.and_one_eq_setWidth_ofBool_getLsbD] at h
  cases hb : x.toBitVec.getLsbD 0 with
  | false => rw [hb] at h; exact Or.inl (Int32.toBitVec.inj h)
  | true => rw [hb] at h; exact Or.inr (Int32.toBitVec.inj h)
/-- bit k of a set -/
def bt (x k : Int32) : Prop := ¬ ((x >>> (k &&& 31)) &&& 1) = 0
theorem hs_0 (x k : Int32) : (X11_has x k = 0) = ¬ bt x k := by
  unfold X11_has bt
  rcases and1 (x >>> (k &&& 31)) with h | h
  · rw [h]; decide
  · rw [h]; decide
theorem hs_1 (x k : Int32) : X11_has x k = if ((x >>> (k &&& 31)) &&& 1) = 0 then 0 else 1 := by
  unfold X11_has
  rcases and1 (x >>> (k &&& 31)) with h | h
  · rw [h]; decide
  · rw [h]; decide
/-- a set of those below n -/
def bs (n : Nat) (x : Int32) : Prop := ∃ q : Nat, q < 2 ^ n ∧ x = o32 q
theorem bs_0 (n : Nat) : bs n 0 := ⟨0, Nat.two_pow_pos n, rfl⟩
theorem bs_or {n : Nat} {x y : Int32} (hx : bs n x) (hy : bs n y) : bs n (x ||| y) := by
  obtain ⟨a, ha, rfl⟩ := hx
  obtain ⟨b, hb, rfl⟩ := hy
  exact ⟨a ||| b, Nat.or_lt_two_pow ha hb, o_or a b⟩
theorem bs_xor {n : Nat} {x y : Int32} (hx : bs n x) (hy : bs n y) : bs n (x ^^^ y) := by
  obtain ⟨a, ha, rfl⟩ := hx
  obtain ⟨b, hb, rfl⟩ := hy
  exact ⟨a ^^^ b, Nat.xor_lt_two_pow ha hb, o_xor a b⟩
theorem bs_1 {n k : Nat} (h : k < n) (hn : n < 32) : bs n ((1 : Int32) <<< (o32 k &&& 31)) := by
  rw [o_shl (by omega)]
  exact ⟨2 ^ k, Nat.pow_lt_pow_right (by decide) h, rfl⟩
theorem bs_mono {n m : Nat} {x : Int32} (h : bs n x) (hm : n ≤ m) : bs m x := by
  obtain ⟨a, ha, rfl⟩ := h
  exact ⟨a, Nat.lt_of_lt_of_le ha (Nat.pow_le_pow_right (by decide) hm), rfl⟩
/-! loops -/
theorem lp_e {α β : Type} {f : α → Option (α ⊕ β)} {x : α} {z : β} (n : Nat) (h : f x = some (.inr z)) : lp f (n + 1) x = some z := by
  unfold lp
  rw [h]
theorem lp_c {α β : Type} {f : α → Option (α ⊕ β)} {x y : α} (n : Nat) (h : f x = some (.inl y)) : lp f (n + 1) x = lp f n y := by
  rw [lp, h]
theorem lp_run {α β : Type} {f : α → Option (α ⊕ β)} {r : β} (st : Nat → α) : ∀ (d a fuel : Nat), (∀ k, a ≤ k → k < a + d → f (st k) = some (.inl (st (k + 1)))) → f (st (a + d)) = some (.inr r) → d < fuel → lp f fuel (st a) = some r
  | 0, a, fuel, _, he, hf => by
    obtain ⟨n, rfl⟩ : ∃ n, fuel = n + 1 := ⟨fuel - 1, by omega⟩
    exact lp_e n he
  | d + 1, a, fuel, hs, he, hf => by
    obtain ⟨n, rfl⟩ : ∃ n, fuel = n + 1 := ⟨fuel - 1, by omega⟩
    rw [lp_c n (hs a (Nat.le_refl a) (by omega))]
    refine lp_run st d (a + 1) n (fun k h1 h2 => hs k (by omega) (by omega)) ?_ (by omega)
    rw [show a + 1 + d = a + (d + 1) by omega]
    exact he
theorem lp_inv {α β : Type} {f : α → Option (α ⊕ β)} (I : Nat → α → Prop) (P : β → Prop) : ∀ (d a fuel : Nat) (x : α), (∀ k x, a ≤ k → k ≤ a + d → I k x → (∃ z, f x = some (.inr z) ∧ P z) ∨ (k < a + d ∧ ∃ y, f x = some (.inl y) ∧ I (k + 1) y)) → I a x → d < fuel → ∃ z, lp f fuel x = some z ∧ P z
  | 0, a, fuel, x, hs, hI, hf => by
    obtain ⟨n, rfl⟩ : ∃ n, fuel = n + 1 := ⟨fuel - 1, by omega⟩
    rcases hs a x (Nat.le_refl a) (Nat.le_refl _) hI with ⟨z, h1, h2⟩ | ⟨h, _⟩
    · exact ⟨z, lp_e n h1, h2⟩
    · omega
  | d + 1, a, fuel, x, hs, hI, hf => by
    obtain ⟨n, rfl⟩ : ∃ n, fuel = n + 1 := ⟨fuel - 1, by omega⟩
    rcases hs a x (Nat.le_refl a) (by omega) hI with ⟨z, h1, h2⟩ | ⟨h, y, h1, h2⟩
    · exact ⟨z, lp_e n h1, h2⟩
    · rw [lp_c n h1]
      refine lp_inv I P d (a + 1) n y (fun k x h3 h4 h5 => ?_) h2 (by omega)
      rcases hs k x (by omega) (by omega) h5 with h6 | ⟨h6, h7⟩
      · exact Or.inl h6
      · exact Or.inr ⟨by omega, h7⟩
/-- two loops side by side -/
theorem lp_two {α β α' β' : Type} {f : α → Option (α ⊕ β)} {f' : α' → Option (α' ⊕ β')} (I : Nat → α → α' → Prop) (P : β → β' → Prop) : ∀ (d a fuel fuel' : Nat) (x : α) (x' : α'), (∀ k x x', a ≤ k → k ≤ a + d → I k x x' → (∃ z z', f x = some (.inr z) ∧ f' x' = some (.inr z') ∧ P z z') ∨ (k < a + d ∧ ∃ y y', f x = some (.inl y) ∧ f' x' = some (.inl y') ∧ I (k + 1) y y')) → I a x x' → d < fuel → d < fuel' → ∃ z z', lp f fuel x = some z ∧ lp f' fuel' x' = some z' ∧ P z z'
  | 0, a, fuel, fuel', x, x', hs, hI, hf, hf' => by
    obtain ⟨n, rfl⟩ : ∃ n, fuel = n + 1 := ⟨fuel - 1, by omega⟩
    obtain ⟨n', rfl⟩ : ∃ n, fuel' = n + 1 := ⟨fuel' - 1, by omega⟩
    rcases hs a x x' (Nat.le_refl a) (Nat.le_refl _) hI with ⟨z, z', h1, h1', h2⟩ | ⟨h, _⟩
    · exact ⟨z, z', lp_e n h1, lp_e n' h1', h2⟩
    · omega
  | d + 1, a, fuel, fuel', x, x', hs, hI, hf, hf' => by
    obtain ⟨n, rfl⟩ : ∃ n, fuel = n + 1 := ⟨fuel - 1, by omega⟩
    obtain ⟨n', rfl⟩ : ∃ n, fuel' = n + 1 := ⟨fuel' - 1, by omega⟩
    rcases hs a x x' (Nat.le_refl a) (by omega) hI with ⟨z, z', h1, h1', h2⟩ | ⟨h, y, y', h1, h1', h2⟩
    · exact ⟨z, z', lp_e n h1, lp_e n' h1', h2⟩
    · rw [lp_c n h1, lp_c n' h1']
      refine lp_two I P d (a + 1) n n' y y' (fun k x x' h3 h4 h5 => ?_) h2 (by omega) (by omega)
      rcases hs k x x' (by omega) (by omega) h5 with h6 | ⟨h6, h7⟩
      · exact Or.inl h6
      · exact Or.inr ⟨by omega, h7⟩
