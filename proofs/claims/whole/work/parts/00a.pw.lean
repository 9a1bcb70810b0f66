/-! ===== loops and guards of the pure words ===== -/
def lp {α β : Type} (f : α → Option (α ⊕ β)) : Nat → α → Option β
  | 0, _ => none
  | n + 1, x => match f x with
    | none => none
    | some (.inl y) => lp f n y
    | some (.inr z) => some z
theorem lp_zero {α β : Type} {f : α → Option (α ⊕ β)} {x : α} {y : β} {C : Prop} (h : lp f 0 x = some y) : C := by cases h
theorem lp_succ {α β : Type} {f : α → Option (α ⊕ β)} {n : Nat} {x : α} {y : β} (h : lp f (n + 1) x = some y) : ∃ z, f x = some z ∧ ((∀ x', z = .inl x' → lp f n x' = some y) ∧ ∀ y', z = .inr y' → y' = y) := by
  unfold lp at h
  cases hf : f x with
  | none => rw [hf] at h; cases h
  | some z =>
    rw [hf] at h
    refine ⟨z, rfl, fun x' e => ?_, fun y' e => ?_⟩
    · subst e; exact h
    · subst e; exact Option.some.inj h
/-- an index within a row of n -/
def gi {α : Type} (i : Int32) (n : Nat) (x : Option α) : Option α := if i < 0 ∨ n ≤ i.toNatClampNeg then none else x
theorem gi_some {α : Type} {i : Int32} {n : Nat} {x : Option α} {r : α} (h : gi i n x = some r) : vp_in i n ∧ x = some r := by
  unfold gi at h
  split at h
  · cases h
  · rename_i h1
    exact ⟨h1, h⟩
/-- a divisor that isn't 0 -/
def gz {α : Type} (y : Int32) (x : Option α) : Option α := if y = 0 then none else x
theorem gz_some {α : Type} {y : Int32} {x : Option α} {r : α} (h : gz y x = some r) : ¬ y = 0 ∧ x = some r := by
  unfold gz at h
  split at h
  · cases h
  · rename_i h1
    exact ⟨h1, h⟩
def gzl {α : Type} (y : Int64) (x : Option α) : Option α := if y = 0 then none else x
theorem gzl_some {α : Type} {y : Int64} {x : Option α} {r : α} (h : gzl y x = some r) : ¬ y = 0 ∧ x = some r := by
  unfold gzl at h
  split at h
  · cases h
  · rename_i h1
    exact ⟨h1, h⟩
theorem it_pos {α : Type} {c : Prop} {_ : Decidable c} {a b r : α} (hc : c) (h : (if c then a else b) = r) : a = r := by rw [if_pos hc] at h; exact h
theorem it_neg {α : Type} {c : Prop} {_ : Decidable c} {a b r : α} (hc : ¬ c) (h : (if c then a else b) = r) : b = r := by rw [if_neg hc] at h; exact h
def sm {α β γ : Type} (y : α ⊕ β) (f : α → γ) (g : β → γ) : γ := match y with
  | .inl a => f a
  | .inr b => g b
theorem sm_l {α β γ : Type} {a : α} {f : α → γ} {g : β → γ} {r : γ} (h : sm (.inl a) f g = r) : f a = r := h
theorem sm_r {α β γ : Type} {b : β} {f : α → γ} {g : β → γ} {r : γ} (h : sm (.inr b) f g = r) : g b = r := h
/-- a pair's two parts, named -/
def un {α β γ : Type} (f : α → β → γ) (p : α × β) : γ := f p.1 p.2
theorem un_r {α β γ : Type} {f : α → β → γ} {a : α} {b : β} {r : γ} (h : un f (a, b) = r) : f a b = r := h
abbrev irem (x y : Int32) : Int32 := x - x / y * y
abbrev lrem (x y : Int64) : Int64 := x - x / y * y
abbrev iushr (x y : Int32) : Int32 := (x.toUInt32 >>> (y.toUInt32 &&& Int32.toUInt32 31)).toInt32
/-- an int that a smaller type keeps as it is -/
def gn {α : Type} (ty : FieldType) (v : Int32) (x : Option α) : Option α := if narrow ty (.int v) = .int v then x else none
theorem gn_some {α : Type} {ty : FieldType} {v : Int32} {x : Option α} {r : α} (h : gn ty v x = some r) : narrow ty (.int v) = .int v ∧ x = some r := by
  unfold gn at h
  split at h
  · rename_i h1
    exact ⟨h1, h⟩
  · cases h
theorem gn_nar {ty : FieldType} {v : Int32} (h : narrow ty (.int v) = .int v) : narrow ty (.int v) = .int v := h
theorem tb_neg {x : Int32} {lo hi : Int} (h : ∀ k : Int, lo ≤ k → k ≤ hi → ¬ x = Int32.ofInt k) : x.toInt < lo ∨ hi < x.toInt := by
  by_cases h1 : x.toInt < lo
  · exact Or.inl h1
  · by_cases h2 : hi < x.toInt
    · exact Or.inr h2
    · exact absurd (Int32.ofInt_toInt x).symm (h x.toInt (by omega) (by omega))
theorem bd_some {α β : Type} {x : Option α} {f : α → Option β} {r : β} (h : x.bind f = some r) : ∃ y, x = some y ∧ f y = some r := by
  cases x with
  | none => cases h
  | some y => exact ⟨y, rfl, h⟩
/-- a row of things, one of them another -/
def fu {α : Type} (f : Nat → α) (k : Nat) (x : α) : Nat → α := fun j => if j = k then x else f j
theorem vp_lt {i : Int32} {n : Nat} (h : vp_in i n) : i.toNatClampNeg < n := Nat.lt_of_not_le (fun h1 => h (Or.inr h1))
theorem lt2 {n : Nat} (h : n < 2) : n = 0 ∨ n = 1 := by omega
theorem lt13 {n : Nat} (h : n < 13) : n = 0 ∨ n = 1 ∨ n = 2 ∨ n = 3 ∨ n = 4 ∨ n = 5 ∨ n = 6 ∨ n = 7 ∨ n = 8 ∨ n = 9 ∨ n = 10 ∨ n = 11 ∨ n = 12 := by omega
