abbrev oX0 (a : Nat) (v0 v1 v2 v3 v4 v5 v6 v7 : Value) : Nat × va_E := (a, .inr (0, [v0, v1, v2, v3, v4, v5, v6, v7]))
abbrev oX1 (a : Nat) (v0 v1 v2 : Value) : Nat × va_E := (a, .inr (1, [v0, v1, v2]))
abbrev oX2 (a : Nat) (v0 v1 : Value) : Nat × va_E := (a, .inr (2, [v0, v1]))
abbrev oX3 (a : Nat) (v0 v1 v2 v3 v4 : Value) : Nat × va_E := (a, .inr (3, [v0, v1, v2, v3, v4]))
abbrev oX4 (a : Nat) (v0 v1 v2 v3 : Value) : Nat × va_E := (a, .inr (4, [v0, v1, v2, v3]))
abbrev oX5 (a : Nat) (v0 v1 v2 v3 : Value) : Nat × va_E := (a, .inr (5, [v0, v1, v2, v3]))
abbrev oX6 (a : Nat) (v0 v1 v2 v3 v4 v5 : Value) : Nat × va_E := (a, .inr (6, [v0, v1, v2, v3, v4, v5]))
abbrev oX7 (a : Nat) (v0 : Value) : Nat × va_E := (a, .inr (7, [v0]))
abbrev oX8 (a : Nat) (v0 v1 v2 v3 v4 : Value) : Nat × va_E := (a, .inr (8, [v0, v1, v2, v3, v4]))
abbrev oX9 (a : Nat) (v0 v1 : Value) : Nat × va_E := (a, .inr (9, [v0, v1]))
abbrev oX10 (a : Nat) (v0 v1 v2 v3 v4 v5 v6 v7 v8 v9 v10 v11 v12 : Value) : Nat × va_E := (a, .inr (10, [v0, v1, v2, v3, v4, v5, v6, v7, v8, v9, v10, v11, v12]))
abbrev oX11 (a : Nat) (v0 v1 v2 v3 v4 v5 v6 v7 v8 v9 v10 v11 v12 v13 v14 v15 v16 v17 v18 v19 v20 v21 v22 v23 v24 v25 v26 v27 v28 v29 v30 v31 v32 v33 v34 v35 v36 v37 v38 v39 v40 : Value) : Nat × va_E := (a, .inr (11, [v0, v1, v2, v3, v4, v5, v6, v7, v8, v9, v10, v11, v12, v13, v14, v15, v16, v17, v18, v19, v20, v21, v22, v23, v24, v25, v26, v27, v28, v29, v30, v31, v32, v33, v34, v35, v36, v37, v38, v39, v40]))
abbrev aB (cy : Nat → ClassId) (a n : Nat) (f : Nat → Int32) : Nat × va_E := (a, .inl (cy 0, n, .inl f))
abbrev aC (cy : Nat → ClassId) (a n : Nat) (f : Nat → Int32) : Nat × va_E := (a, .inl (cy 1, n, .inl f))
abbrev aI (cy : Nat → ClassId) (a n : Nat) (f : Nat → Int32) : Nat × va_E := (a, .inl (cy 2, n, .inl f))
abbrev aZ (cy : Nat → ClassId) (a n : Nat) (f : Nat → Int32) : Nat × va_E := (a, .inl (cy 4, n, .inl f))
abbrev aJ (cy : Nat → ClassId) (a n : Nat) (f : Nat → Int64) : Nat × va_E := (a, .inl (cy 3, n, .inr (.inl f)))
abbrev aF (cy : Nat → ClassId) (a n : Nat) (f : Nat → Option Nat) : Nat × va_E := (a, .inl (cy 5, n, .inr (.inr (.inr (.inr f)))))
theorem cnJ2_227 : Cond.constant RJ2 227 65536 ∈ lw_g := mgT 339 (by decide +kernel) rfl
theorem cnJ11_110 : Cond.constant RJ11 110 55232 ∈ lw_g := mgT 378 (by decide +kernel) rfl
theorem cnJ11_76 : Cond.constant RJ11 76 56320 ∈ lw_g := mgT 382 (by decide +kernel) rfl
theorem cnJ6_265 : Cond.constant RJ6 265 1431655765 ∈ lw_g := mgT 553 (by decide +kernel) rfl
theorem cnJ6_266 : Cond.constant RJ6 266 858993459 ∈ lw_g := mgT 554 (by decide +kernel) rfl
theorem cnJ6_267 : Cond.constant RJ6 267 252645135 ∈ lw_g := mgT 555 (by decide +kernel) rfl
theorem cnX10_369 : Cond.constant RX10 369 1103515245 ∈ lw_g := mgT 976 (by decide +kernel) rfl
theorem cnX11_307 : Cond.constant RX11 307 1000000 ∈ lw_g := mgT 1515 (by decide +kernel) rfl
theorem cnX11_348 : Cond.constantLong RX11 348 10 ∈ lw_g := mgT 1603 (by decide +kernel) rfl
theorem cnX11_366 : Cond.constant RX11 366 1103515245 ∈ lw_g := mgT 1640 (by decide +kernel) rfl
/-- a row of things, one of them another -/
def fu {α : Type} (f : Nat → α) (k : Nat) (x : α) : Nat → α := fun j => if j = k then x else f j
theorem vp_lt {i : Int32} {n : Nat} (h : vp_in i n) : i.toNatClampNeg < n := Nat.lt_of_not_le (fun h1 => h (Or.inr h1))
theorem lt2 {n : Nat} (h : n < 2) : n = 0 ∨ n = 1 := by omega
theorem lt13 {n : Nat} (h : n < 13) : n = 0 ∨ n = 1 ∨ n = 2 ∨ n = 3 ∨ n = 4 ∨ n = 5 ∨ n = 6 ∨ n = 7 ∨ n = 8 ∨ n = 9 ∨ n = 10 ∨ n = 11 ∨ n = 12 := by omega
