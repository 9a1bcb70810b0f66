/-! ===== the pure level: literals ===== -/
theorem tl0 : (Int32.toNatClampNeg 0) = 0 := by decide
theorem tl1 : (Int32.toNatClampNeg 1) = 1 := by decide
theorem tl2 : (Int32.toNatClampNeg 2) = 2 := by decide
theorem tl3 : (Int32.toNatClampNeg 3) = 3 := by decide
theorem tl4 : (Int32.toNatClampNeg 4) = 4 := by decide
theorem tl5 : (Int32.toNatClampNeg 5) = 5 := by decide
theorem tl6 : (Int32.toNatClampNeg 6) = 6 := by decide
theorem tl7 : (Int32.toNatClampNeg 7) = 7 := by decide
theorem tl8 : (Int32.toNatClampNeg 8) = 8 := by decide
theorem tl9 : (Int32.toNatClampNeg 9) = 9 := by decide
theorem tl14 : (Int32.toNatClampNeg 14) = 14 := by decide
theorem tl21 : (Int32.toNatClampNeg 21) = 21 := by decide
theorem tl28 : (Int32.toNatClampNeg 28) = 28 := by decide
theorem tl35 : (Int32.toNatClampNeg 35) = 35 := by decide
theorem tl36 : (Int32.toNatClampNeg 36) = 36 := by decide
theorem gl0 {α : Type} {x : Option α} : gi 0 7 x = x := gi_o (k := 0) (n := 7) (by decide) (by decide)
theorem gl1 {α : Type} {x : Option α} : gi 1 7 x = x := gi_o (k := 1) (n := 7) (by decide) (by decide)
theorem gl2 {α : Type} {x : Option α} : gi 2 7 x = x := gi_o (k := 2) (n := 7) (by decide) (by decide)
theorem gl3 {α : Type} {x : Option α} : gi 3 7 x = x := gi_o (k := 3) (n := 7) (by decide) (by decide)
theorem gl4 {α : Type} {x : Option α} : gi 4 7 x = x := gi_o (k := 4) (n := 7) (by decide) (by decide)
theorem gl5 {α : Type} {x : Option α} : gi 5 7 x = x := gi_o (k := 5) (n := 7) (by decide) (by decide)
theorem gl6 {α : Type} {x : Option α} : gi 6 7 x = x := gi_o (k := 6) (n := 7) (by decide) (by decide)
theorem gl35 {α : Type} {x : Option α} : gi 35 37 x = x := gi_o (k := 35) (n := 37) (by decide) (by decide)
theorem gl36 {α : Type} {x : Option α} : gi 36 37 x = x := gi_o (k := 36) (n := 37) (by decide) (by decide)
theorem gq3 {α : Type} {x : Option α} : gz 3 x = x := if_neg (by decide)
theorem gq4 {α : Type} {x : Option α} : gz 4 x = x := if_neg (by decide)
theorem gq7 {α : Type} {x : Option α} : gz 7 x = x := if_neg (by decide)
theorem gq10 {α : Type} {x : Option α} : gz 10 x = x := if_neg (by decide)
theorem gq40 {α : Type} {x : Option α} : gz 40 x = x := if_neg (by decide)
theorem pu_sb (b : Bool) (k : Int32) : (if b = true then (1 : Int32) else 0) <<< (k &&& 31) = if b = false then (0 : Int32) else (1 : Int32) <<< (k &&& 31) := by
  cases b
  · exact sh_b (Or.inl rfl) k
  · rfl
