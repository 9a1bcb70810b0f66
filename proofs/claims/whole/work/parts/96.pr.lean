/-! ===== the pure level: the class's loop over a rule's signs ===== -/
section RLS
variable {t : Nat} {c : Nat → Nat} {signs text : Nat → Int32}
theorem L_fs0 (hT : TC t c signs text) {i : Nat} (hi : i < t) (hi4 : i < 40) {W dp m d z : Int32} {a code : Nat → Int32} {y : Int32 × Int32 × Int32 × Int32 × Int32 × Int32 × (Nat → Int32) × Int32 × (Nat → Int32)} (hb : X6_begins W dp m d 0 a z code (o32 (c i)) = some y) : X6_faultIn_s32 80 signs (o32 t) (o32 i) W dp m d 0 a z code = if y.1 = 0 then some (.inr (.inr (o32 i, y.2.1, y.2.2.1, y.2.2.2.1, y.2.2.2.2.1, y.2.2.2.2.2.1, y.2.2.2.2.2.2.1, y.2.2.2.2.2.2.2.1, y.2.2.2.2.2.2.2.2))) else some (.inl (o32 (i + 1), y.2.1, y.2.2.1, y.2.2.2.1, y.2.2.2.2.1, y.2.2.2.2.2.1, y.2.2.2.2.2.2.1, y.2.2.2.2.2.2.2.1, y.2.2.2.2.2.2.2.2)) := by
  have ht := hT.1
  have es := (hT.2 i (by omega)).2.1
  unfold X6_faultIn_s32 X6_faultIn_k80
  rw [i_ge hi (by omega), show (40 : Int32) = o32 40 from rfl, i_ge hi4 (by decide), show Int32.ofNat 80 = o32 80 from rfl, i_ge (show i < 80 by omega) (by decide), if_pos rfl, gi_o (by omega) (by decide), o_cl (by omega), es, hb, Option.bind_some, o_s]
theorem L_fs1 (hT : TC t c signs text) {i : Nat} (hi : i < t) (hi4 : i < 40) {W dp m d z : Int32} {a code : Nat → Int32} {y : Int32 × Int32 × Int32 × Int32 × Int32 × Int32 × (Nat → Int32) × Int32 × (Nat → Int32)} (hb : X6_goesBehind W dp m d 1 a z code (o32 (c i)) = some y) : X6_faultIn_s32 80 signs (o32 t) (o32 i) W dp m d 1 a z code = if y.1 = 0 then some (.inr (.inr (o32 i, y.2.1, y.2.2.1, y.2.2.2.1, y.2.2.2.2.1, y.2.2.2.2.2.1, y.2.2.2.2.2.2.1, y.2.2.2.2.2.2.2.1, y.2.2.2.2.2.2.2.2))) else some (.inl (o32 (i + 1), y.2.1, y.2.2.1, y.2.2.2.1, y.2.2.2.2.1, y.2.2.2.2.2.1, y.2.2.2.2.2.2.1, y.2.2.2.2.2.2.2.1, y.2.2.2.2.2.2.2.2)) := by
  have ht := hT.1
  have es := (hT.2 i (by omega)).2.1
  unfold X6_faultIn_s32 X6_faultIn_k80
  rw [i_ge hi (by omega), show (40 : Int32) = o32 40 from rfl, i_ge hi4 (by decide), show Int32.ofNat 80 = o32 80 from rfl, i_ge (show i < 80 by omega) (by decide), if_neg (show ¬ (1 : Int32) = 0 by decide), gi_o (by omega) (by decide), o_cl (by omega), es, hb, Option.bind_some, o_s]
theorem L_fse (hT : TC t c signs text) {i : Nat} (hi : ¬ (i < t ∧ i < 40)) (hi8 : i < 80) {W dp m d ht z : Int32} {a code : Nat → Int32} : X6_faultIn_s32 80 signs (o32 t) (o32 i) W dp m d ht a z code = some (.inr (.inl (W, dp, m, d, ht, a, z, code))) := by
  have ht2 := hT.1
  unfold X6_faultIn_s32
  rcases Nat.lt_or_ge i t with c1 | c1
  · rw [i_ge c1 (by omega), show (40 : Int32) = o32 40 from rfl, i_le (by omega) (by omega)]
  · rw [i_le c1 (by omega)]
end RLS
