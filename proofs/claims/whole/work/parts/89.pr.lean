/-! ===== the pure level: the reference reads a rule as the common reader ===== -/
def wrx (r : Bool × Nat × List Nat) : Int32 := if r.1 = true then -1 else o32 r.2.1
def RaP (isA : Int32) (asked : Nat → Int32) (i : Nat) (r : Bool × Nat × List Nat) (y : Option (Int32 × Int32 × Int32)) : Prop := ∃ v, y = some (v, o32 r.2.1, wrx r) ∧ i ≤ r.2.1 ∧ r.2.1 ≤ 40 ∧ (r.1 = true → i < r.2.1 ∧ (isA = 1 → PVc asked r.2.2 v))
theorem opx_b (x : Nat) : opx x ≤ 7 := by
  unfold opx
  repeat (split; omega)
  omega
section RAS
variable {L nv : Nat} {read : Nat → Int32} {h : Nat → Nat} {isA : Int32} {asked : Nat → Int32}
theorem L_pl (hr : RdH L nv read h) {o : Nat → Bool} (ho : ∀ x, o x = true → x < 256 ∧ 1 ≤ opx x) {q : Nat → Bool × Nat × List Nat} {rec : Nat → Option (Int32 × Int32 × Int32)} {F : Int32 × Int32 × Int32 → Option ((Int32 × Int32 × Int32) ⊕ (Int32 × Int32 × Int32))}
    {i0 : Nat} (hq : ∀ j, i0 ≤ j → j < 40 → RaP isA asked (j + 1) (q (j + 1)) (rec (j + 1)))
    (F1 : ∀ v j, j ≤ 40 → o (h j) = false → F (v, o32 j, -1) = some (.inr (v, o32 j, -1)))
    (F2 : ∀ v j v2 a w, j < 40 → o (h j) = true → rec (j + 1) = some (v2, a, w) → F (v, o32 j, -1) = some (.inl (JOv (opx (h j) - 1) v v2, a, w)))
    (F3 : ∀ v a w, w < 100 → F (v, a, o32 w) = some (.inr (v, a, o32 w))) : ∀ (m : Nat) (r : Bool × Nat × List Nat) (v : Int32) (fuel : Nat), i0 ≤ r.2.1 → r.2.1 ≤ 40 → 40 - r.2.1 < m → m ≤ fuel → (r.1 = true → isA = 1 → PVc asked r.2.2 v) → ∃ v', lp F fuel (v, o32 r.2.1, wrx r) = some (v', o32 (PDl h o q m r).2.1, wrx (PDl h o q m r)) ∧ r.2.1 ≤ (PDl h o q m r).2.1 ∧ (PDl h o q m r).2.1 ≤ 40 ∧ ((PDl h o q m r).1 = true → r.1 = true ∧ (isA = 1 → PVc asked (PDl h o q m r).2.2 v'))
  | 0, r, v, fuel, hi0, h40, hm, hf, hv => by omega
  | m + 1, r, v, fuel, hi0, h40, hm, hf, hv => by
    obtain ⟨g, rfl⟩ : ∃ g, fuel = g + 1 := ⟨fuel - 1, by omega⟩
    by_cases c : r.1 = true ∧ o (h r.2.1) = true
    · have eP : PDl h o q (m + 1) r = PDl h o q m ((q (r.2.1 + 1)).1, (q (r.2.1 + 1)).2.1, r.2.2 ++ (q (r.2.1 + 1)).2.2 ++ [1999 + opx (h r.2.1)]) := if_pos c
      have hlt := hr.lt (show r.2.1 < 100 by omega) (ho _ c.2).1
      obtain ⟨v2, e2, b1, b2, b3⟩ := hq r.2.1 hi0 hlt
      have ew : wrx r = -1 := if_pos c.1
      have hop := (ho _ c.2).2
      have hop7 := opx_b (h r.2.1)
      have st := F2 v r.2.1 v2 _ _ hlt c.2 e2
      rw [eP]
      obtain ⟨v', e', d1, d2, d3⟩ := L_pl hr ho hq F1 F2 F3 m ((q (r.2.1 + 1)).1, (q (r.2.1 + 1)).2.1, r.2.2 ++ (q (r.2.1 + 1)).2.2 ++ [1999 + opx (h r.2.1)]) (JOv (opx (h r.2.1) - 1) v v2) g (by show i0 ≤ (q (r.2.1 + 1)).2.1; omega) b2 (by show 40 - (q (r.2.1 + 1)).2.1 < m; omega) (by omega) (fun c1 c2 => by
        have h1 := hv c.1 c2
        have h2 := (b3 c1).2 c2
        have h3 := PVc.bin h1 h2 (e := 1999 + opx (h r.2.1)) (by omega) (by omega)
        rw [show 1999 + opx (h r.2.1) - 2000 = opx (h r.2.1) - 1 by omega] at h3
        exact h3)
      refine ⟨v', ?_, by have d1 : (q (r.2.1 + 1)).2.1 ≤ _ := d1; omega, d2, fun hk => ⟨c.1, (d3 hk).2⟩⟩
      rw [ew]
      exact (lp_c g st).trans e'
    · have eP : PDl h o q (m + 1) r = r := if_neg c
      rw [eP]
      by_cases c1 : r.1 = true
      · have c2 : o (h r.2.1) = false := by
          cases hh : o (h r.2.1) with
          | false => rfl
          | true => exact absurd ⟨c1, hh⟩ c
        have ew : wrx r = -1 := if_pos c1
        rw [ew]
        exact ⟨v, lp_e g (F1 v r.2.1 h40 c2), Nat.le_refl _, h40, fun hk => ⟨hk, hv hk⟩⟩
      · have ew : wrx r = o32 r.2.1 := if_neg c1
        rw [ew]
        exact ⟨v, lp_e g (F3 v _ r.2.1 (by omega)), Nat.le_refl _, h40, fun hk => absurd hk c1⟩
end RAS
