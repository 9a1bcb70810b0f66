/-! ===== the pure level: the class reads a number ===== -/
def HSx (t : Nat) (c : Nat → Nat) (i : Nat) : Nat := if i < t ∧ i < 40 then c i else 999
theorem HSx_d {t i : Nat} {c : Nat → Nat} (h : dgx (HSx t c i) = true) : i < t ∧ i < 40 ∧ c i = HSx t c i := by
  unfold HSx at *
  by_cases e : i < t ∧ i < 40
  · rw [if_pos e]; exact ⟨e.1, e.2, rfl⟩
  · rw [if_neg e] at h; exact absurd h (by decide)
section RNS
variable {t : Nat} {c : Nat → Nat} {signs text : Nat → Int32}
abbrev fIn (t : Nat) (signs : Nat → Int32) : Int32 × Int32 × Int32 × Int32 × Int32 × Int32 × (Nat → Int32) × Int32 × (Nat → Int32) → Option ((Int32 × Int32 × Int32 × Int32 × Int32 × Int32 × (Nat → Int32) × Int32 × (Nat → Int32)) ⊕ ((Int32 × Int32 × Int32 × Int32 × Int32 × (Nat → Int32) × Int32 × (Nat → Int32)) ⊕ (Int32 × Int32 × Int32 × Int32 × Int32 × Int32 × (Nat → Int32) × Int32 × (Nat → Int32)))) := fun x32 => X6_faultIn_s32 80 signs (o32 t) x32.1 x32.2.1 x32.2.2.1 x32.2.2.2.1 x32.2.2.2.2.1 x32.2.2.2.2.2.1 x32.2.2.2.2.2.2.1 x32.2.2.2.2.2.2.2.1 x32.2.2.2.2.2.2.2.2
theorem L_num (hT : TC t c signs text) {i p : Nat} {s g : List Nat} {a code : Nat → Int32} (hd : dgx (HSx t c i) = true) (hw : WtR a s) (hc : CdR code g) (hs : s.length < 40) (hg : g.length < 40) (hp : p ≤ 4) (m d : Int32) (F : Nat) : ∃ code', lp (fIn t signs) (F + 3) (o32 i, o32 s.length, o32 p, m, d, (0 : Int32), a, o32 g.length, code) = lp (fIn t signs) (F + 3 - nmk (HSx t c) i) (o32 (i + nmk (HSx t c) i), o32 s.length, o32 p, m, o32 (nmk (HSx t c) i), (1 : Int32), a, o32 (g ++ [nmv (HSx t c) i]).length, code') ∧ CdR code' (g ++ [nmv (HSx t c) i]) := by
  obtain ⟨i1, i2, ic⟩ := HSx_d hd
  have hx := (hT.2 i (by omega)).1
  have hdc : dgx (c i) = true := by rw [ic]; exact hd
  have hb : X6_begins (o32 s.length) (o32 p) m d 0 a (o32 g.length) code (o32 (c i)) = some ((1 : Int32), o32 s.length, o32 p, m, (1 : Int32), (1 : Int32), a, o32 (g ++ [c i - 48]).length, upd code g.length (o32 (c i - 48))) := by
    have hd2 := of_decide_eq_true hdc
    rcases L_beg hx hw hc hs hg hp m d 0 with ⟨h, -⟩ | ⟨h, -⟩ | ⟨-, h⟩ | ⟨-, h, -⟩ | ⟨-, h, -⟩
    · omega
    · omega
    · exact h
    · rw [h] at hdc; cases hdc
    · rw [h] at hdc; cases hdc
  have hc1 := (hc.ad hg (c i - 48)).2
  have s1 : fIn t signs (o32 i, o32 s.length, o32 p, m, d, (0 : Int32), a, o32 g.length, code) = some (.inl (o32 (i + 1), o32 s.length, o32 p, m, (1 : Int32), (1 : Int32), a, o32 (g ++ [c i - 48]).length, upd code g.length (o32 (c i - 48)))) := by
    show X6_faultIn_s32 80 signs (o32 t) (o32 i) (o32 s.length) (o32 p) m d 0 a (o32 g.length) code = _
    rw [L_fs0 hT i1 i2 hb, if_neg (show ¬ (1 : Int32) = 0 by decide)]
  have r1 := lp_c (F + 2) s1
  cases d1 : dgx (HSx t c (i + 1)) with
  | false =>
    have ek : nmk (HSx t c) i = 1 := by unfold nmk; rw [d1, if_neg (by decide)]
    have ev : nmv (HSx t c) i = c i - 48 := by unfold nmv; rw [d1, if_neg (by decide), ic]
    rw [ek, ev]
    exact ⟨_, r1, hc1⟩
  | true =>
    obtain ⟨j1, j2, jc⟩ := HSx_d d1
    have hdc1 : dgx (c (i + 1)) = true := by rw [jc]; exact d1
    obtain ⟨g2, hc2⟩ := L_gdg (a := a) (s := s) hdc1 hc1 hg (k := 1) (by decide) (by decide) (o32 p) m 1
    have s2 : fIn t signs (o32 (i + 1), o32 s.length, o32 p, m, (1 : Int32), (1 : Int32), a, o32 (g ++ [c i - 48]).length, upd code g.length (o32 (c i - 48))) = some (.inl (o32 (i + 2), o32 s.length, o32 p, m, o32 2, (1 : Int32), a, o32 (g ++ [10 * (c i - 48) + (c (i + 1) - 48)]).length, upd (upd code g.length (o32 (c i - 48))) g.length (o32 (10 * (c i - 48) + (c (i + 1) - 48))))) := by
      show X6_faultIn_s32 80 signs (o32 t) (o32 (i + 1)) (o32 s.length) (o32 p) m (o32 1) 1 a _ _ = _
      rw [L_fs1 hT j1 j2 g2, if_neg (show ¬ (1 : Int32) = 0 by decide)]
    have r2 := r1.trans (lp_c (F + 1) s2)
    cases d2 : dgx (HSx t c (i + 2)) with
    | false =>
      have ek : nmk (HSx t c) i = 2 := by unfold nmk; rw [d1, d2, if_pos rfl, if_neg (by decide)]
      have ev : nmv (HSx t c) i = 10 * (c i - 48) + (c (i + 1) - 48) := by unfold nmv; rw [d1, d2, if_pos rfl, if_neg (by decide), ic, jc]
      rw [ek, ev]
      exact ⟨_, r2, hc2⟩
    | true =>
      obtain ⟨k1, k2, kc⟩ := HSx_d d2
      have hdc2 : dgx (c (i + 2)) = true := by rw [kc]; exact d2
      obtain ⟨g3, hc3⟩ := L_gdg (a := a) (s := s) hdc2 hc2 hg (k := 2) (by decide) (by decide) (o32 p) m 1
      have s3 : fIn t signs (o32 (i + 2), o32 s.length, o32 p, m, o32 2, (1 : Int32), a, o32 (g ++ [10 * (c i - 48) + (c (i + 1) - 48)]).length, upd (upd code g.length (o32 (c i - 48))) g.length (o32 (10 * (c i - 48) + (c (i + 1) - 48)))) = some (.inl (o32 (i + 3), o32 s.length, o32 p, m, o32 3, (1 : Int32), a, o32 (g ++ [10 * (10 * (c i - 48) + (c (i + 1) - 48)) + (c (i + 2) - 48)]).length, upd (upd (upd code g.length (o32 (c i - 48))) g.length (o32 (10 * (c i - 48) + (c (i + 1) - 48)))) g.length (o32 (10 * (10 * (c i - 48) + (c (i + 1) - 48)) + (c (i + 2) - 48))))) := by
        show X6_faultIn_s32 80 signs (o32 t) (o32 (i + 2)) (o32 s.length) (o32 p) m (o32 2) 1 a _ _ = _
        rw [L_fs1 hT k1 k2 g3, if_neg (show ¬ (1 : Int32) = 0 by decide)]
      have r3 := r2.trans (lp_c F s3)
      have ek : nmk (HSx t c) i = 3 := by unfold nmk; rw [d1, d2, if_pos rfl, if_pos rfl]
      have ev : nmv (HSx t c) i = 10 * (10 * (c i - 48) + (c (i + 1) - 48)) + (c (i + 2) - 48) := by
        unfold nmv; rw [d1, d2, if_pos rfl, if_pos rfl, ← ic, ← jc, ← kc]; omega
      rw [ek, ev]
      exact ⟨_, r3, hc3⟩
end RNS
