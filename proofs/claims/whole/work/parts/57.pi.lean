/-! ===== the pure level: saw, denies, laws, looks ===== -/
def SI (ss sm' : Int32) (sk wa wo sof sas : Nat → Int32) : Prop :=
  ∃ m, m ≤ 10 ∧ ss = o32 m ∧ sm' = o32 m ∧ ∀ k, k < m → ∃ s w b, s < 10 ∧ w < 7 ∧ b < 2 ∧ sk k = o32 s ∧ wa k = o32 w ∧ wo k = o32 b ∧ sof k = o32 (10 * s + w) ∧ sas k = o32 b
def RS (law s w : Nat) : Bool := decide (law % 10 < law / 40 * s + law / 10 % 4 * w)
theorem L_rs {law s w : Nat} (hl : law < 160) (hs : s < 10) (hw : w < 10) : X8_rouses (o32 law) (o32 s) (o32 w) = some (bi (RS law s w)) := by
  have e40 : (40 : Int32) = o32 40 := rfl
  have e10 : (10 : Int32) = o32 10 := rfl
  have e4 : (4 : Int32) = o32 4 := rfl
  have b1 : law / 40 * s ≤ 3 * 9 := Nat.mul_le_mul (by omega) (by omega)
  have b2 : law / 10 % 4 * w ≤ 3 * 9 := Nat.mul_le_mul (by omega) (by omega)
  unfold X8_rouses
  rw [gq40, gq10, gq4, gq10, e40, e10, e4, pu_div (by omega) (by decide) (by decide), pu_div (by omega) (by decide) (by decide), pu_mod (by omega) (by decide) (by decide), pu_mod (by omega) (by decide) (by decide), o_mul, o_mul, o_add]
  unfold RS
  by_cases h : law % 10 < law / 40 * s + law / 10 % 4 * w
  · rw [i_ge h (by omega)]; simp [h, bi]
  · rw [i_le (by omega) (by omega)]; simp [h, bi]
theorem L_lets {law ask : Nat} (hl : law < 160) (ha : ask < 100) : X11_lets (o32 law) (o32 ask) = some (bi (RS law (ask / 10) (ask % 10))) := by
  have e40 : (40 : Int32) = o32 40 := rfl
  have e10 : (10 : Int32) = o32 10 := rfl
  have e4 : (4 : Int32) = o32 4 := rfl
  have b1 : law / 40 * (ask / 10) ≤ 3 * 9 := Nat.mul_le_mul (by omega) (by omega)
  have b2 : law / 10 % 4 * (ask % 10) ≤ 3 * 9 := Nat.mul_le_mul (by omega) (by omega)
  unfold X11_lets
  rw [gq40, gq10, gq10, gq4, gq10, gq10, e40, e10, e4, pu_div (a := law) (d := 40) (by omega) (by decide) (by decide), pu_div (a := ask) (d := 10) (by omega) (by decide) (by decide), pu_div (a := law) (d := 10) (by omega) (by decide) (by decide), pu_mod (a := law / 10) (d := 4) (by omega) (by decide) (by decide), pu_mod (a := ask) (d := 10) (by omega) (by decide) (by decide), pu_mod (a := law) (d := 10) (by omega) (by decide) (by decide), o_mul, o_mul, o_add]
  unfold RS
  by_cases h : law % 10 < law / 40 * (ask / 10) + law / 10 % 4 * (ask % 10)
  · rw [i_ge h (by omega)]; simp [h, bi]
  · rw [i_le (by omega) (by omega)]; simp [h, bi]
/-- whether a law fits what was seen -/
def LW (sof sas : Nat → Int32) (m law : Nat) : Bool := al (fun k => RS law (nt (sof k) / 10) (nt (sof k) % 10) == decide (nt (sas k) = 1)) m
theorem bi_and (a b : Bool) : bi a &&& bi b = bi (a && b) := by cases a <;> cases b <;> decide
theorem pu_nbb (b : Bool) : vp_nar .boolean (bi b) = bi b := by cases b <;> decide
theorem pu_cb (v : Nat) (b : Bool) : o32 v + (if b = true then (1 : Int32) else 0) = o32 (v + b.toNat) := by
  cases b
  · show o32 v + o32 0 = _
    rw [o_add]; rfl
  · show o32 v + o32 1 = _
    rw [o_add]; rfl
section SS
variable {ss sm' : Int32} {sk wa wo sof sas : Nat → Int32} {tsz rm : Int32} {tnum row : Nat → Int64}
theorem M_saw (h : SI ss sm' sk wa wo sof sas) (p1 p2 p3 : Int32) : ∃ y y', X10_saw ss sk wa wo p1 p2 p3 = some y ∧ X11_saw sm' sof sas p1 p2 p3 = some y' ∧ y.1 = y'.1 ∧ SI y.2.1 y'.2.2.1 y.2.2.1 y.2.2.2.1 y.2.2.2.2 y'.2.2.2.1 y'.2.2.2.2 := by
  obtain ⟨m, hm, rfl, rfl, hk⟩ := h
  have hSI : SI (o32 m) (o32 m) sk wa wo sof sas := ⟨m, hm, rfl, rfl, hk⟩
  have c7 : ∀ p : Int32, ¬ p ≤ 6 → (7 : Int32) ≤ p := by
    intro p h6
    have h6' := Int32.not_le.mp h6
    rw [Int32.lt_iff_toInt_lt] at h6'
    rw [Int32.le_iff_toInt_le]
    have a1 : (6 : Int32).toInt = 6 := by decide
    have a2 : (7 : Int32).toInt = 7 := by decide
    rw [a1] at h6'
    rw [a2]
    omega
  have z0 : ((0 : Int32) = 0) = True := eq_true rfl
  rcases pu_in p1 (lo := 0) (hi := 9) (by decide) (by decide) with ⟨i1, i2⟩ | ⟨i1, i2, i3⟩ | ⟨s, s1, s2, rfl, i1, i2, i3⟩
  · have i1 : p1 < 0 := i1
    have i2 : X11_in p1 0 9 = 0 := i2
    simp only [X10_saw, X8_takes, X11_saw, i1, i2, if_true, Option.bind_some]
    exact ⟨_, _, rfl, rfl, rfl, hSI⟩
  · have i1 : ¬ p1 < 0 := i1
    have i2 : (9 : Int32) < p1 := Int32.not_le.mp i2
    have i3 : X11_in p1 0 9 = 0 := i3
    simp only [X10_saw, X8_takes, X11_saw, i1, i2, i3, if_true, if_false, Option.bind_some]
    exact ⟨_, _, rfl, rfl, rfl, hSI⟩
  · have i1 : ¬ o32 s < 0 := i1
    have i2 : ¬ (9 : Int32) < o32 s := Int32.not_lt.mpr i2
    have i3 : X11_in (o32 s) 0 9 = 1 := i3
    rcases pu_in p2 (lo := 0) (hi := 6) (by decide) (by decide) with ⟨j1, j2⟩ | ⟨j1, j2, j3⟩ | ⟨w, w1, w2, rfl, j1, j2, j3⟩
    · have j1 : p2 < 0 := j1
      have j2 : X11_in p2 0 6 = 0 := j2
      simp only [X10_saw, X8_takes, X11_saw, i1, i2, i3, j1, j2, pu_10, if_true, if_false, Option.bind_some]
      exact ⟨_, _, rfl, rfl, rfl, hSI⟩
    · have j1 : ¬ p2 < 0 := j1
      have j2 : (7 : Int32) ≤ p2 := c7 _ j2
      have j3 : X11_in p2 0 6 = 0 := j3
      simp only [X10_saw, X8_takes, X11_saw, i1, i2, i3, j1, j2, j3, pu_10, if_true, if_false, Option.bind_some]
      exact ⟨_, _, rfl, rfl, rfl, hSI⟩
    · have j1 : ¬ o32 w < 0 := j1
      have j2 : ¬ (7 : Int32) ≤ o32 w := by
        show ¬ o32 7 ≤ o32 w
        rw [o_le (by decide) (by omega)]; omega
      have j3 : X11_in (o32 w) 0 6 = 1 := j3
      rcases pu_in p3 (lo := 0) (hi := 1) (by decide) (by decide) with ⟨k1, k2⟩ | ⟨k1, k2, k3⟩ | ⟨b, b1, b2, rfl, k1, k2, k3⟩
      · have k1 : p3 < 0 := k1
        have k2 : X11_in p3 0 1 = 0 := k2
        simp only [X10_saw, X8_takes, X11_saw, i1, i2, i3, j1, j2, j3, k1, k2, pu_10, if_true, if_false, Option.bind_some]
        exact ⟨_, _, rfl, rfl, rfl, hSI⟩
      · have k1 : ¬ p3 < 0 := k1
        have k2 : (1 : Int32) < p3 := Int32.not_le.mp k2
        have k3 : X11_in p3 0 1 = 0 := k3
        simp only [X10_saw, X8_takes, X11_saw, i1, i2, i3, j1, j2, j3, k1, k2, k3, pu_10, if_true, if_false, Option.bind_some]
        exact ⟨_, _, rfl, rfl, rfl, hSI⟩
      · have k1 : ¬ o32 b < 0 := k1
        have k2 : ¬ (1 : Int32) < o32 b := Int32.not_lt.mpr k2
        have k3 : X11_in (o32 b) 0 1 = 1 := k3
        have e10 : (10 : Int32) = o32 10 := rfl
        have eb : vp_nar .boolean (if o32 b = (1 : Int32) then (1 : Int32) else 0) = o32 b := by
          rcases (by omega : b = 0 ∨ b = 1) with rfl | rfl <;> decide
        rcases Nat.lt_or_ge m 10 with h10 | h10
        · have q : (o32 m = o32 10) = False := by rw [o_eq (by omega) (by decide)]; exact eq_false (by omega)
          simp (disch := omega) only [X10_saw, X8_takes, X11_saw, i1, i2, i3, j1, j2, j3, k1, k2, k3, pu_10, if_false, Option.bind_some, e10, i_gt, gi_o, o_cl, o_s, q, eb, o_mul, o_add]
          refine ⟨_, _, rfl, rfl, rfl, m + 1, by omega, rfl, rfl, fun k hk' => ?_⟩
          show ∃ s' w' b', _ ∧ _ ∧ _ ∧ upd sk m (o32 s) k = _ ∧ upd wa m (o32 w) k = _ ∧ upd wo m (o32 b) k = _ ∧ upd sof m (o32 (10 * s + w)) k = _ ∧ upd sas m (o32 b) k = _
          by_cases e : k = m
          · subst e; simp only [pk_us]; exact ⟨s, w, b, by omega, by omega, by omega, rfl, rfl, rfl, rfl, rfl⟩
          · simp only [pk_un e]; exact hk k (by omega)
        · have h10 : m = 10 := by omega
          subst h10
          simp (disch := omega) only [X10_saw, X8_takes, X11_saw, i1, i2, i3, j1, j2, j3, k1, k2, k3, pu_10, if_false, Option.bind_some, e10, i_lt, if_true]
          exact ⟨_, _, rfl, rfl, rfl, hSI⟩
theorem M_denies (h : SI ss sm' sk wa wo sof sas) : (X10_denies ss).1 = (X11_denies sm').1 ∧ SI (X10_denies ss).2 (X11_denies sm').2.2 sk wa wo sof sas := by
  obtain ⟨m, hm, rfl, rfl, hk⟩ := h
  exact ⟨rfl, 0, by decide, rfl, rfl, fun k hk => absurd hk (Nat.not_lt_zero k)⟩
theorem L_siftI {m : Nat} (hm : m ≤ 10) (hk : ∀ k, k < m → ∃ s w b, s < 10 ∧ w < 7 ∧ b < 2 ∧ sk k = o32 s ∧ wa k = o32 w ∧ wo k = o32 b ∧ sof k = o32 (10 * s + w) ∧ sas k = o32 b) {law : Nat} (hl : law < 160) {f : Nat → Int32} (hf : f law = 1) : ∃ z, lp (fun x20 : Int32 × (Nat → Int32) => X8_sifts_s20 (o32 m) sk wa wo (o32 law) x20.1 x20.2) 1000 ((0 : Int32), f) = some z ∧ (z law = bi (LW sof sas m law) ∧ ∀ j, ¬ j = law → z j = f j) := by
  refine lp_ct (fun k x => x.1 = o32 k ∧ x.2 law = bi (LW sof sas k law) ∧ ∀ j, ¬ j = law → x.2 j = f j) _ m _ ⟨rfl, hf, fun _ _ => rfl⟩ ?_ ?_ (by omega)
  · rintro k ⟨i, x⟩ hk' ⟨h1, h2, h3⟩
    have h1 : i = _ := h1
    subst h1
    have h2 : x law = bi (LW sof sas k law) := h2
    have h3 : ∀ j, ¬ j = law → x j = f j := h3
    obtain ⟨s, w, b, g1, g2, g3, g4, g5, g6, g7, g8⟩ := hk k hk'
    have es : LW sof sas (k + 1) law = (LW sof sas k law && (RS law s w == decide (b = 1))) := by
      show (LW sof sas k law && (RS law (nt (sof k) / 10) (nt (sof k) % 10) == decide (nt (sas k) = 1))) = _
      rw [g7, g8, nt_o (by omega), nt_o (by omega), show (10 * s + w) / 10 = s by omega, show (10 * s + w) % 10 = w by omega]
    have e10 : (10 : Int32) = o32 10 := rfl
    have ec : (if bi (RS law s w) = o32 b then (1 : Int32) else 0) = bi (RS law s w == decide (b = 1)) := by
      rcases (by omega : b = 0 ∨ b = 1) with rfl | rfl <;> cases RS law s w <;> decide
    refine ⟨(o32 (k + 1), upd x law (bi (LW sof sas (k + 1) law))), ?_, rfl, pk_us, fun j hj => ?_⟩
    · simp (disch := omega) only [X8_sifts_s20, e10, i_ge, gi_o, o_cl, g4, g5, g6, L_rs hl g1 (show w < 10 by omega), Option.bind_some, h2, ec, bi_and, pu_nbb, o_s, es]
    · show upd x law _ j = f j
      rw [pk_un hj]; exact h3 j hj
  · rintro ⟨i, x⟩ ⟨h1, h2, h3⟩
    have h1 : i = _ := h1
    subst h1
    refine ⟨x, ?_, h2, h3⟩
    simp (disch := omega) only [X8_sifts_s20, i_le]
theorem L_sifts {m : Nat} (hm : m ≤ 10) (hk : ∀ k, k < m → ∃ s w b, s < 10 ∧ w < 7 ∧ b < 2 ∧ sk k = o32 s ∧ wa k = o32 w ∧ wo k = o32 b ∧ sof k = o32 (10 * s + w) ∧ sas k = o32 b) (f : Nat → Int32) : ∃ z, X8_sifts (o32 m) sk wa wo f = some z ∧ z.1 = o32 (cn (LW sof sas m) 160) ∧ ∀ j, j < 160 → z.2 j = bi (LW sof sas m j) := by
  obtain ⟨z, e, hz1, hz2⟩ := lp_ct (f := fun x4 : Int32 × Int32 × (Nat → Int32) => X8_sifts_s4 (o32 m) sk wa wo x4.1 x4.2.1 x4.2.2) (fun k x => x.1 = o32 (cn (LW sof sas m) k) ∧ x.2.1 = o32 k ∧ ∀ j, j < k → x.2.2 j = bi (LW sof sas m j)) (fun z => z.1 = o32 (cn (LW sof sas m) 160) ∧ ∀ j, j < 160 → z.2 j = bi (LW sof sas m j)) 160 ((0 : Int32), (0 : Int32), f) ⟨rfl, rfl, fun j hj => absurd hj (Nat.not_lt_zero j)⟩ (by
    rintro k ⟨c, i, x⟩ hk' ⟨h1, h2, h3⟩
    have h1 : c = _ := h1
    have h2 : i = _ := h2
    subst h1 h2
    have h3 : ∀ j, j < k → x j = bi (LW sof sas m j) := h3
    have e160 : (160 : Int32) = o32 160 := rfl
    obtain ⟨g, eg, hg1, hg2⟩ := L_siftI hm hk hk' (f := upd x k (vp_nar .boolean 1)) (by rw [pk_us, pu_nb1])
    refine ⟨(o32 (cn (LW sof sas m) (k + 1)), o32 (k + 1), g), ?_, rfl, rfl, fun j hj => ?_⟩
    · simp (disch := omega) only [X8_sifts_s4, e160, i_ge, gi_o, o_cl, eg, Option.bind_some, hg1, o_s, bi_if]
      show some (Sum.inl (o32 (cn (LW sof sas m) k) + _, _)) = some (Sum.inl (o32 (cn (LW sof sas m) k + (LW sof sas m k).toNat), _))
      rw [pu_cb]
    · show g j = _
      by_cases ej : j = k
      · subst ej; exact hg1
      · rw [hg2 j ej, pk_un ej]; exact h3 j (by omega)) (by
    rintro ⟨c, i, x⟩ ⟨h1, h2, h3⟩
    have h2 : i = _ := h2
    subst h2
    exact ⟨(c, x), rfl, h1, h3⟩) (by omega)
  unfold X8_sifts
  rw [e]
  exact ⟨_, rfl, hz1, hz2⟩
theorem L_isLaw {m : Nat} (hm : m ≤ 10) (hk : ∀ k, k < m → ∃ s w b, s < 10 ∧ w < 7 ∧ b < 2 ∧ sk k = o32 s ∧ wa k = o32 w ∧ wo k = o32 b ∧ sof k = o32 (10 * s + w) ∧ sas k = o32 b) {law : Nat} (hl : law < 160) : X11_isLaw (o32 m) sof sas (o32 law) = some (bi (LW sof sas m law)) := by
  have step : ∀ k, k < m → (LW sof sas k law = true) → X11_isLaw_s2 (o32 m) sof sas (o32 law) (o32 k) = if LW sof sas (k + 1) law then some (.inl (o32 (k + 1))) else some (.inr (.inr ())) := by
    intro k hk' hL
    obtain ⟨s, w, b, g1, g2, g3, g4, g5, g6, g7, g8⟩ := hk k hk'
    have es : LW sof sas (k + 1) law = (RS law s w == decide (b = 1)) := by
      show (LW sof sas k law && (RS law (nt (sof k) / 10) (nt (sof k) % 10) == decide (nt (sas k) = 1))) = _
      rw [g7, g8, nt_o (by omega), nt_o (by omega), show (10 * s + w) / 10 = s by omega, show (10 * s + w) % 10 = w by omega, hL]
      rfl
    simp (disch := omega) only [X11_isLaw_s2, i_ge, gi_o, o_cl, g7, g8, L_lets hl (show 10 * s + w < 100 by omega), Option.bind_some, o_s, es, show (10 * s + w) / 10 = s by omega, show (10 * s + w) % 10 = w by omega]
    rcases (by omega : b = 0 ∨ b = 1) with rfl | rfl <;> cases RS law s w <;> rfl
  have mono : ∀ k j, k ≤ j → LW sof sas k law = false → LW sof sas j law = false := by
    intro k j hkj h0
    induction j with
    | zero =>
      have : k = 0 := by omega
      subst this; exact h0
    | succ j ih =>
      rcases Nat.lt_or_ge k (j + 1) with h1 | h1
      · show (LW sof sas j law && _) = false
        rw [ih (by omega)]; rfl
      · have : k = j + 1 := by omega
        subst this; exact h0
  obtain ⟨z, e, hz⟩ := lp_inv (f := fun x2 : Int32 => X11_isLaw_s2 (o32 m) sof sas (o32 law) x2) (fun k x => x = o32 k ∧ LW sof sas k law = true) (fun z => (z = .inl () ∧ LW sof sas m law = true) ∨ (z = .inr () ∧ LW sof sas m law = false)) m 0 1000 (0 : Int32) (by
    rintro k x - hkm ⟨rfl, hL⟩
    rcases Nat.lt_or_ge k m with hlt | hlt
    · have hst := step k hlt hL
      cases hN : LW sof sas (k + 1) law with
      | true =>
        rw [hN] at hst
        exact Or.inr ⟨by omega, o32 (k + 1), hst, rfl, rfl⟩
      | false =>
        rw [hN] at hst
        exact Or.inl ⟨_, hst, Or.inr ⟨rfl, mono (k + 1) m (by omega) hN⟩⟩
    · have : k = m := by omega
      subst this
      refine Or.inl ⟨.inl (), ?_, Or.inl ⟨rfl, hL⟩⟩
      simp (disch := omega) only [X11_isLaw_s2, i_le]) ⟨rfl, rfl⟩ (by omega)
  unfold X11_isLaw
  rw [e]
  rcases hz with ⟨rfl, h1⟩ | ⟨rfl, h1⟩
  · rw [h1]; rfl
  · rw [h1]; rfl
theorem cn_pos {P : Nat → Bool} {L : Nat} (hP : P L = true) : ∀ {n}, L < n → 0 < cn P n
  | 0, h => absurd h (Nat.not_lt_zero L)
  | n + 1, h => by
    show 0 < cn P n + (P n).toNat
    rcases Nat.lt_or_ge L n with h1 | h1
    · have := cn_pos hP h1; omega
    · have : L = n := by omega
      subst this; rw [hP]; simp
theorem cn_zero {P : Nat → Bool} {n : Nat} (h : ∀ j, j < n → P j = false) : cn P n = 0 := by
  rw [cn_ext (Q := fun _ => false) h]
  induction n with
  | zero => rfl
  | succ n ih => exact ih (fun j hj => h j (by omega))
theorem L_least {f : Nat → Int32} {P : Nat → Bool} (hf : ∀ j, j < 160 → f j = bi (P j)) : (∃ L, L < 160 ∧ P L = true ∧ (∀ j, j < L → P j = false) ∧ X8_leastLaw f = some (o32 L)) ∨ ((∀ j, j < 160 → P j = false) ∧ X8_leastLaw f = some (-1)) := by
  have e160 : (160 : Int32) = o32 160 := rfl
  have step : ∀ k, k < 160 → X8_leastLaw_s2 f (o32 k) = if P k then some (.inr (.inr (o32 k))) else some (.inl (o32 (k + 1))) := by
    intro k hk
    simp (disch := omega) only [X8_leastLaw_s2, e160, i_ge, gi_o, o_cl, hf k hk, bi_if, o_s]
  rcases least_or (P := fun k => P k = true) 159 with ⟨L, hL, h1, h2⟩ | hno
  · left
    refine ⟨L, by omega, h1, fun j hj => by simpa using h2 j hj, ?_⟩
    unfold X8_leastLaw
    rw [show (0 : Int32) = o32 0 from rfl, lp_run (f := fun x2 => X8_leastLaw_s2 f x2) (r := .inr (o32 L)) (fun k => o32 k) L 0 1000 (fun k _ hk => by
      rw [step k (by omega), if_neg (h2 k (by omega))]) (by rw [Nat.zero_add, step L (by omega), if_pos h1]) (by omega)]
    rfl
  · right
    refine ⟨fun j hj => by simpa using hno j (by omega), ?_⟩
    unfold X8_leastLaw
    rw [show (0 : Int32) = o32 0 from rfl, lp_run (f := fun x2 => X8_leastLaw_s2 f x2) (r := .inl ()) (fun k => o32 k) 160 0 1000 (fun k _ hk => by
      rw [step k (by omega), if_neg (hno k (by omega))]) rfl (by omega)]
    rfl
theorem L_waking {f : Nat → Int32} {P : Nat → Bool} (hf : ∀ j, j < 160 → f j = bi (P j)) {s w : Nat} (hs : s < 10) (hw : w < 10) : X8_waking f (o32 s) (o32 w) = some (o32 (cn (fun law => P law && RS law s w) 160)) := by
  have a0 : ∀ v : Nat, o32 v + 0 = o32 v := fun v => by show o32 v + o32 0 = _; rw [o_add, Nat.add_zero]
  obtain ⟨z, e, hz⟩ := lp_ct (f := fun x5 : Int32 × Int32 => X8_waking_s5 f (o32 s) (o32 w) x5.1 x5.2) (fun k x => x = (o32 (cn (fun law => P law && RS law s w) k), o32 k)) (fun z => z = o32 (cn (fun law => P law && RS law s w) 160)) 160 ((0 : Int32), (0 : Int32)) rfl (by
    rintro k x hk rfl
    have e160 : (160 : Int32) = o32 160 := rfl
    refine ⟨(o32 (cn (fun law => P law && RS law s w) (k + 1)), o32 (k + 1)), ?_, rfl⟩
    simp (disch := omega) only [X8_waking_s5, e160, i_ge, gi_o, o_cl, hf k hk, bi_if, L_rs hk hs hw, Option.bind_some, o_s, a0]
    show _ = some (Sum.inl (o32 (cn (fun law => P law && RS law s w) k + (P k && RS k s w).toNat), _))
    cases P k <;> cases RS k s w <;> rfl) (by
    rintro x rfl
    exact ⟨_, rfl, rfl⟩) (by omega)
  unfold X8_waking
  rw [e, hz]
  rfl
theorem M_laws (h : SI ss sm' sk wa wo sof sas) (f : Nat → Int32) : ∃ y y', X10_laws tnum ss sk wa wo f = some y ∧ X11_laws sm' row sof sas = some y' ∧ y.1 = y'.1 ∧ TO y.2.1 y'.2.1 y.2.2.1 y'.2.2.2 := by
  obtain ⟨m, hm, rfl, rfl, hk⟩ := h
  obtain ⟨z, ez, hz1, hz2⟩ := L_sifts hm hk f
  have hM : ∃ y', X11_laws (o32 m) row sof sas = some y' ∧ y'.1 = o32 (cn (LW sof sas m) 160) ∧ (((∀ j, j < 160 → LW sof sas m j = false) ∧ y'.2.1 = 0) ∨ ∃ L, L < 160 ∧ LW sof sas m L = true ∧ (∀ j, j < L → LW sof sas m j = false) ∧ y'.2.1 = o32 3 ∧ y'.2.2.2 0 = (o32 (L / 40)).toInt64 ∧ y'.2.2.2 1 = (o32 (L / 10 % 4)).toInt64 ∧ y'.2.2.2 2 = (o32 (L % 10)).toInt64) := by
    obtain ⟨g, eg, hg1, hg2⟩ := lp_ct (f := fun x14 : Int32 × Int32 × Int32 × (Nat → Int64) => X11_laws_s14 (o32 m) sof sas x14.1 x14.2.1 x14.2.2.1 x14.2.2.2) (fun k x => x.1 = o32 (cn (LW sof sas m) k) ∧ x.2.1 = o32 k ∧ (((∀ j, j < k → LW sof sas m j = false) ∧ x.2.2.1 = 0) ∨ ∃ L, L < k ∧ LW sof sas m L = true ∧ (∀ j, j < L → LW sof sas m j = false) ∧ x.2.2.1 = o32 3 ∧ x.2.2.2 0 = (o32 (L / 40)).toInt64 ∧ x.2.2.2 1 = (o32 (L / 10 % 4)).toInt64 ∧ x.2.2.2 2 = (o32 (L % 10)).toInt64)) (fun z => z.1 = o32 (cn (LW sof sas m) 160) ∧ (((∀ j, j < 160 → LW sof sas m j = false) ∧ z.2.1 = 0) ∨ ∃ L, L < 160 ∧ LW sof sas m L = true ∧ (∀ j, j < L → LW sof sas m j = false) ∧ z.2.1 = o32 3 ∧ z.2.2 0 = (o32 (L / 40)).toInt64 ∧ z.2.2 1 = (o32 (L / 10 % 4)).toInt64 ∧ z.2.2 2 = (o32 (L % 10)).toInt64)) 160 ((0 : Int32), (0 : Int32), (0 : Int32), row) ⟨rfl, rfl, Or.inl ⟨fun j hj => absurd hj (Nat.not_lt_zero j), rfl⟩⟩ (by
      rintro k ⟨c, i, r, x⟩ hk' ⟨h1, h2, h3⟩
      have h1 : c = _ := h1
      have h2 : i = _ := h2
      subst h1 h2
      have h3 : (((∀ j, j < k → LW sof sas m j = false) ∧ r = 0) ∨ ∃ L, L < k ∧ LW sof sas m L = true ∧ (∀ j, j < L → LW sof sas m j = false) ∧ r = o32 3 ∧ x 0 = (o32 (L / 40)).toInt64 ∧ x 1 = (o32 (L / 10 % 4)).toInt64 ∧ x 2 = (o32 (L % 10)).toInt64) := h3
      have e160 : (160 : Int32) = o32 160 := rfl
      have es : cn (LW sof sas m) (k + 1) = cn (LW sof sas m) k + (LW sof sas m k).toNat := rfl
      have hcl := cn_le (LW sof sas m) k
      cases hN : LW sof sas m k with
      | false =>
        refine ⟨(o32 (cn (LW sof sas m) k), o32 (k + 1), r, x), ?_, by rw [es, hN]; rfl, rfl, ?_⟩
        · simp (disch := omega) only [X11_laws_s14, e160, i_ge, L_isLaw hm hk hk', hN, Option.bind_some, o_s]
          rfl
        · rcases h3 with ⟨h4, h5⟩ | ⟨L, h4, h5⟩
          · refine Or.inl ⟨fun j hj => ?_, h5⟩
            by_cases ej : j = k
            · subst ej; exact hN
            · exact h4 j (by omega)
          · exact Or.inr ⟨L, by omega, h5⟩
      | true =>
        have eb : (bi true = 0) = False := eq_false (by decide)
        rcases h3 with ⟨h4, rfl⟩ | ⟨L, h4, h5, h6⟩
        · have ec : cn (LW sof sas m) k = 0 := cn_zero h4
          have e40 : o32 k / 40 = o32 (k / 40) := pu_div (d := 40) (by omega) (by decide) (by decide)
          have e10 : o32 k / 10 = o32 (k / 10) := pu_div (d := 10) (by omega) (by decide) (by decide)
          have e4 : irem (o32 (k / 10)) 4 = o32 (k / 10 % 4) := pu_mod (d := 4) (by omega) (by decide) (by decide)
          have e1 : irem (o32 k) 10 = o32 (k % 10) := pu_mod (d := 10) (by omega) (by decide) (by decide)
          obtain ⟨-, t1, -, f1, -, p1, q1⟩ := TO.ad (m := 0) (num := x) (row := x) (fun k hk => rfl) (by decide) ((o32 (k / 40)).toInt64)
          have f1 : X11_tell 0 x ((o32 (k / 40)).toInt64) = some t1 := f1
          have w1 : t1 = (o32 1, vp_updL x 0 ((o32 (k / 40)).toInt64)) := by
            have : X11_tell 0 x ((o32 (k / 40)).toInt64) = some (o32 1, vp_updL x 0 ((o32 (k / 40)).toInt64)) := rfl
            rw [this] at f1; exact (Option.some.inj f1).symm
          have z0 : (o32 0 = 0) = True := eq_true rfl
          refine ⟨(o32 1, o32 (k + 1), o32 3, vp_updL (vp_updL (vp_updL x 0 ((o32 (k / 40)).toInt64)) 1 ((o32 (k / 10 % 4)).toInt64)) 2 ((o32 (k % 10)).toInt64)), ?_, by rw [es, hN, ec]; rfl, rfl, Or.inr ⟨k, by omega, hN, h4, rfl, rfl, rfl, rfl⟩⟩
          simp (disch := omega) only [X11_laws_s14, e160, i_ge, L_isLaw hm hk hk', hN, Option.bind_some, eb, if_false, ec, z0, if_true, gq40, gq10, gq4, e40, e10, e4, e1, o_s]
          rfl
        · have hp := cn_pos h5 h4
          have z0 : (o32 (cn (LW sof sas m) k) = 0) = False := by rw [o0 (by omega)]; exact eq_false (by omega)
          refine ⟨(o32 (cn (LW sof sas m) k + 1), o32 (k + 1), r, x), ?_, by rw [es, hN]; rfl, rfl, Or.inr ⟨L, by omega, h5, h6⟩⟩
          simp (disch := omega) only [X11_laws_s14, e160, i_ge, L_isLaw hm hk hk', hN, Option.bind_some, eb, if_false, z0, o_s]) (by
      rintro ⟨c, i, r, x⟩ ⟨h1, h2, h3⟩
      have h2 : i = _ := h2
      subst h2
      exact ⟨(c, r, x), rfl, h1, h3⟩) (by omega)
    unfold X11_laws
    rw [eg]
    exact ⟨_, rfl, hg1, hg2⟩
  obtain ⟨y', ey', hy1, hy2⟩ := hM
  rcases L_least hz2 with ⟨L, hL, g1, g2, g3⟩ | ⟨g1, g2⟩
  · rcases hy2 with ⟨h4, -⟩ | ⟨L', hL', k1, k2, k3, k4, k5, k6⟩
    · rw [h4 L hL] at g1; cases g1
    · have : L' = L := by
        rcases Nat.lt_trichotomy L' L with hlt | heq | hlt
        · rw [g2 L' hlt] at k1; cases k1
        · exact heq
        · rw [k2 L hlt] at g1; cases g1
      subst this
      have e40 : o32 L' / 40 = o32 (L' / 40) := pu_div (d := 40) (by omega) (by decide) (by decide)
      have e10 : o32 L' / 10 = o32 (L' / 10) := pu_div (d := 10) (by omega) (by decide) (by decide)
      have e4 : irem (o32 (L' / 10)) 4 = o32 (L' / 10 % 4) := pu_mod (d := 4) (by omega) (by decide) (by decide)
      have e1 : irem (o32 L') 10 = o32 (L' % 10) := pu_mod (d := 10) (by omega) (by decide) (by decide)
      have nn : (o32 L' < 0) = False := eq_false (o_nn L' (by omega))
      refine ⟨(z.1, o32 3, vp_updL (vp_updL (vp_updL tnum 0 ((o32 (L' / 40)).toInt64)) 1 ((o32 (L' / 10 % 4)).toInt64)) 2 ((o32 (L' % 10)).toInt64), z.2), y', ?_, ey', hz1.trans hy1.symm, 3, by decide, rfl, k3, fun k hk => ?_⟩
      · simp only [X10_laws, ez, g3, Option.bind_some, nn, if_false, gq40, gq10, gq4, e40, e10, e4, e1]
        rfl
      · rcases (by omega : k = 0 ∨ k = 1 ∨ k = 2) with rfl | rfl | rfl
        · exact k4.symm
        · exact k5.symm
        · exact k6.symm
  · rcases hy2 with ⟨-, h5⟩ | ⟨L', hL', k1, -⟩
    · refine ⟨(z.1, 0, tnum, z.2), y', ?_, ey', hz1.trans hy1.symm, 0, by decide, rfl, h5, fun k hk => absurd hk (Nat.not_lt_zero k)⟩
      simp only [X10_laws, ez, g2, Option.bind_some, if_pos (show (-1 : Int32) < 0 by decide)]
      rfl
    · rw [g1 L' hL'] at k1; cases k1
def OKL (k : Nat) : Bool := decide (k % 10 < 7)
def YL (P : Nat → Bool) (k : Nat) : Nat := cn (fun law => P law && RS law (k / 10) (k % 10)) 160
def LL (P : Nat → Bool) (k : Nat) : Nat := max (YL P k) (cn P 160 - YL P k)
theorem YL_le (P : Nat → Bool) (k : Nat) : YL P k ≤ cn P 160 := by
  have := cn_split P (fun law => RS law (k / 10) (k % 10)) 160
  unfold YL
  omega
theorem M_looks (h : SI ss sm' sk wa wo sof sas) (ht : TO tsz rm tnum row) (f : Nat → Int32) : ∃ y y', X10_looks tsz tnum ss sk wa wo f = some y ∧ X11_looks rm sm' row sof sas = some y' ∧ y.1 = y'.1 ∧ TO y.2.1 y'.2.1 y.2.2.1 y'.2.2.2 := by
  obtain ⟨m, hm, rfl, rfl, hk⟩ := h
  obtain ⟨z, ez, hz1, hz2⟩ := L_sifts hm hk f
  generalize hP : LW sof sas m = P at hz1 hz2
  have hcl := cn_le P 160
  have hLle : ∀ k, LL P k ≤ cn P 160 := fun k => by have := YL_le P k; unfold LL; omega
  -- the reference's inner loop
  have inner : ∀ k, k < 97 → lp (fun x40 : Int32 × Int32 × Int32 => X11_looks_s40 (o32 m) sof sas (o32 k) x40.1 x40.2.1 x40.2.2) 1000 ((0 : Int32), (0 : Int32), (0 : Int32)) = some (o32 (YL P k), o32 (cn P 160 - YL P k)) := by
    intro k hk97
    obtain ⟨g, eg, hg⟩ := lp_ct (f := fun x40 : Int32 × Int32 × Int32 => X11_looks_s40 (o32 m) sof sas (o32 k) x40.1 x40.2.1 x40.2.2) (fun i x => x = (o32 (cn (fun law => P law && RS law (k / 10) (k % 10)) i), o32 (cn (fun law => P law && !RS law (k / 10) (k % 10)) i), o32 i)) (fun z => z = (o32 (YL P k), o32 (cn P 160 - YL P k))) 160 ((0 : Int32), (0 : Int32), (0 : Int32)) rfl (by
      rintro i x hi rfl
      have e160 : (160 : Int32) = o32 160 := rfl
      refine ⟨(o32 (cn (fun law => P law && RS law (k / 10) (k % 10)) (i + 1)), o32 (cn (fun law => P law && !RS law (k / 10) (k % 10)) (i + 1)), o32 (i + 1)), ?_, rfl⟩
      have eL : X11_isLaw (o32 m) sof sas (o32 i) = some (bi (P i)) := by rw [L_isLaw hm hk hi, hP]
      simp (disch := omega) only [X11_looks_s40, e160, i_ge, eL, Option.bind_some, bi_if, L_lets hi (show k < 100 by omega), o_s]
      show _ = some (Sum.inl (o32 (cn (fun law => P law && RS law (k / 10) (k % 10)) i + (P i && RS i (k / 10) (k % 10)).toNat), o32 (cn (fun law => P law && !RS law (k / 10) (k % 10)) i + (P i && !RS i (k / 10) (k % 10)).toNat), _))
      cases P i <;> cases RS i (k / 10) (k % 10) <;> rfl) (by
      rintro x rfl
      refine ⟨(o32 (YL P k), o32 (cn P 160 - YL P k)), ?_, rfl⟩
      have := cn_split P (fun law => RS law (k / 10) (k % 10)) 160
      have e1 : cn P 160 - YL P k = cn (fun law => P law && !RS law (k / 10) (k % 10)) 160 := by unfold YL; omega
      rw [e1]
      rfl) (by omega)
    rw [eg, hg]
  have hb0 : cn P 160 + 1 < 1000000 := by omega
  -- the reference's loop
  have hM : lp (fun x13 : Int32 × Int32 × Int32 => X11_looks_s13 (o32 m) sof sas x13.1 x13.2.1 x13.2.2) 1000 ((-1 : Int32), (1000000 : Int32), (0 : Int32)) = some (o32 (BB (cn P 160 + 1) OKL (LL P) 97).1, o32 (BB (cn P 160 + 1) OKL (LL P) 97).2) := by
    obtain ⟨g, eg, hg⟩ := lp_ct (f := fun x13 : Int32 × Int32 × Int32 => X11_looks_s13 (o32 m) sof sas x13.1 x13.2.1 x13.2.2) (fun k x => BR (cn P 160 + 1) OKL (LL P) k x.1 x.2.1 ∧ x.2.2 = o32 k) (fun z => z = (o32 (BB (cn P 160 + 1) OKL (LL P) 97).1, o32 (BB (cn P 160 + 1) OKL (LL P) 97).2)) 97 ((-1 : Int32), (1000000 : Int32), (0 : Int32)) ⟨Or.inl ⟨rfl, rfl, rfl⟩, rfl⟩ (by
      rintro k ⟨b, l, i⟩ hk97 ⟨h1, h2⟩
      have h2 : i = _ := h2
      subst h2
      have h1 : BR (cn P 160 + 1) OKL (LL P) k b l := h1
      have e97 : (97 : Int32) = o32 97 := rfl
      have d2 : irem (o32 k) 10 = o32 (k % 10) := pu_mod (d := 10) (by omega) (by decide) (by decide)
      have q6 : (o32 (k % 10) ≤ 6) = (k % 10 ≤ 6) := o_le (b := 6) (by omega) (by decide)
      by_cases c : k % 10 ≤ 6
      · have ho : OKL k = true := by unfold OKL; simp; omega
        have hY := YL_le P k
        have em : J9_max_7cf53 (o32 (YL P k)) (o32 (cn P 160 - YL P k)) = o32 (LL P k) := pu_max (by omega) (by omega)
        have hB := BR_y h1 ho (show LL P k < cn P 160 + 1 from Nat.lt_succ_of_le (hLle k)) hb0
        simp (disch := omega) only [X11_looks_s13, e97, i_ge, gq10, d2, q6, c, if_true, inner k hk97, Option.bind_some, un, em, o_s]
        by_cases hlt : o32 (LL P k) < l
        · rw [if_pos hlt]
          rw [if_pos hlt, if_pos hlt] at hB
          exact ⟨_, rfl, hB, rfl⟩
        · rw [if_neg hlt]
          rw [if_neg hlt, if_neg hlt] at hB
          exact ⟨_, rfl, hB, rfl⟩
      · have ho : OKL k = false := by unfold OKL; simp; omega
        refine ⟨(b, l, o32 (k + 1)), ?_, BR_n h1 (by decide) ho, rfl⟩
        simp (disch := omega) only [X11_looks_s13, e97, i_ge, gq10, d2, q6, c, if_false, o_s]) (by
      rintro ⟨b, l, i⟩ ⟨h1, h2⟩
      have h2 : i = _ := h2
      subst h2
      rcases h1 with ⟨h3, -, -⟩ | ⟨-, h3, h4⟩
      · omega
      · have h3 : b = _ := h3
        have h4 : l = _ := h4
        subst h3 h4
        exact ⟨_, rfl, rfl⟩) (by omega)
    rw [eg, hg]
  have hb2 := BB_le (b0 := cn P 160 + 1) (ok := OKL) (lf := LL P) 97
  have b1 : BB (cn P 160 + 1) OKL (LL P) 1 = (0, LL P 0) := BB_1 (by decide) (Nat.lt_succ_of_le (hLle 0))
  by_cases h0 : cn P 160 = 0
  · -- no law fits
    have hz0 : ∀ k, 0 < k → (BB (cn P 160 + 1) OKL (LL P) k).2 = 0 := by
      intro k
      induction k with
      | zero => intro h; omega
      | succ k ih =>
        intro _
        rcases Nat.eq_zero_or_pos k with rfl | hp
        · rw [b1]; have := hLle 0; show LL P 0 = 0; omega
        · have ihk := ih hp
          cases ho : OKL k with
          | false => rw [BB_n ho]; exact ihk
          | true => rw [BB_y ho, if_neg (by omega)]; exact ihk
    have e2 : o32 (BB (cn P 160 + 1) OKL (LL P) 97).2 = 0 := by rw [hz0 97 (by decide)]; rfl
    have e1 : z.1 = 0 := by rw [hz1, h0]; rfl
    simp only [X10_looks, X11_looks, ez, hM, Option.bind_some, un, e1, e2, if_true]
    exact ⟨_, _, rfl, rfl, rfl, ht⟩
  · have hzp : ∀ k, 0 < (BB (cn P 160 + 1) OKL (LL P) k).2 := by
      intro k
      induction k with
      | zero => show 0 < cn P 160 + 1; omega
      | succ k ih =>
        cases ho : OKL k with
        | false => rw [BB_n ho]; exact ih
        | true =>
          rw [BB_y ho]
          split
          · show 0 < LL P k
            have := YL_le P k
            unfold LL
            omega
          · exact ih
    have e2 : (o32 (BB (cn P 160 + 1) OKL (LL P) 97).2 = 0) = False := by
      have := hzp 97
      rw [o0 (by omega)]; exact eq_false (by omega)
    have e1 : (o32 (cn P 160) = 0) = False := by rw [o0 (by omega)]; exact eq_false h0
    have hC : lp (fun x24 : Int32 × Int32 × Int32 => X10_looks_s24 z x24.1 x24.2.1 x24.2.2) 1000 ((0 : Int32), (o32 (cn P 160) + (1 : Int32)), (0 : Int32)) = some (o32 (BB (cn P 160 + 1) OKL (LL P) 100).1, o32 (BB (cn P 160 + 1) OKL (LL P) 100).2) := by
      obtain ⟨g, eg, hg⟩ := lp_ct (f := fun x24 : Int32 × Int32 × Int32 => X10_looks_s24 z x24.1 x24.2.1 x24.2.2) (fun k x => x = (o32 (BB (cn P 160 + 1) OKL (LL P) k).1, o32 (BB (cn P 160 + 1) OKL (LL P) k).2, o32 k)) (fun z => z = (o32 (BB (cn P 160 + 1) OKL (LL P) 100).1, o32 (BB (cn P 160 + 1) OKL (LL P) 100).2)) 100 ((0 : Int32), (o32 (cn P 160) + (1 : Int32)), (0 : Int32)) (by rw [o_s]; rfl) (by
        rintro k x hk100 rfl
        have e100 : (100 : Int32) = o32 100 := rfl
        have d1 : o32 k / 10 = o32 (k / 10) := pu_div (d := 10) (by omega) (by decide) (by decide)
        have d2 : irem (o32 k) 10 = o32 (k % 10) := pu_mod (d := 10) (by omega) (by decide) (by decide)
        have q7 : ((7 : Int32) ≤ o32 (k % 10)) = (7 ≤ k % 10) := o_le (a := 7) (by decide) (by omega)
        have hb3 := BB_le (b0 := cn P 160 + 1) (ok := OKL) (lf := LL P) k
        refine ⟨(o32 (BB (cn P 160 + 1) OKL (LL P) (k + 1)).1, o32 (BB (cn P 160 + 1) OKL (LL P) (k + 1)).2, o32 (k + 1)), ?_, rfl⟩
        by_cases c : 7 ≤ k % 10
        · have ho : OKL k = false := by unfold OKL; simp; omega
          simp (disch := omega) only [X10_looks_s24, e100, i_ge, gq10, d2, q7, c, if_true, o_s, BB_n ho]
        · have ho : OKL k = true := by unfold OKL; simp; omega
          have hY := YL_le P k
          have ew : X8_waking z.2 (o32 (k / 10)) (o32 (k % 10)) = some (o32 (YL P k)) := L_waking hz2 (by omega) (by omega)
          have em : J9_max_7cf53 (o32 (YL P k)) (o32 (cn P 160) - o32 (YL P k)) = o32 (LL P k) := by
            rw [o_sub hY]; exact pu_max (by omega) (by omega)
          simp (disch := omega) only [X10_looks_s24, e100, i_ge, gq10, d1, d2, q7, c, if_false, ew, Option.bind_some, hz1, em, o_s]
          have hL := hLle k
          rw [BB_y ho]
          rcases Nat.lt_or_ge (LL P k) (BB (cn P 160 + 1) OKL (LL P) k).2 with hlt | hlt
          · rw [i_ge hlt (by omega), if_pos hlt]
          · rw [i_le hlt (by omega), if_neg (by omega)]) (by
        rintro x rfl
        exact ⟨_, rfl, rfl⟩) (by omega)
      rw [eg, hg]
    have e100 : BB (cn P 160 + 1) OKL (LL P) 100 = BB (cn P 160 + 1) OKL (LL P) 97 := by
      rw [BB_n (k := 99) (by decide), BB_n (k := 98) (by decide), BB_n (k := 97) (by decide)]
    rw [e100] at hC
    obtain ⟨t, t', et, et', ht'⟩ := TO.one tnum row ((o32 (BB (cn P 160 + 1) OKL (LL P) 97).2).toInt64)
    simp only [X10_looks, X11_looks, ez, hM, hz1, hC, Option.bind_some, un, e1, e2, if_false, et, et']
    exact ⟨_, _, rfl, rfl, rfl, ht'⟩
end SS
