/-! ===== the pure level: serves, who by whom ===== -/
section SW
variable {vs : (Nat → Int32) → Int32} {n : Nat} {day unmet : Int32} {skill pills slept woken wanted now : Nat → Int32} {size : Int32} {code : Nat → Int32} {ruleSize : Int32} {rule : Nat → Int32} {tsz rm : Int32} {tnum row : Nat → Int64}
/-- one who may serve him, and then as many are served -/
def GS (n : Nat) (a : Nat → Int32) (up q used i : Nat) : Bool := (BY a up q used).testBit i && decide (1 + SV n a up (n - (q + 1)) (used ||| 2 ^ i) = SV n a up (n - q) used)
theorem GS_ex (h : RI n now) {up q used : Nat} (hq : q < n) (hne : ¬ SV n now up (n - (q + 1)) used = SV n now up (n - q) used) : ∃ i, i < n ∧ GS n now up q used i = true ∧ ∀ j, j < i → GS n now up q used j = false := by
  have hn := h.1
  have hs := SV_s (now := now) hq up used
  have hex : ∃ i, i < n ∧ GS n now up q used i = true := by
    rcases BS_at (f := fun i => SV n now up (n - (q + 1)) (used ||| 2 ^ i)) (P := fun i => (BY now up q used).testBit i) (b0 := SV n now up (n - (q + 1)) used) 7 with e | ⟨i, h1, h2, h3⟩
    · rw [← hs] at e; exact absurd e.symm hne
    · refine ⟨i, BY_i h hq h2, ?_⟩
      unfold GS
      rw [← hs] at h3
      have h2 : (BY now up q used).testBit i = true := h2
      have h3 : 1 + SV n now up (n - (q + 1)) (used ||| 2 ^ i) = SV n now up (n - q) used := h3
      rw [h2]
      simp [h3]
  obtain ⟨i0, hi0, hg⟩ := hex
  rcases least_or (P := fun i => GS n now up q used i = true) 7 with ⟨j, hj, h1, h2⟩ | hno
  · refine ⟨j, ?_, h1, fun i hi => by simpa using h2 i hi⟩
    have h1' := h1
    unfold GS at h1'
    rw [Bool.and_eq_true] at h1'
    exact BY_i h hq h1'.1
  · exact absurd hg (hno i0 (by omega))
theorem L_leastBy (h : RI n now) {up q used : Nat} {most : Nat → Int32} (hT : TB n now up 0 most) (hq : q < n) (hu : used < 2 ^ n) : (SV n now up (n - (q + 1)) used = SV n now up (n - q) used ∧ X7_leastBy most (o32 q) (o32 (BY now up q used)) (o32 used) = some (-1)) ∨ ∃ i, i < n ∧ GS n now up q used i = true ∧ (∀ j, j < i → GS n now up q used j = false) ∧ ¬ SV n now up (n - (q + 1)) used = SV n now up (n - q) used ∧ X7_leastBy most (o32 q) (o32 (BY now up q used)) (o32 used) = some (o32 i) := by
  have hn := h.1
  have h7 := p2_7 hn
  have hB : BY now up q used < 128 := Nat.lt_of_lt_of_le (BY_lt h hq up used) h7
  have l1 := SV_le n now up (n - q) used
  have l2 := SV_le n now up (n - (q + 1)) used
  have t1 := hT q (Nat.zero_le _) (by omega) used hu
  have t2 := hT (q + 1) (Nat.zero_le _) (by omega) used hu
  have q1 : (o32 (SV n now up (n - (q + 1)) used) = o32 (SV n now up (n - q) used)) = (SV n now up (n - (q + 1)) used = SV n now up (n - q) used) := o_eq (by omega) (by omega)
  by_cases he : SV n now up (n - (q + 1)) used = SV n now up (n - q) used
  · left
    refine ⟨he, ?_⟩
    simp (disch := omega) only [X7_leastBy, L_mf, o_s, t1, t2, Option.bind_some, q1, he, if_true]
  · right
    obtain ⟨i, hi, g1, g2⟩ := GS_ex h hq he
    refine ⟨i, hi, g1, g2, he, ?_⟩
    have step : ∀ k, k < n → X7_leastBy_s26 most (o32 q) (o32 (BY now up q used)) (o32 used) (o32 (SV n now up (n - q) used)) (o32 k) = if GS n now up q used k = true then some (.inr (.inr (o32 k))) else some (.inl (o32 (k + 1))) := by
      intro k hk
      have e7 : (7 : Int32) = o32 7 := rfl
      have hor := or_2n hu hk
      have t3 := hT (q + 1) (Nat.zero_le _) (by omega) (used ||| 2 ^ k) hor
      have l3 := SV_le n now up (n - (q + 1)) (used ||| 2 ^ k)
      have q3 : (o32 (1 + SV n now up (n - (q + 1)) (used ||| 2 ^ k)) = o32 (SV n now up (n - q) used)) = (1 + SV n now up (n - (q + 1)) (used ||| 2 ^ k) = SV n now up (n - q) used) := o_eq (by omega) (by omega)
      simp (disch := omega) only [X7_leastBy_s26, e7, i_ge, pu_bit hB (show k < 7 by omega), bi_if, o_s, o_shl, o_or, L_mf, t3, Option.bind_some, o_la, q3]
      unfold GS
      cases (BY now up q used).testBit k with
      | false => rfl
      | true =>
        by_cases hx : 1 + SV n now up (n - (q + 1)) (used ||| 2 ^ k) = SV n now up (n - q) used
        · simp [hx]
        · simp [hx]
    have eL : lp (fun x26 => X7_leastBy_s26 most (o32 q) (o32 (BY now up q used)) (o32 used) (o32 (SV n now up (n - q) used)) x26) 1000 (0 : Int32) = some (.inr (o32 i)) := lp_run (f := fun x26 => X7_leastBy_s26 most (o32 q) (o32 (BY now up q used)) (o32 used) (o32 (SV n now up (n - q) used)) x26) (r := .inr (o32 i)) (fun k => o32 k) i 0 1000 (fun k _ hk => by
      rw [step k (by omega), if_neg (by rw [g2 k (by omega)]; decide)]) (by rw [Nat.zero_add, step i hi, if_pos g1]) (by omega)
    simp (disch := omega) only [X7_leastBy, L_mf, o_s, t1, t2, Option.bind_some, q1, he, if_false, eL, sm]
theorem L_byM {w : Nat → Int32} (h : RI n now) (hw : EQ w now) {up q used : Nat} (hup : up < 128) {y10 : Int32 × Int32 × Int32 × Int32 × Int32 × Int32 × (Nat → Int32)} (hy : y10.1 = o32 up) {most : Nat → Int32} (hT : TB n now up 0 most) (hq : q < n) (hu : used < 2 ^ n) {i : Nat} (hi : i < n) (g1 : GS n now up q used i = true) (g2 : ∀ j, j < i → GS n now up q used j = false) : lp (fun x228 => X11_serves_s228 w y10 most (o32 used) (o32 q) x228) 1000 (0 : Int32) = some (o32 i) := by
  have hn := h.1
  have h7 := p2_7 hn
  have hwq := h.wt hq
  have hB : BY now up q used < 128 := Nat.lt_of_lt_of_le (BY_lt h hq up used) h7
  have ew : w (28 + q) = o32 (nt (now (28 + q))) := by rw [hw _ (by omega)]; exact hwq.2.1
  have hand : nt (now (28 + q)) &&& up < 128 := Nat.lt_of_le_of_lt Nat.and_le_left hwq.2.2.1
  have eb : (w (28 + q) &&& y10.1) &&& (o32 used ^^^ (-1 : Int32)) = o32 (BY now up q used) := by
    rw [ew, hy, o_and, sd_o hand (by omega)]; rfl
  have l1 := SV_le n now up (n - q) used
  have t1 := hT q (Nat.zero_le _) (by omega) used hu
  have step : ∀ k, k < n → X11_serves_s228 w y10 most (o32 used) (o32 q) (o32 k) = if GS n now up q used k = true then some (.inr (o32 k)) else some (.inl (o32 (k + 1))) := by
    intro k hk
    have hor := or_2n hu hk
    have t3 := hT (q + 1) (Nat.zero_le _) (by omega) (used ||| 2 ^ k) hor
    have l3 := SV_le n now up (n - (q + 1)) (used ||| 2 ^ k)
    have q3 : (o32 (1 + SV n now up (n - (q + 1)) (used ||| 2 ^ k)) = o32 (SV n now up (n - q) used)) = (1 + SV n now up (n - (q + 1)) (used ||| 2 ^ k) = SV n now up (n - q) used) := o_eq (by omega) (by omega)
    have ei : (((o32 (q + 1)) <<< ((7 : Int32) &&& 31)) ||| o32 used) ||| ((1 : Int32) <<< (o32 k &&& 31)) = o32 ((q + 1) * 128 + (used ||| 2 ^ k)) := by
      rw [ix_o (by omega) (by omega), o_shl (by omega), ix_i (by omega) (by omega) (by omega)]
    have ej : ((o32 q) <<< ((7 : Int32) &&& 31)) ||| o32 used = o32 (q * 128 + used) := ix_o (by omega) (by omega)
    simp (disch := omega) only [X11_serves_s228, o_la, gi_o, o_cl, eb, pu_has hB (show k < 7 by omega), bi_if, o_s, ei, ej, t1, t3, q3]
    unfold GS
    cases (BY now up q used).testBit k with
    | false => rfl
    | true =>
      by_cases hx : 1 + SV n now up (n - (q + 1)) (used ||| 2 ^ k) = SV n now up (n - q) used
      · simp [hx]
      · simp [hx]
  exact lp_run (f := fun x228 => X11_serves_s228 w y10 most (o32 used) (o32 q) x228) (r := o32 i) (fun k => o32 k) i 0 1000 (fun k _ hk => by
    rw [step k (by omega), if_neg (by rw [g2 k (by omega)]; decide)]) (by rw [Nat.zero_add, step i hi, if_pos g1]) (by omega)
theorem M_serves (h : RF n day unmet skill pills slept woken wanted now) (hv : RV vs size code) (hm : RM vs ruleSize rule) (hc : VC vs) (stack thing most : Nat → Int32) (len top at' wrong isAsked : Int32) (asked served : Nat → Int32) : ∃ y y', X10_serves tnum (o32 n) day skill pills slept wanted size code stack thing most = some y ∧ X11_serves (o32 n) len top at' wrong ruleSize isAsked now row rule asked served = some y' ∧ y.1 = y'.1 ∧ TO y.2.1 y'.2.1 y.2.2.1 y'.2.2.2.2.2.2.2.2.1 := by
  have hn := h.nn
  have hri := h.ri
  have h7 := p2_7 hn
  have hA : AW vs n now < 128 := bm_128 hn
  obtain ⟨y, ey, hy⟩ := L_wakers h hv hc stack thing
  obtain ⟨y', ey', hy'⟩ := L_awake hri EQ.rf hm hc len top at' wrong isAsked asked
  obtain ⟨tC, eC, hC⟩ := L_reck h hA most
  obtain ⟨xM, tM, eX, eM, hM⟩ := L_tabM hri (EQ.rf (a := now)) hA hy' served
  obtain ⟨z, z', ez, ez', hz1, hz2, hz3⟩ := lp_ct2 (f := fun x16 : Int32 × Int32 × Int32 × (Nat → Int64) => X7_tellsServed_s16 (o32 n) wanted (o32 (AW vs n now)) tC x16.1 x16.2.1 x16.2.2.1 x16.2.2.2) (f' := fun x183 : Int32 × Int32 × Int32 × (Nat → Int64) => X11_serves_s183 (o32 n) now y' tM x183.1 x183.2.1 x183.2.2.1 x183.2.2.2)
    (fun k x x' => (∃ u, u < 2 ^ n ∧ x.1 = o32 u ∧ x'.1 = o32 u) ∧ x.2.1 = o32 k ∧ x'.2.1 = o32 k ∧ x.2.2.1 = o32 k ∧ x'.2.2.1 = o32 k ∧ ∀ j, j < k → x.2.2.2 j = x'.2.2.2 j)
    (fun z z' => z.1 = o32 n ∧ z'.1 = o32 n ∧ ∀ j, j < n → z.2 j = z'.2 j) n
    ((0 : Int32), (0 : Int32), X2_clears, tnum) ((0 : Int32), (0 : Int32), (0 : Int32), row) ⟨⟨0, Nat.two_pow_pos n, rfl, rfl⟩, rfl, rfl, rfl, rfl, fun j hj => absurd hj (Nat.not_lt_zero j)⟩ (by
      rintro k ⟨u0, i, s, f⟩ ⟨u0', i', s', f'⟩ hk ⟨⟨u, hu, g1, g2⟩, g3, g4, g5, g6, g7⟩
      have g1 : u0 = _ := g1
      have g2 : u0' = _ := g2
      have g3 : i = _ := g3
      have g4 : i' = _ := g4
      have g5 : s = _ := g5
      have g6 : s' = _ := g6
      subst g1 g2 g3 g4 g5 g6
      have g7 : ∀ j, j < k → f j = f' j := g7
      have hwk := hri.wt hk
      have ew : wanted k = o32 (nt (now (28 + k))) := by rw [← h.wan (by omega)]; exact hwk.2.1
      have hand : nt (now (28 + k)) &&& AW vs n now < 128 := Nat.lt_of_le_of_lt Nat.and_le_left hwk.2.2.1
      have eb : (o32 (nt (now (28 + k))) &&& o32 (AW vs n now)) &&& (o32 u ^^^ (-1 : Int32)) = o32 (BY now (AW vs n now) k u) := by
        rw [o_and, sd_o hand (by omega)]; rfl
      have t1 := hM k (Nat.zero_le _) (by omega) u hu
      have t2 := hM (k + 1) (Nat.zero_le _) (by omega) u hu
      have l1 := SV_le n now (AW vs n now) (n - k) u
      have l2 := SV_le n now (AW vs n now) (n - (k + 1)) u
      have q1 : (o32 (SV n now (AW vs n now) (n - (k + 1)) u) = o32 (SV n now (AW vs n now) (n - k) u)) = (SV n now (AW vs n now) (n - (k + 1)) u = SV n now (AW vs n now) (n - k) u) := o_eq (by omega) (by omega)
      have ej : ((o32 k) <<< ((7 : Int32) &&& 31)) ||| o32 u = o32 (k * 128 + u) := ix_o (by omega) (by omega)
      have ej2 : ((o32 (k + 1)) <<< ((7 : Int32) &&& 31)) ||| o32 u = o32 ((k + 1) * 128 + u) := ix_o (by omega) (by omega)
      rcases L_leastBy hri hC hk hu with ⟨b1, b2⟩ | ⟨i, hi, b1, b2, b3, b4⟩
      · obtain ⟨t, t', et, et', r1, r2, r3⟩ := TO.ad g7 (show k < 16 by omega) ((-1 : Int32).toInt64)
        simp (disch := omega) only [X7_tellsServed_s16, X11_serves_s183, X11_serves_k289, i_ge, gi_o, o_cl, ew, eb, b2, Option.bind_some, et, et', o_s, ej, ej2, t1, t2, q1, b1, if_true, pu_or0, if_pos (show (-1 : Int32) < 0 by decide)]
        exact ⟨_, _, rfl, rfl, ⟨u, hu, rfl, rfl⟩, rfl, rfl, r1, r2, r3⟩
      · obtain ⟨t, t', et, et', r1, r2, r3⟩ := TO.ad g7 (show k < 16 by omega) ((o32 i).toInt64)
        have nn : (o32 i < 0) = False := eq_false (o_nn i (by omega))
        have eB := L_byM hri (EQ.rf (a := now)) hA hy' hM hk hu hi b1 b2
        simp (disch := omega) only [X7_tellsServed_s16, X11_serves_s183, X11_serves_k289, i_ge, gi_o, o_cl, ew, eb, b4, Option.bind_some, et, et', o_s, ej, ej2, t1, t2, q1, b3, if_false, nn, eB, o_shl, o_or]
        exact ⟨_, _, rfl, rfl, ⟨u ||| 2 ^ i, or_2n hu hi, rfl, rfl⟩, rfl, rfl, r1, r2, r3⟩) (by
      rintro ⟨u0, i, s, f⟩ ⟨u0', i', s', f'⟩ ⟨⟨u, hu, g1, g2⟩, g3, g4, g5, g6, g7⟩
      have g3 : i = _ := g3
      have g4 : i' = _ := g4
      subst g3 g4
      refine ⟨(s, f), (s', f'), ?_, ?_, g5, g6, g7⟩
      · simp (disch := omega) only [X7_tellsServed_s16, i_le]
      · simp (disch := omega) only [X11_serves_s183, i_le]) (by omega)
  have hp2 : 0 < 2 ^ n := Nat.two_pow_pos n
  have m0 : X7_mostFrom tC 0 0 = some (tC 0) := L_mf (one := 0) (used := 0) (by decide) (by decide)
  have v1 := hC 0 (Nat.zero_le _) (Nat.zero_le _) 0 hp2
  have v2 := hM 0 (Nat.zero_le _) (Nat.zero_le _) 0 hp2
  have g0 : ∀ {α : Type} {x : Option α}, gi (0 : Int32) 1024 x = x := gi_o (k := 0) (by decide) (by decide)
  simp only [X10_serves, X7_tellsServed, X11_serves, ey, ey', hy, eC, eX, eM, ez, ez', Option.bind_some, un, m0, g0, tl0]
  exact ⟨_, _, rfl, rfl, v1.trans v2.symm, n, by omega, hz1, hz2, hz3⟩
end SW
