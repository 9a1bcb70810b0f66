/-! ===== the pure level: ring ===== -/
/-- how far one is from s among those from s on -/
def RW (n : Nat) (a : Nat → Int32) (s j : Nat) : Nat := BF n a (2 ^ n - 2 ^ s) s (n - 1) j
theorem am_tb {n s i : Nat} (hn : n ≤ 7) (hs : s < n) (hi : i < n) (h : s ≤ i) : (2 ^ n - 2 ^ s).testBit i = true := by
  have h1 : ∀ n : Fin 8, ∀ s : Fin 8, ∀ i : Fin 8, s.val < n.val → i.val < n.val → s.val ≤ i.val → (2 ^ n.val - 2 ^ s.val).testBit i.val = true := by decide +kernel
  exact h1 ⟨n, by omega⟩ ⟨s, by omega⟩ ⟨i, by omega⟩ hs hi h
theorem am_tb' {n s i : Nat} (hn : n ≤ 7) (hs : s < n) (hi : i < n) (h : (2 ^ n - 2 ^ s).testBit i = true) : s ≤ i := by
  have h1 : ∀ n : Fin 8, ∀ s : Fin 8, ∀ i : Fin 8, s.val < n.val → i.val < n.val → (2 ^ n.val - 2 ^ s.val).testBit i.val = true → s.val ≤ i.val := by decide +kernel
  exact h1 ⟨n, by omega⟩ ⟨s, by omega⟩ ⟨i, by omega⟩ hs hi h
theorem am_o {n s : Nat} (hn : n ≤ 7) (hs : s < n) : o32 (2 ^ n - 1) &&& (-((1 : Int32) <<< (o32 s &&& 31))) = o32 (2 ^ n - 2 ^ s) := by
  have h1 : ∀ n : Fin 8, ∀ s : Fin 8, s.val < n.val → o32 (2 ^ n.val - 1) &&& (-((1 : Int32) <<< (o32 s.val &&& 31))) = o32 (2 ^ n.val - 2 ^ s.val) := by decide +kernel
  exact h1 ⟨n, by omega⟩ ⟨s, by omega⟩ hs
section RG
variable {n : Nat} {day unmet : Int32} {skill pills slept woken wanted now : Nat → Int32} {tsz rm : Int32} {tnum row : Nat → Int64}
theorem RW_st {s i j : Nat} (hn : n ≤ 7) (hs : s < n) (hi : i < n) (hj : j < n) (h : s ≤ i) (hw : (nt (now (28 + i))).testBit j = true) (hd : RW n now s j < 99) : RW n now s i ≤ RW n now s j + 1 := BF_st hn hi hj (am_tb hn hs hi h) hw hd
theorem RW_0 {s : Nat} : RW n now s s = 0 := BF_0.mpr rfl
theorem L_rl (h : RI n now) {rec : Int32 → Int32 → (Nat → Int32) → (Nat → Int32) → (Nat → Int32) → Int32 → Int32 → Option (Int32 × (Nat → Int32) × (Nat → Int32))} {s d one used : Nat} {line0 : Nat → Int32} (hA : AT n d one used) (hs : s < n) (h0 : line0 0 = o32 s) (hl : line0 d = o32 one) (P : Nat → Nat → (Nat → Int32) → Prop)
    (hskip : ∀ k B best, s < k → k < n → ((used ||| 2 ^ one).testBit k = true ∨ (nt (now (28 + one))).testBit k = false) → P k B best → P (k + 1) B best)
    (hc : ∀ k B best line, s < k → k < n → AT n (d + 1) k (used ||| 2 ^ one) → (nt (now (28 + one))).testBit k = true → (∀ j, j ≤ d → line j = line0 j) → P k B best → ∃ B' line' best', rec (o32 n) (o32 B) now (upd line (d + 1) (o32 k)) best (o32 (d + 2)) (o32 (used ||| 2 ^ one ||| 2 ^ k)) = some (o32 B', line', best') ∧ (∀ j, j ≤ d → line' j = line0 j) ∧ P (k + 1) B' best')
    {B : Nat} {best : Nat → Int32} (hP : P (s + 1) B best) : ∃ B' line' best', X11_goRing_k46 rec (o32 n) now line0 (o32 (d + 1)) (o32 (used ||| 2 ^ one)) (o32 B) best = some (o32 B', line', best') ∧ (∀ j, j ≤ d → line' j = line0 j) ∧ P n B' best' := by
  have hn := h.1
  have h7 := p2_7 hn
  obtain ⟨u1, u2, u3⟩ := hA.up hn
  have hone := hA.2.2.1
  have hw := h.wt hone
  obtain ⟨z, e, B', hz1, hz2, hz3⟩ := lp_ct (f := fun x55 : Int32 × Int32 × (Nat → Int32) × (Nat → Int32) => X11_goRing_s55 rec (o32 n) now (o32 (d + 1)) (o32 (used ||| 2 ^ one)) x55.1 x55.2.1 x55.2.2.1 x55.2.2.2) (fun k x => x.1 = o32 (s + 1 + k) ∧ ∃ B', x.2.1 = o32 B' ∧ (∀ j, j ≤ d → x.2.2.1 j = line0 j) ∧ P (s + 1 + k) B' x.2.2.2) (fun z => ∃ B', z.1 = o32 B' ∧ (∀ j, j ≤ d → z.2.1 j = line0 j) ∧ P n B' z.2.2) (n - (s + 1)) (o32 (s + 1), o32 B, line0, best) ⟨rfl, B, rfl, fun _ _ => rfl, hP⟩ (by
    rintro k0 ⟨i, l, x, b⟩ hk0 ⟨h1, B1, h2, h4, hP1⟩
    have h1 : i = _ := h1
    have h2 : l = _ := h2
    subst h1 h2
    have h4 : ∀ j, j ≤ d → x j = line0 j := h4
    have hP1 : P (s + 1 + k0) B1 b := hP1
    obtain ⟨k, hk⟩ : ∃ k, s + 1 + k0 = k := ⟨_, rfl⟩
    rw [hk] at hP1
    have hk1 : s + 1 + (k0 + 1) = k + 1 := by omega
    have hkn : k < n := by omega
    have hsk : s < k := by omega
    show ∃ x', _ ∧ (_ = o32 (s + 1 + (k0 + 1)) ∧ ∃ B', _ = o32 B' ∧ _ ∧ P (s + 1 + (k0 + 1)) B' _)
    rw [hk1, hk]
    have hx : x d = o32 one := by rw [h4 d (Nat.le_refl d)]; exact hl
    have hU : used ||| 2 ^ one < 128 := by omega
    have hhas : X11_has (now (28 + one)) (o32 k) = bi ((nt (now (28 + one))).testBit k) := by
      rw [show now (28 + one) = o32 (nt (now (28 + one))) from hw.2.1, pu_has hw.2.2.1 (by omega), ← hw.2.1]
    have ed : o32 (d + 1) - 1 = o32 d := pu_m1
    have ebf : (bi false = 0) = True := eq_true rfl
    have ebt : (bi true = 0) = False := eq_false (by decide)
    cases hs : (used ||| 2 ^ one).testBit k with
    | true =>
      refine ⟨(o32 (k + 1), o32 B1, x, b), ?_, rfl, B1, rfl, h4, hskip k B1 b hsk hkn (Or.inl hs) hP1⟩
      simp (disch := omega) only [X11_goRing_s55, i_ge, pu_has hU (show k < 7 by omega), hs, ebt, if_false, o_s]
    | false =>
      cases hwt : (nt (now (28 + one))).testBit k with
      | false =>
        refine ⟨(o32 (k + 1), o32 B1, x, b), ?_, rfl, B1, rfl, h4, hskip k B1 b hsk hkn (Or.inr hwt) hP1⟩
        simp (disch := omega) only [X11_goRing_s55, i_ge, pu_has hU (show k < 7 by omega), hs, ebf, if_true, ed, gi_o, o_cl, hx, o_la, hhas, hwt, o_s]
      | true =>
        have hA' : AT n (d + 1) k (used ||| 2 ^ one) := ⟨u1, u2, hkn, hs⟩
        have u3' := (hA'.up hn).2.2
        obtain ⟨B2, l2, b2, el, hl2, hP2⟩ := hc k B1 b x hsk hkn hA' hwt h4 hP1
        refine ⟨(o32 (k + 1), o32 B2, l2, b2), ?_, rfl, B2, rfl, hl2, hP2⟩
        simp (disch := omega) only [X11_goRing_s55, i_ge, pu_has hU (show k < 7 by omega), hs, ebf, if_true, ed, gi_o, o_cl, hx, o_la, hhas, hwt, ebt, if_false, o_s, o_shl, o_or, el, Option.bind_some]) (by
    rintro ⟨i, l, x, b⟩ ⟨h1, h2⟩
    have h1 : i = _ := h1
    rw [show s + 1 + (n - (s + 1)) = n by omega] at h1 h2
    subst h1
    refine ⟨(l, x, b), ?_, h2⟩
    simp (disch := omega) only [X11_goRing_s55, i_le]) (by omega)
  obtain ⟨z0, z1, z2⟩ := z
  have hz1 : z0 = _ := hz1
  subst hz1
  refine ⟨B', z1, z2, ?_, hz2, hz3⟩
  unfold X11_goRing_k46
  rw [gl0, tl0, h0, o_s, e]
  rfl
/-- where a call starts: laid or not -/
theorem L_rb (h : RI n now) (rec : Int32 → Int32 → (Nat → Int32) → (Nat → Int32) → (Nat → Int32) → Int32 → Int32 → Option (Int32 × (Nat → Int32) × (Nat → Int32))) {s d one used B : Nat} (line best : Nat → Int32) (hA : AT n d one used) (hs : s < n) (h0 : line 0 = o32 s) (hl : line d = o32 one) (hB : B ≤ 1000000) :
    ((d = 0 ∨ B ≤ d + 1 ∨ (nt (now (28 + one))).testBit s = false) ∧ X11_ringr_b0 rec (o32 n) (o32 B) now line best (o32 (d + 1)) (o32 (used ||| 2 ^ one)) = X11_goRing_k46 rec (o32 n) now line (o32 (d + 1)) (o32 (used ||| 2 ^ one)) (o32 B) best) ∨
    (¬ d = 0 ∧ d + 1 < B ∧ (nt (now (28 + one))).testBit s = true ∧ ∃ bs, (∀ k, k ≤ d → bs k = line k) ∧ X11_ringr_b0 rec (o32 n) (o32 B) now line best (o32 (d + 1)) (o32 (used ||| 2 ^ one)) = X11_goRing_k46 rec (o32 n) now line (o32 (d + 1)) (o32 (used ||| 2 ^ one)) (o32 (d + 1)) bs) := by
  have hn := h.1
  obtain ⟨u1, u2, u3⟩ := hA.up hn
  have hone := hA.2.2.1
  have hw := h.wt hone
  by_cases hd : d = 0
  · left
    refine ⟨Or.inl hd, ?_⟩
    subst hd
    unfold X11_ringr_b0
    rw [show (1 : Int32) = o32 1 from rfl, i_le (Nat.le_refl _) (by decide)]
  · have hle : ¬ o32 (d + 1) ≤ (1 : Int32) := by
      show ¬ o32 (d + 1) ≤ o32 1
      rw [o_le (by omega) (by decide)]; omega
    rcases Nat.lt_or_ge (d + 1) B with hb | hb
    · have ed : o32 (d + 1) - 1 = o32 d := pu_m1
      have hhas : X11_has (now (28 + one)) (o32 s) = bi ((nt (now (28 + one))).testBit s) := by
        rw [show now (28 + one) = o32 (nt (now (28 + one))) from hw.2.1, pu_has hw.2.2.1 (by omega), ← hw.2.1]
      cases hwt : (nt (now (28 + one))).testBit s with
      | false =>
        left
        refine ⟨Or.inr (Or.inr rfl), ?_⟩
        have ebf : (bi false = 0) = True := eq_true rfl
        unfold X11_ringr_b0
        rw [if_neg hle, i_ge hb (by omega)]
        simp (disch := omega) only [ed, gi_o, o_cl, hl, o_la, gl0, tl0, h0, hhas, hwt, ebf, if_true]
      | true =>
        right
        obtain ⟨bs, ebs, hbs⟩ := L_layB line best (show d + 1 ≤ 7 by omega)
        have ebt : (bi true = 0) = False := eq_false (by decide)
        refine ⟨hd, hb, rfl, bs, fun k hk => hbs k (by omega), ?_⟩
        unfold X11_ringr_b0
        rw [if_neg hle, i_ge hb (by omega)]
        simp (disch := omega) only [ed, gi_o, o_cl, hl, o_la, gl0, tl0, h0, hhas, hwt, ebt, if_false, ebs, Option.bind_some]
    · left
      refine ⟨Or.inr (Or.inl hb), ?_⟩
      unfold X11_ringr_b0
      rw [if_neg hle, i_le hb (by omega)]
/-- a call changes nothing, or it lays what is as long as it must be -/
theorem L_r1 (h : RI n now) {s : Nat} (hs : s < n) : ∀ (m g d one used B : Nat) (line best : Nat → Int32), n - d = m → AT n d one used → line 0 = o32 s → line d = o32 one → s ≤ one → B ≤ 1000000 → ∃ B' line' best', X11_ringr (g + m) (o32 n) (o32 B) now line best (o32 (d + 1)) (o32 (used ||| 2 ^ one)) = some (o32 B', line', best') ∧ (∀ k, k ≤ d → line' k = line k) ∧ ((B' = B ∧ best' = best) ∨ (B' < B ∧ B' ≤ 7 ∧ ∃ k, k < n ∧ (nt (now (28 + one))).testBit k = true ∧ RW n now s k + d + 1 ≤ B'))
  | 0, g, d, one, used, B, line, best, hm, hA, h0, hl, hso, hB => by
    have := (hA.up h.1).2.2
    omega
  | m + 1, g, d, one, used, B, line, best, hm, hA, h0, hl, hso, hB => by
    have hn := h.1
    have u3 := (hA.up hn).2.2
    show ∃ B' line' best', X11_ringr_b0 (X11_ringr (g + m)) (o32 n) (o32 B) now line best (o32 (d + 1)) (o32 (used ||| 2 ^ one)) = some (o32 B', line', best') ∧ _
    have lo : ∀ (B1 : Nat) (b1 : Nat → Int32), ((B1 = B ∧ b1 = best) ∨ (B1 < B ∧ B1 ≤ 7 ∧ ∃ k, k < n ∧ (nt (now (28 + one))).testBit k = true ∧ RW n now s k + d + 1 ≤ B1)) → ∃ B' line' best', X11_goRing_k46 (X11_ringr (g + m)) (o32 n) now line (o32 (d + 1)) (o32 (used ||| 2 ^ one)) (o32 B1) b1 = some (o32 B', line', best') ∧ (∀ j, j ≤ d → line' j = line j) ∧ ((B' = B ∧ best' = best) ∨ (B' < B ∧ B' ≤ 7 ∧ ∃ k, k < n ∧ (nt (now (28 + one))).testBit k = true ∧ RW n now s k + d + 1 ≤ B')) := by
      intro B1 b1 hP
      refine L_rl h hA hs h0 hl (fun _ B' best' => (B' = B ∧ best' = best) ∨ (B' < B ∧ B' ≤ 7 ∧ ∃ k, k < n ∧ (nt (now (28 + one))).testBit k = true ∧ RW n now s k + d + 1 ≤ B')) (fun k B' b' _ _ _ hp => hp) ?_ hP
      intro k B2 b2 x hsk hk hA' hwt hx hp
      have u3' := (hA'.up hn).2.2
      have hp' : (B2 = B ∧ b2 = best) ∨ (B2 < B ∧ B2 ≤ 7 ∧ ∃ k, k < n ∧ (nt (now (28 + one))).testBit k = true ∧ RW n now s k + d + 1 ≤ B2) := hp
      clear hP hp
      have hB2 : B2 ≤ B := by
        rcases hp' with ⟨c, -⟩ | ⟨c, -⟩
        · exact Nat.le_of_eq c
        · exact Nat.le_of_lt c
      have hm' : n - (d + 1) = m := by clear hp'; omega
      obtain ⟨B3, x3, b3, e3, h31, h32⟩ := L_r1 h hs m g (d + 1) k (used ||| 2 ^ one) B2 (upd x (d + 1) (o32 k)) b2 hm' hA' (by rw [pk_un (Nat.succ_ne_zero d).symm, hx 0 (Nat.zero_le d)]; exact h0) pk_us (Nat.le_of_lt hsk) (Nat.le_trans hB2 hB)
      refine ⟨B3, x3, b3, e3, fun j hj => by clear hp' h32; rw [h31 j (by omega), pk_un (by omega)]; exact hx j hj, ?_⟩
      show (B3 = B ∧ b3 = best) ∨ (B3 < B ∧ B3 ≤ 7 ∧ ∃ k, k < n ∧ (nt (now (28 + one))).testBit k = true ∧ RW n now s k + d + 1 ≤ B3)
      rcases h32 with ⟨rfl, rfl⟩ | ⟨g1, g2, k', g3, g4, g5⟩
      · exact hp'
      · right
        clear hp'
        have := RW_st hn hs hk g3 (by omega) g4 (by omega)
        exact ⟨by omega, g2, k, hk, hwt, by omega⟩
    rcases L_rb h (X11_ringr (g + m)) line best hA hs h0 hl hB with ⟨-, e⟩ | ⟨hd, hb, hwt, bs, hbs, e⟩
    · rw [e]
      exact lo B best (Or.inl ⟨rfl, rfl⟩)
    · rw [e]
      exact lo (d + 1) bs (Or.inr ⟨hb, by omega, s, hs, hwt, by rw [RW_0]; omega⟩)
/-- the line goes on as near as it can, the first such -/
def GR (n : Nat) (a : Nat → Int32) (s M d : Nat) (best : Nat → Int32) : Prop := ∀ i, d < i → i < M → ∃ x y, x < n ∧ y < n ∧ best (i - 1) = o32 x ∧ best i = o32 y ∧ NR n a (2 ^ n - 2 ^ s) s x (M - i) y = true ∧ ∀ j, j < y → NR n a (2 ^ n - 2 ^ s) s x (M - i) j = false
theorem NR_i {s p v i : Nat} : NR n now (2 ^ n - 2 ^ s) s p v i = true ↔ ((nt (now (28 + p))).testBit i = true ∧ RW n now s i = v) := by
  unfold NR RW
  rw [Bool.and_eq_true, decide_eq_true_iff]
theorem L_r2 (h : RI n now) {s M : Nat} (hs : s < n) (hM : M ≤ 7) : ∀ (m g d one used B : Nat) (line best : Nat → Int32), n - d = m → AT n d one used → line 0 = o32 s → line d = o32 one → s ≤ one → (d = 0 → 2 ≤ M) → d + 1 ≤ M → (∀ k, k < n → (nt (now (28 + one))).testBit k = true → M ≤ RW n now s k + d + 1) → (∃ k, k < n ∧ (nt (now (28 + one))).testBit k = true ∧ RW n now s k + d + 1 = M) → (∀ j, j < n → (used ||| 2 ^ one).testBit j = true → j = s ∨ M ≤ RW n now s j + d) → M < B → B ≤ 1000000 → ∃ line' best', X11_ringr (g + m) (o32 n) (o32 B) now line best (o32 (d + 1)) (o32 (used ||| 2 ^ one)) = some (o32 M, line', best') ∧ (∀ k, k ≤ d → line' k = line k) ∧ (∀ k, k ≤ d → best' k = line k) ∧ GR n now s M d best'
  | 0, g, d, one, used, B, line, best, hm, hA, h0, hl, hso, hd2, hdM, hH, hE, hU, hMB, hB => by
    have := (hA.up h.1).2.2
    omega
  | m + 1, g, d, one, used, B, line, best, hm, hA, h0, hl, hso, hd2, hdM, hH, hE, hU, hMB, hB => by
    have hn := h.1
    have u3 := (hA.up hn).2.2
    have hone := hA.2.2.1
    show ∃ line' best', X11_ringr_b0 (X11_ringr (g + m)) (o32 n) (o32 B) now line best (o32 (d + 1)) (o32 (used ||| 2 ^ one)) = some (o32 M, line', best') ∧ _
    -- a child after the best is laid
    have aft : ∀ (k : Nat) (b2 x : Nat → Int32), s < k → k < n → AT n (d + 1) k (used ||| 2 ^ one) → (nt (now (28 + one))).testBit k = true → (∀ j, j ≤ d → x j = line j) → ∃ x3, X11_ringr (g + m) (o32 n) (o32 M) now (upd x (d + 1) (o32 k)) b2 (o32 (d + 2)) (o32 (used ||| 2 ^ one ||| 2 ^ k)) = some (o32 M, x3, b2) ∧ ∀ j, j ≤ d → x3 j = line j := by
      intro k b2 x hsk hk hA' hwt hx
      obtain ⟨B3, x3, b3, e3, h31, h32⟩ := L_r1 h hs m g (d + 1) k (used ||| 2 ^ one) M (upd x (d + 1) (o32 k)) b2 (by omega) hA' (by rw [pk_un (by omega), hx 0 (Nat.zero_le d)]; exact h0) pk_us (by omega) (by omega)
      rcases h32 with ⟨rfl, rfl⟩ | ⟨g1, g2, k', g3, g4, g5⟩
      · exact ⟨x3, e3, fun j hj => by rw [h31 j (by omega), pk_un (by omega)]; exact hx j hj⟩
      · have h9 := RW_st hn hs hk g3 (by omega) g4 (by omega)
        have := hH k hk hwt
        omega
    obtain ⟨k0, hk0, hwk0, hdk0⟩ := hE
    by_cases hlast : d + 1 = M
    · -- it is laid here
      have ek : k0 = s := by
        have h9 : RW n now s k0 = 0 := by omega
        exact BF_0.mp h9
      subst ek
      rcases L_rb h (X11_ringr (g + m)) line best hA hs h0 hl hB with ⟨hno, -⟩ | ⟨-, -, -, bs, hbs, e⟩
      · rcases hno with hno | hno | hno
        · have := hd2 hno; omega
        · omega
        · rw [hno] at hwk0; cases hwk0
      · rw [e, hlast]
        obtain ⟨B', l', b', e', hl', hB', hb'⟩ := L_rl h (rec := X11_ringr (g + m)) hA hs h0 hl (fun _ B' b' => B' = M ∧ b' = bs) (fun _ _ _ _ _ _ hp => hp) (by
          rintro k B2 b2 x hsk hk hA' hwt hx ⟨rfl, rfl⟩
          obtain ⟨x3, e3, h3⟩ := aft k b2 x hsk hk hA' hwt hx
          exact ⟨_, x3, b2, e3, h3, rfl, rfl⟩) (B := M) (best := bs) ⟨rfl, rfl⟩
        subst hB' hb'
        rw [hlast] at e'
        exact ⟨l', b', e', hl', hbs, fun i h1 h2 => absurd h2 (by omega)⟩
    · -- it goes on
      have hws : (nt (now (28 + one))).testBit s = false := by
        cases hc : (nt (now (28 + one))).testBit s with
        | false => rfl
        | true =>
          have := hH s hs hc
          rw [RW_0] at this
          omega
      rcases L_rb h (X11_ringr (g + m)) line best hA hs h0 hl hB with ⟨-, e⟩ | ⟨-, -, hc, -⟩
      · rw [e]
        -- the first that is nearest
        have hNR0 : NR n now (2 ^ n - 2 ^ s) s one (M - (d + 1)) k0 = true := NR_i.mpr ⟨hwk0, by omega⟩
        rcases least_or (P := fun k => NR n now (2 ^ n - 2 ^ s) s one (M - (d + 1)) k = true) (n - 1) with ⟨y, hy, y1, y2⟩ | hno
        · have hyn : y < n := by omega
          have y1' : NR n now (2 ^ n - 2 ^ s) s one (M - (d + 1)) y = true := y1
          obtain ⟨hwy, hdy⟩ := NR_i.mp y1'
          obtain ⟨hay, -⟩ := BF_pr (n := n) (now := now) (am := 2 ^ n - 2 ^ s) (to := s) (m := n - 1) (i := y) (v := M - (d + 1) - 1) (by omega) (by
            have : RW n now s y = M - (d + 1) - 1 + 1 := by omega
            exact this)
          have hsy := am_tb' hn hs hyn hay
          have hsy' : s < y := by
            rcases Nat.lt_or_ge s y with c | c
            · exact c
            · have : y = s := by omega
              rw [this, RW_0] at hdy
              omega
          have huy : (used ||| 2 ^ one).testBit y = false := by
            cases hc : (used ||| 2 ^ one).testBit y with
            | false => rfl
            | true =>
              rcases hU y hyn hc with h9 | h9
              · omega
              · omega
          obtain ⟨B', l', b', e', hl', hP⟩ := L_rl h (rec := X11_ringr (g + m)) hA hs h0 hl (fun k B' b' => (k ≤ y ∧ M < B' ∧ B' ≤ 1000000) ∨ (y < k ∧ B' = M ∧ (∀ j, j ≤ d → b' j = line j) ∧ b' (d + 1) = o32 y ∧ GR n now s M (d + 1) b')) (by
            rintro k B2 b2 hsk hk hor (⟨p1, p2, p3⟩ | ⟨p1, p2⟩)
            · left
              refine ⟨?_, p2, p3⟩
              rcases Nat.lt_or_ge k y with c | c
              · omega
              · have : k = y := by omega
                subst this
                rcases hor with c1 | c1
                · rw [huy] at c1; cases c1
                · rw [hwy] at c1; cases c1
            · right
              exact ⟨by omega, p2⟩) (by
            rintro k B2 b2 x hsk hk hA' hwt hx (⟨p1, p2, p3⟩ | ⟨p1, p2, p3⟩)
            · have u3' := (hA'.up hn).2.2
              have hx0 : upd x (d + 1) (o32 k) 0 = o32 s := by rw [pk_un (by omega), hx 0 (Nat.zero_le d)]; exact h0
              rcases Nat.lt_or_ge k y with c | c
              · obtain ⟨B3, x3, b3, e3, h31, h32⟩ := L_r1 h hs m g (d + 1) k (used ||| 2 ^ one) B2 (upd x (d + 1) (o32 k)) b2 (by omega) hA' hx0 pk_us (by omega) p3
                refine ⟨B3, x3, b3, e3, fun j hj => by rw [h31 j (by omega), pk_un (by omega)]; exact hx j hj, Or.inl ⟨by omega, ?_⟩⟩
                rcases h32 with ⟨rfl, rfl⟩ | ⟨g1, g2, k', g3, g4, g5⟩
                · exact ⟨p2, p3⟩
                · have h9 := RW_st hn hs hk g3 (by omega) g4 (by omega)
                  have h10 := hH k hk hwt
                  have h11 : ¬ RW n now s k = M - (d + 1) := fun he => y2 k c (NR_i.mpr ⟨hwt, he⟩)
                  omega
              · have : k = y := by omega
                subst this
                obtain ⟨x3, b3, e3, h31, h32, h33⟩ := L_r2 h hs hM m g (d + 1) k (used ||| 2 ^ one) B2 (upd x (d + 1) (o32 k)) b2 (by omega) hA' hx0 pk_us (by omega) (by omega) (by omega) (fun k' hk' hw' => by
                    by_cases c9 : RW n now s k' < 99
                    · have := RW_st hn hs hk hk' (by omega) hw' c9
                      omega
                    · omega) (by
                    obtain ⟨-, j, hj, hj1, hj2⟩ := BF_pr (n := n) (now := now) (am := 2 ^ n - 2 ^ s) (to := s) (m := n - 1) (i := k) (v := M - (d + 1) - 1) (by omega) (by
                      have : RW n now s k = M - (d + 1) - 1 + 1 := by omega
                      exact this)
                    refine ⟨j, hj, hj1, ?_⟩
                    have hj2 : RW n now s j = M - (d + 1) - 1 := hj2
                    omega) (fun j hj hb => by
                    rw [Nat.testBit_or, tb_2, Bool.or_eq_true] at hb
                    rcases hb with hb | hb
                    · rcases hU j hj hb with c1 | c1
                      · exact Or.inl c1
                      · exact Or.inr (by omega)
                    · have := of_decide_eq_true hb
                      subst this
                      exact Or.inr (by omega)) p2 p3
                refine ⟨M, x3, b3, e3, fun j hj => by rw [h31 j (by omega), pk_un (by omega)]; exact hx j hj, Or.inr ⟨by omega, rfl, fun j hj => ?_, ?_, h33⟩⟩
                · rw [h32 j (by omega), pk_un (by omega)]; exact hx j hj
                · rw [h32 (d + 1) (Nat.le_refl _)]; exact pk_us
            · subst p2
              obtain ⟨x3, e3, h3⟩ := aft k b2 x hsk hk hA' hwt hx
              exact ⟨_, x3, b2, e3, h3, Or.inr ⟨by omega, rfl, p3⟩⟩) (B := B) (best := best) (Or.inl ⟨by omega, hMB, hB⟩)
          rcases hP with ⟨q1, -⟩ | ⟨-, q2, q3, q4, q5⟩
          · omega
          · subst q2
            refine ⟨l', b', e', hl', q3, fun i hi1 hi2 => ?_⟩
            rcases Nat.lt_or_ge (d + 1) i with c | c
            · exact q5 i c hi2
            · have : i = d + 1 := by omega
              subst this
              refine ⟨one, y, hone, hyn, ?_, q4, y1', fun j hj => by simpa using y2 j hj⟩
              rw [show d + 1 - 1 = d by omega, q3 d (Nat.le_refl d)]; exact hl
        · exact absurd hNR0 (hno k0 (by omega))
      · rw [hws] at hc; cases hc
end RG
