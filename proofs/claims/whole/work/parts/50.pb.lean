/-! ===== the pure level: busiest ===== -/
/-- rows that are alike but for how often one was woken -/
def EW (a b : Nat → Int32) : Prop := ∀ j, j < 37 → ¬ (21 ≤ j ∧ j < 28) → a j = b j
theorem EW_th {a b : Nat → Int32} (h : EW a b) {p q : Nat} (hp : p < 7) (hq : q < 7) (set : Nat) : th a p q set = th b p q set := by
  funext j
  unfold th
  rw [h q (by omega) (by omega), h p (by omega) (by omega), h (28 + p) (by omega) (by omega), h (14 + q) (by omega) (by omega), h (28 + q) (by omega) (by omega), h 35 (by omega) (by omega)]
theorem EW_wb {a b : Nat → Int32} (h : EW a b) {n : Nat} (hn : n ≤ 7) (q : Nat) : WB n a q = WB n b q :=
  bm_ext (fun k hk => by rw [h (28 + k) (by omega) (by omega)])
theorem EW_nb {vs : (Nat → Int32) → Int32} {a b : Nat → Int32} (h : EW a b) {n : Nat} (hn : n ≤ 7) {q : Nat} (hq : q < 7) (set : Nat) : NB vs n a q set = NB vs n b q set :=
  bm_ext (fun k hk => by unfold ND; rw [EW_th h (by omega) hq])
theorem EW_aw {vs : (Nat → Int32) → Int32} {a b : Nat → Int32} (h : EW a b) {n : Nat} (hn : n ≤ 7) : AW vs n a = AW vs n b :=
  bm_ext (fun k hk => by unfold IA; rw [EW_wb h hn, EW_nb h hn (by omega), h (7 + k) (by omega) (by omega)])
theorem EW_um {a b : Nat → Int32} (h : EW a b) {n : Nat} (hn : n ≤ 7) (up : Nat) : UM n a up = UM n b up :=
  cn_ext (fun k hk => by rw [h (28 + k) (by omega) (by omega)])
theorem EW_mo {vs : (Nat → Int32) → Int32} {a b : Nat → Int32} (h : EW a b) {n : Nat} (hn : n ≤ 7) : EW (MO vs n a) (MO vs n b) := by
  intro j hj hj2
  unfold MO MOu MP
  rw [EW_aw h hn, EW_um h hn, h 36 (by omega) (by omega), h 35 (by omega) (by omega), h j hj hj2]
theorem EW_mi {vs : (Nat → Int32) → Int32} {a b : Nat → Int32} (h : EW a b) {n : Nat} (hn : n ≤ 7) : ∀ k, EW (MI vs n a k) (MI vs n b k)
  | 0 => h
  | k + 1 => EW_mo (EW_mi h hn k) hn
/-- on how many of so many mornings one wakes -/
def CN (vs : (Nat → Int32) → Int32) (n : Nat) (a : Nat → Int32) (q k : Nat) : Nat := cn (fun i => (AW vs n (MI vs n a i)).testBit q) k
theorem CN_s (vs : (Nat → Int32) → Int32) (n : Nat) (a : Nat → Int32) (q k : Nat) : CN vs n a q (k + 1) = CN vs n a q k + ((AW vs n (MI vs n a k)).testBit q).toNat := rfl
theorem CN_le (vs : (Nat → Int32) → Int32) (n : Nat) (a : Nat → Int32) (q k : Nat) : CN vs n a q k ≤ k := cn_le _ k
theorem CN_0 (vs : (Nat → Int32) → Int32) (n : Nat) (a : Nat → Int32) (q : Nat) : ∀ k, (CN vs n a q k = 0) = ((SE vs n a k).testBit q = false)
  | 0 => by
    show (0 = 0) = (Nat.testBit 0 q = false)
    rw [Nat.zero_testBit]
    simp
  | k + 1 => by
    have h := CN_0 vs n a q k
    rw [CN_s]
    show _ = ((SE vs n a k ||| AW vs n (MI vs n a k)).testBit q = false)
    rw [Nat.testBit_or]
    cases hb : (AW vs n (MI vs n a k)).testBit q with
    | false => rw [Bool.or_false, ← h]; rfl
    | true => simp
theorem pu_min {c : Nat} (h : c < 999) : J9_min_7cf53 999 (o32 c + 1) = o32 (c + 1) := by
  unfold J9_min_7cf53
  rw [o_s]
  show (if o32 (c + 1) < o32 999 then o32 (c + 1) else o32 999) = _
  by_cases h1 : c + 1 < 999
  · rw [i_gt h1 (by decide)]
  · rw [i_lt (by omega) (by omega)]
    have : c + 1 = 999 := by omega
    rw [this]
theorem MI_wok {vs : (Nat → Int32) → Int32} {n : Nat} {a b : Nat → Int32} (hn : n ≤ 7) (hw : EW a b) {q : Nat} (hq : q < n) (h0 : b (21 + q) = 0) : ∀ k, k ≤ 999 → MI vs n b k (21 + q) = o32 (CN vs n a q k)
  | 0, _ => h0
  | k + 1, hk => by
    have ih := MI_wok (vs := vs) hn hw hq h0 k (by omega)
    show MO vs n (MI vs n b k) (21 + q) = _
    unfold MO MOu
    rw [if_neg (by omega), if_neg (by omega), MP_21 hn (by omega), if_pos hq, ih, CN_s, ← EW_aw (EW_mi hw hn k) hn]
    have := CN_le vs n a q k
    cases (AW vs n (MI vs n a k)).testBit q with
    | false => rfl
    | true => exact pu_min (by omega)
section MB
variable {vs : (Nat → Int32) → Int32} {n : Nat} {day unmet : Int32} {skill pills slept woken wanted now : Nat → Int32} {size : Int32} {code : Nat → Int32} {ruleSize : Int32} {rule : Nat → Int32} {tsz rm : Int32} {tnum row : Nat → Int64}
theorem L_rests (w : Nat → Int32) : ∃ z, X0_restsWoken w = some z ∧ ∀ j, j < 7 → z j = 0 := by
  obtain ⟨z, e, hz⟩ := lp_ct (f := fun x2 : Int32 × (Nat → Int32) => X0_restsWoken_s2 x2.1 x2.2) (fun k x => x.1 = o32 k ∧ ∀ j, j < k → x.2 j = 0) (fun z => ∀ j, j < 7 → z j = 0) 7 ((0 : Int32), w) ⟨rfl, fun j hj => absurd hj (Nat.not_lt_zero j)⟩ (by
    rintro k ⟨i, x⟩ hk ⟨h1, h2⟩
    have h1 : i = _ := h1
    subst h1
    have e7 : (7 : Int32) = o32 7 := rfl
    refine ⟨(o32 (k + 1), upd x k 0), ?_, rfl, fun j hj => ?_⟩
    · simp (disch := omega) only [X0_restsWoken_s2, e7, i_ge, gi_o, o_cl, o_s]
    · show upd x k 0 j = 0
      by_cases e : j = k
      · subst e; exact pk_us
      · rw [pk_un e]; exact h2 j (by omega)) (by
    rintro ⟨i, x⟩ ⟨h1, h2⟩
    have h1 : i = _ := h1
    subst h1
    exact ⟨x, rfl, h2⟩) (by omega)
  refine ⟨z, ?_, hz⟩
  unfold X0_restsWoken
  rw [e]
  rfl
theorem ev_sd (hn : n ≤ 7) : X0_everybody (o32 n) = o32 (sd (2 ^ n - 1) 0) := by
  have h7 := p2_7 hn
  have hp : 0 < 2 ^ n := Nat.two_pow_pos n
  have h1 : 2 ^ n - 1 = sd (2 ^ n - 1) 0 := by
    apply Nat.eq_of_testBit_eq
    intro i
    rw [sd_tb (by omega), Nat.zero_testBit]
    simp
  rw [ev_o hn, ← h1]
/-- the first of the highest -/
def HI (f : Nat → Int32) : Nat → Nat
  | 0 => 0
  | k + 1 => if f k ≤ f (HI f k) then HI f k else k
theorem HI_lt (f : Nat → Int32) : ∀ k, HI f k ≤ k
  | 0 => Nat.le_refl 0
  | k + 1 => by
    have := HI_lt f k
    show (if f k ≤ f (HI f k) then HI f k else k) ≤ k + 1
    split <;> omega
theorem HI_lt' (f : Nat → Int32) : ∀ k, HI f (k + 1) ≤ k
  | k => by
    have := HI_lt f k
    show (if f k ≤ f (HI f k) then HI f k else k) ≤ k
    split <;> omega
theorem HI_ext {f g : Nat → Int32} : ∀ {k : Nat}, (∀ j, j < k → f j = g j) → HI f k = HI g k
  | 0, _ => rfl
  | k + 1, h => by
    show (if f k ≤ f (HI f k) then HI f k else k) = if g k ≤ g (HI g k) then HI g k else k
    rw [← HI_ext (k := k) (fun j hj => h j (by omega)), h k (by omega)]
    rcases Nat.lt_or_ge (HI f k) k with h1 | h1
    · rw [h (HI f k) (by omega)]
    · have := HI_lt f k
      rw [h (HI f k) (by omega)]
theorem L_most (f : Nat → Int32) (hn : n ≤ 7) (h0 : 0 < n) : X0_mostWoken (o32 n) f = some (o32 (HI f n)) := by
  obtain ⟨z, e, hz⟩ := lp_inv (f := fun x4 : Int32 × Int32 => X0_mostWoken_s4 (o32 n) f x4.1 x4.2) (fun k x => x = (o32 (HI f k), o32 k)) (fun z => z = o32 (HI f n)) (n - 1) 1 1000 ((0 : Int32), (1 : Int32)) (by
    rintro k x h1 h2 rfl
    rcases Nat.lt_or_ge k n with hk | hk
    · right
      refine ⟨by omega, (o32 (HI f (k + 1)), o32 (k + 1)), ?_, rfl⟩
      have hl := HI_lt f k
      simp (disch := omega) only [X0_mostWoken_s4, i_ge, gi_o, o_cl, o_s]
      show _ = some (Sum.inl (o32 (if f k ≤ f (HI f k) then HI f k else k), o32 (k + 1)))
      split <;> rfl
    · left
      have hk : k = n := by omega
      subst hk
      refine ⟨o32 (HI f k), ?_, rfl⟩
      simp (disch := omega) only [X0_mostWoken_s4, i_le]) (by
      show ((0 : Int32), (1 : Int32)) = (o32 (if f 0 ≤ f 0 then 0 else 0), o32 1)
      simp only [ite_self]
      rfl) (by omega)
  unfold X0_mostWoken
  rw [e, hz]
  rfl
theorem L_busC {b : Nat → Int32} (hn : n ≤ 7) (hEW : EW now b) {y : Int32 × Int32 × Int32 × (Nat → Int32) × (Nat → Int32) × (Nat → Int32) × (Nat → Int32) × (Nat → Int32)} (ey1 : y.1 = o32 n) {r : Nat → Int32} (hb : RF n y.2.1 y.2.2.1 y.2.2.2.1 y.2.2.2.2.1 y.2.2.2.2.2.1 r y.2.2.2.2.2.2.2 b) (hv : RV vs size code) (hc : VC vs) (stack thing : Nat → Int32) {m : Nat} (hm' : m < 1000) : ∃ z, lp (fun x54 : Int32 × Int32 × Int32 × Int32 × (Nat → Int32) × (Nat → Int32) × (Nat → Int32) × (Nat → Int32) × (Nat → Int32) => X10_busiest_s54 size code (o32 m) y x54.1 x54.2.1 x54.2.2.1 x54.2.2.2.1 x54.2.2.2.2.1 x54.2.2.2.2.2.1 x54.2.2.2.2.2.2.1 x54.2.2.2.2.2.2.2.1 x54.2.2.2.2.2.2.2.2) 1000 ((X0_everybody (o32 n)), (0 : Int32), y.2.1, y.2.2.1, y.2.2.2.2.1, y.2.2.2.2.2.1, r, stack, thing) = some z ∧ (z.1 = o32 (sd (2 ^ n - 1) (SE vs n now m)) ∧ RF n z.2.1 z.2.2.1 y.2.2.2.1 z.2.2.2.1 z.2.2.2.2.1 z.2.2.2.2.2.1 y.2.2.2.2.2.2.2 (MI vs n b m)) := by
  have h7 := p2_7 hn
  have hp : 0 < 2 ^ n := Nat.two_pow_pos n
  refine lp_ct (fun k x => x.1 = o32 (sd (2 ^ n - 1) (SE vs n now k)) ∧ x.2.1 = o32 k ∧ RF n x.2.2.1 x.2.2.2.1 y.2.2.2.1 x.2.2.2.2.1 x.2.2.2.2.2.1 x.2.2.2.2.2.2.1 y.2.2.2.2.2.2.2 (MI vs n b k)) _ m _ ⟨ev_sd hn, rfl, hb⟩ ?_ ?_ hm'
  · rintro k ⟨x0, i, u1, u2, u3, u4, u5, u6, u7⟩ hk ⟨g1, g2, g3⟩
    have g1 : x0 = _ := g1
    have g2 : i = _ := g2
    subst g1 g2
    have g3 : RF n u1 u2 y.2.2.2.1 u3 u4 u5 y.2.2.2.2.2.2.2 (MI vs n b k) := g3
    obtain ⟨g, eg, hg1, hg2⟩ := L_go1 g3 hv hc u6 u7
    rw [← EW_aw (EW_mi hEW hn k) hn] at hg1
    have hA := AW_lt vs n (MI vs n now k)
    have hsd : sd (2 ^ n - 1) (SE vs n now k) < 128 := sd_lt (by omega)
    refine ⟨(o32 (sd (2 ^ n - 1) (SE vs n now (k + 1))), o32 (k + 1), g.2.2.2.1, g.2.2.2.2.1, g.2.2.2.2.2.1, g.2.2.2.2.2.2.1, g.2.2.2.2.2.2.2, g.2.1, g.2.2.1), ?_, rfl, rfl, hg2⟩
    simp (disch := omega) only [X10_busiest_s54, i_ge, ey1, eg, hg1, Option.bind_some, o_s, sd_o]
    rw [sd_or (by omega)]
    rfl
  · rintro ⟨x0, i, u1, u2, u3, u4, u5, u6, u7⟩ ⟨g1, g2, g3⟩
    have g2 : i = _ := g2
    subst g2
    refine ⟨(x0, u1, u2, u3, u4, u5, u6, u7), ?_, g1, g3⟩
    simp (disch := omega) only [X10_busiest_s54, i_le]
theorem L_busO (hn : n ≤ 7) (often : Nat → Int32) : ∃ z, lp (fun x29 : Int32 × (Nat → Int32) => X11_busiest_s29 (o32 n) x29.1 x29.2) 1000 ((0 : Int32), often) = some z ∧ ∀ j, j < n → z j = 0 := by
  refine lp_ct (fun k x => x.1 = o32 k ∧ ∀ j, j < k → x.2 j = 0) _ n _ ⟨rfl, fun j hj => absurd hj (Nat.not_lt_zero j)⟩ ?_ ?_ (by omega)
  · rintro k ⟨i, x⟩ hk ⟨h1, h2⟩
    have h1 : i = _ := h1
    subst h1
    refine ⟨(o32 (k + 1), upd x k 0), ?_, rfl, fun j hj => ?_⟩
    · simp (disch := omega) only [X11_busiest_s29, i_ge, gi_o, o_cl, o_s]
    · show upd x k 0 j = 0
      by_cases e : j = k
      · subst e; exact pk_us
      · rw [pk_un e]; exact h2 j (by omega)
  · rintro ⟨i, x⟩ ⟨h1, h2⟩
    have h1 : i = _ := h1
    subst h1
    refine ⟨x, ?_, h2⟩
    simp (disch := omega) only [X11_busiest_s29, i_le]
theorem L_busP (hn : n ≤ 7) {k : Nat} {g : Int32 × Int32 × Int32 × Int32 × Int32 × Int32 × (Nat → Int32) × (Nat → Int32)} (hg1 : g.1 = o32 (AW vs n (MI vs n now k))) {o : Nat → Int32} (g3 : ∀ j, j < n → o j = o32 (CN vs n now j k)) : ∃ z, lp (fun x81 : Int32 × (Nat → Int32) => X11_busiest_s81 (o32 n) g x81.1 x81.2) 1000 ((0 : Int32), o) = some z ∧ ∀ j, j < n → z j = o32 (CN vs n now j (k + 1)) := by
  have hu : AW vs n (MI vs n now k) < 128 := bm_128 hn
  refine lp_ct (fun i x => x.1 = o32 i ∧ (∀ j, j < i → x.2 j = o32 (CN vs n now j (k + 1))) ∧ ∀ j, i ≤ j → j < n → x.2 j = o32 (CN vs n now j k)) _ n _ ⟨rfl, fun j hj => absurd hj (Nat.not_lt_zero j), fun j _ hj => g3 j hj⟩ ?_ ?_ (by omega)
  · rintro i ⟨i', x⟩ hi ⟨h1, h2, h3⟩
    have h1 : i' = _ := h1
    subst h1
    have h2 : ∀ j, j < i → x j = o32 (CN vs n now j (k + 1)) := h2
    have h3 : ∀ j, i ≤ j → j < n → x j = o32 (CN vs n now j k) := h3
    refine ⟨(o32 (i + 1), upd x i (o32 (CN vs n now i (k + 1)))), ?_, rfl, fun j hj => ?_, fun j hj1 hj2 => ?_⟩
    · simp (disch := omega) only [X11_busiest_s81, i_ge, gi_o, o_cl, o_s, hg1, pu_bit, h3 i (Nat.le_refl i) hi]
      rw [CN_s]
      cases (AW vs n (MI vs n now k)).testBit i with
      | false =>
        show some (Sum.inl (_, upd x i (o32 _ + o32 0))) = _
        rw [o_add]; rfl
      | true =>
        show some (Sum.inl (_, upd x i (o32 _ + o32 1))) = _
        rw [o_add]; rfl
    · show upd x i _ j = _
      by_cases e : j = i
      · subst e; exact pk_us
      · rw [pk_un e]; exact h2 j (by omega)
    · show upd x i _ j = _
      rw [pk_un (by omega)]; exact h3 j (by omega) hj2
  · rintro ⟨i', x⟩ ⟨h1, h2, h3⟩
    have h1 : i' = _ := h1
    subst h1
    refine ⟨x, ?_, h2⟩
    simp (disch := omega) only [X11_busiest_s81, i_le]
theorem L_busM {w o : Nat → Int32} (h : RI n now) (hw : EQ w now) (hm : RM vs ruleSize rule) (hc : VC vs) (len top at' wrong isAsked : Int32) (asked : Nat → Int32) (ho : ∀ j, j < n → o j = 0) {m : Nat} (hm' : m < 1000) : ∃ z, lp (fun x64 : Int32 × Int32 × Int32 × Int32 × Int32 × Int32 × (Nat → Int32) × (Nat → Int32) × (Nat → Int32) => X11_busiest_s64 (o32 n) ruleSize rule (o32 m) x64.1 x64.2.1 x64.2.2.1 x64.2.2.2.1 x64.2.2.2.2.1 x64.2.2.2.2.2.1 x64.2.2.2.2.2.2.1 x64.2.2.2.2.2.2.2.1 x64.2.2.2.2.2.2.2.2) 1000 ((0 : Int32), len, top, at', wrong, isAsked, asked, w, o) = some z ∧ ∀ j, j < n → z.2.2.2.2.2.2.2 j = o32 (CN vs n now j m) := by
  have hn := h.1
  refine lp_ct (fun k x => x.1 = o32 k ∧ EQ x.2.2.2.2.2.2.2.1 (MI vs n now k) ∧ ∀ j, j < n → x.2.2.2.2.2.2.2.2 j = o32 (CN vs n now j k)) _ m _ ⟨rfl, hw, ho⟩ ?_ ?_ hm'
  · rintro k ⟨i, v1, v2, v3, v4, v5, v6, x, o⟩ hk ⟨g1, g2, g3⟩
    have g1 : i = _ := g1
    subst g1
    have g2 : EQ x (MI vs n now k) := g2
    have g3 : ∀ j, j < n → o j = o32 (CN vs n now j k) := g3
    obtain ⟨g, eg, hg1, hg2⟩ := L_goMorning (MI_ri h k) g2 hm hc v1 v2 v3 v4 v5 v6
    obtain ⟨o', eo', ho'⟩ := L_busP hn hg1 g3
    refine ⟨(o32 (k + 1), g.2.1, g.2.2.1, g.2.2.2.1, g.2.2.2.2.1, g.2.2.2.2.2.1, g.2.2.2.2.2.2.1, g.2.2.2.2.2.2.2, o'), ?_, rfl, hg2, ho'⟩
    simp (disch := omega) only [X11_busiest_s64, i_ge, eg, Option.bind_some, o_s, eo']
  · rintro ⟨i, v1, v2, v3, v4, v5, v6, x, o⟩ ⟨g1, g2, g3⟩
    have g1 : i = _ := g1
    subst g1
    refine ⟨(v1, v2, v3, v4, v5, v6, x, o), ?_, g3⟩
    simp (disch := omega) only [X11_busiest_s64, i_le]
theorem L_busQ (hn : n ≤ 7) {of : Nat → Int32} {m : Nat} (hm' : m < 1000) (hz' : ∀ j, j < n → of j = o32 (CN vs n now j m)) : lp (fun x125 : Int32 × Int32 × Int32 => X11_busiest_s125 (o32 n) of x125.1 x125.2.1 x125.2.2) 1000 ((0 : Int32), (0 : Int32), (0 : Int32)) = some (o32 (HI of n), o32 (bm (fun q => decide (CN vs n now q m = 0)) n)) := by
  obtain ⟨f, ef, hf⟩ := lp_ct (f := fun x125 : Int32 × Int32 × Int32 => X11_busiest_s125 (o32 n) of x125.1 x125.2.1 x125.2.2) (fun k x => x = (o32 (HI of k), o32 (bm (fun q => decide (CN vs n now q m = 0)) k), o32 k)) (fun z => z = (o32 (HI of n), o32 (bm (fun q => decide (CN vs n now q m = 0)) n))) n ((0 : Int32), (0 : Int32), (0 : Int32)) rfl (by
    rintro k x hk rfl
    have hl := HI_lt of k
    have hCN := CN_le vs n now k m
    refine ⟨(o32 (HI of (k + 1)), o32 (bm (fun q => decide (CN vs n now q m = 0)) (k + 1)), o32 (k + 1)), ?_, rfl⟩
    simp (disch := omega) only [X11_busiest_s125, i_ge, gi_o, o_cl, o_s]
    have e1 : (if of k ≤ of (HI of k) then o32 (HI of k) else o32 k) = o32 (HI of (k + 1)) := by
      show _ = o32 (if of k ≤ of (HI of k) then HI of k else k)
      split <;> rfl
    rw [e1, ← bm_o (by omega), hz' k hk]
    simp (disch := omega) only [o0, decide_eq_false_iff_not]
    by_cases hx : CN vs n now k m = 0
    · simp [hx]
    · simp [hx]) (by
    rintro x rfl
    refine ⟨(o32 (HI of n), o32 (bm (fun q => decide (CN vs n now q m = 0)) n)), ?_, rfl⟩
    simp (disch := omega) only [X11_busiest_s125, i_le]) (by omega)
  rw [ef, hf]
theorem M_busiest (h : RF n day unmet skill pills slept woken wanted now) (hv : RV vs size code) (hm : RM vs ruleSize rule) (hc : VC vs) (ht : TO tsz rm tnum row) (t0 t6 t7 : Int32) (t1 t2 t3 t4 t5 stack thing : Nat → Int32) (len top at' wrong isAsked : Int32) (asked thn often : Nat → Int32) (p1 : Int32) : ∃ y y', X10_busiest tsz tnum (o32 n) day unmet skill pills slept woken wanted t0 t6 t7 t1 t2 t3 t4 t5 size code stack thing p1 = some y ∧ X11_busiest (o32 n) rm len top at' wrong ruleSize isAsked now row rule asked thn often p1 = some y' ∧ y.1 = y'.1 ∧ TO y.2.1 y'.2.1 y.2.2.1 y'.2.2.2.2.2.2.2.2.1 := by
  have hn := h.nn
  have h7 := p2_7 hn
  have hp : 0 < 2 ^ n := Nat.two_pow_pos n
  rcases pu_in p1 (lo := 1) (hi := 99) (by decide) (by decide) with ⟨i1, i2⟩ | ⟨i1, i2, i3⟩ | ⟨m, m1, m2, rfl, i1, i2, i3⟩
  · have i1 : p1 < 1 := i1
    have i2 : X11_in p1 1 99 = 0 := i2
    simp only [X10_busiest, X11_busiest, i1, i2, Option.bind_some, if_true, if_false]
    exact ⟨_, _, rfl, rfl, rfl, ht⟩
  · have i1 : ¬ p1 < 1 := i1
    have i2 : ¬ p1 ≤ 99 := i2
    have i3 : X11_in p1 1 99 = 0 := i3
    simp only [X10_busiest, X11_busiest, i1, i2, i3, Option.bind_some, if_true, if_false]
    exact ⟨_, _, rfl, rfl, rfl, ht⟩
  · have i1 : ¬ o32 m < 1 := i1
    have i2 : o32 m ≤ 99 := i2
    have i3 : X11_in (o32 m) 1 99 = 1 := i3
    rcases Nat.eq_zero_or_pos n with h0 | h0
    · subst h0
      have e0 : (o32 0 = 0) = True := eq_true rfl
      simp only [X10_busiest, X11_busiest, i1, i2, i3, pu_10, e0, Option.bind_some, if_true, if_false]
      exact ⟨_, _, rfl, rfl, rfl, ht⟩
    · have e0 : (o32 n = 0) = False := by rw [o0 (by omega)]; exact eq_false (by omega)
      obtain ⟨y, ey, ey1, hy⟩ := L_trial h t1 t2 t3 t4 t5
      obtain ⟨w, ew, hw⟩ := L_then (n := n) (EQ.rf (a := now)) thn
      obtain ⟨r, er, hr⟩ := L_rests y.2.2.2.2.2.2.1
      -- the row with nobody woken yet
      have hb : RF n y.2.1 y.2.2.1 y.2.2.2.1 y.2.2.2.2.1 y.2.2.2.2.2.1 r y.2.2.2.2.2.2.2 (fun j => if 21 ≤ j ∧ j < 28 then 0 else now j) := by
        refine ⟨hn, hy.dy, hy.unm, fun k hk => ⟨?_, ?_, ?_, ?_, ?_⟩, hy.2.2.2.2⟩
        · show (if 21 ≤ k ∧ k < 28 then _ else _) = _
          rw [if_neg (by omega)]; exact hy.ski hk
        · show (if 21 ≤ 7 + k ∧ 7 + k < 28 then _ else _) = _
          rw [if_neg (by omega)]; exact hy.pil hk
        · show (if 21 ≤ 14 + k ∧ 14 + k < 28 then _ else _) = _
          rw [if_neg (by omega)]; exact hy.sle hk
        · show (if 21 ≤ 21 + k ∧ 21 + k < 28 then _ else _) = _
          rw [if_pos (by omega)]; exact (hr k hk).symm
        · show (if 21 ≤ 28 + k ∧ 28 + k < 28 then _ else _) = _
          rw [if_neg (by omega)]; exact hy.wan hk
      have hEW : EW now (fun j => if 21 ≤ j ∧ j < 28 then 0 else now j) := by
        intro j hj hj2
        show _ = if 21 ≤ j ∧ j < 28 then _ else _
        rw [if_neg hj2]
      generalize (fun j => if 21 ≤ j ∧ j < 28 then 0 else now j) = b at hb hEW
      obtain ⟨z, ez, hz1, hz2⟩ := L_busC hn hEW ey1 hb hv hc stack thing (m := m) (by omega)
      obtain ⟨o0', eo, ho⟩ := L_busO hn often
      obtain ⟨z', ez', hz'⟩ := L_busM h.ri hw hm hc len top at' wrong isAsked asked ho (m := m) (by omega)
      obtain ⟨z0, z1, z2, z3, z4, z5, z6, z7⟩ := z
      obtain ⟨z1', z2', z3', z4', z5', z6', z7', of⟩ := z'
      have hz1 : z0 = _ := hz1
      subst hz1
      have hz2 : RF n z1 z2 y.2.2.2.1 z3 z4 z5 y.2.2.2.2.2.2.2 (MI vs n b m) := hz2
      have hz' : ∀ j, j < n → of j = o32 (CN vs n now j m) := hz'
      have hwo : ∀ j, j < n → z5 j = of j := by
        intro j hj
        rw [hz' j hj, ← hz2.wok (by omega)]
        refine MI_wok hn hEW hj ?_ m (by omega)
        rw [hb.wok (by omega)]; exact hr j (by omega)
      have ef := L_busQ (vs := vs) (now := now) hn (m := m) (by omega) hz'
      have hbest : HI of n < n := by
        obtain ⟨n', rfl⟩ : ∃ n', n = n' + 1 := ⟨n - 1, by omega⟩
        have := HI_lt' of n'
        omega
      have hmw : X0_mostWoken (o32 n) z5 = some (o32 (HI of n)) := by rw [L_most z5 hn h0, HI_ext hwo]
      have hnv : sd (2 ^ n - 1) (SE vs n now m) = bm (fun q => decide (CN vs n now q m = 0)) n := by
        apply Nat.eq_of_testBit_eq
        intro i
        rw [sd_tb (by omega), bm_tb, Nat.testBit_two_pow_sub_one]
        have h9 : (!(SE vs n now m).testBit i) = decide (CN vs n now i m = 0) := by
          have h8 := CN_0 vs n now i m
          cases hx : (SE vs n now m).testBit i with
          | false => rw [hx] at h8; simp [h8]
          | true => rw [hx] at h8; simp [h8]
        rw [h9]
      have hhb := L_hasn hbest hn
      obtain ⟨t, t', t'', et, et', et'', ht'⟩ := TO.both tnum row ((of (HI of n)).toInt64) ((o32 (bm (fun q => decide (CN vs n now q m = 0)) n)).toInt64)
      simp (disch := omega) only [X10_busiest, X10_busiest_k116, X11_busiest, i1, i2, i3, pu_10, e0, Option.bind_some, if_true, if_false, ey, ew, er, ez, eo, ez', ef, un, ey1, hmw, hhb, gi_o, o_cl, hwo _ hbest, hnv, et, et', et'']
      exact ⟨_, _, rfl, rfl, rfl, ht'⟩
end MB
