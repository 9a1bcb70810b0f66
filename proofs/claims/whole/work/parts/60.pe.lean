/-! ===== the pure level: enough, sleeps ===== -/
theorem sub_eq {k up : Nat} (hk : k < 128) (hu : up < 128) (h : sd k up = 0) (hp : pc k = pc up) : k = up := by
  have h1 : ∀ k : Fin 128, ∀ u : Fin 128, sd k.val u.val = 0 → pc k.val = pc u.val → k.val = u.val := by decide +kernel
  exact h1 ⟨k, hk⟩ ⟨up, hu⟩ h hp
def CI (ok : Nat → Bool) (up k b : Nat) : Prop := b < 128 ∧ ok b = true ∧ (b = up ∨ b < k) ∧ ∀ s, s < k → ok s = true → pc b ≤ pc s ∧ (pc s = pc b → b ≤ s)
theorem CI.stp {ok : Nat → Bool} {up k b : Nat} (hok : ∀ s, s < 128 → ok s = true → sd s up = 0) (hup : up < 128) (h : CI ok up k b) (hk : k < 128) : CI ok up (k + 1) (if ok k = true ∧ pc k < pc b then k else b) := by
  obtain ⟨h1, h2, h3, h4⟩ := h
  by_cases c : ok k = true ∧ pc k < pc b
  · rw [if_pos c]
    refine ⟨hk, c.1, Or.inr (by omega), fun s hs ho => ?_⟩
    rcases Nat.lt_or_ge s k with h5 | h5
    · have := h4 s h5 ho
      exact ⟨by omega, fun e => by omega⟩
    · have : s = k := by omega
      subst this
      exact ⟨Nat.le_refl _, fun _ => Nat.le_refl _⟩
  · rw [if_neg c]
    refine ⟨h1, h2, h3.imp id (fun e => by omega), fun s hs ho => ?_⟩
    rcases Nat.lt_or_ge s k with h5 | h5
    · exact h4 s h5 ho
    · have : s = k := by omega
      subst this
      have h6 : ¬ pc s < pc b := fun e => c ⟨ho, e⟩
      refine ⟨by omega, fun e => ?_⟩
      rcases h3 with h7 | h7
      · subst h7
        rw [sub_eq hk hup (hok s hk ho) e]
        exact Nat.le_refl _
      · omega
def DI (ok : Nat → Bool) (j b : Nat) : Prop := b < 128 ∧ ok b = true ∧ ∀ s, j ≤ s → s < 128 → ok s = true → pc b ≤ pc s ∧ (pc s = pc b → b ≤ s)
theorem DI.stp {ok : Nat → Bool} {j b : Nat} (h : DI ok (j + 1) b) (hj : j < 128) : DI ok j (if ok j = true ∧ pc j ≤ pc b then j else b) := by
  obtain ⟨h1, h2, h4⟩ := h
  by_cases c : ok j = true ∧ pc j ≤ pc b
  · rw [if_pos c]
    refine ⟨hj, c.1, fun s hs h128 ho => ?_⟩
    rcases Nat.lt_or_ge j s with h5 | h5
    · have := h4 s h5 h128 ho
      exact ⟨by omega, fun _ => by omega⟩
    · have : s = j := by omega
      subst this
      exact ⟨Nat.le_refl _, fun _ => Nat.le_refl _⟩
  · rw [if_neg c]
    refine ⟨h1, h2, fun s hs h128 ho => ?_⟩
    rcases Nat.lt_or_ge j s with h5 | h5
    · exact h4 s h5 h128 ho
    · have : s = j := by omega
      subst this
      have h6 : ¬ pc s ≤ pc b := fun e => c ⟨ho, e⟩
      exact ⟨by omega, fun e => by omega⟩
theorem CD {ok : Nat → Bool} {up b b' : Nat} (h : CI ok up 128 b) (h' : DI ok 0 b') : b = b' := by
  obtain ⟨h1, h2, h3, h4⟩ := h
  obtain ⟨g1, g2, g4⟩ := h'
  have a := h4 b' g1 g2
  have c := g4 b (Nat.zero_le _) h1 h2
  have e : pc b = pc b' := by omega
  have := a.2 e.symm
  have := c.2 e
  omega
section EN
variable {vs : (Nat → Int32) → Int32} {n : Nat} {day unmet : Int32} {skill pills slept woken wanted now : Nat → Int32} {size : Int32} {code : Nat → Int32} {ruleSize : Int32} {rule : Nat → Int32} {tsz rm : Int32} {tnum row : Nat → Int64}
def AE (n : Nat) (a : Nat → Int32) (set up : Nat) : Bool := al (fun q => decide (nt (a (28 + q)) &&& up = 0) || decide (¬ nt (a (28 + q)) &&& set = 0)) n
theorem AE_ws {set up : Nat} (hs : set < 128) (hsu : sd set up = 0) : AE n now set up = decide (WS n now set = WS n now up) := by
  have hmono : ∀ x, x &&& up = 0 → x &&& set = 0 := by
    intro x hx
    apply Nat.eq_of_testBit_eq
    intro i
    have h1 : (x &&& up).testBit i = false := by rw [hx]; exact Nat.zero_testBit i
    have h2 := sd_tb hs up i
    rw [hsu, Nat.zero_testBit] at h2
    rw [Nat.testBit_and] at h1
    rw [Nat.testBit_and, Nat.zero_testBit]
    have h3 : ∀ a b c : Bool, false = (a && !b) → (c && b) = false → (c && a) = false := by decide
    exact h3 _ _ _ h2 h1
  rw [Bool.eq_iff_iff, decide_eq_true_iff]
  unfold AE
  rw [al_all]
  constructor
  · intro h
    refine bm_ext (fun k hk => ?_)
    have h1 := h k hk
    by_cases c1 : nt (now (28 + k)) &&& up = 0
    · simp [c1, hmono _ c1]
    · simp [c1] at h1
      simp [c1, h1]
  · intro h k hk
    have h1 : (WS n now set).testBit k = (WS n now up).testBit k := by rw [h]
    unfold WS at h1
    rw [bm_tb, bm_tb] at h1
    simp only [hk, decide_true, Bool.true_and] at h1
    by_cases c1 : nt (now (28 + k)) &&& up = 0
    · simp [c1]
    · simp [c1] at h1
      simp [h1]
theorem L_ae {w : Nat → Int32} (h : RI n now) (hw' : EQ w now) (set up : Nat) : X11_areEnough (o32 n) w (o32 set) (o32 up) = some (bi (AE n now set up)) := by
  have hn := h.1
  unfold X11_areEnough
  rw [lp_al (fun q => decide (nt (now (28 + q)) &&& up = 0) || decide (¬ nt (now (28 + q)) &&& set = 0)) n (fun k hk => by
    have hw := h.wt hk
    have e1 : w (28 + k) = o32 (nt (now (28 + k))) := by rw [hw' _ (by omega)]; exact hw.2.1
    simp (disch := omega) only [X11_areEnough_s2, i_ge, gi_o, o_la, o_cl, e1, pu_a0 hw.2.2.1, o_s]
    by_cases c1 : nt (now (28 + k)) &&& up = 0
    · simp [c1]
    · by_cases c2 : nt (now (28 + k)) &&& set = 0
      · simp [c1, c2]
      · simp [c1, c2]) (by simp (disch := omega) only [X11_areEnough_s2, i_le]) (by omega)]
  show (sm (if AE n now set up = true then Sum.inl () else Sum.inr ()) _ _) = _
  cases AE n now set up <;> rfl
def OE (n : Nat) (a : Nat → Int32) (up s : Nat) : Bool := decide (sd s up = 0) && decide (WS n a s = WS n a up)
theorem sd_self {u : Nat} (h : u < 128) : sd u u = 0 := by
  apply Nat.eq_of_testBit_eq
  intro i
  rw [sd_tb h, Nat.zero_testBit]
  cases u.testBit i <;> rfl
theorem L_few (h : RF n day unmet skill pills slept woken wanted now) {up : Nat} (hu : up < 128) : ∃ b, X7_fewest (o32 n) wanted (o32 up) = some (o32 b) ∧ CI (OE n now up) up 128 b := by
  have hn := h.nn
  obtain ⟨z, e, b, hz, hb⟩ := lp_ct (f := fun x11 : Int32 × Int32 => X7_fewest_s11 (o32 n) wanted (o32 up) (o32 (WS n now up)) x11.1 x11.2) (fun k x => ∃ b, x = (o32 b, o32 k) ∧ CI (OE n now up) up k b) (fun z => ∃ b, z = o32 b ∧ CI (OE n now up) up 128 b) 128 (o32 up, (0 : Int32)) ⟨up, rfl, hu, by unfold OE; simp [sd_self hu], Or.inl rfl, fun s hs => absurd hs (Nat.not_lt_zero s)⟩ (by
    rintro k x hk ⟨b, rfl, hI⟩
    have hst := hI.stp (fun s _ ho => by unfold OE at ho; simp at ho; exact ho.1) hu hk
    refine ⟨(o32 (if OE n now up k = true ∧ pc k < pc b then k else b), o32 (k + 1)), ?_, _, rfl, hst⟩
    have p1 := pc_le k
    have p2 := pc_le b
    have e128 : (128 : Int32) = o32 128 := rfl
    have hsd : sd k up < 128 := sd_lt hk
    have hW1 : WS n now k < 128 := bm_128 hn
    have hW2 : WS n now up < 128 := bm_128 hn
    have e01 : ((0 : Int32) = 0) = True := eq_true rfl
    simp (disch := omega) only [X7_fewest_s11, X7_fewest_k45, e128, i_ge, sd_o hk hu, o0, bc_o hk, bc_o hI.1, if_true, pu_10, if_false, L_ws h, Option.bind_some, o_eq, o_s]
    by_cases c1 : sd k up = 0
    · rw [if_pos c1]
      by_cases c2 : pc k < pc b
      · rw [i_ge c2 (by omega)]
        by_cases c3 : WS n now k = WS n now up
        · rw [if_pos c3, if_pos ⟨by unfold OE; simp [c1, c3], c2⟩]
        · rw [if_neg c3, if_neg (by rintro ⟨e, -⟩; unfold OE at e; simp [c3] at e)]
      · rw [i_le (by omega) (by omega), if_neg (fun e => c2 e.2)]
    · rw [if_neg c1, if_neg (by rintro ⟨e, -⟩; unfold OE at e; simp [c1] at e)]) (by
    rintro x ⟨b, rfl, hI⟩
    exact ⟨_, rfl, b, rfl, hI⟩) (by omega)
  refine ⟨b, ?_, hb⟩
  unfold X7_fewest
  rw [L_ws h, Option.bind_some, e, hz]
  rfl
theorem pu_m1 {j : Nat} : o32 (j + 1) - 1 = o32 j := by rw [o_p1 (by omega)]; rfl
theorem pu_am1 (x : Int32) : x + (-1) = x - 1 := (Int32.sub_eq_add_neg _ _).symm
theorem M_enough (h : RF n day unmet skill pills slept woken wanted now) (hv : RV vs size code) (hm : RM vs ruleSize rule) (hc : VC vs) (stack thing : Nat → Int32) (len top at' wrong isAsked : Int32) (asked : Nat → Int32) : ∃ y y', X10_enough tnum (o32 n) day skill pills slept wanted size code stack thing = some y ∧ X11_enough (o32 n) len top at' wrong ruleSize isAsked now row rule asked = some y' ∧ y.1 = y'.1 ∧ TO y.2.1 y'.2.1 y.2.2.1 y'.2.2.2.2.2.2.2.2.1 := by
  have hn := h.nn
  have hri := h.ri
  have hA : AW vs n now < 128 := bm_128 hn
  obtain ⟨y, ey, hy⟩ := L_wakers h hv hc stack thing
  obtain ⟨y', ey', hy'⟩ := L_awake hri EQ.rf hm hc len top at' wrong isAsked asked
  obtain ⟨b, eb, hb⟩ := L_few h hA
  obtain ⟨z, e, b', hz, hb'⟩ := lp_ct (f := fun x18 : Int32 × Int32 => X11_enough_s18 (o32 n) now y' x18.1 x18.2) (fun k x => ∃ b, x = (o32 b, o32 (AW vs n now + 1 - k) - 1) ∧ DI (OE n now (AW vs n now)) (AW vs n now + 1 - k) b) (fun z => ∃ b, z = o32 b ∧ DI (OE n now (AW vs n now)) 0 b) (AW vs n now + 1) (o32 (AW vs n now), o32 (AW vs n now)) ⟨AW vs n now, by rw [Nat.sub_zero, pu_m1], hA, by unfold OE; simp [sd_self hA], fun s hs h128 ho => by
      unfold OE at ho
      simp at ho
      have := sd_sub h128 ho.1
      omega⟩ (by
    rintro k x hk ⟨b, rfl, hI⟩
    obtain ⟨j, hj⟩ : ∃ j, AW vs n now + 1 - k = j + 1 := ⟨AW vs n now - k, by omega⟩
    rw [hj] at hI ⊢
    have hj2 : AW vs n now + 1 - (k + 1) = j := by omega
    rw [hj2]
    have hj7 : j < 128 := by omega
    have hst := hI.stp hj7
    refine ⟨(o32 (if OE n now (AW vs n now) j = true ∧ pc j ≤ pc b then j else b), o32 j - 1), ?_, _, rfl, hst⟩
    have p1 := pc_le j
    have p2 := pc_le b
    have hsd : sd j (AW vs n now) < 128 := sd_lt hj7
    have nn : (o32 j < 0) = False := eq_false (o_nn j (by omega))
    simp (disch := omega) only [X11_enough_s18, pu_m1, nn, if_false, hy', sd_o hj7 hA, o0, bc_o hj7, bc_o hI.1, L_ae hri EQ.rf, Option.bind_some, pu_am1, bi_if]
    by_cases c1 : sd j (AW vs n now) = 0
    · rw [if_pos c1]
      by_cases c2 : pc j ≤ pc b
      · rw [i_lt c2 (by omega), AE_ws hj7 c1]
        by_cases c3 : WS n now j = WS n now (AW vs n now)
        · have hx : (if OE n now (AW vs n now) j = true ∧ pc j ≤ pc b then j else b) = j := if_pos ⟨by unfold OE; simp [c1, c3], c2⟩
          rw [hx]
          simp [c3]
        · have hx : (if OE n now (AW vs n now) j = true ∧ pc j ≤ pc b then j else b) = b := if_neg (by rintro ⟨e, -⟩; unfold OE at e; simp [c3] at e)
          rw [hx]
          simp [c3]
      · rw [i_gt (by omega) (by omega), if_neg (fun e => c2 e.2)]
    · rw [if_neg c1, if_neg (by rintro ⟨e, -⟩; unfold OE at e; simp [c1] at e)]) (by
    rintro x ⟨b, rfl, hI⟩
    rw [Nat.sub_self] at hI ⊢
    exact ⟨o32 b, rfl, b, rfl, hI⟩) (by omega)
  have : b = b' := CD hb hb'
  subst this
  subst hz
  obtain ⟨t, t', et, et', ht'⟩ := TO.one tnum row ((o32 b).toInt64)
  have e : lp (fun x18 : Int32 × Int32 => X11_enough_s18 (o32 n) now y' x18.1 x18.2) 1000 (y'.1, y'.1) = some (o32 b) := by rw [hy']; exact e
  simp only [X10_enough, X11_enough, ey, ey', hy, eb, Option.bind_some, e, et, et']
  exact ⟨_, _, rfl, rfl, rfl, ht'⟩
/-- the row in which some want one no more -/
def DR (n : Nat) (a : Nat → Int32) (set q : Nat) : Nat → Int32 := fun j => if 28 ≤ j ∧ j < 28 + n ∧ set.testBit (j - 28) = true then o32 (sd (nt (a j)) (2 ^ q)) else a j
theorem DR_in {set q k : Nat} (hk : k < n) (hs : set.testBit k = true) : DR n now set q (28 + k) = o32 (sd (nt (now (28 + k))) (2 ^ q)) := by
  unfold DR
  rw [if_pos ⟨by omega, by omega, by rw [Nat.add_sub_cancel_left]; exact hs⟩]
theorem DR_no {set q k : Nat} (hs : set.testBit k = false) : DR n now set q (28 + k) = now (28 + k) := by
  unfold DR
  rw [if_neg (by rintro ⟨-, -, e⟩; rw [Nat.add_sub_cancel_left, hs] at e; cases e)]
theorem DR_lo {set q j : Nat} (hj : j < 28 ∨ 28 + n ≤ j) : DR n now set q j = now j := by
  unfold DR
  rw [if_neg (by omega)]
theorem DR_nt (h : RI n now) {set q k : Nat} (hk : k < n) : nt (DR n now set q (28 + k)) = if set.testBit k then sd (nt (now (28 + k))) (2 ^ q) else nt (now (28 + k)) := by
  have hw := h.wt hk
  cases hb : set.testBit k with
  | false => rw [DR_no hb]; rfl
  | true =>
    rw [DR_in hk hb, nt_o (Nat.lt_of_lt_of_le (sd_lt hw.2.2.1) (by decide))]
    rfl
theorem DR_ri (h : RI n now) {set q : Nat} : RI n (DR n now set q) := by
  have hn := h.1
  refine ⟨hn, fun k hk => ⟨?_, ?_, ?_⟩⟩
  · rw [DR_lo (by omega)]; exact (h.2 k hk).1
  · rw [DR_lo (by omega)]; exact (h.2 k hk).2.1
  · have hw := h.wt hk
    cases hb : set.testBit k with
    | false => rw [DR_no hb]; exact (h.2 k hk).2.2
    | true =>
      rw [DR_in hk hb]
      refine ⟨_, Nat.lt_of_le_of_lt Nat.and_le_left hw.1, rfl, ?_⟩
      rw [show nt (now (28 + k)) &&& (127 ^^^ 2 ^ q) = sd (nt (now (28 + k))) (2 ^ q) from rfl, sd_tb hw.2.2.1, hw.2.2.2]
      rfl
theorem DR_wb (h : RI n now) {set q : Nat} : WB n (DR n now set q) q = sd (WB n now q) set := by
  have hn := h.1
  apply Nat.eq_of_testBit_eq
  intro i
  rw [sd_tb (show WB n now q < 128 from bm_128 hn)]
  unfold WB
  rw [bm_tb, bm_tb]
  by_cases hi : i < n
  · have hw := h.wt hi
    rw [DR_nt h hi]
    cases hb : set.testBit i with
    | false => simp
    | true =>
      simp only [if_true]
      rw [sd_tb hw.2.2.1, tb_2]
      simp
  · simp [hi]
theorem DR_nb (h : RI n now) {set q S : Nat} (hq : q < n) (hS : ∀ p, S.testBit p = true → set.testBit p = false) : NB vs n (DR n now set q) q S = NB vs n now q S := by
  have hn := h.1
  refine bm_ext (fun p hp => ?_)
  cases hb : S.testBit p with
  | false => rw [Bool.false_and, Bool.false_and]
  | true =>
    have hp' := hS p hb
    have et : th (DR n now set q) p q S = th now p q S := by
      have a1 : DR n now set q q = now q := DR_lo (Or.inl (by omega))
      have a2 : DR n now set q p = now p := DR_lo (Or.inl (by omega))
      have a3 : DR n now set q (28 + p) = now (28 + p) := DR_no hp'
      have a4 : DR n now set q (14 + q) = now (14 + q) := DR_lo (Or.inl (by omega))
      have a6 : DR n now set q 35 = now 35 := DR_lo (Or.inr (by omega))
      have e5 : (nt (DR n now set q (28 + q))).testBit p = (nt (now (28 + q))).testBit p := by
        rw [DR_nt h hq]
        cases hbq : set.testBit q with
        | false => rfl
        | true =>
          have hwq := h.wt hq
          simp only [if_true]
          rw [sd_tb hwq.2.2.1, tb_2]
          by_cases e : q = p
          · subst e; rw [hwq.2.2.2]; rfl
          · simp [e]
      funext j
      unfold th
      rw [a1, a2, a3, a4, a6, e5]
    unfold ND
    rw [et]
theorem DR_ia (h : RI n now) {set q : Nat} (hq : q < n) : IA vs n (DR n now set q) q = (decide (now (7 + q) = 0) && decide (¬ NB vs n now q (sd (WB n now q) set) = 0)) := by
  have hn := h.1
  unfold IA
  rw [DR_wb h, DR_nb h hq (fun p hp => by
    rw [sd_tb (show WB n now q < 128 from bm_128 hn)] at hp
    cases hb : set.testBit p with
    | false => rfl
    | true => rw [hb] at hp; simp at hp), DR_lo (show 7 + q < 28 ∨ _ by omega)]
theorem L_drop (h : RI n now) (thn : Nat → Int32) {set q : Nat} (hs : set < 128) (hq : q < n) : ∃ z, X11_beginDropped (o32 n) now thn (o32 set) (o32 q) = some z ∧ EQ z (DR n now set q) := by
  have hn := h.1
  obtain ⟨w, ew, hw⟩ := L_then (n := n) (EQ.rf (a := now)) thn
  obtain ⟨z, e, hz⟩ := lp_ct (f := fun x14 : Int32 × (Nat → Int32) => X11_beginDropped_s14 (o32 n) (o32 set) (o32 q) x14.1 x14.2) (fun k x => x.1 = o32 k ∧ ∀ j, j < 37 → x.2 j = if j < 28 + k then DR n now set q j else now j) (fun z => EQ z (DR n now set q)) n ((0 : Int32), w) ⟨rfl, fun j hj => by
      show w j = _
      rw [hw j hj]
      by_cases hlt : j < 28 + 0
      · rw [if_pos hlt, DR_lo (by omega)]
      · rw [if_neg hlt]⟩ (by
    rintro k ⟨i, x⟩ hk ⟨h1, h2⟩
    have h1 : i = _ := h1
    subst h1
    have h2 : ∀ j, j < 37 → x j = if j < 28 + k then DR n now set q j else now j := h2
    have hwk := h.wt hk
    have h2q := pu_2q (show q < 7 by omega)
    have ek : x (28 + k) = o32 (nt (now (28 + k))) := by
      rw [h2 _ (by omega), if_neg (by omega)]; exact hwk.2.1
    cases hb : set.testBit k with
    | false =>
      refine ⟨(o32 (k + 1), x), ?_, rfl, fun j hj => ?_⟩
      · simp (disch := omega) only [X11_beginDropped_s14, i_ge, pu_has hs (show k < 7 by omega), hb, bi_0, if_true, o_s]
      · show x j = _
        rw [h2 j hj]
        by_cases e1 : j = 28 + k
        · subst e1
          rw [if_neg (by omega), if_pos (by omega), DR_no hb]
        · by_cases hlt : j < 28 + k
          · rw [if_pos hlt, if_pos (by omega)]
          · rw [if_neg hlt, if_neg (by omega)]
    | true =>
      refine ⟨(o32 (k + 1), upd x (28 + k) (o32 (sd (nt (now (28 + k))) (2 ^ q)))), ?_, rfl, fun j hj => ?_⟩
      · simp (disch := omega) only [X11_beginDropped_s14, i_ge, pu_has hs (show k < 7 by omega), hb, bi_if, o_la, gi_o, o_cl, o_s, ek, o_shl, sd_o hwk.2.2.1 h2q, if_true]
      · show upd x (28 + k) _ j = _
        by_cases e1 : j = 28 + k
        · subst e1
          rw [pk_us, if_pos (by omega), DR_in hk hb]
        · rw [pk_un e1, h2 j hj]
          by_cases hlt : j < 28 + k
          · rw [if_pos hlt, if_pos (by omega)]
          · rw [if_neg hlt, if_neg (by omega)]) (by
    rintro ⟨i, x⟩ ⟨h1, h2⟩
    have h1 : i = _ := h1
    subst h1
    refine ⟨x, ?_, fun j hj => ?_⟩
    · simp (disch := omega) only [X11_beginDropped_s14, i_le]
    · refine (h2 j hj).trans ?_
      by_cases hlt : j < 28 + n
      · rw [if_pos hlt]
      · rw [if_neg hlt, DR_lo (by omega)]) (by omega)
  refine ⟨z, ?_, hz⟩
  unfold X11_beginDropped
  rw [ew, Option.bind_some, e]
  rfl
def OS (vs : (Nat → Int32) → Int32) (n : Nat) (a : Nat → Int32) (q s : Nat) : Bool := decide (sd s (WB n a q) = 0) && !(decide (a (7 + q) = 0) && decide (¬ NB vs n a q (sd (WB n a q) s) = 0))
theorem NB_0 {a : Nat → Int32} {q : Nat} : NB vs n a q 0 = 0 := by
  unfold NB
  apply Nat.eq_of_testBit_eq
  intro i
  rw [bm_tb, Nat.zero_testBit]
  simp
theorem M_sleeps (h : RF n day unmet skill pills slept woken wanted now) (hv : RV vs size code) (hm : RM vs ruleSize rule) (hc : VC vs) (ht : TO tsz rm tnum row) (stack thing : Nat → Int32) (len top at' wrong isAsked : Int32) (asked thn : Nat → Int32) (p1 : Int32) : ∃ y y', X10_sleeps tsz tnum (o32 n) day skill pills slept wanted size code stack thing p1 = some y ∧ X11_sleeps (o32 n) rm len top at' wrong ruleSize isAsked now row rule asked thn p1 = some y' ∧ y.1 = y'.1 ∧ TO y.2.1 y'.2.1 y.2.2.1 y'.2.2.2.2.2.2.2.2.1 := by
  have hn := h.nn
  have hri := h.ri
  rcases L_one hn p1 with ⟨q, hq, rfl, ho, ho'⟩ | ⟨ho, ho'⟩
  · have hb : ¬ X0_has (o32 n) (o32 q) = 0 := by rw [ho]; decide
    have hW : WB n now q < 128 := bm_128 hn
    have hup : OS vs n now q (WB n now q) = true := by unfold OS; simp [sd_self hW, NB_0]
    obtain ⟨z, e, b, hz, hb1⟩ := lp_ct (f := fun x27 : Int32 × Int32 × (Nat → Int32) × (Nat → Int32) => X10_sleeps_s27 (o32 n) day skill pills slept wanted size code (o32 q) (o32 (WB n now q)) x27.1 x27.2.1 x27.2.2.1 x27.2.2.2) (fun k x => ∃ b, x.1 = o32 b ∧ x.2.1 = o32 k ∧ CI (OS vs n now q) (WB n now q) k b) (fun z => ∃ b, z.1 = o32 b ∧ CI (OS vs n now q) (WB n now q) 128 b) 128 (o32 (WB n now q), (0 : Int32), stack, thing) ⟨WB n now q, rfl, rfl, hW, hup, Or.inl rfl, fun s hs => absurd hs (Nat.not_lt_zero s)⟩ (by
      rintro k ⟨x0, i, u1, u2⟩ hk ⟨b, h1, h2, hI⟩
      have h1 : x0 = _ := h1
      have h2 : i = _ := h2
      subst h1 h2
      have hst := hI.stp (fun s _ ho => by unfold OS at ho; simp at ho; exact ho.1) hW hk
      have p1 := pc_le k
      have p2 := pc_le b
      have e128 : (128 : Int32) = o32 128 := rfl
      have hsd : sd k (WB n now q) < 128 := sd_lt hk
      have hsd2 : sd (WB n now q) k < 128 := sd_lt hW
      obtain ⟨g, eg, hg⟩ := L_rouses h hv hc u1 u2 hq hsd2
      simp (disch := omega) only [X10_sleeps_s27, X10_sleeps_k61, e128, i_ge, sd_o hk hW, sd_o hW hk, o0, bc_o hk, bc_o hI.1, if_true, pu_10, if_false, eg, hg, bi_0, Option.bind_some, o_s]
      by_cases c1 : sd k (WB n now q) = 0
      · rw [if_pos c1]
        by_cases c2 : pc k < pc b
        · rw [i_ge c2 (by omega)]
          by_cases c3 : (decide (now (7 + q) = 0) && decide (¬ NB vs n now q (sd (WB n now q) k) = 0)) = false
          · rw [if_pos c3]
            rw [if_pos ⟨by unfold OS; rw [c3]; simp [c1], c2⟩] at hst
            exact ⟨_, rfl, k, rfl, rfl, hst⟩
          · rw [if_neg c3]
            rw [if_neg (by rintro ⟨e, -⟩; unfold OS at e; rw [Bool.not_eq_false] at c3; rw [c3] at e; simp at e)] at hst
            exact ⟨_, rfl, b, rfl, rfl, hst⟩
        · rw [i_le (by omega) (by omega)]
          rw [if_neg (fun e => c2 e.2)] at hst
          exact ⟨_, rfl, b, rfl, rfl, hst⟩
      · rw [if_neg c1]
        rw [if_neg (by rintro ⟨e, -⟩; unfold OS at e; simp [c1] at e)] at hst
        exact ⟨_, rfl, b, rfl, rfl, hst⟩) (by
      rintro ⟨x0, i, u1, u2⟩ ⟨b, h1, h2, hI⟩
      have h2 : i = _ := h2
      subst h2
      exact ⟨(x0, u1, u2), rfl, b, h1, hI⟩) (by omega)
    obtain ⟨z', e', b', hz', hb2⟩ := lp_ct (f := fun x30 : Int32 × Int32 × Int32 × Int32 × Int32 × Int32 × Int32 × (Nat → Int32) × (Nat → Int32) => X11_sleeps_s30 (o32 n) ruleSize now rule (o32 q) (o32 (WB n now q)) x30.1 x30.2.1 x30.2.2.1 x30.2.2.2.1 x30.2.2.2.2.1 x30.2.2.2.2.2.1 x30.2.2.2.2.2.2.1 x30.2.2.2.2.2.2.2.1 x30.2.2.2.2.2.2.2.2) (fun k x => ∃ b, x.1 = o32 b ∧ x.2.1 = o32 (WB n now q + 1 - k) - 1 ∧ DI (OS vs n now q) (WB n now q + 1 - k) b) (fun z => ∃ b, z.1 = o32 b ∧ DI (OS vs n now q) 0 b) (WB n now q + 1) (o32 (WB n now q), o32 (WB n now q), len, top, at', wrong, isAsked, asked, thn) ⟨WB n now q, rfl, by rw [Nat.sub_zero, pu_m1], hW, hup, fun s hs h128 ho => by
        unfold OS at ho
        simp at ho
        have := sd_sub h128 ho.1
        omega⟩ (by
      rintro k ⟨x0, i, v1, v2, v3, v4, v5, v6, x⟩ hk ⟨b, h1, h2', hI⟩
      have h1 : x0 = _ := h1
      obtain ⟨j, hj⟩ : ∃ j, WB n now q + 1 - k = j + 1 := ⟨WB n now q - k, by omega⟩
      have h2 : i = o32 j := by
        have h3 : i = o32 (WB n now q + 1 - k) - 1 := h2'
        rw [h3, hj, pu_m1]
      clear h2'
      rw [hj] at hI
      have hj2 : WB n now q + 1 - (k + 1) = j := by omega
      rw [hj2]
      subst h1 h2
      have hj7 : j < 128 := by omega
      have hst := hI.stp hj7
      have p1 := pc_le j
      have p2 := pc_le b
      have hsd : sd j (WB n now q) < 128 := sd_lt hj7
      have nn : (o32 j < 0) = False := eq_false (o_nn j (by omega))
      obtain ⟨r, er, hr⟩ := L_drop hri x hj7 hq
      obtain ⟨g, eg, hg⟩ := L_isAwake (vs := vs) (DR_ri hri) hr hm hc v1 v2 v3 v4 v5 v6 hq
      rw [DR_ia hri hq] at hg
      simp (disch := omega) only [X11_sleeps_s30, nn, if_false, sd_o hj7 hW, o0, bc_o hj7, bc_o hI.1, er, eg, hg, bi_0, Option.bind_some, pu_am1]
      by_cases c1 : sd j (WB n now q) = 0
      · rw [if_pos c1]
        by_cases c2 : pc j ≤ pc b
        · rw [i_le c2 (by omega)]
          by_cases c3 : (decide (now (7 + q) = 0) && decide (¬ NB vs n now q (sd (WB n now q) j) = 0)) = false
          · rw [if_pos c3]
            rw [if_pos ⟨by unfold OS; rw [c3]; simp [c1], c2⟩] at hst
            exact ⟨_, rfl, j, rfl, rfl, hst⟩
          · rw [if_neg c3]
            rw [if_neg (by rintro ⟨e, -⟩; unfold OS at e; rw [Bool.not_eq_false] at c3; rw [c3] at e; simp at e)] at hst
            exact ⟨_, rfl, b, rfl, rfl, hst⟩
        · rw [i_ge (by omega) (by omega)]
          rw [if_neg (fun e => c2 e.2)] at hst
          exact ⟨_, rfl, b, rfl, rfl, hst⟩
      · rw [if_neg c1]
        rw [if_neg (by rintro ⟨e, -⟩; unfold OS at e; simp [c1] at e)] at hst
        exact ⟨_, rfl, b, rfl, rfl, hst⟩) (by
      rintro ⟨x0, i, v1, v2, v3, v4, v5, v6, x⟩ ⟨b, h1, h2', hI⟩
      have h2 : i = -1 := by
        have h3 : i = o32 (WB n now q + 1 - (WB n now q + 1)) - 1 := h2'
        rw [h3, Nat.sub_self]
        rfl
      clear h2'
      rw [Nat.sub_self] at hI
      subst h2
      exact ⟨(x0, v1, v2, v3, v4, v5, v6, x), rfl, b, h1, hI⟩) (by omega)
    have : b = b' := CD hb1 hb2
    subst this
    obtain ⟨z0, z1, z2⟩ := z
    obtain ⟨z0', z1', z2', z3', z4', z5', z6', z7'⟩ := z'
    have hz : z0 = _ := hz
    have hz' : z0' = _ := hz'
    subst hz hz'
    obtain ⟨t, t', et, et', ht'⟩ := TO.one tnum row ((o32 b).toInt64)
    simp only [X10_sleeps, X11_sleeps, hb, ho', pu_10, if_false, Option.bind_some, L_wby h (show q < 7 by omega), L_wbm hri EQ.rf (show q < 7 by omega), e, e', un, et, et']
    exact ⟨_, _, rfl, rfl, rfl, ht'⟩
  · simp only [X10_sleeps, X11_sleeps, ho, ho', Option.bind_some, if_true]
    exact ⟨_, _, rfl, rfl, rfl, ht⟩
end EN
