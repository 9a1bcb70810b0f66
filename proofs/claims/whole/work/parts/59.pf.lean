/-! ===== the pure level: friends, boot ===== -/
theorem al_mono {P : Nat → Bool} : ∀ {k j : Nat}, k ≤ j → al P k = false → al P j = false
  | k, 0, h, h0 => by
    have : k = 0 := by omega
    subst this; exact h0
  | k, j + 1, h, h0 => by
    rcases Nat.lt_or_ge k (j + 1) with h1 | h1
    · show (al P j && P j) = false
      rw [al_mono (k := k) (j := j) (by omega) h0]; rfl
    · have : k = j + 1 := by omega
      subst this; exact h0
theorem al_all {P : Nat → Bool} : ∀ {n : Nat}, (al P n = true) ↔ ∀ k, k < n → P k = true
  | 0 => ⟨fun _ k hk => absurd hk (Nat.not_lt_zero k), fun _ => rfl⟩
  | n + 1 => by
    show (al P n && P n) = true ↔ _
    rw [Bool.and_eq_true, al_all (n := n)]
    constructor
    · rintro ⟨h1, h2⟩ k hk
      rcases Nat.lt_or_ge k n with h3 | h3
      · exact h1 k h3
      · have : k = n := by omega
        subst this; exact h2
    · intro h
      exact ⟨fun k hk => h k (by omega), h n (by omega)⟩
/-- a loop that asks whether all are so -/
theorem lp_al {f : Int32 → Option (Int32 ⊕ (Unit ⊕ Unit))} (P : Nat → Bool) (n : Nat) (hs : ∀ k, k < n → f (o32 k) = if P k = true then some (.inl (o32 (k + 1))) else some (.inr (.inr ()))) (he : f (o32 n) = some (.inr (.inl ()))) (hn : n < 1000) : lp f 1000 (0 : Int32) = some (if al P n = true then .inl () else .inr ()) := by
  obtain ⟨z, e, hz⟩ := lp_inv (f := f) (fun k x => x = o32 k ∧ al P k = true) (fun z => z = if al P n = true then .inl () else .inr ()) n 0 1000 (0 : Int32) (by
    rintro k x - hkm ⟨rfl, hL⟩
    rcases Nat.lt_or_ge k n with hlt | hlt
    · have hst := hs k hlt
      by_cases hN : P k = true
      · rw [if_pos hN] at hst
        refine Or.inr ⟨by omega, o32 (k + 1), hst, rfl, ?_⟩
        show (al P k && P k) = true
        rw [hL, hN]; rfl
      · rw [if_neg hN] at hst
        refine Or.inl ⟨_, hst, ?_⟩
        have h0 : al P (k + 1) = false := by
          show (al P k && P k) = false
          rw [hL]; simpa using hN
        rw [if_neg (by rw [al_mono (by omega) h0]; decide)]
    · have : k = n := by omega
      subst this
      exact Or.inl ⟨_, he, by rw [if_pos hL]⟩) ⟨rfl, rfl⟩ (by omega)
  rw [e, hz]
/-- whether each of a set wants each other one -/
def AF (n : Nat) (a : Nat → Int32) (set : Nat) : Bool := al (fun q => !set.testBit q || decide (sd set (nt (a (28 + q)) ||| 2 ^ q) = 0)) n
section FR
variable {vs : (Nat → Int32) → Int32} {n : Nat} {day unmet : Int32} {skill pills slept woken wanted now : Nat → Int32} {size : Int32} {code : Nat → Int32} {ruleSize : Int32} {rule : Nat → Int32} {tsz rm : Int32} {tnum row : Nat → Int64}
theorem pu_2q {q : Nat} (h : q < 7) : 2 ^ q < 128 := (Nat.pow_lt_pow_right (by decide) h : 2 ^ q < 2 ^ 7)
theorem L_af (h : RF n day unmet skill pills slept woken wanted now) {set : Nat} (hs : set < 128) : X0_areFriends (o32 n) wanted (o32 set) = some (bi (AF n now set)) := by
  have hn := h.nn
  unfold X0_areFriends
  rw [lp_al (fun q => !set.testBit q || decide (sd set (nt (now (28 + q)) ||| 2 ^ q) = 0)) n (fun k hk => by
    have hw := h.ri.wt hk
    have e1 : wanted k = o32 (nt (now (28 + k))) := by rw [← h.wan (by omega)]; exact hw.2.1
    have h2k := pu_2q (show k < 7 by omega)
    have hsd : sd set (nt (now (28 + k)) ||| 2 ^ k) < 128 := sd_lt hs
    simp (disch := omega) only [X0_areFriends_s2, i_ge, pu_bit hs (show k < 7 by omega), bi_if, gi_o, o_cl, e1, sd_o hs hw.2.2.1, o_shl, sd_o (sd_lt hs) h2k, sd_or hs, o0, o_s]
    cases set.testBit k with
    | false => rfl
    | true =>
      by_cases hx : sd set (nt (now (28 + k)) ||| 2 ^ k) = 0
      · simp [hx]
      · simp [hx]) (by simp (disch := omega) only [X0_areFriends_s2, i_le]) (by omega)]
  show (sm (if AF n now set = true then Sum.inl () else Sum.inr ()) _ _) = _
  cases AF n now set <;> rfl
theorem L_afm {w : Nat → Int32} (h : RI n now) (hw' : EQ w now) {set : Nat} (hs : set < 128) : X11_areFriends (o32 n) w (o32 set) = some (bi (AF n now set)) := by
  have hn := h.1
  unfold X11_areFriends
  rw [lp_al (fun q => !set.testBit q || decide (sd set (nt (now (28 + q)) ||| 2 ^ q) = 0)) n (fun k hk => by
    have hw := h.wt hk
    have e1 : w (28 + k) = o32 (nt (now (28 + k))) := by rw [hw' _ (by omega)]; exact hw.2.1
    have h2k := pu_2q (show k < 7 by omega)
    have hor : nt (now (28 + k)) ||| 2 ^ k < 128 := Nat.or_lt_two_pow (n := 7) hw.2.2.1 h2k
    have hsd : sd set (nt (now (28 + k)) ||| 2 ^ k) < 128 := sd_lt hs
    simp (disch := omega) only [X11_areFriends_s2, i_ge, pu_has hs (show k < 7 by omega), bi_if, gi_o, o_la, o_cl, e1, o_shl, o_or, sd_o hs hor, o0, o_s]
    cases set.testBit k with
    | false => rfl
    | true =>
      by_cases hx : sd set (nt (now (28 + k)) ||| 2 ^ k) = 0
      · simp [hx]
      · simp [hx]) (by simp (disch := omega) only [X11_areFriends_s2, i_le]) (by omega)]
  show (sm (if AF n now set = true then Sum.inl () else Sum.inr ()) _ _) = _
  cases AF n now set <;> rfl
theorem AF_0 : AF n now 0 = true := by
  unfold AF
  rw [al_all]
  intro k _
  rw [Nat.zero_testBit]
  rfl
theorem pu_sub {a b : Nat} (ha : a < 1000) (hb : b < 1000) : (o32 a - o32 b ≤ 0) = (a ≤ b) ∧ (o32 a - o32 b = 0) = (a = b) := by
  have e : (o32 a - o32 b).toInt = (a : Int) - b := pk_sub_toInt (a := a) (b := b) (by omega) (by omega)
  have z : (0 : Int32).toInt = 0 := by decide
  constructor
  · rw [Int32.le_iff_toInt_le, e, z]
    apply propext
    omega
  · apply propext
    rw [← Int32.toInt_inj, e, z]
    omega
theorem M_friends (h : RF n day unmet skill pills slept woken wanted now) : ∃ y y', X10_friends tnum (o32 n) wanted = some y ∧ X11_friends (o32 n) now row = some y' ∧ y.1 = y'.1 ∧ TO y.2.1 y'.2.1 y.2.2 y'.2.2.2 := by
  have hn := h.nn
  have h7 := p2_7 hn
  have hp : 0 < 2 ^ n := Nat.two_pow_pos n
  obtain ⟨z, z', e, e', b, m, hb, hm, hz1, hz2⟩ := lp_ct2 (f := fun x9 : Int32 × Int32 × Int32 × Int32 => X10_friends_s9 (o32 n) wanted x9.1 x9.2.1 x9.2.2.1 x9.2.2.2) (f' := fun x11 : Int32 × Int32 × Int32 => X11_friends_s11 (o32 n) now x11.1 x11.2.1 x11.2.2)
    (fun k x x' => (k = 0 ∧ x = (-1, 0, 0, 0) ∧ x' = (0, 0, 0)) ∨ (0 < k ∧ ∃ b m, b < 128 ∧ m ≤ k ∧ x = (o32 (pc b), o32 b, o32 m, o32 k) ∧ x' = (o32 b, o32 m, o32 k)))
    (fun z z' => ∃ b m, b < 128 ∧ m ≤ 128 ∧ z = (o32 (pc b), o32 b, o32 m) ∧ z' = (o32 b, o32 m)) (2 ^ n) ((-1 : Int32), (0 : Int32), (0 : Int32), (0 : Int32)) ((0 : Int32), (0 : Int32), (0 : Int32)) (Or.inl ⟨rfl, rfl, rfl⟩) (by
      rintro k x x' hk hI
      have hk' : k < 128 := by omega
      rcases hI with ⟨rfl, rfl, rfl⟩ | ⟨h0, b, m, hb, hm, rfl, rfl⟩
      · have eC : X10_friends_s9 (o32 n) wanted (-1) 0 0 0 = some (.inl (0, 0, 1, 1)) := by
          have e0 : X0_areFriends (o32 n) wanted 0 = some (bi (AF n now 0)) := L_af h (set := 0) (by decide)
          have c1 : ¬ o32 (2 ^ n - 1) < 0 := o_nn _ (by omega)
          simp only [X10_friends_s9, ev_o hn, c1, if_false, e0, AF_0, Option.bind_some]
          rfl
        have eM : X11_friends_s11 (o32 n) now 0 0 0 = some (.inl (0, 1, 1)) := by
          have e0 : X11_areFriends (o32 n) now 0 = some (bi (AF n now 0)) := L_afm h.ri EQ.rf (set := 0) (by decide)
          have c1 : ¬ o32 (2 ^ n - 1) < 0 := o_nn _ (by omega)
          simp only [X11_friends_s11, ev_11, ev_o hn, c1, if_false, e0, AF_0, Option.bind_some]
          rfl
        exact ⟨_, _, eC, eM, Or.inr ⟨by omega, 0, 1, by decide, by omega, rfl, rfl⟩⟩
      · have p1 := pc_le k
        have p2 := pc_le b
        have s1 := (pu_sub (a := pc k) (b := pc b) (by omega) (by omega)).1
        have s2 := (pu_sub (a := pc k) (b := pc b) (by omega) (by omega)).2
        cases hF : AF n now k with
        | false =>
          refine ⟨(o32 (pc b), o32 b, o32 m, o32 (k + 1)), (o32 b, o32 m, o32 (k + 1)), ?_, ?_, Or.inr ⟨by omega, b, m, hb, by omega, rfl, rfl⟩⟩
          · simp (disch := omega) only [X10_friends_s9, ev_o hn, i_lt, L_af h hk', hF, Option.bind_some, bi_0, if_true, ite_self, o_s]
          · simp (disch := omega) only [X11_friends_s11, ev_11, ev_o hn, i_lt, L_afm h.ri EQ.rf hk', hF, Option.bind_some, bi_0, if_true, o_s]
        | true =>
          have bt : (true = false) = False := eq_false (by decide)
          rcases Nat.lt_trichotomy (pc k) (pc b) with hlt | heq | hgt
          · refine ⟨(o32 (pc b), o32 b, o32 m, o32 (k + 1)), (o32 b, o32 m, o32 (k + 1)), ?_, ?_, Or.inr ⟨by omega, b, m, hb, by omega, rfl, rfl⟩⟩
            · simp (disch := omega) only [X10_friends_s9, ev_o hn, i_lt, bc_o hk', i_gt, o_s]
            · simp (disch := omega) only [X11_friends_s11, ev_11, ev_o hn, i_lt, L_afm h.ri EQ.rf hk', hF, Option.bind_some, bi_0, bt, if_false, bc_o hk', bc_o hb, s1, s2, show (pc k ≤ pc b) = True from eq_true (by omega), show (pc k = pc b) = False from eq_false (by omega), if_true, o_s]
          · refine ⟨(o32 (pc b), o32 b, o32 (m + 1), o32 (k + 1)), (o32 b, o32 (m + 1), o32 (k + 1)), ?_, ?_, Or.inr ⟨by omega, b, m + 1, hb, by omega, rfl, rfl⟩⟩
            · simp (disch := omega) only [X10_friends_s9, ev_o hn, i_lt, bc_o hk', L_af h hk', hF, Option.bind_some, bi_0, bt, if_false, i_le, o_s, heq]
            · simp (disch := omega) only [X11_friends_s11, ev_11, ev_o hn, i_lt, L_afm h.ri EQ.rf hk', hF, Option.bind_some, bi_0, bt, if_false, bc_o hk', bc_o hb, s1, s2, show (pc k ≤ pc b) = True from eq_true (by omega), show (pc k = pc b) = True from eq_true heq, if_true, o_s]
          · refine ⟨(o32 (pc k), o32 k, o32 1, o32 (k + 1)), (o32 k, o32 1, o32 (k + 1)), ?_, ?_, Or.inr ⟨by omega, k, 1, hk', by omega, rfl, rfl⟩⟩
            · simp (disch := omega) only [X10_friends_s9, ev_o hn, i_lt, bc_o hk', L_af h hk', hF, Option.bind_some, bi_0, bt, if_false, i_ge, o_s]
              rfl
            · simp (disch := omega) only [X11_friends_s11, ev_11, ev_o hn, i_lt, L_afm h.ri EQ.rf hk', hF, Option.bind_some, bi_0, bt, if_false, bc_o hk', bc_o hb, s1, s2, show (pc k ≤ pc b) = False from eq_false (by omega), o_s]
              rfl) (by
      rintro x x' hI
      rcases hI with ⟨h0, -, -⟩ | ⟨h0, b, m, hb, hm, rfl, rfl⟩
      · omega
      · refine ⟨(o32 (pc b), o32 b, o32 m), (o32 b, o32 m), ?_, ?_, b, m, hb, by omega, rfl, rfl⟩
        · simp (disch := omega) only [X10_friends_s9, ev_o hn, i_gt]
        · simp (disch := omega) only [X11_friends_s11, ev_11, ev_o hn, i_gt]) (by omega)
  subst hz1 hz2
  obtain ⟨t, t', t'', et, et', et'', ht'⟩ := TO.both tnum row ((o32 b).toInt64) ((o32 m).toInt64)
  simp only [X10_friends, X11_friends, e, e', Option.bind_some, un, et, et', et'', bc_o hb]
  exact ⟨_, _, rfl, rfl, rfl, ht'⟩
/-- whom some of a set want -/
def WO (a : Nat → Int32) (set : Nat) : Nat → Nat
  | 0 => 0
  | k + 1 => WO a set k ||| if set.testBit k then nt (a (28 + k)) else 0
theorem WO_lt (h : RI n now) (set : Nat) : ∀ k, k ≤ n → WO now set k < 128
  | 0, _ => by show 0 < 128; decide
  | k + 1, hk => by
    have h1 := WO_lt h set k (by omega)
    refine Nat.or_lt_two_pow (n := 7) h1 ?_
    split
    · exact (h.wt (by omega)).2.2.1
    · decide
theorem L_wo (h : RF n day unmet skill pills slept woken wanted now) {set : Nat} (hs : set < 128) : X0_wantedBy (o32 n) wanted (o32 set) = some (o32 (WO now set n)) := by
  have hn := h.nn
  obtain ⟨z, e, hz⟩ := lp_ct (f := fun x4 : Int32 × Int32 => X0_wantedBy_s4 (o32 n) wanted (o32 set) x4.1 x4.2) (fun k x => x = (o32 (WO now set k), o32 k)) (fun z => z = o32 (WO now set n)) n ((0 : Int32), (0 : Int32)) rfl (by
    rintro k x hk rfl
    have hw := h.ri.wt hk
    have e1 : wanted k = o32 (nt (now (28 + k))) := by rw [← h.wan (by omega)]; exact hw.2.1
    refine ⟨(o32 (WO now set (k + 1)), o32 (k + 1)), ?_, rfl⟩
    simp (disch := omega) only [X0_wantedBy_s4, i_ge, pu_bit hs (show k < 7 by omega), bi_if, gi_o, o_cl, o_s, e1, o_or, pu_or0]
    show _ = some (Sum.inl (o32 (WO now set k ||| if set.testBit k then nt (now (28 + k)) else 0), _))
    cases set.testBit k
    · simp
    · simp) (by
    rintro x rfl
    refine ⟨o32 (WO now set n), ?_, rfl⟩
    simp (disch := omega) only [X0_wantedBy_s4, i_le]) (by omega)
  unfold X0_wantedBy
  rw [e, hz]
  rfl
theorem L_wom {w : Nat → Int32} (h : RI n now) (hw' : EQ w now) {set : Nat} (hs : set < 128) : X11_wantsOfAll (o32 n) w (o32 set) = some (o32 (WO now set n)) := by
  have hn := h.1
  obtain ⟨z, e, hz⟩ := lp_ct (f := fun x4 : Int32 × Int32 => X11_wantsOfAll_s4 (o32 n) w (o32 set) x4.1 x4.2) (fun k x => x = (o32 (WO now set k), o32 k)) (fun z => z = o32 (WO now set n)) n ((0 : Int32), (0 : Int32)) rfl (by
    rintro k x hk rfl
    have hw := h.wt hk
    have e1 : w (28 + k) = o32 (nt (now (28 + k))) := by rw [hw' _ (by omega)]; exact hw.2.1
    refine ⟨(o32 (WO now set (k + 1)), o32 (k + 1)), ?_, rfl⟩
    simp (disch := omega) only [X11_wantsOfAll_s4, i_ge, pu_has hs (show k < 7 by omega), bi_if, o_la, gi_o, o_cl, o_s, e1, o_or, pu_or0]
    show _ = some (Sum.inl (o32 (WO now set k ||| if set.testBit k then nt (now (28 + k)) else 0), _))
    cases set.testBit k
    · simp
    · simp) (by
    rintro x rfl
    refine ⟨o32 (WO now set n), ?_, rfl⟩
    simp (disch := omega) only [X11_wantsOfAll_s4, i_le]) (by omega)
  unfold X11_wantsOfAll
  rw [e, hz]
  rfl
theorem L_wm {w : Nat → Int32} (h : RI n now) (hw' : EQ w now) : X11_wanting (o32 n) w = some (o32 (WS n now (2 ^ n - 1))) := by
  have hn := h.1
  obtain ⟨z, e, hz⟩ := lp_ct (f := fun x4 : Int32 × Int32 => X11_wanting_s4 (o32 n) w x4.1 x4.2) (fun k x => x = (o32 (bm (fun k => decide (¬ nt (now (28 + k)) &&& (2 ^ n - 1) = 0)) k), o32 k)) (fun z => z = o32 (WS n now (2 ^ n - 1))) n ((0 : Int32), (0 : Int32)) rfl (by
    rintro k x hk rfl
    have hw := h.wt hk
    have e1 : w (28 + k) = o32 (nt (now (28 + k))) := by rw [hw' _ (by omega)]; exact hw.2.1
    have e2 : nt (now (28 + k)) &&& (2 ^ n - 1) = nt (now (28 + k)) := by rw [Nat.and_two_pow_sub_one_eq_mod, Nat.mod_eq_of_lt hw.1]
    refine ⟨(o32 (bm (fun k => decide (¬ nt (now (28 + k)) &&& (2 ^ n - 1) = 0)) (k + 1)), o32 (k + 1)), ?_, rfl⟩
    simp (disch := omega) only [X11_wanting_s4, i_ge, o_la, gi_o, o_cl, o_s, e1, o0]
    rw [← bm_o (by omega)]
    simp only [e2, decide_eq_false_iff_not, Classical.not_not]) (by
    rintro x rfl
    refine ⟨o32 (WS n now (2 ^ n - 1)), ?_, rfl⟩
    simp (disch := omega) only [X11_wanting_s4, i_le]
    rfl) (by omega)
  unfold X11_wanting
  rw [e, hz]
  rfl
theorem sd_sub {x s : Nat} (hx : x < 128) (h : sd x s = 0) : x ≤ s := by
  have h1 : x &&& s = x := by
    apply Nat.eq_of_testBit_eq
    intro i
    have h2 := sd_tb hx s i
    rw [h, Nat.zero_testBit] at h2
    rw [Nat.testBit_and]
    cases hb : x.testBit i <;> cases hc : s.testBit i <;> simp_all
  rw [← h1]
  exact Nat.and_le_right
/-- the first of the fewest sets that are so; 0: none -/
def FB (ok : Nat → Bool) : Nat → Nat
  | 0 => 0
  | k + 1 => if ok k = true ∧ (FB ok k = 0 ∨ pc k < pc (FB ok k)) then k else FB ok k
theorem FB_lt (ok : Nat → Bool) : ∀ k, FB ok k ≤ k
  | 0 => Nat.le_refl 0
  | k + 1 => by
    have := FB_lt ok k
    unfold FB
    split <;> omega
theorem FB_stop {ok : Nat → Bool} {m : Nat} : ∀ {k : Nat}, m ≤ k → (∀ j, m ≤ j → j < k → ok j = false) → FB ok k = FB ok m
  | 0, h, _ => by
    have : m = 0 := by omega
    rw [this]
  | k + 1, h, hf => by
    rcases Nat.lt_or_ge m (k + 1) with h1 | h1
    · show (if ok k = true ∧ (FB ok k = 0 ∨ pc k < pc (FB ok k)) then k else FB ok k) = _
      rw [if_neg (by rw [hf k (by omega) (by omega)]; simp), FB_stop (by omega) (fun j h2 h3 => hf j h2 (by omega))]
    · have : m = k + 1 := by omega
      rw [this]
/-- the boot's sets -/
def OB (vs : (Nat → Int32) → Int32) (n : Nat) (a : Nat → Int32) (k : Nat) : Bool := decide (¬ k = 0) && decide (sd k (WS n a (2 ^ n - 1)) = 0) && decide (pc (WO a k n &&& AW vs n a) < pc k)
theorem M_boot (h : RF n day unmet skill pills slept woken wanted now) (hv : RV vs size code) (hm : RM vs ruleSize rule) (hc : VC vs) (ht : TO tsz rm tnum row) (stack thing : Nat → Int32) (len top at' wrong isAsked : Int32) (asked : Nat → Int32) : ∃ y y', X10_boot tsz tnum (o32 n) day skill pills slept wanted size code stack thing = some y ∧ X11_boot (o32 n) rm len top at' wrong ruleSize isAsked now row rule asked = some y' ∧ y.1 = y'.1 ∧ TO y.2.1 y'.2.1 y.2.2.1 y'.2.2.2.2.2.2.2.2.1 := by
  have hn := h.nn
  have hri := h.ri
  have hA : AW vs n now < 128 := bm_128 hn
  have hW : WS n now (2 ^ n - 1) < 128 := bm_128 hn
  obtain ⟨y, ey, hy⟩ := L_wakers h hv hc stack thing
  obtain ⟨y', ey', hy'⟩ := L_awake hri EQ.rf hm hc len top at' wrong isAsked asked
  have f1 : FB (OB vs n now) 1 = 0 := by
    show (if OB vs n now 0 = true ∧ _ then 0 else FB (OB vs n now) 0) = 0
    split <;> rfl
  -- the class's loop
  have eC : X7_tooMany (o32 n) wanted (o32 (AW vs n now)) = some (o32 (FB (OB vs n now) 128)) := by
    obtain ⟨z, e, hz⟩ := lp_inv (f := fun x14 : Int32 × Int32 => X7_tooMany_s14 (o32 n) wanted (o32 (AW vs n now)) (o32 (WS n now (2 ^ n - 1))) x14.1 x14.2) (fun k x => x = (o32 (FB (OB vs n now) k), o32 k)) (fun z => z = o32 (FB (OB vs n now) 128)) 127 1 1000 ((0 : Int32), (1 : Int32)) (by
      rintro k x hk1 hk2 rfl
      rcases Nat.lt_or_ge k 128 with hk | hk
      · right
        refine ⟨by omega, (o32 (FB (OB vs n now) (k + 1)), o32 (k + 1)), ?_, rfl⟩
        have hb := FB_lt (OB vs n now) k
        have p1 := pc_le k
        have p2 := pc_le (FB (OB vs n now) k)
        have p3 := pc_le (WO now k n &&& AW vs n now)
        have hwo : WO now k n &&& AW vs n now < 128 := Nat.lt_of_le_of_lt Nat.and_le_right hA
        have e128 : (128 : Int32) = o32 128 := rfl
        have key : ∀ j : Int32, (j = 0 ∨ j = 1) → X7_tooMany_k47 (o32 n) wanted (o32 (AW vs n now)) (o32 (WS n now (2 ^ n - 1))) (o32 (FB (OB vs n now) k)) (o32 k) j = some (.inl ((if OB vs n now k = true ∧ j = 1 then o32 k else o32 (FB (OB vs n now) k)), o32 (k + 1))) := by
          intro j hj
          have hsd : sd k (WS n now (2 ^ n - 1)) < 128 := sd_lt hk
          simp (disch := omega) only [X7_tooMany_k47, sd_o hk hW, o0, L_wo h hk, Option.bind_some, o_and, bc_o hk, bc_o hwo, o_s]
          by_cases c1 : sd k (WS n now (2 ^ n - 1)) = 0
          · rw [if_pos c1]
            rcases hj with rfl | rfl
            · rw [if_pos rfl, if_neg (by rintro ⟨-, e⟩; exact absurd e (by decide))]
            · rw [if_neg (by decide)]
              by_cases c2 : pc (WO now k n &&& AW vs n now) < pc k
              · rw [i_ge c2 (by omega), if_pos ⟨by unfold OB; simp [c1, c2]; omega, rfl⟩]
              · rw [i_le (by omega) (by omega), if_neg (by rintro ⟨e, -⟩; unfold OB at e; simp [c2] at e)]
          · rw [if_neg c1, if_neg (by rintro ⟨e, -⟩; unfold OB at e; simp [c1] at e)]
        have hfin : ∀ c : Prop, (c ↔ (FB (OB vs n now) k = 0 ∨ pc k < pc (FB (OB vs n now) k))) → ∀ j : Int32, (c → j = 1) → (¬ c → j = 0) → (if OB vs n now k = true ∧ j = 1 then o32 k else o32 (FB (OB vs n now) k)) = o32 (FB (OB vs n now) (k + 1)) := by
          intro c hc j h1 h0
          show _ = o32 (if OB vs n now k = true ∧ (FB (OB vs n now) k = 0 ∨ pc k < pc (FB (OB vs n now) k)) then k else FB (OB vs n now) k)
          by_cases hcc : c
          · rw [h1 hcc]
            by_cases ho : OB vs n now k = true
            · rw [if_pos ⟨ho, rfl⟩, if_pos ⟨ho, hc.mp hcc⟩]
            · rw [if_neg (fun e => ho e.1), if_neg (fun e => ho e.1)]
          · rw [h0 hcc, if_neg (fun e => absurd e.2 (by decide)), if_neg (fun e => hcc (hc.mpr e.2))]
        simp (disch := omega) only [X7_tooMany_s14, e128, i_ge, o0, bc_o (show FB (OB vs n now) k < 128 by omega), bc_o hk]
        by_cases c0 : FB (OB vs n now) k = 0
        · rw [if_pos c0, key 1 (Or.inr rfl), hfin True (by simp [c0]) 1 (fun _ => rfl) (fun e => absurd True.intro e)]
        · rw [if_neg c0]
          by_cases c1 : pc k < pc (FB (OB vs n now) k)
          · rw [i_ge c1 (by omega), key 1 (Or.inr rfl), hfin True (by simp [c1]) 1 (fun _ => rfl) (fun e => absurd True.intro e)]
          · rw [i_le (by omega) (by omega), key 0 (Or.inl rfl), hfin False (by simp [c0]; omega) 0 (fun e => absurd e id) (fun _ => rfl)]
      · left
        have hk : k = 128 := by omega
        subst hk
        exact ⟨_, rfl, rfl⟩) (by rw [f1]; rfl) (by omega)
    unfold X7_tooMany
    rw [ev_o hn, L_ws h, Option.bind_some, e, hz]
    rfl
  -- the reference's loop
  have eM : lp (fun x24 : Int32 × Int32 => X11_boot_s24 (o32 n) now y' (o32 (WS n now (2 ^ n - 1))) x24.1 x24.2) 1000 ((-1 : Int32), (1 : Int32)) = some (if FB (OB vs n now) 128 = 0 then -1 else o32 (FB (OB vs n now) 128)) := by
    obtain ⟨z, e, hz⟩ := lp_inv (f := fun x24 : Int32 × Int32 => X11_boot_s24 (o32 n) now y' (o32 (WS n now (2 ^ n - 1))) x24.1 x24.2) (fun k x => x = ((if FB (OB vs n now) k = 0 then -1 else o32 (FB (OB vs n now) k)), o32 k)) (fun z => z = if FB (OB vs n now) 128 = 0 then -1 else o32 (FB (OB vs n now) 128)) (WS n now (2 ^ n - 1)) 1 1000 ((-1 : Int32), (1 : Int32)) (by
      rintro k x hk1 hk2 rfl
      rcases Nat.lt_or_ge (WS n now (2 ^ n - 1)) k with hk | hk
      · left
        have hk : k = 1 + WS n now (2 ^ n - 1) := by omega
        refine ⟨(if FB (OB vs n now) k = 0 then -1 else o32 (FB (OB vs n now) k)), ?_, ?_⟩
        · simp (disch := omega) only [X11_boot_s24, i_gt]
        · have hst : FB (OB vs n now) 128 = FB (OB vs n now) k := FB_stop (by omega) (fun j h1 h2 => by
            unfold OB
            have : ¬ sd j (WS n now (2 ^ n - 1)) = 0 := fun e => by
              have := sd_sub h2 e
              omega
            simp [this])
          rw [hst]
      · right
        have hk7 : k < 128 := by omega
        refine ⟨by omega, ((if FB (OB vs n now) (k + 1) = 0 then -1 else o32 (FB (OB vs n now) (k + 1))), o32 (k + 1)), ?_, rfl⟩
        have hb := FB_lt (OB vs n now) k
        have p1 := pc_le k
        have p2 := pc_le (FB (OB vs n now) k)
        have p3 := pc_le (WO now k n &&& AW vs n now)
        have hwo : WO now k n &&& AW vs n now < 128 := Nat.lt_of_le_of_lt Nat.and_le_right hA
        have hsd : sd k (WS n now (2 ^ n - 1)) < 128 := sd_lt hk7
        have eF : FB (OB vs n now) (k + 1) = if OB vs n now k = true ∧ (FB (OB vs n now) k = 0 ∨ pc k < pc (FB (OB vs n now) k)) then k else FB (OB vs n now) k := rfl
        simp (disch := omega) only [X11_boot_s24, i_lt, sd_o hk7 hW, o0, L_wom hri EQ.rf hk7, Option.bind_some, hy', o_and, bc_o hk7, bc_o hwo, o_s]
        by_cases c1 : sd k (WS n now (2 ^ n - 1)) = 0
        · rw [if_pos c1]
          by_cases c2 : pc (WO now k n &&& AW vs n now) < pc k
          · have ho : OB vs n now k = true := by unfold OB; simp [c1, c2]; omega
            rw [i_gt c2 (by omega)]
            by_cases c0 : FB (OB vs n now) k = 0
            · have e1 : FB (OB vs n now) (k + 1) = k := by rw [eF]; exact if_pos ⟨ho, Or.inl c0⟩
              rw [e1, if_pos c0, if_pos rfl, if_neg (show ¬ k = 0 by omega)]
            · have hne : ¬ o32 (FB (OB vs n now) k) = -1 := by
                intro e
                have h5 := congrArg Int32.toInt e
                rw [o_toInt (by omega), show (-1 : Int32).toInt = -1 by decide] at h5
                omega
              rw [if_neg c0, if_neg hne, bc_o (show FB (OB vs n now) k < 128 by omega)]
              by_cases c3 : pc k < pc (FB (OB vs n now) k)
              · have e1 : FB (OB vs n now) (k + 1) = k := by rw [eF]; exact if_pos ⟨ho, Or.inr c3⟩
                rw [i_ge c3 (by omega), e1, if_neg (show ¬ k = 0 by omega)]
              · have e1 : FB (OB vs n now) (k + 1) = FB (OB vs n now) k := by rw [eF]; exact if_neg (fun e => e.2.elim c0 c3)
                rw [i_le (by omega) (by omega), e1, if_neg c0]
          · have ho : ¬ OB vs n now k = true := by unfold OB; simp [c2]
            have e1 : FB (OB vs n now) (k + 1) = FB (OB vs n now) k := by rw [eF]; exact if_neg (fun e => ho e.1)
            rw [i_lt (by omega) (by omega), e1]
        · have ho : ¬ OB vs n now k = true := by unfold OB; simp [c1]
          have e1 : FB (OB vs n now) (k + 1) = FB (OB vs n now) k := by rw [eF]; exact if_neg (fun e => ho e.1)
          rw [if_neg c1, e1]) (by rw [f1]; rfl) (by omega)
    rw [e, hz]
  have hb := FB_lt (OB vs n now) 128
  have hb2 : FB (OB vs n now) 128 < 128 := by
    show (if OB vs n now 127 = true ∧ _ then 127 else FB (OB vs n now) 127) < 128
    have := FB_lt (OB vs n now) 127
    split <;> omega
  by_cases h0 : FB (OB vs n now) 128 = 0
  · rw [if_pos h0] at eM
    have e0 : (o32 0 = 0) = True := eq_true rfl
    simp only [X10_boot, X11_boot, ey, ey', hy, hy', eC, h0, Option.bind_some, L_wm hri EQ.rf, eM, e0, if_true]
    exact ⟨_, _, rfl, rfl, rfl, ht⟩
  · rw [if_neg h0] at eM
    have e0 : (o32 (FB (OB vs n now) 128) = 0) = False := by rw [o0 (by omega)]; exact eq_false h0
    have e1 : (o32 (FB (OB vs n now) 128) = -1) = False := by
      apply eq_false
      intro e
      have h5 := congrArg Int32.toInt e
      rw [o_toInt (by omega), show (-1 : Int32).toInt = -1 by decide] at h5
      omega
    obtain ⟨t, t', t'', et, et', et'', ht'⟩ := TO.both tnum row ((o32 (FB (OB vs n now) 128)).toInt64) ((o32 (WO now (FB (OB vs n now) 128) n &&& AW vs n now)).toInt64)
    simp only [X10_boot, X11_boot, ey, ey', hy, hy', eC, Option.bind_some, L_wm hri EQ.rf, eM, e0, e1, if_false, L_wo h hb2, L_wom hri EQ.rf hb2, o_and, et, et', et'']
    exact ⟨_, _, rfl, rfl, rfl, ht'⟩
end FR
