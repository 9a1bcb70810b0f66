/-! ===== the pure level: sets made bit by bit; rows; who is needed, who wakes ===== -/
def nt (x : Int32) : Nat := x.toNatClampNeg
theorem nt_o {a : Nat} (h : a < 2147483648) : nt (o32 a) = a := o_cl h
def bm (P : Nat → Bool) : Nat → Nat
  | 0 => 0
  | k + 1 => bm P k ||| (if P k then 2 ^ k else 0)
theorem bm_lt (P : Nat → Bool) : ∀ n, bm P n < 2 ^ n
  | 0 => Nat.zero_lt_one
  | n + 1 => by
    have h1 := bm_lt P n
    have h2 : 2 ^ n < 2 ^ (n + 1) := Nat.pow_lt_pow_right (by decide) (Nat.lt_succ_self n)
    refine Nat.or_lt_two_pow (Nat.lt_trans h1 h2) ?_
    split
    · exact h2
    · exact Nat.two_pow_pos _
theorem bm_tb (P : Nat → Bool) (k : Nat) : ∀ n, (bm P n).testBit k = (decide (k < n) && P k)
  | 0 => by simp [bm]
  | n + 1 => by
    show (bm P n ||| _).testBit k = _
    rw [Nat.testBit_or, bm_tb P k n]
    by_cases h : k = n
    · subst h
      cases hp : P k <;> simp
    · have h1 : (if P n = true then 2 ^ n else 0).testBit k = false := by
        split
        · rw [Nat.testBit_two_pow]; simp; omega
        · exact Nat.zero_testBit k
      rw [h1, Bool.or_false]
      by_cases h2 : k < n
      · simp [h2, Nat.lt_succ_of_lt h2]
      · have : ¬ k < n + 1 := by omega
        simp [h2, this]
theorem bm_ext {P Q : Nat → Bool} : ∀ {n : Nat}, (∀ k, k < n → P k = Q k) → bm P n = bm Q n
  | 0, _ => rfl
  | n + 1, h => by
    show bm P n ||| _ = bm Q n ||| _
    rw [bm_ext (fun k hk => h k (by omega)), h n (by omega)]
theorem bm_128 {P : Nat → Bool} {n : Nat} (h : n ≤ 7) : bm P n < 128 := Nat.lt_of_lt_of_le (bm_lt P n) (p2_7 h)
theorem bm_o {P : Nat → Bool} {k : Nat} (h : k < 31) : o32 (bm P k) ||| (if P k = false then (0 : Int32) else (1 : Int32) <<< (o32 k &&& 31)) = o32 (bm P (k + 1)) := by
  rw [o_shl h]
  show _ = o32 (bm P k ||| if P k then 2 ^ k else 0)
  rw [← o_or]
  cases P k <;> rfl
theorem bm_y {P : Nat → Bool} {k : Nat} (h : k < 31) (hp : P k = true) : o32 (bm P k) ||| ((1 : Int32) <<< (o32 k &&& 31)) = o32 (bm P (k + 1)) := by
  rw [← bm_o h, hp]; rfl
theorem bm_n {P : Nat → Bool} {k : Nat} (hp : P k = false) : o32 (bm P k) = o32 (bm P (k + 1)) := by
  show _ = o32 (bm P k ||| if P k then 2 ^ k else 0)
  rw [hp]; simp
/-- a plain loop that counts -/
theorem lp_ct {α β : Type} {f : α → Option (α ⊕ β)} (I : Nat → α → Prop) (P : β → Prop) (n : Nat) (x0 : α) (h0 : I 0 x0) (hs : ∀ k x, k < n → I k x → ∃ y, f x = some (.inl y) ∧ I (k + 1) y) (he : ∀ x, I n x → ∃ z, f x = some (.inr z) ∧ P z) (hf : n < 1000) : ∃ z, lp f 1000 x0 = some z ∧ P z :=
  lp_inv I P n 0 1000 x0 (fun k x _ h2 h3 => by
    rcases Nat.lt_or_ge k n with h | h
    · exact Or.inr ⟨by omega, hs k x h h3⟩
    · have : k = n := by omega
      subst this
      exact Or.inl (he x h3)) h0 hf
/-- what a row keeps to -/
def RI (n : Nat) (a : Nat → Int32) : Prop :=
  n ≤ 7 ∧ ∀ k, k < n → (∃ s, s < 10 ∧ a k = o32 s) ∧ (∃ p, p < 10 ∧ a (7 + k) = o32 p) ∧ ∃ w, w < 2 ^ n ∧ a (28 + k) = o32 w ∧ w.testBit k = false
/-- a row as another one, where it counts -/
def EQ (w a : Nat → Int32) : Prop := ∀ j, j < 37 → w j = a j
theorem EQ.rf {a : Nat → Int32} : EQ a a := fun _ _ => rfl
theorem EQ.sy {w a : Nat → Int32} (h : EQ w a) : EQ a w := fun j hj => (h j hj).symm
theorem EQ.tr {w a b : Nat → Int32} (h : EQ w a) (g : EQ a b) : EQ w b := fun j hj => (h j hj).trans (g j hj)
theorem RI.wt {n : Nat} {a : Nat → Int32} (h : RI n a) {k : Nat} (hk : k < n) : nt (a (28 + k)) < 2 ^ n ∧ a (28 + k) = o32 (nt (a (28 + k))) ∧ nt (a (28 + k)) < 128 ∧ (nt (a (28 + k))).testBit k = false := by
  obtain ⟨w, hw, e, hs⟩ := (h.2 k hk).2.2
  have h1 : w < 128 := Nat.lt_of_lt_of_le hw (p2_7 h.1)
  rw [e, nt_o (by omega)]
  exact ⟨hw, rfl, h1, hs⟩
theorem RI.cg {n : Nat} {a b : Nat → Int32} (h : RI n a) (e : EQ b a) : RI n b := by
  have hn := h.1
  refine ⟨hn, fun k hk => ?_⟩
  rw [e k (by omega), e (7 + k) (by omega), e (28 + k) (by omega)]
  exact h.2 k hk
theorem RF.ri {n : Nat} {day unmet : Int32} {skill pills slept woken wanted a : Nat → Int32} (h : RF n day unmet skill pills slept woken wanted a) : RI n a := by
  have hn := h.nn
  refine ⟨hn, fun k hk => ⟨?_, ?_, ?_⟩⟩
  · rw [h.ski (by omega)]; exact h.bsk hk
  · rw [h.pil (by omega)]; exact h.bpi hk
  · rw [h.wan (by omega)]
    obtain ⟨w, hw, e⟩ := h.bwa hk
    have h1 : w < 128 := Nat.lt_of_lt_of_le hw (p2_7 hn)
    refine ⟨w, hw, e, ?_⟩
    have h2 := h.bse hk
    rw [e, bt_o h1 (by omega)] at h2
    exact Bool.eq_false_iff.mpr h2
theorem RF.eq {n : Nat} {day unmet : Int32} {skill pills slept woken wanted a b : Nat → Int32} (h : RF n day unmet skill pills slept woken wanted a) (e : EQ b a) : RF n day unmet skill pills slept woken wanted b :=
  h.cg (fun _ _ => ⟨rfl, rfl, rfl, rfl, rfl⟩) e
/-! what a rule is asked -/
def th (a : Nat → Int32) (p q set : Nat) : Nat → Int32 := fun j => if j = 0 then a q else if j = 1 then a p else if j = 2 then o32 (pc set) else if j = 3 then o32 (pc (nt (a (28 + p)))) else if j = 4 then a (14 + q) else if j = 5 then (if (nt (a (28 + q))).testBit p then 1 else 0) else irem (a 35) 7
def ND (vs : (Nat → Int32) → Int32) (a : Nat → Int32) (p q set : Nat) : Bool := decide (¬ vs (th a p q set) ≤ 0)
def NB (vs : (Nat → Int32) → Int32) (n : Nat) (a : Nat → Int32) (q set : Nat) : Nat := bm (fun p => set.testBit p && ND vs a p q set) n
def WB (n : Nat) (a : Nat → Int32) (q : Nat) : Nat := bm (fun p => (nt (a (28 + p))).testBit q) n
def IA (vs : (Nat → Int32) → Int32) (n : Nat) (a : Nat → Int32) (q : Nat) : Bool := decide (a (7 + q) = 0) && decide (¬ NB vs n a q (WB n a q) = 0)
def AW (vs : (Nat → Int32) → Int32) (n : Nat) (a : Nat → Int32) : Nat := bm (IA vs n a) n
/-- the rule's value, as the class reckons it -/
def RV (vs : (Nat → Int32) → Int32) (size : Int32) (code : Nat → Int32) : Prop := ∀ stack thing, ∃ st', X5_value size code stack thing = some (vs thing, st')
def VC (vs : (Nat → Int32) → Int32) : Prop := ∀ t t' : Nat → Int32, (∀ j, j < 7 → t j = t' j) → vs t = vs t'
theorem L_wby {n : Nat} {day unmet : Int32} {skill pills slept woken wanted a : Nat → Int32} (h : RF n day unmet skill pills slept woken wanted a) {q : Nat} (hq : q < 7) : X0_wanting (o32 n) wanted (o32 q) = some (o32 (WB n a q)) := by
  have hn := h.nn
  obtain ⟨z, e, hz⟩ := lp_ct (f := fun x4 : Int32 × Int32 => X0_wanting_s4 (o32 n) wanted (o32 q) x4.1 x4.2) (fun k x => x = (o32 (bm (fun p => (nt (a (28 + p))).testBit q) k), o32 k)) (fun z => z = o32 (WB n a q)) n ((0 : Int32), (0 : Int32)) rfl (by
    rintro k x hk rfl
    have hw := h.ri.wt hk
    refine ⟨_, ?_, rfl⟩
    have e1 : wanted k = o32 (nt (a (28 + k))) := by rw [← h.wan (by omega)]; exact hw.2.1
    simp (disch := omega) only [X0_wanting_s4, i_ge, gi_o, o_cl, o_s]
    rw [e1, bt_bit hw.2.2.1 hq, ← bm_o (by omega), pu_sb]) (by
    rintro x rfl
    refine ⟨_, ?_, rfl⟩
    simp (disch := omega) only [X0_wanting_s4, i_le]
    rfl) (by omega)
  unfold X0_wanting
  rw [e, hz]
  rfl
theorem L_wbm {n : Nat} {a w : Nat → Int32} (h : RI n a) (hw : EQ w a) {q : Nat} (hq : q < 7) : X11_wantedBy (o32 n) 37 w (o32 q) = some (o32 (WB n a q)) := by
  have hn := h.1
  obtain ⟨z, e, hz⟩ := lp_ct (f := fun x5 : Int32 × Int32 => X11_wantedBy_s5 (o32 n) 37 w (o32 q) x5.1 x5.2) (fun k x => x = (o32 (bm (fun p => (nt (a (28 + p))).testBit q) k), o32 k)) (fun z => z = o32 (WB n a q)) n ((0 : Int32), (0 : Int32)) rfl (by
    rintro k x hk rfl
    have hk' := h.wt hk
    refine ⟨_, ?_, rfl⟩
    have e1 : w (28 + k) = o32 (nt (a (28 + k))) := by rw [hw _ (by omega)]; exact hk'.2.1
    simp (disch := omega) only [X11_wantedBy_s5, i_ge, o_la, gi_o, o_cl, o_s]
    rw [e1, hs_1, bt_bit hk'.2.2.1 hq, ← bm_o (by omega)]
    cases (nt (a (28 + k))).testBit q
    · rfl
    · rfl) (by
    rintro x rfl
    refine ⟨_, ?_, rfl⟩
    simp (disch := omega) only [X11_wantedBy_s5, i_le]
    rfl) (by omega)
  unfold X11_wantedBy
  rw [e, hz]
  rfl
theorem L_hasn {n q : Nat} (hq : q < n) (hn : n ≤ 7) : X0_has (o32 n) (o32 q) = 1 := by
  unfold X0_has
  rw [if_neg (o_nn q (by omega)), i_ge hq (by omega)]
theorem L_needers {vs : (Nat → Int32) → Int32} {n : Nat} {day unmet : Int32} {skill pills slept woken wanted a : Nat → Int32} (h : RF n day unmet skill pills slept woken wanted a) {size : Int32} {code : Nat → Int32} (hv : RV vs size code) (hc : VC vs) (stack thing : Nat → Int32) {q set : Nat} (hq : q < n) (hs : set < 128) : ∃ y, X5_needers size code stack thing (o32 n) day skill slept wanted (o32 q) (o32 set) = some y ∧ y.1 = o32 (NB vs n a q set) := by
  have hn := h.nn
  have hri := h.ri
  obtain ⟨z, e, hz⟩ := lp_ct (f := fun x64 : Int32 × Int32 × (Nat → Int32) × (Nat → Int32) => X5_needers_s64 size code (o32 n) skill wanted (o32 q) (o32 set) x64.1 x64.2.1 x64.2.2.1 x64.2.2.2) (fun k x => x.1 = o32 (bm (fun p => set.testBit p && ND vs a p q set) k) ∧ x.2.1 = o32 k ∧ x.2.2.2 0 = a q ∧ x.2.2.2 2 = o32 (pc set) ∧ x.2.2.2 4 = a (14 + q) ∧ x.2.2.2 6 = irem (a 35) 7) (fun z => z.1 = o32 (NB vs n a q set)) n ((0 : Int32), (0 : Int32), stack, (upd (upd (upd (upd thing (0 : Int32).toNatClampNeg (skill q)) (2 : Int32).toNatClampNeg (J6_bitCount_0f7a4 (o32 set))) (4 : Int32).toNatClampNeg (slept q)) (6 : Int32).toNatClampNeg (irem day (7 : Int32)))) ⟨rfl, rfl, by
      show skill q = a q
      rw [h.ski (by omega)], bc_o hs, by
      show slept q = a (14 + q)
      rw [h.sle (by omega)], by
      show irem day 7 = irem (a 35) 7
      rw [h.dy]⟩ (by
    rintro k ⟨acc, i, stk, tg⟩ hk ⟨h1, h2, h3, h4, h5, h6⟩
    have h1 : acc = _ := h1
    have h2 : i = _ := h2
    subst h1 h2
    have hw := hri.wt hk
    have hwq := hri.wt hq
    have e1 : wanted k = o32 (nt (a (28 + k))) := by rw [← h.wan (by omega)]; exact hw.2.1
    have e2 : wanted q = o32 (nt (a (28 + q))) := by rw [← h.wan (by omega)]; exact hwq.2.1
    cases hb : set.testBit k with
    | false =>
      refine ⟨(o32 (bm (fun p => set.testBit p && ND vs a p q set) k), o32 (k + 1), stk, tg), ?_, (bm_n (P := fun p => set.testBit p && ND vs a p q set) (by simp [hb])), rfl, h3, h4, h5, h6⟩
      have hb' : ((o32 set >>> (o32 k &&& 31)) &&& 1) = 0 := by rw [bt_bit hs (by omega), hb]; rfl
      simp (disch := omega) only [X5_needers_s64, i_ge, o_s]
      rw [if_pos hb']
    | true =>
      have hb' : ¬ ((o32 set >>> (o32 k &&& 31)) &&& 1) = 0 := by rw [bt_bit hs (by omega), hb]; decide
      obtain ⟨st', ev⟩ := hv stk (upd (upd (upd tg 1 (skill k)) 3 (J6_bitCount_0f7a4 (wanted k))) 5 (((wanted q) >>> (o32 k &&& 31)) &&& (1 : Int32)))
      have et : vs (upd (upd (upd tg 1 (skill k)) 3 (J6_bitCount_0f7a4 (wanted k))) 5 (((wanted q) >>> (o32 k &&& 31)) &&& (1 : Int32))) = vs (th a k q set) := by
        refine hc _ _ (fun j hj => ?_)
        rcases (by omega : j = 0 ∨ j = 1 ∨ j = 2 ∨ j = 3 ∨ j = 4 ∨ j = 5 ∨ j = 6) with rfl | rfl | rfl | rfl | rfl | rfl | rfl
        · exact h3
        · exact (h.ski (by omega)).symm
        · exact h4
        · show J6_bitCount_0f7a4 (wanted k) = o32 (pc (nt (a (28 + k))))
          rw [e1, bc_o hw.2.2.1]
        · exact h5
        · show (wanted q >>> (o32 k &&& 31)) &&& 1 = if (nt (a (28 + q))).testBit k then 1 else 0
          rw [e2, bt_bit hwq.2.2.1 (by omega)]
        · exact h6
      rw [et] at ev
      refine ⟨(o32 (bm (fun p => set.testBit p && ND vs a p q set) (k + 1)), o32 (k + 1), st', (upd (upd (upd tg 1 (skill k)) 3 (J6_bitCount_0f7a4 (wanted k))) 5 (((wanted q) >>> (o32 k &&& 31)) &&& (1 : Int32)))), ?_, rfl, rfl, h3, h4, h5, h6⟩
      have ek := bm_o (P := fun p => set.testBit p && ND vs a p q set) (k := k) (by omega)
      simp (disch := omega) only [X5_needers_s64, i_ge, gi_o, gl1, gl3, gl5, tl1, tl3, tl5, o_cl, o_s]
      rw [if_neg hb', ev, ← ek]
      simp only [hb, ND, Bool.true_and, Option.bind_some, decide_eq_false_iff_not, Classical.not_not]) (by
    rintro ⟨acc, i, stk, tg⟩ ⟨h1, h2, h3⟩
    have h1 : acc = _ := h1
    have h2 : i = _ := h2
    subst h1 h2
    refine ⟨(o32 (NB vs n a q set), stk, tg), ?_, rfl⟩
    simp (disch := omega) only [X5_needers_s64, i_le]
    rfl) (by omega)
  have hh := L_hasn hq hn
  refine ⟨(z.1, z.2.1, z.2.2), ?_, hz⟩
  simp (disch := omega) only [X5_needers, hh, gi_o, gl0, gl2, gl4, gl6, gq7, o_cl]
  rw [if_neg (by decide), e]
  rfl
