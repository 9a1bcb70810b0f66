/-! ===== the pure level: steps ===== -/
def TU (a : Nat → Int32) (k : Nat) : Nat → Int32 := upd a (28 + k / 7) (o32 (nt (a (28 + k / 7)) ^^^ 2 ^ (k % 7)))
def IW (n k : Nat) : Bool := decide (k / 7 < n) && decide (k % 7 < n) && decide (¬ k / 7 = k % 7)
section ST
variable {vs : (Nat → Int32) → Int32} {n : Nat} {day unmet : Int32} {skill pills slept woken wanted now : Nat → Int32} {size : Int32} {code : Nat → Int32} {ruleSize : Int32} {rule : Nat → Int32} {tsz rm : Int32} {tnum row : Nat → Int64}
theorem TU_eq {a b : Nat → Int32} (h : EQ a b) {k : Nat} (hk : k < 49) : EQ (TU a k) (TU b k) := by
  intro j hj
  unfold TU
  rw [h (28 + k / 7) (by omega)]
  by_cases e : j = 28 + k / 7
  · subst e; rw [pk_us, pk_us]
  · rw [pk_un e, pk_un e]; exact h j hj
theorem TU_ri {a : Nat → Int32} (h : RI n a) {k : Nat} (hw : IW n k = true) : RI n (TU a k) := by
  have hn := h.1
  unfold IW at hw
  simp at hw
  obtain ⟨⟨h1, h2⟩, h3⟩ := hw
  have hwt := h.wt h1
  refine ⟨hn, fun j hj => ⟨?_, ?_, ?_⟩⟩
  · unfold TU; rw [pk_un (by omega)]; exact (h.2 j hj).1
  · unfold TU; rw [pk_un (by omega)]; exact (h.2 j hj).2.1
  · unfold TU
    by_cases e : j = k / 7
    · subst e
      rw [pk_us]
      refine ⟨_, Nat.xor_lt_two_pow hwt.1 (Nat.pow_lt_pow_right (by decide) h2), rfl, ?_⟩
      rw [Nat.testBit_xor, hwt.2.2.2, tb_2]
      simp
      omega
    · rw [pk_un (by omega)]; exact (h.2 j hj).2.2
theorem pu_xx (a b : Nat) : (a ^^^ b) ^^^ b = a := by
  apply Nat.eq_of_testBit_eq
  intro i
  rw [Nat.testBit_xor, Nat.testBit_xor]
  cases a.testBit i <;> cases b.testBit i <;> rfl
theorem pu_x4 (a b c : Nat) : (((a ^^^ b) ^^^ c) ^^^ b) ^^^ c = a := by
  apply Nat.eq_of_testBit_eq
  intro i
  simp only [Nat.testBit_xor]
  cases a.testBit i <;> cases b.testBit i <;> cases c.testBit i <;> rfl
theorem TU_2 {a : Nat → Int32} (h : RI n a) {k : Nat} (hw : IW n k = true) : EQ (TU (TU a k) k) a := by
  have hn := h.1
  have hw' := hw
  unfold IW at hw'
  simp at hw'
  have hwt := h.wt hw'.1.1
  have h2 := (TU_ri h hw).wt hw'.1.1
  intro j hj
  by_cases e : j = 28 + k / 7
  · subst e
    show upd (TU a k) (28 + k / 7) (o32 (nt (TU a k (28 + k / 7)) ^^^ 2 ^ (k % 7))) (28 + k / 7) = _
    rw [pk_us]
    have e1 : nt (TU a k (28 + k / 7)) = nt (a (28 + k / 7)) ^^^ 2 ^ (k % 7) := by
      unfold TU
      rw [pk_us, nt_o]
      have := Nat.xor_lt_two_pow hwt.1 (Nat.pow_lt_pow_right (show 1 < 2 by decide) hw'.1.2)
      have := p2_7 hn
      omega
    rw [e1, pu_xx]
    exact hwt.2.1.symm
  · show upd (TU a k) (28 + k / 7) _ j = _
    rw [pk_un e]
    unfold TU
    rw [pk_un e]
theorem TU_nt {a : Nat → Int32} (h : RI n a) {k : Nat} (hw : IW n k = true) {p : Nat} (hp : p < n) : nt (TU a k (28 + p)) = if p = k / 7 then nt (a (28 + p)) ^^^ 2 ^ (k % 7) else nt (a (28 + p)) := by
  have hn := h.1
  unfold IW at hw
  simp at hw
  have hwt := h.wt hw.1.1
  by_cases e : p = k / 7
  · subst e
    rw [if_pos rfl]
    unfold TU
    rw [pk_us, nt_o]
    have := Nat.xor_lt_two_pow hwt.1 (Nat.pow_lt_pow_right (show 1 < 2 by decide) hw.1.2)
    have := p2_7 hn
    omega
  · rw [if_neg e]
    unfold TU
    rw [pk_un (by omega)]
theorem TU_4 {a : Nat → Int32} (h : RI n a) {k m : Nat} (hk : IW n k = true) (hm : IW n m = true) : EQ (TU (TU (TU (TU a k) m) k) m) a := by
  have hn := h.1
  have h1 := TU_ri h hk
  have h2 := TU_ri h1 hm
  have h3 := TU_ri h2 hk
  have h4 := TU_ri h3 hm
  intro j hj
  by_cases hj2 : 28 ≤ j ∧ j < 28 + n
  · obtain ⟨p, rfl⟩ : ∃ p, j = 28 + p := ⟨j - 28, by omega⟩
    have hp : p < n := by omega
    rw [(h4.wt hp).2.1, (h.wt hp).2.1, TU_nt h3 hm hp, TU_nt h2 hk hp, TU_nt h1 hm hp, TU_nt h hk hp]
    by_cases e1 : p = k / 7
    · by_cases e2 : p = m / 7
      · simp only [if_pos e1, if_pos e2, pu_x4]
      · simp only [if_pos e1, if_neg e2, pu_xx]
    · by_cases e2 : p = m / 7
      · simp only [if_neg e1, if_pos e2, pu_xx]
      · simp only [if_neg e1, if_neg e2]
  · have hk' := hk
    have hm' := hm
    unfold IW at hk' hm'
    simp at hk' hm'
    unfold TU
    rw [pk_un (by omega), pk_un (by omega), pk_un (by omega), pk_un (by omega)]
/-- the class turns a want of the trial -/
theorem L_tt (h : RF n day unmet skill pills slept woken wanted now) {k : Nat} (hk : k < 49) : (IW n k = false ∧ X10_turnsTrial (o32 n) wanted (o32 k) = some (0, wanted)) ∨ (IW n k = true ∧ ∃ w', X10_turnsTrial (o32 n) wanted (o32 k) = some (1, w') ∧ RF n day unmet skill pills slept woken w' (TU now k)) := by
  have hn := h.nn
  have d1 : o32 k / 7 = o32 (k / 7) := pu_div (d := 7) (by omega) (by decide) (by decide)
  have d2 : irem (o32 k) 7 = o32 (k % 7) := pu_mod (d := 7) (by omega) (by decide) (by decide)
  rcases L_turn h (o32 (k / 7)) (o32 (k % 7)) with ⟨a1, a2⟩ | ⟨p, q, x, hp, hq, hne, ep, eq, hx, -, ex1, ex2, a1, a2, hR⟩
  · left
    refine ⟨?_, ?_⟩
    · cases hI : IW n k with
      | false => rfl
      | true =>
        unfold IW at hI
        simp at hI
        rw [L_two2 hn hI.1.1 hI.1.2] at a2
        simp [hI.2, bi] at a2
    · simp only [X10_turnsTrial, gq7, d1, d2, a1, Option.bind_some, if_pos (show (-1 : Int32) < 0 by decide)]
  · right
    have ep' : k / 7 = p := by rw [o_eq (by omega) (by omega)] at ep; exact ep
    have eq' : k % 7 = q := by rw [o_eq (by omega) (by omega)] at eq; exact eq
    subst ep' eq'
    have h128 := Nat.lt_of_lt_of_le hx (p2_7 hn)
    have nn : (o32 x < 0) = False := eq_false (o_nn x (by omega))
    refine ⟨by unfold IW; simp [hp, hq, hne], upd wanted (k / 7) (o32 x), ?_, ?_⟩
    · simp only [X10_turnsTrial, gq7, d1, d2, a1, Option.bind_some, nn, if_false]
    · have hwt := h.ri.wt hp
      have e3 : o32 x = o32 (nt (now (28 + k / 7)) ^^^ 2 ^ (k % 7)) := by
        rw [← ex2, o_shl (by omega)]
        rw [show now (28 + k / 7) = o32 (nt (now (28 + k / 7))) from hwt.2.1, o_xor, ← hwt.2.1]
      unfold TU
      rw [← e3]
      exact hR
/-- the reference turns a want -/
theorem L_tm {w : Nat → Int32} (h : RI n now) (hw : EQ w now) {k : Nat} (hk : k < 49) : X11_isWant (o32 n) (o32 k) = some (bi (IW n k)) ∧ (IW n k = true → ∃ z, X11_turn 37 w (o32 k) = some z ∧ EQ z (TU now k)) := by
  have hn := h.1
  have d1 : o32 k / 7 = o32 (k / 7) := pu_div (d := 7) (by omega) (by decide) (by decide)
  have d2 : irem (o32 k) 7 = o32 (k % 7) := pu_mod (d := 7) (by omega) (by decide) (by decide)
  have hgb : ∀ (b : Bool) {α : Type} {x : Option α}, gn .boolean (bi b) x = x := fun b {α x} => gn_b (by cases b; exact Or.inl rfl; exact Or.inr rfl)
  constructor
  · have ea : X11_areTwo (o32 n) (o32 (k / 7)) (o32 (k % 7)) = some (bi (IW n k)) := by
      by_cases c1 : k / 7 < n
      · by_cases c2 : k % 7 < n
        · rw [L_two2 hn c1 c2]
          unfold IW
          simp [c1, c2]
        · rcases L_one hn (o32 (k / 7)) with ⟨_, _, _, _, g1⟩ | ⟨g, -⟩
          · rcases L_one hn (o32 (k % 7)) with ⟨q, hq, e, _, _⟩ | ⟨-, g2⟩
            · rw [o_eq (by omega) (by omega)] at e; omega
            · simp only [X11_areTwo, g1, g2, Option.bind_some, pu_10, if_false, if_true]
              unfold IW; simp [c2, bi]
          · rw [L_hasn c1 hn] at g; exact absurd g (by decide)
      · rcases L_one hn (o32 (k / 7)) with ⟨q, hq, e, _, _⟩ | ⟨-, g1⟩
        · rw [o_eq (by omega) (by omega)] at e; omega
        · simp only [X11_areTwo, g1, Option.bind_some, if_true]
          unfold IW; simp [c1, bi]
    simp only [X11_isWant, gq7, d1, d2, ea, Option.bind_some, hgb]
  · intro hI
    have hI' := hI
    unfold IW at hI'
    simp at hI'
    have hwt := h.wt hI'.1.1
    have ew : w (28 + k / 7) = o32 (nt (now (28 + k / 7))) := by rw [hw _ (by omega)]; exact hwt.2.1
    refine ⟨upd w (28 + k / 7) (o32 (nt (now (28 + k / 7)) ^^^ 2 ^ (k % 7))), ?_, ?_⟩
    · simp (disch := omega) only [X11_turn, gq7, d1, d2, o_la, gi_o, o_cl, ew, o_shl, o_xor]
    · intro j hj
      unfold TU
      by_cases e : j = 28 + k / 7
      · subst e; rw [pk_us, pk_us]
      · rw [pk_un e, pk_un e]; exact hw j hj
/-- a want by which one wakes -/
def GD (vs : (Nat → Int32) → Int32) (n : Nat) (a : Nat → Int32) (q k : Nat) : Bool := IW n k && IA vs n (TU a k) q
theorem L_sf (h : RF n day unmet skill pills slept woken wanted now) (hv : RV vs size code) (hc : VC vs) (stack thing : Nat → Int32) {q : Nat} (hq : q < n) {f : Nat} (hf : f ≤ 49) : ∃ y, X10_stepFrom (o32 n) day skill pills slept wanted size code stack thing (o32 q) (o32 f) = some y ∧ RF n day unmet skill pills slept woken y.2.1 now ∧ ((∃ k, f ≤ k ∧ k < 49 ∧ GD vs n now q k = true ∧ (∀ j, f ≤ j → j < k → GD vs n now q j = false) ∧ y.1 = o32 k) ∨ ((∀ j, f ≤ j → j < 49 → GD vs n now q j = false) ∧ y.1 = -1)) := by
  have hn := h.nn
  obtain ⟨z, e, hz⟩ := lp_inv (f := fun x2 : Int32 × (Nat → Int32) × (Nat → Int32) × (Nat → Int32) => X10_stepFrom_s2 (o32 n) day skill pills slept size code (o32 q) x2.1 x2.2.1 x2.2.2.1 x2.2.2.2)
    (fun k x => x.1 = o32 k ∧ RF n day unmet skill pills slept woken x.2.1 now ∧ ∀ j, f ≤ j → j < k → GD vs n now q j = false)
    (fun z => (∃ z', z = .inl z' ∧ RF n day unmet skill pills slept woken z'.1 now ∧ ∀ j, f ≤ j → j < 49 → GD vs n now q j = false) ∨ (∃ z' k, z = .inr z' ∧ f ≤ k ∧ k < 49 ∧ z'.1 = o32 k ∧ RF n day unmet skill pills slept woken z'.2.1 now ∧ GD vs n now q k = true ∧ ∀ j, f ≤ j → j < k → GD vs n now q j = false)) (49 - f) f 1000 (o32 f, wanted, stack, thing) (by
      rintro k ⟨i, w, u1, u2⟩ hfk hk49 ⟨h1, h2, h3⟩
      have h1 : i = _ := h1
      subst h1
      have h2 : RF n day unmet skill pills slept woken w now := h2
      have e49 : (49 : Int32) = o32 49 := rfl
      rcases Nat.lt_or_ge k 49 with hk | hk
      · rcases L_tt h2 hk with ⟨g1, g2⟩ | ⟨g1, w', g2, hR⟩
        · right
          refine ⟨by omega, (o32 (k + 1), w, u1, u2), ?_, rfl, h2, fun j hj1 hj2 => ?_⟩
          · simp (disch := omega) only [X10_stepFrom_s2, e49, i_ge, g2, Option.bind_some, if_true, o_s]
          · by_cases ej : j = k
            · subst ej; unfold GD; rw [g1]; rfl
            · exact h3 j hj1 (by omega)
        · have hW : WB n (TU now k) q < 128 := bm_128 hn
          obtain ⟨g, eg, hg⟩ := L_rouses hR hv hc u1 u2 hq hW
          have eI : bi (decide (TU now k (7 + q) = 0) && decide (¬ NB vs n (TU now k) q (WB n (TU now k) q) = 0)) = bi (IA vs n (TU now k) q) := rfl
          rw [eI] at hg
          have ew := L_wby hR (q := q) (by omega)
          rcases L_tt hR hk with ⟨b1, -⟩ | ⟨-, w'', b2, hR2⟩
          · rw [g1] at b1; cases b1
          · have hR3 : RF n day unmet skill pills slept woken w'' now := hR2.eq (TU_2 h.ri g1).sy
            simp (disch := omega) only [X10_stepFrom_s2, e49, i_ge, g2, Option.bind_some, pu_10, if_false, ew, eg, hg, b2, bi_if, o_s]
            cases hI : IA vs n (TU now k) q with
            | false =>
              right
              refine ⟨by omega, _, rfl, rfl, hR3, fun j hj1 hj2 => ?_⟩
              by_cases ej : j = k
              · subst ej; unfold GD; rw [g1, hI]; rfl
              · exact h3 j hj1 (by omega)
            | true =>
              left
              exact ⟨_, rfl, Or.inr ⟨_, k, rfl, hfk, hk, rfl, hR3, by unfold GD; rw [g1, hI]; rfl, h3⟩⟩
      · left
        have : k = 49 := by omega
        subst this
        exact ⟨.inl (w, u1, u2), rfl, Or.inl ⟨_, rfl, h2, h3⟩⟩) ⟨rfl, h, fun j h1 h2 => by omega⟩ (by omega)
  unfold X10_stepFrom
  rw [e]
  rcases hz with ⟨z', rfl, h1, h2⟩ | ⟨z', k, rfl, h1, h2, h3, h4, h5, h6⟩
  · exact ⟨_, rfl, h1, Or.inr ⟨h2, rfl⟩⟩
  · exact ⟨_, rfl, h4, Or.inl ⟨k, h1, h2, h5, h6, h3⟩⟩
end ST
