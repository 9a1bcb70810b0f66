/-! ===== the pure level: each, busiest ===== -/
def sd (x s : Nat) : Nat := x &&& (127 ^^^ s)
theorem sd_tb {x : Nat} (h : x < 128) (s i : Nat) : (sd x s).testBit i = (x.testBit i && !s.testBit i) := by
  unfold sd
  rw [Nat.testBit_and, Nat.testBit_xor]
  by_cases hi : i < 7
  · rw [tb_127 hi, Bool.true_xor]
  · have : x.testBit i = false := tb_hi (n := 7) h (by omega)
    rw [this]; rfl
theorem sd_lt {x s : Nat} (h : x < 128) : sd x s < 128 := Nat.lt_of_le_of_lt Nat.and_le_left h
theorem sd_or {x : Nat} (h : x < 128) (s u : Nat) : sd (sd x s) u = sd x (s ||| u) := by
  apply Nat.eq_of_testBit_eq
  intro i
  rw [sd_tb (sd_lt h), sd_tb h, sd_tb h, Nat.testBit_or, Bool.and_assoc]
  cases s.testBit i <;> cases u.testBit i <;> rfl
theorem sd_o {x s : Nat} (hx : x < 128) (hs : s < 128) : o32 x &&& (o32 s ^^^ -1) = o32 (sd x s) := an_o hx hs
theorem sd_0 {n s : Nat} (hn : n ≤ 7) (hs : s < 2 ^ n) : (sd (2 ^ n - 1) s = 0) = (s = 2 ^ n - 1) := by
  have hp : 0 < 2 ^ n := Nat.two_pow_pos n
  have h7 := p2_7 hn
  apply propext
  constructor
  · intro h
    apply Nat.eq_of_testBit_eq
    intro i
    have h1 := sd_tb (x := 2 ^ n - 1) (by omega) s i
    rw [h, Nat.zero_testBit, Nat.testBit_two_pow_sub_one] at h1
    rw [Nat.testBit_two_pow_sub_one]
    by_cases hi : i < n
    · simp [hi] at h1; simp [hi, h1]
    · rw [tb_hi hs (by omega)]; simp [hi]
  · intro h
    subst h
    apply Nat.eq_of_testBit_eq
    intro i
    rw [sd_tb (by omega), Nat.zero_testBit]
    cases (2 ^ n - 1).testBit i <;> rfl
/-- who woke on one of so many mornings -/
def SE (vs : (Nat → Int32) → Int32) (n : Nat) (a : Nat → Int32) : Nat → Nat
  | 0 => 0
  | k + 1 => SE vs n a k ||| AW vs n (MI vs n a k)
theorem AW_lt (vs : (Nat → Int32) → Int32) (n : Nat) (a : Nat → Int32) : AW vs n a < 2 ^ n := bm_lt _ n
theorem SE_lt (vs : (Nat → Int32) → Int32) (n : Nat) (a : Nat → Int32) : ∀ k, SE vs n a k < 2 ^ n
  | 0 => Nat.two_pow_pos n
  | k + 1 => Nat.or_lt_two_pow (SE_lt vs n a k) (AW_lt vs n _)
theorem least_or {P : Nat → Prop} : ∀ (m : Nat), (∃ j, j ≤ m ∧ P j ∧ ∀ i, i < j → ¬ P i) ∨ (∀ j, j ≤ m → ¬ P j)
  | 0 => by
    by_cases h : P 0
    · exact Or.inl ⟨0, Nat.le_refl 0, h, fun i hi => absurd hi (Nat.not_lt_zero i)⟩
    · refine Or.inr (fun j hj => ?_)
      have : j = 0 := by omega
      subst this; exact h
  | m + 1 => by
    rcases least_or (P := P) m with ⟨j, hj, h1, h2⟩ | h
    · exact Or.inl ⟨j, by omega, h1, h2⟩
    · by_cases hp : P (m + 1)
      · exact Or.inl ⟨m + 1, Nat.le_refl _, hp, fun i hi => h i (by omega)⟩
      · refine Or.inr (fun j hj => ?_)
        rcases Nat.lt_or_ge j (m + 1) with h1 | h1
        · exact h j (by omega)
        · have : j = m + 1 := by omega
          subst this; exact hp
section ME
variable {vs : (Nat → Int32) → Int32} {n : Nat} {day unmet : Int32} {skill pills slept woken wanted now : Nat → Int32} {size : Int32} {code : Nat → Int32} {ruleSize : Int32} {rule : Nat → Int32} {tsz rm : Int32} {tnum row : Nat → Int64}
theorem L_eachC {y : Int32 × Int32 × Int32 × (Nat → Int32) × (Nat → Int32) × (Nat → Int32) × (Nat → Int32) × (Nat → Int32)} (ey1 : y.1 = o32 n) (h : RF n y.2.1 y.2.2.1 y.2.2.2.1 y.2.2.2.2.1 y.2.2.2.2.2.1 y.2.2.2.2.2.2.1 y.2.2.2.2.2.2.2 now) (hv : RV vs size code) (hc : VC vs) (stack thing : Nat → Int32) {j : Nat} (hj : j ≤ 99) (hl : ∀ i, i < j → ¬ SE vs n now i = 2 ^ n - 1) (he : SE vs n now j = 2 ^ n - 1 ∨ j = 99) : ∃ z, lp (fun x26 : Int32 × Int32 × Int32 × Int32 × Int32 × Int32 × (Nat → Int32) × (Nat → Int32) × (Nat → Int32) × (Nat → Int32) × (Nat → Int32) => X10_each_s26 size code y x26.1 x26.2.1 x26.2.2.1 x26.2.2.2.1 x26.2.2.2.2.1 x26.2.2.2.2.2.1 x26.2.2.2.2.2.2.1 x26.2.2.2.2.2.2.2.1 x26.2.2.2.2.2.2.2.2.1 x26.2.2.2.2.2.2.2.2.2.1 x26.2.2.2.2.2.2.2.2.2.2) 1000 ((X0_everybody (o32 n)), (0 : Int32), (0 : Int32), (1 : Int32), y.2.1, y.2.2.1, y.2.2.2.2.1, y.2.2.2.2.2.1, y.2.2.2.2.2.2.1, stack, thing) = some z ∧ (z.1 = o32 (sd (2 ^ n - 1) (SE vs n now j)) ∧ z.2.1 = o32 (UP vs n now j) ∧ z.2.2.1 = o32 j) := by
  have hn := h.nn
  have h7 := p2_7 hn
  have hp : 0 < 2 ^ n := Nat.two_pow_pos n
  refine lp_inv (fun k x => x.1 = o32 (sd (2 ^ n - 1) (SE vs n now k)) ∧ x.2.1 = o32 (UP vs n now k) ∧ x.2.2.1 = o32 k ∧ x.2.2.2.1 = o32 (k + 1) ∧ RF n x.2.2.2.2.1 x.2.2.2.2.2.1 y.2.2.2.1 x.2.2.2.2.2.2.1 x.2.2.2.2.2.2.2.1 x.2.2.2.2.2.2.2.2.1 y.2.2.2.2.2.2.2 (MI vs n now k)) _ j 0 1000 _ ?_ ⟨?_, rfl, rfl, rfl, h⟩ (by omega)
  · rintro k ⟨x0, x1, x2, i, u1, u2, u3, u4, u5, u6, u7⟩ - hk ⟨h0, h1, h2, h3, h4⟩
    have h0 : x0 = _ := h0
    have h1 : x1 = _ := h1
    have h2 : x2 = _ := h2
    have h3 : i = _ := h3
    subst h0 h1 h2 h3
    have h4 : RF n u1 u2 y.2.2.2.1 u3 u4 u5 y.2.2.2.2.2.2.2 (MI vs n now k) := h4
    have hsd : sd (2 ^ n - 1) (SE vs n now k) < 128 := sd_lt (by omega)
    have e99 : (99 : Int32) = o32 99 := rfl
    rcases Nat.lt_or_ge k j with hkj | hkj
    · right
      have hS := SE_lt vs n now k
      have hA := AW_lt vs n (MI vs n now k)
      have h0 : ¬ o32 (sd (2 ^ n - 1) (SE vs n now k)) = 0 := by
        rw [o0 (by omega), sd_0 hn hS]; exact hl k hkj
      obtain ⟨g, eg, hg1, hg2⟩ := L_go1 h4 hv hc u6 u7
      refine ⟨by omega, (o32 (sd (2 ^ n - 1) (SE vs n now (k + 1))), o32 (UP vs n now (k + 1)), o32 (k + 1), o32 (k + 2), g.2.2.2.1, g.2.2.2.2.1, g.2.2.2.2.2.1, g.2.2.2.2.2.2.1, g.2.2.2.2.2.2.2, g.2.1, g.2.2.1), ?_, rfl, rfl, rfl, rfl, hg2⟩
      simp (disch := omega) only [X10_each_s26, e99, i_lt, h0, if_false, ey1, eg, hg1, Option.bind_some, o_s, sd_o]
      rw [sd_or (by omega)]
      rfl
    · left
      have hkj : k = j := by omega
      subst hkj
      rcases he with he | he
      · refine ⟨(o32 (sd (2 ^ n - 1) (SE vs n now k)), o32 (UP vs n now k), o32 k, u1, u2, u3, u4, u5, u6, u7), ?_, rfl, rfl, rfl⟩
        have h0 : o32 (sd (2 ^ n - 1) (SE vs n now k)) = 0 := by
          rw [o0 (by omega), sd_0 hn (SE_lt vs n now k)]; exact he
        simp (disch := omega) only [X10_each_s26, e99, i_lt, h0, if_true, ite_self]
      · subst he
        refine ⟨(o32 (sd (2 ^ n - 1) (SE vs n now 99)), o32 (UP vs n now 99), o32 99, u1, u2, u3, u4, u5, u6, u7), ?_, rfl, rfl, rfl⟩
        simp (disch := omega) only [X10_each_s26, e99, i_gt]
  · show X0_everybody (o32 n) = o32 (sd (2 ^ n - 1) 0)
    rw [ev_o hn]
    congr 1
    apply Nat.eq_of_testBit_eq
    intro i
    rw [sd_tb (by omega), Nat.zero_testBit]
    simp
theorem L_eachM {w : Nat → Int32} (h : RI n now) (hw : EQ w now) (hm : RM vs ruleSize rule) (hc : VC vs) (len top at' wrong isAsked : Int32) (asked : Nat → Int32) {j : Nat} (hj : j ≤ 100) (hl : ∀ i, i < j → ¬ SE vs n now i = 2 ^ n - 1) (he : (j ≤ 99 ∧ SE vs n now j = 2 ^ n - 1) ∨ j = 100) : ∃ z, lp (fun x23 : Int32 × Int32 × Int32 × Int32 × Int32 × Int32 × Int32 × Int32 × (Nat → Int32) × (Nat → Int32) => X11_each_s23 (o32 n) ruleSize rule x23.1 x23.2.1 x23.2.2.1 x23.2.2.2.1 x23.2.2.2.2.1 x23.2.2.2.2.2.1 x23.2.2.2.2.2.2.1 x23.2.2.2.2.2.2.2.1 x23.2.2.2.2.2.2.2.2.1 x23.2.2.2.2.2.2.2.2.2) 1000 ((0 : Int32), (0 : Int32), (0 : Int32), len, top, at', wrong, isAsked, asked, w) = some z ∧ ((j ≤ 99 ∧ ∃ z', z = .inr z' ∧ z'.1 = o32 (UP vs n now j) ∧ z'.2.1 = o32 j) ∨ (j = 100 ∧ ∃ z', z = .inl z')) := by
  have hn := h.1
  have h7 := p2_7 hn
  have hp : 0 < 2 ^ n := Nat.two_pow_pos n
  refine lp_inv (fun k x => x.1 = o32 (SE vs n now k) ∧ x.2.1 = o32 (UP vs n now k) ∧ x.2.2.1 = o32 k ∧ EQ x.2.2.2.2.2.2.2.2.2 (MI vs n now k)) _ j 0 1000 _ ?_ ⟨rfl, rfl, rfl, hw⟩ (by omega)
  rintro k ⟨x0, x1, i, v1, v2, v3, v4, v5, v6, x⟩ - hk ⟨h0, h1, h3, h4⟩
  have h0 : x0 = _ := h0
  have h1 : x1 = _ := h1
  have h3 : i = _ := h3
  subst h0 h1 h3
  have h4 : EQ x (MI vs n now k) := h4
  have e99 : (99 : Int32) = o32 99 := rfl
  have hS := SE_lt vs n now k
  rcases Nat.lt_or_ge k j with hkj | hkj
  · right
    have hA := AW_lt vs n (MI vs n now k)
    have h0 : ¬ o32 (SE vs n now k) = o32 (2 ^ n - 1) := by
      rw [o_eq (by omega) (by omega)]; exact hl k hkj
    obtain ⟨g, eg, hg1, hg2⟩ := L_goMorning (MI_ri h k) h4 hm hc v1 v2 v3 v4 v5 v6
    refine ⟨by omega, (o32 (SE vs n now (k + 1)), o32 (UP vs n now (k + 1)), o32 (k + 1), g.2.1, g.2.2.1, g.2.2.2.1, g.2.2.2.2.1, g.2.2.2.2.2.1, g.2.2.2.2.2.2.1, g.2.2.2.2.2.2.2), ?_, rfl, rfl, rfl, hg2⟩
    simp (disch := omega) only [X11_each_s23, e99, i_lt, ev_11, ev_o hn, h0, if_false, eg, hg1, Option.bind_some, o_s, o_or]
    rfl
  · left
    have hkj : k = j := by omega
    subst hkj
    rcases he with ⟨he1, he⟩ | he
    · refine ⟨.inr (o32 (UP vs n now k), o32 k, v1, v2, v3, v4, v5, v6, x), ?_, Or.inl ⟨he1, _, rfl, rfl, rfl⟩⟩
      simp (disch := omega) only [X11_each_s23, e99, i_lt, ev_11, ev_o hn, he, if_true]
    · subst he
      refine ⟨.inl (v1, v2, v3, v4, v5, v6, x), ?_, Or.inr ⟨rfl, _, rfl⟩⟩
      simp (disch := omega) only [X11_each_s23, e99, i_gt]
theorem M_each (h : RF n day unmet skill pills slept woken wanted now) (hv : RV vs size code) (hm : RM vs ruleSize rule) (hc : VC vs) (ht : TO tsz rm tnum row) (t1 t2 t3 t4 t5 stack thing : Nat → Int32) (len top at' wrong isAsked : Int32) (asked thn : Nat → Int32) : ∃ y y', X10_each tsz tnum (o32 n) day unmet skill pills slept woken wanted t1 t2 t3 t4 t5 size code stack thing = some y ∧ X11_each (o32 n) rm len top at' wrong ruleSize isAsked now row rule asked thn = some y' ∧ y.1 = y'.1 ∧ TO y.2.1 y'.2.1 y.2.2.1 y'.2.2.2.2.2.2.2.2.1 := by
  have hn := h.nn
  have h7 := p2_7 hn
  have hp : 0 < 2 ^ n := Nat.two_pow_pos n
  obtain ⟨y, ey, ey1, hy⟩ := L_trial h t1 t2 t3 t4 t5
  obtain ⟨w, ew, hw⟩ := L_then (n := n) (EQ.rf (a := now)) thn
  rcases least_or (P := fun k => SE vs n now k = 2 ^ n - 1) 99 with ⟨j, hj, hj1, hj2⟩ | hno
  · obtain ⟨z, ez, z1, z2, z3⟩ := L_eachC ey1 hy hv hc stack thing hj hj2 (Or.inl hj1)
    obtain ⟨z', ez', ⟨-, z'', rfl, z4, z5⟩ | ⟨hh, -⟩⟩ := L_eachM h.ri hw hm hc len top at' wrong isAsked asked (j := j) (by omega) hj2 (Or.inl ⟨hj, hj1⟩)
    · obtain ⟨z0, zu, zm, u1, u2, u3, u4, u5, u6, u7⟩ := z
      obtain ⟨zu', zm', v1, v2, v3, v4, v5, v6, v7⟩ := z''
      have z1 : z0 = _ := z1
      have z2 : zu = _ := z2
      have z3 : zm = _ := z3
      have z4 : zu' = _ := z4
      have z5 : zm' = _ := z5
      subst z1 z2 z3 z4 z5
      have hsd : sd (2 ^ n - 1) (SE vs n now j) < 128 := sd_lt (by omega)
      have h0 : (o32 (sd (2 ^ n - 1) (SE vs n now j)) = 0) = True := by
        rw [o0 (by omega), sd_0 hn (SE_lt vs n now j)]; exact eq_true hj1
      obtain ⟨t, t', et, et', ht'⟩ := TO.one tnum row ((o32 (UP vs n now j)).toInt64)
      simp only [X10_each, X11_each, ey, ew, ez, ez', Option.bind_some, un, sm, h0, if_true, et, et']
      exact ⟨_, _, rfl, rfl, rfl, ht'⟩
    · omega
  · obtain ⟨z, ez, z1, z2, z3⟩ := L_eachC ey1 hy hv hc stack thing (j := 99) (by decide) (fun i hi => hno i (by omega)) (Or.inr rfl)
    obtain ⟨z', ez', ⟨hh, -⟩ | ⟨-, z'', rfl⟩⟩ := L_eachM h.ri hw hm hc len top at' wrong isAsked asked (j := 100) (by decide) (fun i hi => hno i (by omega)) (Or.inr rfl)
    · omega
    · obtain ⟨z0, zu, zm, u1, u2, u3, u4, u5, u6, u7⟩ := z
      obtain ⟨v1, v2, v3, v4, v5, v6, v7⟩ := z''
      have z1 : z0 = _ := z1
      subst z1
      have hsd : sd (2 ^ n - 1) (SE vs n now 99) < 128 := sd_lt (by omega)
      have h0 : (o32 (sd (2 ^ n - 1) (SE vs n now 99)) = 0) = False := by
        rw [o0 (by omega), sd_0 hn (SE_lt vs n now 99)]; exact eq_false (hno 99 (by decide))
      simp only [X10_each, X11_each, ey, ew, ez, ez', Option.bind_some, un, sm, h0, if_false]
      exact ⟨_, _, rfl, rfl, rfl, ht⟩
end ME
