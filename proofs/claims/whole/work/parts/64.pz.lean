/-! ===== the pure level: steps, whole ===== -/
section SU
variable {vs : (Nat → Int32) → Int32} {n : Nat} {day unmet : Int32} {skill pills slept woken wanted now : Nat → Int32} {size : Int32} {code : Nat → Int32} {ruleSize : Int32} {rule : Nat → Int32} {tsz rm : Int32} {tnum row : Nat → Int64}
theorem GD_n {q k : Nat} (h : IW n k = false) : GD vs n now q k = false := by unfold GD; rw [h]; rfl
theorem GD_y {q k : Nat} (h : IW n k = true) : GD vs n now q k = IA vs n (TU now k) q := by unfold GD; rw [h, Bool.true_and]
/-- the reference's first loop -/
theorem L_sm1 {w : Nat → Int32} (h : RI n now) (hw : EQ w now) (hm : RM vs ruleSize rule) (hc : VC vs) (len top at' wrong isAsked : Int32) (asked : Nat → Int32) {q : Nat} (hq : q < n) : ∃ z, lp (fun x48 : Int32 × Int32 × Int32 × Int32 × Int32 × Int32 × (Nat → Int32) × (Nat → Int32) => X11_steps_s48 (o32 n) ruleSize rule (o32 q) x48.1 x48.2.1 x48.2.2.1 x48.2.2.2.1 x48.2.2.2.2.1 x48.2.2.2.2.2.1 x48.2.2.2.2.2.2.1 x48.2.2.2.2.2.2.2) 1000 ((0 : Int32), len, top, at', wrong, isAsked, asked, w) = some z ∧ ((∃ z', z = .inl z' ∧ EQ z'.2.2.2.2.2.2 now ∧ ∀ j, j < 49 → GD vs n now q j = false) ∨ (∃ z' k, z = .inr z' ∧ k < 49 ∧ z'.1 = o32 k ∧ GD vs n now q k = true ∧ ∀ j, j < k → GD vs n now q j = false)) := by
  refine lp_inv (fun k x => x.1 = o32 k ∧ EQ x.2.2.2.2.2.2.2 now ∧ ∀ j, j < k → GD vs n now q j = false) _ 49 0 1000 _ ?_ ⟨rfl, hw, fun j hj => absurd hj (Nat.not_lt_zero j)⟩ (by omega)
  rintro k ⟨i, v1, v2, v3, v4, v5, v6, x⟩ - hk49 ⟨h1, h2, h3⟩
  have h1 : i = _ := h1
  subst h1
  have h2 : EQ x now := h2
  have e49 : (49 : Int32) = o32 49 := rfl
  rcases Nat.lt_or_ge k 49 with hk | hk
  · obtain ⟨t1, t2⟩ := L_tm h h2 hk
    cases hI : IW n k with
    | false =>
      rw [hI] at t1
      right
      refine ⟨by omega, (o32 (k + 1), v1, v2, v3, v4, v5, v6, x), ?_, rfl, h2, fun j hj => ?_⟩
      · have eb : (bi false = 0) = True := eq_true rfl
        simp (disch := omega) only [X11_steps_s48, e49, i_ge, t1, Option.bind_some, eb, if_true, o_s]
      · by_cases ej : j = k
        · subst ej; exact GD_n hI
        · exact h3 j (by omega)
    | true =>
      rw [hI] at t1
      obtain ⟨r, er, hr⟩ := t2 hI
      have hri := TU_ri h hI
      obtain ⟨g, eg, hg⟩ := L_isAwake hri hr hm hc v1 v2 v3 v4 v5 v6 hq
      obtain ⟨r2, er2, hr2⟩ := (L_tm hri hr hk).2 hI
      have hr3 : EQ r2 now := hr2.tr (TU_2 h hI)
      have eb : (bi true = 0) = False := eq_false (by decide)
      simp (disch := omega) only [X11_steps_s48, e49, i_ge, t1, Option.bind_some, eb, if_false, er, eg, hg, er2, bi_if, o_s]
      cases hA : IA vs n (TU now k) q with
      | false =>
        right
        refine ⟨by omega, _, rfl, rfl, hr3, fun j hj => ?_⟩
        by_cases ej : j = k
        · subst ej; rw [GD_y hI, hA]
        · exact h3 j (by omega)
      | true =>
        left
        exact ⟨_, rfl, Or.inr ⟨_, k, rfl, hk, rfl, by rw [GD_y hI, hA], h3⟩⟩
  · left
    have : k = 49 := by omega
    subst this
    exact ⟨.inl (v1, v2, v3, v4, v5, v6, x), rfl, Or.inl ⟨_, rfl, h2, h3⟩⟩
/-- two wants -/
def G2 (vs : (Nat → Int32) → Int32) (n : Nat) (a : Nat → Int32) (q k m : Nat) : Bool := IW n k && GD vs n (TU a k) q m
theorem L_sm2 {w : Nat → Int32} (h : RI n now) (hw : EQ w now) (hm : RM vs ruleSize rule) (hc : VC vs) (len top at' wrong isAsked : Int32) (asked : Nat → Int32) {q : Nat} (hq : q < n) {a : Nat} (ha : a < 49) : ∃ z, lp (fun x131 : Int32 × Int32 × Int32 × Int32 × Int32 × Int32 × (Nat → Int32) × (Nat → Int32) => X11_steps_s131 (o32 n) ruleSize rule (o32 q) (o32 a) x131.1 x131.2.1 x131.2.2.1 x131.2.2.2.1 x131.2.2.2.2.1 x131.2.2.2.2.2.1 x131.2.2.2.2.2.2.1 x131.2.2.2.2.2.2.2) 1000 (o32 (a + 1), len, top, at', wrong, isAsked, asked, w) = some z ∧ ((∃ z', z = .inl z' ∧ EQ z'.2.2.2.2.2.2 now ∧ ∀ j, a + 1 ≤ j → j < 49 → G2 vs n now q a j = false) ∨ (∃ z' k, z = .inr z' ∧ a + 1 ≤ k ∧ k < 49 ∧ z'.1 = o32 k ∧ G2 vs n now q a k = true ∧ ∀ j, a + 1 ≤ j → j < k → G2 vs n now q a j = false)) := by
  refine lp_inv (fun k x => x.1 = o32 k ∧ EQ x.2.2.2.2.2.2.2 now ∧ ∀ j, a + 1 ≤ j → j < k → G2 vs n now q a j = false) _ (49 - (a + 1)) (a + 1) 1000 _ ?_ ⟨rfl, hw, fun j h1 h2 => by omega⟩ (by omega)
  rintro k ⟨i, v1, v2, v3, v4, v5, v6, x⟩ hak hk49 ⟨h1, h2, h3⟩
  have h1 : i = _ := h1
  subst h1
  have h2 : EQ x now := h2
  have e49 : (49 : Int32) = o32 49 := rfl
  have ebf : (bi false = 0) = True := eq_true rfl
  have ebt : (bi true = 0) = False := eq_false (by decide)
  rcases Nat.lt_or_ge k 49 with hk | hk
  · obtain ⟨s1, s2⟩ := L_tm h h2 ha
    obtain ⟨t1, t2⟩ := L_tm h h2 hk
    cases hIa : IW n a with
    | false =>
      rw [hIa] at s1
      right
      refine ⟨by omega, (o32 (k + 1), v1, v2, v3, v4, v5, v6, x), ?_, rfl, h2, fun j hj1 hj2 => by unfold G2; rw [hIa]; rfl⟩
      simp (disch := omega) only [X11_steps_s131, e49, i_ge, s1, Option.bind_some, ebf, if_true, o_s]
    | true =>
      rw [hIa] at s1
      have hG : ∀ j, G2 vs n now q a j = GD vs n (TU now a) q j := fun j => by unfold G2; rw [hIa, Bool.true_and]
      cases hI : IW n k with
      | false =>
        rw [hI] at t1
        right
        refine ⟨by omega, (o32 (k + 1), v1, v2, v3, v4, v5, v6, x), ?_, rfl, h2, fun j hj1 hj2 => ?_⟩
        · simp (disch := omega) only [X11_steps_s131, e49, i_ge, s1, t1, Option.bind_some, ebf, ebt, if_true, if_false, o_s]
        · by_cases ej : j = k
          · subst ej; rw [hG]; exact GD_n hI
          · exact h3 j hj1 (by omega)
      | true =>
        rw [hI] at t1
        obtain ⟨r, er, hr⟩ := s2 hIa
        have hri := TU_ri h hIa
        obtain ⟨r2, er2, hr2⟩ := (L_tm hri hr hk).2 hI
        have hri2 := TU_ri hri hI
        obtain ⟨g, eg, hg⟩ := L_isAwake hri2 hr2 hm hc v1 v2 v3 v4 v5 v6 hq
        obtain ⟨r3, er3, hr3⟩ := (L_tm hri2 hr2 ha).2 hIa
        have hri3 := TU_ri hri2 hIa
        obtain ⟨r4, er4, hr4⟩ := (L_tm hri3 hr3 hk).2 hI
        have hr5 : EQ r4 now := hr4.tr (TU_4 h hIa hI)
        simp (disch := omega) only [X11_steps_s131, e49, i_ge, s1, t1, Option.bind_some, ebt, if_false, er, er2, eg, hg, er3, er4, bi_if, o_s]
        cases hA : IA vs n (TU (TU now a) k) q with
        | false =>
          right
          refine ⟨by omega, _, rfl, rfl, hr5, fun j hj1 hj2 => ?_⟩
          by_cases ej : j = k
          · subst ej; rw [hG, GD_y hI, hA]
          · exact h3 j hj1 (by omega)
        | true =>
          left
          exact ⟨_, rfl, Or.inr ⟨_, k, rfl, hak, hk, rfl, by rw [hG, GD_y hI, hA], h3⟩⟩
  · left
    have : k = 49 := by omega
    subst this
    exact ⟨.inl (v1, v2, v3, v4, v5, v6, x), rfl, Or.inl ⟨_, rfl, h2, h3⟩⟩
/-- where two wants stand that rouse one -/
def FD (vs : (Nat → Int32) → Int32) (n : Nat) (a : Nat → Int32) (q k m : Nat) : Prop := k < 49 ∧ k + 1 ≤ m ∧ m < 49 ∧ G2 vs n a q k m = true ∧ (∀ j, k + 1 ≤ j → j < m → G2 vs n a q k j = false) ∧ ∀ i, i < k → ∀ j, i + 1 ≤ j → j < 49 → G2 vs n a q i j = false
theorem FD.un {q k m k' m' : Nat} (h : FD vs n now q k m) (h' : FD vs n now q k' m') : k = k' ∧ m = m' := by
  obtain ⟨a1, a2, a3, a4, a5, a6⟩ := h
  obtain ⟨b1, b2, b3, b4, b5, b6⟩ := h'
  have ek : k = k' := by
    rcases Nat.lt_trichotomy k k' with c | c | c
    · rw [b6 k c m a2 a3] at a4; cases a4
    · exact c
    · rw [a6 k' c m' b2 b3] at b4; cases b4
  subst ek
  refine ⟨rfl, ?_⟩
  rcases Nat.lt_trichotomy m m' with c | c | c
  · rw [b5 m a2 c] at a4; cases a4
  · exact c
  · rw [a5 m' b2 c] at b4; cases b4
theorem L_sm3 {w : Nat → Int32} (h : RI n now) (hw : EQ w now) (hm : RM vs ruleSize rule) (hc : VC vs) (len top at' wrong isAsked : Int32) (asked : Nat → Int32) {q : Nat} (hq : q < n) : ∃ z, lp (fun x121 : Int32 × Int32 × Int32 × Int32 × Int32 × Int32 × (Nat → Int32) × (Nat → Int32) => X11_steps_s121 (o32 n) ruleSize rule (o32 q) x121.1 x121.2.1 x121.2.2.1 x121.2.2.2.1 x121.2.2.2.2.1 x121.2.2.2.2.2.1 x121.2.2.2.2.2.2.1 x121.2.2.2.2.2.2.2) 1000 ((0 : Int32), len, top, at', wrong, isAsked, asked, w) = some z ∧ ((∃ z', z = .inl z' ∧ ∀ i, i < 49 → ∀ j, i + 1 ≤ j → j < 49 → G2 vs n now q i j = false) ∨ (∃ z' k m, z = .inr z' ∧ z'.1 = o32 k ∧ z'.2.1 = o32 m ∧ FD vs n now q k m)) := by
  refine lp_inv (fun k x => x.1 = o32 k ∧ EQ x.2.2.2.2.2.2.2 now ∧ ∀ i, i < k → ∀ j, i + 1 ≤ j → j < 49 → G2 vs n now q i j = false) _ 49 0 1000 _ ?_ ⟨rfl, hw, fun j hj => absurd hj (Nat.not_lt_zero j)⟩ (by omega)
  rintro k ⟨i, v1, v2, v3, v4, v5, v6, x⟩ - hk49 ⟨h1, h2, h3⟩
  have h1 : i = _ := h1
  subst h1
  have h2 : EQ x now := h2
  have e49 : (49 : Int32) = o32 49 := rfl
  rcases Nat.lt_or_ge k 49 with hk | hk
  · obtain ⟨z, ez, hz⟩ := L_sm2 h h2 hm hc v1 v2 v3 v4 v5 v6 hq hk
    simp (disch := omega) only [X11_steps_s121, e49, i_ge, o_s, ez, Option.bind_some]
    rcases hz with ⟨z', rfl, g1, g2⟩ | ⟨z', m, rfl, g1, g2, g3, g4, g5⟩
    · right
      refine ⟨by omega, _, rfl, rfl, g1, fun i hi j hj1 hj2 => ?_⟩
      by_cases ei : i = k
      · subst ei; exact g2 j hj1 hj2
      · exact h3 i (by omega) j hj1 hj2
    · left
      exact ⟨_, rfl, Or.inr ⟨_, k, m, rfl, rfl, g3, hk, g1, g2, g4, g5, h3⟩⟩
  · left
    have : k = 49 := by omega
    subst this
    exact ⟨.inl (v1, v2, v3, v4, v5, v6, x), rfl, Or.inl ⟨_, rfl, h3⟩⟩
/-- the class's two steps -/
theorem L_sc3 (h : RF n day unmet skill pills slept woken wanted now) (hv : RV vs size code) (hc : VC vs) (stack thing : Nat → Int32) {q : Nat} (hq : q < n) : ∃ z, lp (fun x2 : Int32 × (Nat → Int32) × (Nat → Int32) × (Nat → Int32) => X10_twoSteps_s2 (o32 n) day skill pills slept size code (o32 q) x2.1 x2.2.1 x2.2.2.1 x2.2.2.2) 1000 ((0 : Int32), wanted, stack, thing) = some z ∧ ((∃ z', z = .inl z' ∧ ∀ i, i < 49 → ∀ j, i + 1 ≤ j → j < 49 → G2 vs n now q i j = false) ∨ (∃ z' k m, z = .inr z' ∧ z'.1 = o32 k ∧ z'.2.1 = o32 m ∧ FD vs n now q k m)) := by
  refine lp_inv (fun k x => x.1 = o32 k ∧ RF n day unmet skill pills slept woken x.2.1 now ∧ ∀ i, i < k → ∀ j, i + 1 ≤ j → j < 49 → G2 vs n now q i j = false) _ 49 0 1000 _ ?_ ⟨rfl, h, fun j hj => absurd hj (Nat.not_lt_zero j)⟩ (by omega)
  rintro k ⟨i, w, u1, u2⟩ - hk49 ⟨h1, h2, h3⟩
  have h1 : i = _ := h1
  subst h1
  have h2 : RF n day unmet skill pills slept woken w now := h2
  have e49 : (49 : Int32) = o32 49 := rfl
  rcases Nat.lt_or_ge k 49 with hk | hk
  · rcases L_tt h2 hk with ⟨g1, g2⟩ | ⟨g1, w', g2, hR⟩
    · right
      refine ⟨by omega, (o32 (k + 1), w, u1, u2), ?_, rfl, h2, fun i hi j hj1 hj2 => ?_⟩
      · simp (disch := omega) only [X10_twoSteps_s2, e49, i_ge, g2, Option.bind_some, if_true, o_s]
      · by_cases ei : i = k
        · subst ei; unfold G2; rw [g1]; rfl
        · exact h3 i (by omega) j hj1 hj2
    · have hG : ∀ j, G2 vs n now q k j = GD vs n (TU now k) q j := fun j => by unfold G2; rw [g1, Bool.true_and]
      obtain ⟨s, es, hs1, hs2⟩ := L_sf hR hv hc u1 u2 hq (f := k + 1) (by omega)
      rcases L_tt hs1 hk with ⟨b1, -⟩ | ⟨-, w'', b2, hR2⟩
      · rw [g1] at b1; cases b1
      · have hR3 : RF n day unmet skill pills slept woken w'' now := hR2.eq (TU_2 h.ri g1).sy
        rcases hs2 with ⟨m, m1, m2, m3, m4, m5⟩ | ⟨m1, m2⟩
        · left
          have nn : (o32 m < 0) = False := eq_false (o_nn m (by omega))
          simp (disch := omega) only [X10_twoSteps_s2, e49, i_ge, g2, Option.bind_some, pu_10, if_false, o_s, es, b2, m5, nn]
          exact ⟨_, rfl, Or.inr ⟨_, k, m, rfl, rfl, rfl, hk, m1, m2, by rw [hG]; exact m3, fun j hj1 hj2 => by rw [hG]; exact m4 j hj1 hj2, h3⟩⟩
        · right
          have nn : ((-1 : Int32) < 0) = True := eq_true (by decide)
          simp (disch := omega) only [X10_twoSteps_s2, e49, i_ge, g2, Option.bind_some, pu_10, if_false, o_s, es, b2, m2, nn, if_true]
          refine ⟨by omega, _, rfl, rfl, hR3, fun i hi j hj1 hj2 => ?_⟩
          by_cases ei : i = k
          · subst ei; rw [hG]; exact m1 j hj1 hj2
          · exact h3 i (by omega) j hj1 hj2
  · left
    have : k = 49 := by omega
    subst this
    exact ⟨.inl (w, u1, u2), rfl, Or.inl ⟨_, rfl, h3⟩⟩
theorem M_steps (h : RF n day unmet skill pills slept woken wanted now) (hv : RV vs size code) (hm : RM vs ruleSize rule) (hc : VC vs) (ht : TO tsz rm tnum row) (t0 t6 t7 : Int32) (t1 t2 t3 t4 t5 stack thing : Nat → Int32) (len top at' wrong isAsked : Int32) (asked thn : Nat → Int32) (p1 : Int32) : ∃ y y', X10_steps tsz tnum (o32 n) day unmet skill pills slept woken wanted t0 t6 t7 t1 t2 t3 t4 t5 size code stack thing p1 = some y ∧ X11_steps (o32 n) rm len top at' wrong ruleSize isAsked now row rule asked thn p1 = some y' ∧ y.1 = y'.1 ∧ TO y.2.1 y'.2.1 y.2.2.1 y'.2.2.2.2.2.2.2.2.1 := by
  have hn := h.nn
  rcases L_one hn p1 with ⟨q, hq, rfl, ho, ho'⟩ | ⟨ho, ho'⟩
  · have hb : ¬ X0_has (o32 n) (o32 q) = 0 := by rw [ho]; decide
    obtain ⟨y, ey, ey1, hy⟩ := L_trial h t1 t2 t3 t4 t5
    have hW : WB n now q < 128 := bm_128 hn
    have ew := L_wby hy (q := q) (by omega)
    obtain ⟨g, eg, hg⟩ := L_rouses hy hv hc stack thing hq hW
    have eI : bi (decide (now (7 + q) = 0) && decide (¬ NB vs n now q (WB n now q) = 0)) = bi (IA vs n now q) := rfl
    rw [eI] at hg
    obtain ⟨g', eg', hg'⟩ := L_isAwake h.ri (EQ.rf (a := now)) hm hc len top at' wrong isAsked asked hq
    have ebf : (bi false = 0) = True := eq_true rfl
    have ebt : (bi true = 0) = False := eq_false (by decide)
    cases hA : IA vs n now q with
    | true =>
      rw [hA] at hg hg'
      simp only [X10_steps, X11_steps, hb, ho', pu_10, if_false, Option.bind_some, ey, ey1, ew, eg, hg, eg', hg', ebt]
      exact ⟨_, _, rfl, rfl, rfl, TO.nil _ _⟩
    | false =>
      rw [hA] at hg hg'
      obtain ⟨w, ewt, hw⟩ := L_then (n := n) (EQ.rf (a := now)) thn
      obtain ⟨s, es, hs1, hs2⟩ := L_sf hy hv hc g.2.1 g.2.2 hq (f := 0) (by omega)
      have es : X10_stepFrom (o32 n) y.2.1 y.2.2.2.1 y.2.2.2.2.1 y.2.2.2.2.2.1 y.2.2.2.2.2.2.2 size code g.2.1 g.2.2 (o32 q) 0 = some s := es
      obtain ⟨z, ez, hz⟩ := L_sm1 (vs := vs) h.ri hw hm hc g'.2.1 g'.2.2.1 g'.2.2.2.1 g'.2.2.2.2.1 g'.2.2.2.2.2.1 g'.2.2.2.2.2.2 hq
      rcases hs2 with ⟨k, -, k2, k3, k4, k5⟩ | ⟨k1, k2⟩
      · rcases hz with ⟨z', -, -, g2⟩ | ⟨z', k', rfl, b1, b2, b3, b4⟩
        · rw [g2 k k2] at k3; cases k3
        · have : k' = k := by
            rcases Nat.lt_trichotomy k' k with c | c | c
            · rw [k4 k' (Nat.zero_le _) c] at b3; cases b3
            · exact c
            · rw [b4 k c] at k3; cases k3
          subst this
          have nn : (o32 k' < 0) = False := eq_false (o_nn k' (by omega))
          obtain ⟨t, t', et, et', ht'⟩ := TO.one tnum row ((o32 k').toInt64)
          simp only [X10_steps, X11_steps, hb, ho', pu_10, if_false, Option.bind_some, ey, ey1, ew, eg, hg, eg', hg', ebf, if_true, es, k5, nn, ewt, ez, sm, un, b2, et, et']
          exact ⟨_, _, rfl, rfl, rfl, ht'⟩
      · rcases hz with ⟨z', rfl, g1, g2⟩ | ⟨z', k', -, b1, -, b3, -⟩
        · have nn : ((-1 : Int32) < 0) = True := eq_true (by decide)
          obtain ⟨c, ec, hcc⟩ := L_sc3 hs1 hv hc s.2.2.1 s.2.2.2 hq
          obtain ⟨d, ed, hdd⟩ := L_sm3 (vs := vs) h.ri g1 hm hc z'.1 z'.2.1 z'.2.2.1 z'.2.2.2.1 z'.2.2.2.2.1 z'.2.2.2.2.2.1 hq
          rcases hcc with ⟨c', rfl, c1⟩ | ⟨c', k, m, rfl, c1, c2, c3⟩
          · rcases hdd with ⟨d', rfl, d1⟩ | ⟨d', k', m', -, -, -, d3⟩
            · simp only [X10_steps, X10_twoSteps, X11_steps, hb, ho', pu_10, if_false, Option.bind_some, ey, ey1, ew, eg, hg, eg', hg', ebf, if_true, es, k2, nn, ewt, ez, sm, un, ec, ed]
              exact ⟨_, _, rfl, rfl, rfl, ht⟩
            · have := c1 k' d3.1 m' d3.2.1 d3.2.2.1
              exact absurd (this.symm.trans d3.2.2.2.1) (by decide)
          · rcases hdd with ⟨d', -, d1⟩ | ⟨d', k', m', rfl, d1, d2, d3⟩
            · have := d1 k c3.1 m c3.2.1 c3.2.2.1
              exact absurd (this.symm.trans c3.2.2.2.1) (by decide)
            · obtain ⟨e1, e2⟩ := c3.un d3
              subst e1 e2
              obtain ⟨t, t', t'', et, et', et'', ht'⟩ := TO.both tnum row ((o32 k).toInt64) ((o32 m).toInt64)
              simp only [X10_steps, X10_twoSteps, X11_steps, hb, ho', pu_10, if_false, Option.bind_some, ey, ey1, ew, eg, hg, eg', hg', ebf, if_true, es, k2, nn, ewt, ez, sm, un, ec, ed, c1, c2, d1, d2, et, et', et'']
              exact ⟨_, _, rfl, rfl, rfl, ht'⟩
        · rw [k1 k' (Nat.zero_le _) b1] at b3; cases b3
  · simp only [X10_steps, X11_steps, ho, ho', Option.bind_some, if_true]
    exact ⟨_, _, rfl, rfl, rfl, ht⟩
end SU
