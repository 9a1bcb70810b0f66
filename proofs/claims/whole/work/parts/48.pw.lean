/-! ===== the pure level: when, quiet, runs ===== -/
theorem pu_a2 {m k : Nat} (hm : m < 128) (hk : k < 7) : (o32 m &&& o32 (2 ^ k) = 0) = (m.testBit k = false) := by
  have h1 : ∀ m : Fin 128, ∀ k : Fin 7, (o32 m.val &&& o32 (2 ^ k.val) = 0) ↔ m.val.testBit k.val = false := by decide +kernel
  exact propext (h1 ⟨m, hm⟩ ⟨k, hk⟩)
theorem pu_20 {k : Nat} (hk : k < 7) : ¬ o32 (2 ^ k) = 0 := by
  rw [o0 (Nat.lt_of_le_of_lt (p2_7 (n := k) (by omega)) (by decide))]
  exact Nat.ne_of_gt (Nat.two_pow_pos k)
theorem pu_ltle {α : Type} (b r : Int32) (x y : α) : (if r ≤ b then x else y) = if b < r then y else x := by
  by_cases h : r ≤ b
  · rw [if_pos h, if_neg (Int32.not_lt.mpr h)]
  · rw [if_neg h, if_pos (Int32.not_le.mp h)]
theorem pu_10 : ((1 : Int32) = 0) = False := by simp
section MW
variable {vs : (Nat → Int32) → Int32} {n : Nat} {day unmet : Int32} {skill pills slept woken wanted now : Nat → Int32} {size : Int32} {code : Nat → Int32} {ruleSize : Int32} {rule : Nat → Int32} {tsz rm : Int32} {tnum row : Nat → Int64}
/-- how a first one and a count go on, on both sides -/
def FO (k : Nat) (f f' o o' : Int32) : Prop := f = f' ∧ o = o' ∧ ∃ c, c ≤ k ∧ o = o32 c ∧ ((c = 0 ∧ f = -2) ∨ (¬ c = 0 ∧ ¬ f = -2))
theorem FO.st {k : Nat} {f f' o o' : Int32} (h : FO k f f' o o') : FO (k + 1) f f' o o' := by
  obtain ⟨h1, h2, c, h3, h4⟩ := h
  exact ⟨h1, h2, c, by omega, h4⟩
theorem FO.y {k : Nat} {f f' o o' : Int32} (h : FO k f f' o o') (hk : k < 100) : FO (k + 1) (if o = 0 then o32 (k + 1) else f) (if f' = -2 then o32 (k + 1) else f') (o + 1) (o' + 1) := by
  obtain ⟨rfl, rfl, c, h3, rfl, h4⟩ := h
  have hk2 : ¬ o32 (k + 1) = -2 := by
    intro e
    have h5 := congrArg Int32.toInt e
    rw [o_toInt (by omega), show (-2 : Int32).toInt = -2 by decide] at h5
    omega
  refine ⟨?_, rfl, c + 1, by omega, o_s c, ?_⟩
  · simp (disch := omega) only [o0]
    rcases h4 with ⟨h5, h6⟩ | ⟨h5, h6⟩
    · rw [if_pos h5, if_pos h6]
    · rw [if_neg h5, if_neg h6]
  · right
    refine ⟨by omega, ?_⟩
    split
    · exact hk2
    · rename_i h7
      rcases h4 with ⟨h5, h6⟩ | ⟨h5, h6⟩
      · exact absurd (by rw [h5]; rfl) h7
      · exact h6
theorem FO.z : FO 0 (-2) (-2) 0 0 := ⟨rfl, rfl, 0, Nat.le_refl 0, rfl, Or.inl ⟨rfl, rfl⟩⟩
theorem M_when (h : RF n day unmet skill pills slept woken wanted now) (hv : RV vs size code) (hm : RM vs ruleSize rule) (hc : VC vs) (ht : TO tsz rm tnum row) (t0 t6 t7 : Int32) (t1 t2 t3 t4 t5 stack thing : Nat → Int32) (len top at' wrong isAsked : Int32) (asked thn : Nat → Int32) (p1 : Int32) : ∃ y y', X10_when tsz tnum (o32 n) day unmet skill pills slept woken wanted t0 t6 t7 t1 t2 t3 t4 t5 size code stack thing p1 = some y ∧ X11_when (o32 n) rm len top at' wrong ruleSize isAsked now row rule asked thn p1 = some y' ∧ y.1 = y'.1 ∧ TO y.2.1 y'.2.1 y.2.2.1 y'.2.2.2.2.2.2.2.2.1 := by
  have hn := h.nn
  rcases L_one hn p1 with ⟨q, hq, rfl, ho, ho'⟩ | ⟨ho, ho'⟩
  · obtain ⟨y, ey, ey1, hy⟩ := L_trial h t1 t2 t3 t4 t5
    obtain ⟨w, ew, hw⟩ := L_then (n := n) (EQ.rf (a := now)) thn
    have hq2 := pu_20 (show q < 7 by omega)
    obtain ⟨z, z', ez, ez', hz1⟩ := lp_ct2 (f := fun x19 : Int32 × Int32 × Int32 × Int32 × Int32 × (Nat → Int32) × (Nat → Int32) × (Nat → Int32) × (Nat → Int32) × (Nat → Int32) => X10_tellsMornings_s19 size code (o32 (2 ^ q)) y x19.1 x19.2.1 x19.2.2.1 x19.2.2.2.1 x19.2.2.2.2.1 x19.2.2.2.2.2.1 x19.2.2.2.2.2.2.1 x19.2.2.2.2.2.2.2.1 x19.2.2.2.2.2.2.2.2.1 x19.2.2.2.2.2.2.2.2.2) (f' := fun x35 : Int32 × Int32 × Int32 × Int32 × Int32 × Int32 × Int32 × Int32 × (Nat → Int32) × (Nat → Int32) => X11_when_s35 (o32 n) ruleSize rule (o32 q) x35.1 x35.2.1 x35.2.2.1 x35.2.2.2.1 x35.2.2.2.2.1 x35.2.2.2.2.2.1 x35.2.2.2.2.2.2.1 x35.2.2.2.2.2.2.2.1 x35.2.2.2.2.2.2.2.2.1 x35.2.2.2.2.2.2.2.2.2)
      (fun k x x' => FO k x.1 x'.1 x.2.1 x'.2.1 ∧ x.2.2.1 = o32 (k + 1) ∧ x'.2.2.1 = o32 (k + 1) ∧ RF n x.2.2.2.1 x.2.2.2.2.1 y.2.2.2.1 x.2.2.2.2.2.1 x.2.2.2.2.2.2.1 x.2.2.2.2.2.2.2.1 y.2.2.2.2.2.2.2 (MI vs n now k) ∧ EQ x'.2.2.2.2.2.2.2.2.2 (MI vs n now k))
      (fun z z' => FO 99 z.1 z'.1 z.2.1 z'.2.1) 99
      ((-2 : Int32), (0 : Int32), (1 : Int32), y.2.1, y.2.2.1, y.2.2.2.2.1, y.2.2.2.2.2.1, y.2.2.2.2.2.2.1, stack, thing) ((-2 : Int32), (0 : Int32), (1 : Int32), len, top, at', wrong, isAsked, asked, w) ⟨FO.z, rfl, rfl, hy, hw⟩ (by
        rintro k ⟨f, o, i, u1, u2, u3, u4, u5, u6, u7⟩ ⟨f', o', i', v1, v2, v3, v4, v5, v6, x⟩ hk ⟨h1, h2, h3, h4, h5⟩
        have h2 : i = _ := h2
        have h3 : i' = _ := h3
        subst h2 h3
        have h1 : FO k f f' o o' := h1
        have h4 : RF n u1 u2 y.2.2.2.1 u3 u4 u5 y.2.2.2.2.2.2.2 (MI vs n now k) := h4
        have h5 : EQ x (MI vs n now k) := h5
        obtain ⟨g, eg, hg1, hg2⟩ := L_go1 h4 hv hc u6 u7
        obtain ⟨g', eg', hg1', hg2'⟩ := L_goMorning (MI_ri h.ri k) h5 hm hc v1 v2 v3 v4 v5 v6
        have hu : AW vs n (MI vs n now k) < 128 := bm_128 hn
        have e99 : (99 : Int32) = o32 99 := rfl
        simp (disch := omega) only [X10_tellsMornings_s19, X11_when_s35, e99, i_lt, ey1, eg, eg', hg1, hg1', Option.bind_some, o_s, pu_has, bi_if, hq2, if_false, pu_a2 hu (show q < 7 by omega)]
        refine ⟨_, _, rfl, rfl, ?_, rfl, rfl, hg2, hg2'⟩
        cases (AW vs n (MI vs n now k)).testBit q
        · exact h1.st
        · exact h1.y (by omega)) (by
        rintro ⟨f, o, i, u1, u2, u3, u4, u5, u6, u7⟩ ⟨f', o', i', v1, v2, v3, v4, v5, v6, x⟩ ⟨h1, h2, h3, h4, h5⟩
        have h2 : i = _ := h2
        have h3 : i' = _ := h3
        subst h2 h3
        have e99 : (99 : Int32) = o32 99 := rfl
        refine ⟨(f, o, u1, u2, u3, u4, u5, u6, u7), (f', o', v1, v2, v3, v4, v5, v6, x), ?_, ?_, h1⟩
        · simp (disch := omega) only [X10_tellsMornings_s19, e99, i_gt]
        · simp (disch := omega) only [X11_when_s35, e99, i_gt]) (by omega)
    obtain ⟨z0, z1, z2, z3, z4, z5, z6, z7, z8⟩ := z
    obtain ⟨z0', z1', z2', z3', z4', z5', z6', z7', z8'⟩ := z'
    obtain ⟨e1, e2, c, c1, c2, c3⟩ := hz1
    have e1 : z0 = z0' := e1
    have e2 : z1 = z1' := e2
    have c2 : z1 = _ := c2
    have c3 : (c = 0 ∧ z0 = -2) ∨ (¬ c = 0 ∧ ¬ z0 = -2) := c3
    subst e1 e2 c2
    obtain ⟨t, t', et, et', ht'⟩ := TO.one tnum row ((o32 c).toInt64)
    have hb : ¬ X0_has (o32 n) (o32 q) = 0 := by rw [ho]; decide
    simp (disch := omega) only [X10_when, X10_tellsMornings, X11_when, ho', pu_10, Option.bind_some, if_false, hb, o_shl, ey, ew, ez, ez', un, ey1]
    rcases c3 with ⟨c4, c5⟩ | ⟨c4, c5⟩
    · subst c4 c5
      simp only [if_pos (show o32 0 ≤ 0 by decide), if_true, Option.bind_some]
      exact ⟨_, _, rfl, rfl, rfl, ht⟩
    · have c6 : ¬ o32 c ≤ 0 := by
        show ¬ o32 c ≤ o32 0
        rw [o_le (by omega) (by decide)]; omega
      simp only [c5, c6, if_false, et, et', Option.bind_some]
      exact ⟨_, _, rfl, rfl, rfl, ht'⟩
  · simp only [X10_when, X11_when, ho, ho', Option.bind_some, if_true]
    exact ⟨_, _, rfl, rfl, rfl, ht⟩
theorem M_quiet (h : RF n day unmet skill pills slept woken wanted now) (hv : RV vs size code) (hm : RM vs ruleSize rule) (hc : VC vs) (ht : TO tsz rm tnum row) (t1 t2 t3 t4 t5 stack thing : Nat → Int32) (len top at' wrong isAsked : Int32) (asked thn : Nat → Int32) : ∃ y y', X10_quiet tsz tnum (o32 n) day unmet skill pills slept woken wanted t1 t2 t3 t4 t5 size code stack thing = some y ∧ X11_quiet (o32 n) rm len top at' wrong ruleSize isAsked now row rule asked thn = some y' ∧ y.1 = y'.1 ∧ TO y.2.1 y'.2.1 y.2.2.1 y'.2.2.2.2.2.2.2.2.1 := by
  have hn := h.nn
  obtain ⟨y, ey, ey1, hy⟩ := L_trial h t1 t2 t3 t4 t5
  obtain ⟨w, ew, hw⟩ := L_then (n := n) (EQ.rf (a := now)) thn
  obtain ⟨z, z', ez, ez', hz1⟩ := lp_ct2 (f := fun x19 : Int32 × Int32 × Int32 × Int32 × Int32 × (Nat → Int32) × (Nat → Int32) × (Nat → Int32) × (Nat → Int32) × (Nat → Int32) => X10_tellsMornings_s19 size code 0 y x19.1 x19.2.1 x19.2.2.1 x19.2.2.2.1 x19.2.2.2.2.1 x19.2.2.2.2.2.1 x19.2.2.2.2.2.2.1 x19.2.2.2.2.2.2.2.1 x19.2.2.2.2.2.2.2.2.1 x19.2.2.2.2.2.2.2.2.2) (f' := fun x35 : Int32 × Int32 × Int32 × Int32 × Int32 × Int32 × Int32 × Int32 × (Nat → Int32) × (Nat → Int32) => X11_quiet_s24 (o32 n) ruleSize rule x35.1 x35.2.1 x35.2.2.1 x35.2.2.2.1 x35.2.2.2.2.1 x35.2.2.2.2.2.1 x35.2.2.2.2.2.2.1 x35.2.2.2.2.2.2.2.1 x35.2.2.2.2.2.2.2.2.1 x35.2.2.2.2.2.2.2.2.2)
      (fun k x x' => FO k x.1 x'.1 x.2.1 x'.2.1 ∧ x.2.2.1 = o32 (k + 1) ∧ x'.2.2.1 = o32 (k + 1) ∧ RF n x.2.2.2.1 x.2.2.2.2.1 y.2.2.2.1 x.2.2.2.2.2.1 x.2.2.2.2.2.2.1 x.2.2.2.2.2.2.2.1 y.2.2.2.2.2.2.2 (MI vs n now k) ∧ EQ x'.2.2.2.2.2.2.2.2.2 (MI vs n now k))
      (fun z z' => FO 99 z.1 z'.1 z.2.1 z'.2.1) 99
      ((-2 : Int32), (0 : Int32), (1 : Int32), y.2.1, y.2.2.1, y.2.2.2.2.1, y.2.2.2.2.2.1, y.2.2.2.2.2.2.1, stack, thing) ((-2 : Int32), (0 : Int32), (1 : Int32), len, top, at', wrong, isAsked, asked, w) ⟨FO.z, rfl, rfl, hy, hw⟩ (by
        rintro k ⟨f, o, i, u1, u2, u3, u4, u5, u6, u7⟩ ⟨f', o', i', v1, v2, v3, v4, v5, v6, x⟩ hk ⟨h1, h2, h3, h4, h5⟩
        have h2 : i = _ := h2
        have h3 : i' = _ := h3
        subst h2 h3
        have h1 : FO k f f' o o' := h1
        have h4 : RF n u1 u2 y.2.2.2.1 u3 u4 u5 y.2.2.2.2.2.2.2 (MI vs n now k) := h4
        have h5 : EQ x (MI vs n now k) := h5
        obtain ⟨g, eg, hg1, hg2⟩ := L_go1 h4 hv hc u6 u7
        obtain ⟨g', eg', hg1', hg2'⟩ := L_goMorning (MI_ri h.ri k) h5 hm hc v1 v2 v3 v4 v5 v6
        have hu : AW vs n (MI vs n now k) < 128 := bm_128 hn
        have e99 : (99 : Int32) = o32 99 := rfl
        simp (disch := omega) only [X10_tellsMornings_s19, X11_quiet_s24, e99, i_lt, ey1, eg, eg', hg1, hg1', Option.bind_some, o_s, if_true, o0]
        refine ⟨_, _, rfl, rfl, ?_, rfl, rfl, hg2, hg2'⟩
        by_cases hz : AW vs n (MI vs n now k) = 0
        · simp only [hz, if_true]; exact h1.y (by omega)
        · simp only [hz, if_false]; exact h1.st) (by
        rintro ⟨f, o, i, u1, u2, u3, u4, u5, u6, u7⟩ ⟨f', o', i', v1, v2, v3, v4, v5, v6, x⟩ ⟨h1, h2, h3, h4, h5⟩
        have h2 : i = _ := h2
        have h3 : i' = _ := h3
        subst h2 h3
        have e99 : (99 : Int32) = o32 99 := rfl
        refine ⟨(f, o, u1, u2, u3, u4, u5, u6, u7), (f', o', v1, v2, v3, v4, v5, v6, x), ?_, ?_, h1⟩
        · simp (disch := omega) only [X10_tellsMornings_s19, e99, i_gt]
        · simp (disch := omega) only [X11_quiet_s24, e99, i_gt]) (by omega)
  obtain ⟨z0, z1, z2, z3, z4, z5, z6, z7, z8⟩ := z
  obtain ⟨z0', z1', z2', z3', z4', z5', z6', z7', z8'⟩ := z'
  obtain ⟨e1, e2, c, c1, c2, c3⟩ := hz1
  have e1 : z0 = z0' := e1
  have e2 : z1 = z1' := e2
  have c2 : z1 = _ := c2
  have c3 : (c = 0 ∧ z0 = -2) ∨ (¬ c = 0 ∧ ¬ z0 = -2) := c3
  subst e1 e2 c2
  obtain ⟨t, t', et, et', ht'⟩ := TO.one tnum row ((o32 c).toInt64)
  simp (disch := omega) only [X10_quiet, X10_tellsMornings, X11_quiet, Option.bind_some, ey, ew, ez, ez', un, ey1]
  rcases c3 with ⟨c4, c5⟩ | ⟨c4, c5⟩
  · subst c4 c5
    simp only [if_pos (show o32 0 ≤ 0 by decide), if_true, Option.bind_some]
    exact ⟨_, _, rfl, rfl, rfl, ht⟩
  · have c6 : ¬ o32 c ≤ 0 := by
      show ¬ o32 c ≤ o32 0
      rw [o_le (by omega) (by decide)]; omega
    simp only [c5, c6, if_false, et, et', Option.bind_some]
    exact ⟨_, _, rfl, rfl, rfl, ht'⟩
theorem M_runs (h : RF n day unmet skill pills slept woken wanted now) (hv : RV vs size code) (hm : RM vs ruleSize rule) (hc : VC vs) (ht : TO tsz rm tnum row) (t0 t6 t7 : Int32) (t1 t2 t3 t4 t5 stack thing : Nat → Int32) (len top at' wrong isAsked : Int32) (asked thn : Nat → Int32) (p1 p2 : Int32) : ∃ y y', X10_runs tsz tnum (o32 n) day unmet skill pills slept woken wanted t0 t6 t7 t1 t2 t3 t4 t5 size code stack thing p1 p2 = some y ∧ X11_runs (o32 n) rm len top at' wrong ruleSize isAsked now row rule asked thn p1 p2 = some y' ∧ y.1 = y'.1 ∧ TO y.2.1 y'.2.1 y.2.2.1 y'.2.2.2.2.2.2.2.2.1 := by
  have hn := h.nn
  rcases L_one hn p1 with ⟨q, hq, rfl, ho, ho'⟩ | ⟨ho, ho'⟩
  · have hb : ¬ X0_has (o32 n) (o32 q) = 0 := by rw [ho]; decide
    rcases pu_in p2 (lo := 1) (hi := 99) (by decide) (by decide) with ⟨i1, i2⟩ | ⟨i1, i2, i3⟩ | ⟨m, m1, m2, rfl, i1, i2, i3⟩
    · have i1 : p2 < 1 := i1
      have i2 : X11_in p2 1 99 = 0 := i2
      simp only [X10_runs, X11_runs, hb, ho', i1, i2, Option.bind_some, if_true, if_false]
      rw [if_neg (by decide)]
      exact ⟨_, _, rfl, rfl, rfl, ht⟩
    · have i1 : ¬ p2 < 1 := i1
      have i2 : ¬ p2 ≤ 99 := i2
      have i3 : X11_in p2 1 99 = 0 := i3
      simp only [X10_runs, X11_runs, hb, ho', i1, i2, i3, Option.bind_some, if_true, if_false]
      rw [if_neg (by decide)]
      exact ⟨_, _, rfl, rfl, rfl, ht⟩
    · have i1 : ¬ o32 m < 1 := i1
      have i2 : o32 m ≤ 99 := i2
      have i3 : X11_in (o32 m) 1 99 = 1 := i3
      obtain ⟨y, ey, ey1, hy⟩ := L_trial h t1 t2 t3 t4 t5
      obtain ⟨w, ew, hw⟩ := L_then (n := n) (EQ.rf (a := now)) thn
      obtain ⟨z, z', ez, ez', hz1, hz2⟩ := lp_ct2 (f := fun x46 : Int32 × Int32 × Int32 × Int32 × Int32 × Int32 × (Nat → Int32) × (Nat → Int32) × (Nat → Int32) × (Nat → Int32) × (Nat → Int32) => X10_runs_s46 size code (o32 q) (o32 m) y x46.1 x46.2.1 x46.2.2.1 x46.2.2.2.1 x46.2.2.2.2.1 x46.2.2.2.2.2.1 x46.2.2.2.2.2.2.1 x46.2.2.2.2.2.2.2.1 x46.2.2.2.2.2.2.2.2.1 x46.2.2.2.2.2.2.2.2.2.1 x46.2.2.2.2.2.2.2.2.2.2) (f' := fun x48 : Int32 × Int32 × Int32 × Int32 × Int32 × Int32 × Int32 × Int32 × Int32 × (Nat → Int32) × (Nat → Int32) => X11_runs_s48 (o32 n) ruleSize rule (o32 q) (o32 m) x48.1 x48.2.1 x48.2.2.1 x48.2.2.2.1 x48.2.2.2.2.1 x48.2.2.2.2.2.1 x48.2.2.2.2.2.2.1 x48.2.2.2.2.2.2.2.1 x48.2.2.2.2.2.2.2.2.1 x48.2.2.2.2.2.2.2.2.2.1 x48.2.2.2.2.2.2.2.2.2.2)
        (fun k x x' => x.1 = x'.1 ∧ x.2.1 = x'.2.1 ∧ x.2.2.1 = x'.2.2.1 ∧ x.2.2.2.1 = o32 (k + 1) ∧ x'.2.2.2.1 = o32 (k + 1) ∧ RF n x.2.2.2.2.1 x.2.2.2.2.2.1 y.2.2.2.1 x.2.2.2.2.2.2.1 x.2.2.2.2.2.2.2.1 x.2.2.2.2.2.2.2.2.1 y.2.2.2.2.2.2.2 (MI vs n now k) ∧ EQ x'.2.2.2.2.2.2.2.2.2.2 (MI vs n now k))
        (fun z z' => z.1 = z'.1 ∧ z.2.1 = z'.2.1) m
        ((0 : Int32), (0 : Int32), (0 : Int32), (1 : Int32), y.2.1, y.2.2.1, y.2.2.2.2.1, y.2.2.2.2.2.1, y.2.2.2.2.2.2.1, stack, thing) ((0 : Int32), (0 : Int32), (0 : Int32), (1 : Int32), len, top, at', wrong, isAsked, asked, w) ⟨rfl, rfl, rfl, rfl, rfl, hy, hw⟩ (by
          rintro k ⟨b, f, r, i, u1, u2, u3, u4, u5, u6, u7⟩ ⟨b', f', r', i', v1, v2, v3, v4, v5, v6, x⟩ hk ⟨g1, g2, g3, h2, h3, h4, h5⟩
          have g1 : b = b' := g1
          have g2 : f = f' := g2
          have g3 : r = r' := g3
          have h2 : i = _ := h2
          have h3 : i' = _ := h3
          subst g1 g2 g3 h2 h3
          have h4 : RF n u1 u2 y.2.2.2.1 u3 u4 u5 y.2.2.2.2.2.2.2 (MI vs n now k) := h4
          have h5 : EQ x (MI vs n now k) := h5
          obtain ⟨g, eg, hg1, hg2⟩ := L_go1 h4 hv hc u6 u7
          obtain ⟨g', eg', hg1', hg2'⟩ := L_goMorning (MI_ri h.ri k) h5 hm hc v1 v2 v3 v4 v5 v6
          have hu : AW vs n (MI vs n now k) < 128 := bm_128 hn
          simp (disch := omega) only [X10_runs_s46, X11_runs_s48, i_lt, ey1, eg, eg', hg1, hg1', Option.bind_some, o_s, pu_has, pu_bit, bi_if]
          refine ⟨_, _, rfl, rfl, ?_, ?_, rfl, rfl, rfl, hg2, hg2'⟩
          · exact pu_ltle ..
          · exact pu_ltle ..) (by
          rintro ⟨b, f, r, i, u1, u2, u3, u4, u5, u6, u7⟩ ⟨b', f', r', i', v1, v2, v3, v4, v5, v6, x⟩ ⟨g1, g2, g3, h2, h3, h4, h5⟩
          have h2 : i = _ := h2
          have h3 : i' = _ := h3
          subst h2 h3
          refine ⟨(b, f, u1, u2, u3, u4, u5, u6, u7), (b', f', v1, v2, v3, v4, v5, v6, x), ?_, ?_, g1, g2⟩
          · simp (disch := omega) only [X10_runs_s46, i_gt]
          · simp (disch := omega) only [X11_runs_s48, i_gt]) (by omega)
      obtain ⟨z0, z1, z2, z3, z4, z5, z6, z7, z8⟩ := z
      obtain ⟨z0', z1', z2', z3', z4', z5', z6', z7', z8'⟩ := z'
      have hz1 : z0 = z0' := hz1
      have hz2 : z1 = z1' := hz2
      subst hz1 hz2
      obtain ⟨t, t', et, et', ht'⟩ := TO.one tnum row (z1.toInt64)
      simp (disch := omega) only [X10_runs, X11_runs, hb, ho', i1, i2, i3, Option.bind_some, if_true, if_false, ey, ew, ez, ez', un, ey1, et, et']
      rw [if_neg (by decide), if_neg (by decide)]
      exact ⟨_, _, rfl, rfl, rfl, ht'⟩
  · simp only [X10_runs, X11_runs, ho, ho', Option.bind_some, if_true]
    exact ⟨_, _, rfl, rfl, rfl, ht⟩
end MW
