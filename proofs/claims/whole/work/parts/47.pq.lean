/-! ===== the pure level: wakes, later, when, quiet, runs ===== -/
theorem lp_ct2 {α β α' β' : Type} {f : α → Option (α ⊕ β)} {f' : α' → Option (α' ⊕ β')} (I : Nat → α → α' → Prop) (P : β → β' → Prop) (n : Nat) (x0 : α) (x0' : α') (h0 : I 0 x0 x0') (hs : ∀ k x x', k < n → I k x x' → ∃ y y', f x = some (.inl y) ∧ f' x' = some (.inl y') ∧ I (k + 1) y y') (he : ∀ x x', I n x x' → ∃ z z', f x = some (.inr z) ∧ f' x' = some (.inr z') ∧ P z z') (hf : n < 1000) : ∃ z z', lp f 1000 x0 = some z ∧ lp f' 1000 x0' = some z' ∧ P z z' :=
  lp_two I P n 0 1000 1000 x0 x0' (fun k x x' _ h2 h3 => by
    rcases Nat.lt_or_ge k n with h | h
    · exact Or.inr ⟨by omega, hs k x x' h h3⟩
    · have : k = n := by omega
      subst this
      exact Or.inl (he x x' h3)) h0 hf hf
theorem i_lt {α : Type} {n k : Nat} {a b : α} (h : k ≤ n) (hn : n < 2147483648) : (if o32 n < o32 k then a else b) = b := by
  rw [if_neg]
  rw [o_lt hn (by omega)]
  omega
theorem i_gt {α : Type} {n k : Nat} {a b : α} (h : n < k) (hn : k < 2147483648) : (if o32 n < o32 k then a else b) = a := by
  rw [if_pos]
  rw [o_lt (by omega) hn]
  exact h
theorem pu_in (p : Int32) {lo hi : Nat} (hl : lo ≤ hi) (hh : hi < 2147483648) : (p < o32 lo ∧ X11_in p (o32 lo) (o32 hi) = 0) ∨ (¬ p < o32 lo ∧ ¬ p ≤ o32 hi ∧ X11_in p (o32 lo) (o32 hi) = 0) ∨ ∃ m, lo ≤ m ∧ m ≤ hi ∧ p = o32 m ∧ ¬ p < o32 lo ∧ p ≤ o32 hi ∧ X11_in p (o32 lo) (o32 hi) = 1 := by
  by_cases h1 : p < o32 lo
  · exact Or.inl ⟨h1, by rw [in_0]; exact Or.inl h1⟩
  · by_cases h2 : p ≤ o32 hi
    · right; right
      have h0 : ¬ p < 0 := by
        intro h0
        apply h1
        exact Int32.lt_of_lt_of_le h0 (o_ge0 lo (by omega))
      obtain ⟨m, hm, rfl⟩ := o_of h0
      rw [o_lt hm (by omega)] at h1
      rw [o_le hm hh] at h2
      refine ⟨m, by omega, h2, rfl, by rw [o_lt hm (by omega)]; exact h1, by rw [o_le hm hh]; exact h2, ?_⟩
      unfold X11_in
      rw [if_neg (by rw [o_lt hm (by omega)]; exact h1), if_neg (by rw [o_lt hh hm]; omega)]
    · exact Or.inr (Or.inl ⟨h1, h2, by rw [in_0]; exact Or.inr (Int32.not_le.mp h2)⟩)
theorem pu_bit {m k : Nat} (hm : m < 128) (hk : k < 7) : ((o32 m >>> (o32 k &&& 31)) &&& 1) = bi (m.testBit k) := bt_bit hm hk
theorem bi_if {α : Type} (b : Bool) (x y : α) : (if bi b = 0 then x else y) = if b then y else x := by cases b <;> rfl
section MW
variable {vs : (Nat → Int32) → Int32} {n : Nat} {day unmet : Int32} {skill pills slept woken wanted now : Nat → Int32} {size : Int32} {code : Nat → Int32} {ruleSize : Int32} {rule : Nat → Int32} {tsz rm : Int32} {tnum row : Nat → Int64}
theorem M_wakes (h : RF n day unmet skill pills slept woken wanted now) (hv : RV vs size code) (hm : RM vs ruleSize rule) (hc : VC vs) (stack thing : Nat → Int32) (len top at' wrong isAsked : Int32) (asked : Nat → Int32) : ∃ y y', X10_wakes tnum (o32 n) day skill pills slept wanted size code stack thing = some y ∧ X11_wakes (o32 n) len top at' wrong ruleSize isAsked now row rule asked = some y' ∧ y.1 = y'.1 ∧ TO y.2.1 y'.2.1 y.2.2.1 y'.2.2.2.2.2.2.2.2.1 := by
  obtain ⟨y, ey, hy⟩ := L_wakers h hv hc stack thing
  obtain ⟨y', ey', hy'⟩ := L_awake h.ri EQ.rf hm hc len top at' wrong isAsked asked
  obtain ⟨t, t', t'', et, et', et'', ht⟩ := TO.both tnum row ((J6_bitCount_0f7a4 (o32 (AW vs n now))).toInt64) ((o32 (UM n now (AW vs n now))).toInt64)
  simp only [X10_wakes, X11_wakes, ey, ey', hy, hy', L_unserved h, L_unmet h.ri EQ.rf, et, et', et'', Option.bind_some]
  exact ⟨_, _, rfl, rfl, rfl, ht⟩
theorem M_later (h : RF n day unmet skill pills slept woken wanted now) (hv : RV vs size code) (hm : RM vs ruleSize rule) (hc : VC vs) (ht : TO tsz rm tnum row) (t0 t6 t7 : Int32) (t1 t2 t3 t4 t5 stack thing : Nat → Int32) (len top at' wrong isAsked : Int32) (asked thn : Nat → Int32) (p1 p2 : Int32) : ∃ y y', X10_later tsz tnum (o32 n) day unmet skill pills slept woken wanted t0 t6 t7 t1 t2 t3 t4 t5 size code stack thing p1 p2 = some y ∧ X11_later (o32 n) rm len top at' wrong ruleSize isAsked now row rule asked thn p1 p2 = some y' ∧ y.1 = y'.1 ∧ TO y.2.1 y'.2.1 y.2.2.1 y'.2.2.2.2.2.2.2.2.1 := by
  have hn := h.nn
  rcases L_one hn p1 with ⟨q, hq, rfl, ho, ho'⟩ | ⟨ho, ho'⟩
  · rcases pu_in p2 (lo := 0) (hi := 99) (by decide) (by decide) with ⟨i1, i2⟩ | ⟨i1, i2, i3⟩ | ⟨m, m1, m2, rfl, i1, i2, i3⟩
    · have i1 : p2 < 0 := i1
      have i2 : X11_in p2 0 99 = 0 := i2
      simp only [X10_later, X11_later, ho, ho', i1, i2, Option.bind_some, if_true]
      rw [if_neg (by decide), if_neg (by decide)]
      exact ⟨_, _, rfl, rfl, rfl, ht⟩
    · have i1 : ¬ p2 < 0 := i1
      have i2 : ¬ p2 ≤ 99 := i2
      have i3 : X11_in p2 0 99 = 0 := i3
      simp only [X10_later, X11_later, ho, ho', i1, i2, i3, Option.bind_some, if_true, if_false]
      rw [if_neg (by decide), if_neg (by decide)]
      exact ⟨_, _, rfl, rfl, rfl, ht⟩
    · have i1 : ¬ o32 m < 0 := i1
      have i2 : o32 m ≤ 99 := i2
      have i3 : X11_in (o32 m) 0 99 = 1 := i3
      obtain ⟨y, ey, ey1, hy⟩ := L_trial h t1 t2 t3 t4 t5
      obtain ⟨w, ew, hw⟩ := L_then (n := n) (EQ.rf (a := now)) thn
      obtain ⟨z, z', ez, ez', hz1, hz2, hz3⟩ := lp_ct2 (f := fun x39 : Int32 × Int32 × Int32 × Int32 × (Nat → Int32) × (Nat → Int32) × (Nat → Int32) × (Nat → Int32) × (Nat → Int32) => X10_later_s39 size code (o32 q) (o32 m) y x39.1 x39.2.1 x39.2.2.1 x39.2.2.2.1 x39.2.2.2.2.1 x39.2.2.2.2.2.1 x39.2.2.2.2.2.2.1 x39.2.2.2.2.2.2.2.1 x39.2.2.2.2.2.2.2.2) (f' := fun x42 : Int32 × Int32 × Int32 × Int32 × Int32 × Int32 × Int32 × (Nat → Int32) × (Nat → Int32) => X11_later_s42 (o32 n) ruleSize rule (o32 q) (o32 m) x42.1 x42.2.1 x42.2.2.1 x42.2.2.2.1 x42.2.2.2.2.1 x42.2.2.2.2.2.1 x42.2.2.2.2.2.2.1 x42.2.2.2.2.2.2.2.1 x42.2.2.2.2.2.2.2.2)
        (fun k x x' => x.1 = x'.1 ∧ x.2.1 = o32 k ∧ x'.2.1 = o32 k ∧ RF n x.2.2.1 x.2.2.2.1 y.2.2.2.1 x.2.2.2.2.1 x.2.2.2.2.2.1 x.2.2.2.2.2.2.1 y.2.2.2.2.2.2.2 (MI vs n now k) ∧ EQ x'.2.2.2.2.2.2.2.2 (MI vs n now k))
        (fun z z' => z.1 = z'.1 ∧ RF n z.2.1 z.2.2.1 y.2.2.2.1 z.2.2.2.1 z.2.2.2.2.1 z.2.2.2.2.2.1 y.2.2.2.2.2.2.2 (MI vs n now m) ∧ EQ z'.2.2.2.2.2.2.2 (MI vs n now m)) m
        ((0 : Int32), (0 : Int32), y.2.1, y.2.2.1, y.2.2.2.2.1, y.2.2.2.2.2.1, y.2.2.2.2.2.2.1, stack, thing) ((0 : Int32), (0 : Int32), len, top, at', wrong, isAsked, asked, w) ⟨rfl, rfl, rfl, hy, hw⟩ (by
          rintro k ⟨acc, i, u1, u2, u3, u4, u5, u6, u7⟩ ⟨acc', i', v1, v2, v3, v4, v5, v6, x⟩ hk ⟨h1, h2, h3, h4, h5⟩
          have h1 : acc = acc' := h1
          have h2 : i = _ := h2
          have h3 : i' = _ := h3
          subst h1 h2 h3
          have h4 : RF n u1 u2 y.2.2.2.1 u3 u4 u5 y.2.2.2.2.2.2.2 (MI vs n now k) := h4
          have h5 : EQ x (MI vs n now k) := h5
          obtain ⟨g, eg, hg1, hg2⟩ := L_go1 h4 hv hc u6 u7
          obtain ⟨g', eg', hg1', hg2'⟩ := L_goMorning (MI_ri h.ri k) h5 hm hc v1 v2 v3 v4 v5 v6
          have hu : AW vs n (MI vs n now k) < 128 := bm_128 hn
          simp (disch := omega) only [X10_later_s39, X11_later_s42, i_ge, ey1, eg, eg', hg1, hg1', Option.bind_some, o_s, pu_bit, pu_has, bi_if]
          refine ⟨_, _, rfl, rfl, ?_, rfl, rfl, hg2, hg2'⟩
          show acc + _ = acc + _
          cases (AW vs n (MI vs n now k)).testBit q <;> rfl) (by
          rintro ⟨acc, i, u1, u2, u3, u4, u5, u6, u7⟩ ⟨acc', i', v1, v2, v3, v4, v5, v6, x⟩ ⟨h1, h2, h3, h4, h5⟩
          have h2 : i = _ := h2
          have h3 : i' = _ := h3
          subst h2 h3
          refine ⟨(acc, u1, u2, u3, u4, u5, u6, u7), (acc', v1, v2, v3, v4, v5, v6, x), ?_, ?_, h1, h4, h5⟩
          · simp (disch := omega) only [X10_later_s39, i_le]
          · simp (disch := omega) only [X11_later_s42, i_le]) (by omega)
      obtain ⟨z0, z1, z2, z3, z4, z5, z6, z7⟩ := z
      obtain ⟨z0', z1', z2', z3', z4', z5', z6', z7'⟩ := z'
      have hz1 : z0 = z0' := hz1
      subst hz1
      have hz2 : RF n z1 z2 y.2.2.2.1 z3 z4 z5 y.2.2.2.2.2.2.2 (MI vs n now m) := hz2
      have hz3 : EQ z7' (MI vs n now m) := hz3
      obtain ⟨g, eg, hg⟩ := L_wakers hz2 hv hc z6 z7
      obtain ⟨g', eg', hg'⟩ := L_awake (MI_ri h.ri m) hz3 hm hc z1' z2' z3' z4' z5' z6'
      obtain ⟨t, t', t'', et, et', et'', ht⟩ := TO.both tnum row (z0.toInt64) ((o32 (AW vs n (MI vs n now m))).toInt64)
      simp (disch := omega) only [X10_later, X11_later, ho, ho', i1, i2, i3, Option.bind_some, if_true, if_false, ey, ew, ez, ez', un, ey1, eg, eg', hg, hg', et, et', et'', gi_o, o_la, o_cl]
      rw [if_neg (by decide), if_neg (by decide), if_neg (by decide)]
      refine ⟨_, _, rfl, rfl, ?_, ht⟩
      show z4 q = z7' (14 + q)
      rw [hz3 _ (by omega), hz2.sle (by omega)]
  · simp only [X10_later, X11_later, ho, ho', Option.bind_some, if_true]
    exact ⟨_, _, rfl, rfl, rfl, ht⟩
end MW
