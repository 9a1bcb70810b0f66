/-! ===== the pure level: rule, law ===== -/
section RLW
variable {t : Nat} {c : Nat → Nat} {signs text : Nat → Int32}
theorem by_na {b : Nat} (h : b < 256) : vp_nar .byte ((o32 b).toInt8.toInt32) = (o32 b).toInt8.toInt32 := by
  have h1 : ∀ b : Fin 256, vp_nar .byte ((o32 b.val).toInt8.toInt32) = (o32 b.val).toInt8.toInt32 := by decide +kernel
  exact h1 ⟨b, h⟩
/-- the text is laid into a rule -/
theorem L_cpy (hT : TC t c signs text) (h40 : t ≤ 40) (rule : Nat → Int32) : ∃ z, lp (fun x26 : Int32 × (Nat → Int32) => X11_rule_s26 (o32 t) text x26.1 x26.2) 1000 ((0 : Int32), rule) = some z ∧ ∀ i, i < t → z i = text i := by
  refine lp_ct (f := fun x26 : Int32 × (Nat → Int32) => X11_rule_s26 (o32 t) text x26.1 x26.2) (fun k x => x.1 = o32 k ∧ ∀ i, i < k → x.2 i = text i) (fun z => ∀ i, i < t → z i = text i) t ((0 : Int32), rule) ⟨rfl, fun i hi => absurd hi (Nat.not_lt_zero i)⟩ ?_ ?_ (by omega)
  · rintro k ⟨i, a⟩ hk ⟨h1, h2⟩
    have h1 : i = _ := h1
    subst h1
    have hb := hT.2 k (by omega)
    refine ⟨(o32 (k + 1), upd a k (text k)), ?_, rfl, fun j hj => ?_⟩
    · show X11_rule_s26 (o32 t) text (o32 k) a = _
      unfold X11_rule_s26
      rw [i_ge hk (by omega), gi_o (by omega) (by decide), gi_o (by omega) (by decide), o_cl (by omega), o_s, hb.2.2, by_na hb.1]
    · show upd a k (text k) j = text j
      by_cases e : j = k
      · subst e; exact pk_us
      · rw [pk_un e]; exact h2 j (by omega)
  · rintro ⟨i, a⟩ ⟨h1, h2⟩
    have h1 : i = _ := h1
    subst h1
    refine ⟨a, ?_, h2⟩
    show X11_rule_s26 (o32 t) text (o32 t) a = _
    unfold X11_rule_s26
    rw [i_le (Nat.le_refl t) (by omega)]
end RLW
theorem TO.bot (num row : Nat → Int64) (v u : Int64) : ∃ y y' y'', X2_tellsBoth num v u = some y ∧ X11_tell 0 row v = some y' ∧ X11_tell y'.1 y'.2 u = some y'' ∧ y.1 = o32 2 ∧ y''.1 = o32 2 ∧ ∀ k, k < 2 → y.2 k = y''.2 k := by
  obtain ⟨y, y', e, e', h1, h1', h2⟩ := TO.ad (m := 0) (num := num) (row := row) (fun k hk => absurd hk (Nat.not_lt_zero k)) (by decide) v
  obtain ⟨z, z', f, f', g1, g1', g2⟩ := TO.ad (m := 1) (num := y.2) (row := y'.2) h2 (by decide) u
  refine ⟨z, y', z', ?_, e', ?_, g1, g1', g2⟩
  · unfold X2_tellsBoth
    show (X2_adds (o32 0) num v).bind _ = _
    rw [e, Option.bind_some, h1]
    show (X2_adds (o32 1) y.2 u).bind _ = _
    rw [f]
    rfl
  · rw [h1']; exact f'
section MRL
variable {size typed : Int32} {signs text : Nat → Int32} {vs : (Nat → Int32) → Int32} {n : Nat} {day unmet : Int32} {skill pills slept woken wanted now : Nat → Int32} {csz : Int32} {code : Nat → Int32} {ruleSize : Int32} {rule : Nat → Int32} {tsz rm : Int32} {tnum row : Nat → Int64}
theorem M_rule (hx : TX size typed signs text) (waiting code0 asked : Nat → Int32) (ruleSize : Int32) (rule : Nat → Int32) : ∃ y y', X10_readsSpare size signs waiting code0 = some y ∧ X11_rule typed ruleSize text rule asked = some y' ∧ TX y.2.1 y'.2.1 signs text ∧ ((y.1 < 0 ∧ y'.1 = 0 ∧ ∃ vs', VC vs' ∧ RV vs' y.2.2.2.2.2.2.2.2.1 y.2.2.2.2.2.2.2.2.2 ∧ RM vs' y'.2.2.2.2.2.2.2.1 y'.2.2.2.2.2.2.2.2.2) ∨ (¬ y.1 < 0 ∧ y'.1 = -1 - y.1 ∧ y'.2.2.2.2.2.2.2.1 = ruleSize ∧ y'.2.2.2.2.2.2.2.2.2 = rule)) := by
  obtain ⟨t, c, rfl, rfl, hT⟩ := hx.tc
  obtain ⟨y, ey, hy0, hy1, hy2⟩ := L_rsp hT waiting code0
  obtain ⟨w, ew, hw0, hw1, hw2⟩ := L_rr hT asked
  have hemp : TX y.2.1 w.2.1 signs text := by rw [hy0, hw0]; exact hx.emp
  cases hok : okR t c with
  | true =>
    obtain ⟨k1, k2, k3, k4⟩ := hy1 hok
    obtain ⟨z, ez, hz⟩ := L_cpy hT k3 rule
    refine ⟨y, _, ey, by
      unfold X11_rule
      rw [ew, Option.bind_some, if_neg (by rw [hw1 hok]; decide), ez, Option.bind_some], hemp, Or.inl ⟨by rw [k1]; decide, rfl, VsL (cdR t c), VsL_vc (cdR_v t c), k4, L_rm hT hok (fun i h1 _ => hz i h1)⟩⟩
  | false =>
    obtain ⟨k1, k2⟩ := hy2 hok
    obtain ⟨k3, k4⟩ := hw2 hok
    refine ⟨y, _, ey, by
      unfold X11_rule
      rw [ew, Option.bind_some, if_pos k3], hemp, Or.inr ⟨by rw [k1]; exact o_nn _ (by omega), by rw [k1, k4], rfl, rfl⟩⟩
theorem M_law (h : RF n day unmet skill pills slept woken wanted now) (hx : TX size typed signs text) (hv : RV vs csz code) (hm : RM vs ruleSize rule) (hc : VC vs) (hto : TO tsz rm tnum row) (waiting stack thing code0 sstack sthing otherRule asked : Nat → Int32) : ∃ y y', X10_law size signs tsz tnum (o32 n) day skill pills slept wanted waiting csz code stack thing code0 sstack sthing = some y ∧ X11_law (o32 n) typed rm ruleSize now text row rule otherRule asked = some y' ∧ y.1 = y'.1 ∧ TX y.2.1 y'.2.1 signs text ∧ TO y.2.2.1 y'.2.2.1 y.2.2.2.1 y'.2.2.2.2.2.2.2.2.2.2.1 ∧ y'.2.2.2.2.2.2.2.2.1 = ruleSize := by
  have hn := h.nn
  obtain ⟨t, c, rfl, rfl, hT⟩ := hx.tc
  obtain ⟨y, ey, hy0, hy1, hy2⟩ := L_rsp hT waiting code0
  obtain ⟨w, ew, hw0, hw1, hw2⟩ := L_rr hT asked
  have hemp : TX y.2.1 w.2.1 signs text := by rw [hy0, hw0]; exact hx.emp
  cases hok : okR t c with
  | true =>
    obtain ⟨k1, k2, k3, k4⟩ := hy1 hok
    obtain ⟨z, ez, hz⟩ := L_cpy hT k3 otherRule
    have hm2 : RM (VsL (cdR t c)) (o32 t) z := L_rm hT hok (fun i h1 _ => hz i h1)
    have hc2 : VC (VsL (cdR t c)) := VsL_vc (cdR_v t c)
    obtain ⟨a1, ea1, ha1⟩ := L_wakers h k4 hc2 sstack sthing
    obtain ⟨a2, ea2, ha2⟩ := L_wakers h hv hc stack thing
    obtain ⟨b2, eb2, hb2⟩ := L_awake h.ri EQ.rf hm hc w.2.2.1 w.2.2.2.1 w.2.2.2.2.1 w.2.2.2.2.2.1 w.2.2.2.2.2.2 asked
    obtain ⟨b1, eb1, hb1⟩ := L_awake h.ri EQ.rf hm2 hc2 b2.2.1 b2.2.2.1 b2.2.2.2.1 b2.2.2.2.2.1 b2.2.2.2.2.2.1 b2.2.2.2.2.2.2
    obtain ⟨e, e', e'', ee, ee', ee'', q1, q2, q3⟩ := TO.bot tnum row ((J6_bitCount_0f7a4 a1.1).toInt64) ((J6_bitCount_0f7a4 a2.1).toInt64)
    have h12 : b1.1 = a1.1 := by rw [hb1, ha1]
    have h22 : b2.1 = a2.1 := by rw [hb2, ha2]
    obtain ⟨u, u', eu, eu', hu⟩ := lp_ct2 (f := fun x59 : Int32 × Int32 × (Nat → Int64) × (Nat → Int32) × (Nat → Int32) => X10_law_s59 (o32 n) day skill slept wanted y x59.1 x59.2.1 x59.2.2.1 x59.2.2.2.1 x59.2.2.2.2) (f' := fun x125 : Int32 × Int32 × Int32 × Int32 × Int32 × Int32 × Int32 × (Nat → Int64) × (Nat → Int32) => X11_law_s125 (o32 n) (o32 t) now z x125.1 x125.2.1 x125.2.2.1 x125.2.2.2.1 x125.2.2.2.2.1 x125.2.2.2.2.2.1 x125.2.2.2.2.2.2.1 x125.2.2.2.2.2.2.2.1 x125.2.2.2.2.2.2.2.2) (fun k x x' => x.1 = o32 k ∧ x'.1 = o32 k ∧ x.2.1 = o32 (2 + k) ∧ x'.2.1 = o32 (2 + k) ∧ ∀ j, j < 2 + k → x.2.2.1 j = x'.2.2.2.2.2.2.2.1 j) (fun v v' => TO v.1 v'.1 v.2.1 v'.2.2.2.2.2.2.1) n ((0 : Int32), e.1, e.2, a1.2.1, a1.2.2) ((0 : Int32), e''.1, b1.2.1, b1.2.2.1, b1.2.2.2.1, b1.2.2.2.2.1, b1.2.2.2.2.2.1, e''.2, b1.2.2.2.2.2.2) ⟨rfl, rfl, q1, q2, q3⟩ (by
      rintro k ⟨x0, x1, x2, x3, x4⟩ ⟨z0, z1, z2, z3, z4, z5, z6, z7, z8⟩ hk ⟨i1, i2, i3, i4, i5⟩
      have i1 : x0 = _ := i1
      have i2 : z0 = _ := i2
      have i3 : x1 = _ := i3
      have i4 : z1 = _ := i4
      subst i1 i2 i3 i4
      have i5 : ∀ j, j < 2 + k → x2 j = z7 j := i5
      obtain ⟨v, ev, hv'⟩ := L_needers h k4 hc2 x3 x4 (q := k) (set := WB n now k) hk (bm_128 hn)
      obtain ⟨v2, ev2, hv2⟩ := L_neededBy h.ri EQ.rf hm2 hc2 z2 z3 z4 z5 z6 z8 hk
      obtain ⟨o, o', eo, eo', ho1, ho2, ho3⟩ := TO.ad i5 (by omega) (v.1.toInt64)
      refine ⟨(o32 (k + 1), o.1, o.2, v.2.1, v.2.2), (o32 (k + 1), o'.1, v2.2.1, v2.2.2.1, v2.2.2.2.1, v2.2.2.2.2.1, v2.2.2.2.2.2.1, o'.2, v2.2.2.2.2.2.2), ?_, ?_, rfl, rfl, ho1, ho2, ho3⟩
      · show X10_law_s59 (o32 n) day skill slept wanted y (o32 k) (o32 (2 + k)) x2 x3 x4 = _
        unfold X10_law_s59
        rw [i_ge hk (by omega), L_wby h (by omega), Option.bind_some, ev, Option.bind_some, eo, Option.bind_some, o_s]
      · show X11_law_s125 (o32 n) (o32 t) now z (o32 k) (o32 (2 + k)) z2 z3 z4 z5 z6 z7 z8 = _
        unfold X11_law_s125
        rw [i_ge hk (by omega), ev2, Option.bind_some, show v2.1 = v.1 by rw [hv2, hv'], eo', Option.bind_some, o_s]) (by
      rintro ⟨x0, x1, x2, x3, x4⟩ ⟨z0, z1, z2, z3, z4, z5, z6, z7, z8⟩ ⟨i1, i2, i3, i4, i5⟩
      have i1 : x0 = _ := i1
      have i2 : z0 = _ := i2
      subst i1 i2
      refine ⟨(x1, x2, x3, x4), (z1, z2, z3, z4, z5, z6, z7, z8), ?_, ?_, 2 + n, by omega, i3, i4, i5⟩
      · show X10_law_s59 (o32 n) day skill slept wanted y (o32 n) x1 x2 x3 x4 = _
        unfold X10_law_s59
        rw [i_le (Nat.le_refl n) (by omega)]
      · show X11_law_s125 (o32 n) (o32 t) now z (o32 n) z1 z2 z3 z4 z5 z6 z7 z8 = _
        unfold X11_law_s125
        rw [i_le (Nat.le_refl n) (by omega)]) (by omega)
    refine ⟨_, _, by
      unfold X10_law
      rw [ey, Option.bind_some, if_pos (by rw [k1]; decide), ea1, Option.bind_some, ea2, Option.bind_some, ee, Option.bind_some, eu, Option.bind_some]
      rfl, by
      unfold X11_law
      rw [ew, Option.bind_some, if_neg (by rw [hw1 hok]; decide), eb2, Option.bind_some]
      show (lp (fun x26 : Int32 × (Nat → Int32) => X11_rule_s26 (o32 t) text x26.1 x26.2) 1000 ((0 : Int32), otherRule)).bind _ = _
      rw [ez, Option.bind_some, eb1, Option.bind_some, h12, ee', Option.bind_some, h22, ee'', Option.bind_some, eu', Option.bind_some]
      rfl, rfl, hemp, hu, rfl⟩
  | false =>
    obtain ⟨k1, k2⟩ := hy2 hok
    obtain ⟨k3, k4⟩ := hw2 hok
    refine ⟨_, _, by
      unfold X10_law
      rw [ey, Option.bind_some, if_neg (by rw [k1]; exact o_nn _ (by omega))], by
      unfold X11_law
      rw [ew, Option.bind_some, if_pos k3], by
      show (-10000 : Int32) - y.1 = (-10000 : Int32) - w.2.2.2.2.2.1
      rw [k1, k4], hemp, hto, rfl⟩
end MRL
