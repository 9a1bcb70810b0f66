/-! ===== the pure level: week, what is read and one act done ===== -/
section WKA
variable {t f : Nat} {c : Nat → Nat} {signs text : Nat → Int32}
theorem wps_0 (hg : ∀ i, i < f → TaO t c i) : ∀ k, wps c k ≤ f → (TaS c (wps c k)).2 = 0
  | 0, _ => rfl
  | k + 1, h => by
    have ew : wps c (k + 1) = wps c k + 1 + wdO (c (wps c k)) := rfl
    have ih := wps_0 hg k (by omega)
    obtain ⟨i, ei⟩ : ∃ i, wps c k = i := ⟨_, rfl⟩
    rw [ei] at ew ih
    obtain ⟨-, -, hor⟩ := hg i (by omega)
    have hne : ¬ wdO (c i) = 0 := by
      rcases hor with ⟨-, h⟩ | ⟨h, -⟩
      · exact h
      · exact absurd ih h
    have hS1 := TaS_0 (c := c) ih
    have hS2 : TaS c (i + 2) = (c i, wdO (c i) - 1) := by
      rw [TaS_1 (c := c) (i := i + 1) (by rw [hS1]; exact hne), hS1]
    have h2 := wdO_2 (c i)
    rw [ew]
    rcases (show wdO (c i) = 1 ∨ wdO (c i) = 2 by omega) with w | w
    · rw [w, show i + 1 + 1 = i + 2 by omega, hS2, w]
    · rw [w, show i + 1 + 2 = (i + 2) + 1 by omega, TaS_1 (c := c) (i := i + 2) (by rw [hS2, w]; exact Nat.one_ne_zero), hS2, w]
      rfl
theorem wps_a (hg : ∀ i, i < f → TaO t c i) {k : Nat} (h : wps c (k + 1) ≤ f) : ¬ wdO (c (wps c k)) = 0 ∧ wps c k < t ∧ wps c k + 1 < t ∧ 48 ≤ c (wps c k + 1) ∧ c (wps c k + 1) ≤ 57 ∧ (wdO (c (wps c k)) = 2 → wps c k + 2 < t ∧ 48 ≤ c (wps c k + 2) ∧ c (wps c k + 2) ≤ 57) := by
  have ew : wps c (k + 1) = wps c k + 1 + wdO (c (wps c k)) := rfl
  have h0 := wps_0 hg k (by omega)
  obtain ⟨i, ei⟩ : ∃ i, wps c k = i := ⟨_, rfl⟩
  rw [ei] at ew h0 ⊢
  obtain ⟨g1, -, hor⟩ := hg i (by omega)
  have hne : ¬ wdO (c i) = 0 := by
    rcases hor with ⟨-, h⟩ | ⟨h, -⟩
    · exact h
    · exact absurd h0 h
  have hS1 := TaS_0 (c := c) h0
  have hS2 : TaS c (i + 2) = (c i, wdO (c i) - 1) := by
    rw [TaS_1 (c := c) (i := i + 1) (by rw [hS1]; exact hne), hS1]
  obtain ⟨g2, -, hor2⟩ := hg (i + 1) (by omega)
  rw [hS1] at hor2
  have hd : 48 ≤ c (i + 1) ∧ c (i + 1) ≤ 57 := by
    rcases hor2 with ⟨h, -⟩ | ⟨-, h, h', -⟩
    · exact absurd h hne
    · exact ⟨h, h'⟩
  refine ⟨hne, g1, g2, hd.1, hd.2, fun w => ?_⟩
  obtain ⟨g3, -, hor3⟩ := hg (i + 2) (by omega)
  rw [hS2, w] at hor3
  rcases hor3 with ⟨h, -⟩ | ⟨-, h, h', -⟩
  · exact absurd h Nat.one_ne_zero
  · exact ⟨g3, h, h'⟩
theorem L_rd (hT : TC t c signs text) (hf : f ≤ t) (hf2 : f ≤ 60) (hb : ¬ TaO t c f) (hg : ∀ i, i < f → TaO t c i) (acts : Nat → Int32) : ∃ z, lp (fun x13 : Int32 × Int32 × Int32 × (Nat → Int32) => X11_week_s13 (o32 t) text x13.1 x13.2.1 x13.2.2.1 x13.2.2.2) 1000 ((0 : Int32), (0 : Int32), (-1 : Int32), acts) = some z ∧ (((f = t ∧ (TaS c f).2 = 0) ∧ ∃ m, m ≤ 60 ∧ wps c m = t ∧ z.1 = o32 m ∧ z.2.1 = o32 t ∧ z.2.2.1 = -1 ∧ AcR c m z.2.2.2) ∨ (¬ (f = t ∧ (TaS c f).2 = 0) ∧ X11_wasRight (o32 t) z.2.1 z.2.2.1 = some (0, o32 f))) := by
  have ht := hT.1
  have bt : X11_beginText (o32 t) 60 = ((0 : Int32), o32 t, o32 60, (0 : Int32), (-1 : Int32)) := rfl
  have W : (X11_fine (o32 f) = 0) = True := fi_o (by omega)
  refine lp_inv (fun k x => (wps c k ≤ f ∧ x.1 = o32 k ∧ x.2.1 = o32 (wps c k) ∧ x.2.2.1 = -1 ∧ AcR c k x.2.2.2) ∨ (x.2.2.1 = o32 f ∧ ¬ (f = t ∧ (TaS c f).2 = 0))) _ 100 0 1000 _ ?_ (Or.inl ⟨Nat.zero_le f, rfl, rfl, rfl, fun j hj => absurd hj (Nat.not_lt_zero j)⟩) (by decide)
  rintro k ⟨q, at', w, ac⟩ - hk hor
  rcases hor with ⟨h1, h2, h3, h4, h5⟩ | ⟨h1, h2⟩
  · have h2 : q = _ := h2
    have h3 : at' = _ := h3
    have h4 : w = _ := h4
    subst h2 h3 h4
    have h5 : AcR c k ac := h5
    have hk1 := wps_le c k
    have hz := wps_0 hg k h1
    rcases Nat.lt_or_ge (wps c k) f with hlt | hge
    · right
      obtain ⟨y, ey, hy⟩ := L_ra hT hf hf2 hb hg hlt hz h5
      refine ⟨by omega, (o32 (k + 1), y.1, y.2.1, y.2.2), ?_, ?_⟩
      · show X11_week_s13 (o32 t) text (o32 k) (o32 (wps c k)) (-1) ac = _
        unfold X11_week_s13
        rw [if_neg (by rw [fi_m]; exact id), bt]
        dsimp only
        rw [i_ge (by omega) (by omega), ey, Option.bind_some, o_s]
      · rcases hy with ⟨y1, y2, y3, y4, -⟩ | ⟨y1, y2⟩
        · exact Or.inl ⟨y4, rfl, y1, y2, y3⟩
        · exact Or.inr ⟨y1, y2⟩
    · have hef : wps c k = f := by omega
      by_cases hft : f = t
      · left
        refine ⟨(o32 k, o32 (wps c k), -1, ac), ?_, Or.inl ⟨⟨hft, by rw [← hef]; exact hz⟩, k, by omega, by omega, rfl, by show o32 _ = o32 _; rw [hef, hft], rfl, h5⟩⟩
        show X11_week_s13 (o32 t) text (o32 k) (o32 (wps c k)) (-1) ac = _
        unfold X11_week_s13
        rw [if_neg (by rw [fi_m]; exact id), bt]
        dsimp only
        rw [i_le (by omega) (by omega)]
      · right
        refine ⟨by omega, (o32 (k + 1), o32 f, o32 f, ac), ?_, Or.inr ⟨rfl, fun e => hft e.1⟩⟩
        show X11_week_s13 (o32 t) text (o32 k) (o32 (wps c k)) (-1) ac = _
        unfold X11_week_s13
        rw [if_neg (by rw [fi_m]; exact id), bt]
        dsimp only
        rw [hef, i_ge (by omega) (by omega)]
        unfold X11_readAct
        rw [L_he hT (by decide) (by omega), Option.bind_some, ft_m]
        by_cases c1 : f < t ∧ f < 60
        · have hc := (hT.2 f (by omega)).1
          have h0 : wdO (c f) = 0 := by
            apply Classical.byContradiction
            intro hne
            exact hb ⟨c1.1, c1.2, Or.inl ⟨by rw [← hef]; exact hz, hne⟩⟩
          have hk0 : ¬ (c f = 108 ∨ c f = 110) ∧ ¬ (c f = 112 ∨ c f = 115 ∨ c f = 116) := by
            unfold wdO at h0
            split at h0
            · cases h0
            · rename_i e1
              split at h0
              · cases h0
              · rename_i e2
                exact ⟨e1, e2⟩
          have ne : ∀ v, v < 256 → ¬ c f = v → ¬ o32 (c f) = o32 v := fun v hv h => by rw [o_eq (by omega) (by omega)]; exact h
          rw [if_pos c1, if_neg (show ¬ o32 (c f) = (110 : Int32) from ne 110 (by decide) (by omega)), if_neg (show ¬ o32 (c f) = (116 : Int32) from ne 116 (by decide) (by omega)), if_neg (show ¬ o32 (c f) = (112 : Int32) from ne 112 (by decide) (by omega)), if_neg (show ¬ o32 (c f) = (115 : Int32) from ne 115 (by decide) (by omega)), if_neg (show ¬ o32 (c f) = (108 : Int32) from ne 108 (by decide) (by omega)), Option.bind_some, o_s]
        · rw [if_neg c1, if_neg (by decide), if_neg (by decide), if_neg (by decide), if_neg (by decide), if_neg (by decide), Option.bind_some, o_s]
  · left
    have h1 : w = _ := h1
    subst h1
    refine ⟨(q, at', o32 f, ac), ?_, Or.inr ⟨h2, L_wr (by omega)⟩⟩
    show X11_week_s13 (o32 t) text q at' (o32 f) ac = _
    unfold X11_week_s13
    rw [if_pos (by rw [W]; exact True.intro)]
end WKA
section WKB
variable {vs : (Nat → Int32) → Int32} {n t : Nat} {c : Nat → Nat} {signs text : Nat → Int32} {day unmet : Int32} {skill pills slept woken wanted now : Nat → Int32} {size : Int32} {code : Nat → Int32} {ruleSize : Int32} {rule : Nat → Int32}
theorem L_act (h : RF n day unmet skill pills slept woken wanted now) (hT : TC t c signs text) (hv : RV vs size code) (hm : RM vs ruleSize rule) (hc : VC vs) (stack thing : Nat → Int32) (len top at' wrong isAsked : Int32) (asked : Nat → Int32) {i : Nat} {a0 a1 a2 : Int32} (hne : ¬ wdO (c i) = 0) (hi : i < t) (hi1 : i + 1 < t) (d1 : 48 ≤ c (i + 1)) (d2 : c (i + 1) ≤ 57) (hd : wdO (c i) = 2 → i + 2 < t ∧ 48 ≤ c (i + 2) ∧ c (i + 2) ≤ 57) (e0 : a0 = o32 (c i)) (e1 : a1 = o32 (c (i + 1) - 48)) (e2 : wdO (c i) = 2 → a2 = o32 (c (i + 2) - 48)) : ∃ y y', X10_act (o32 t) signs (o32 n) day unmet skill pills slept woken wanted size code stack thing (o32 i) = some y ∧ X11_act (o32 n) len top at' wrong ruleSize isAsked now rule asked a0 a1 a2 = some y' ∧ ((0 ≤ y.1 ∧ y'.1 = 1) ∨ (¬ 0 ≤ y.1 ∧ y'.1 = 0)) ∧ RF n y.2.1 y.2.2.1 y.2.2.2.1 y.2.2.2.2.1 y.2.2.2.2.2.1 y.2.2.2.2.2.2.1 y.2.2.2.2.2.2.2.1 y'.2.2.2.2.2.2.1 := by
  have ht := hT.1
  have hn := h.nn
  have h7 := p2_7 hn
  have hri := h.ri
  have E2 : o32 i + 2 = o32 (i + 2) := o_add i 2
  obtain ⟨v, ev⟩ : ∃ v, X9_digitAt (o32 t) signs (o32 (i + 2)) = some v := by
    by_cases cd : i + 2 < t ∧ 48 ≤ c (i + 2) ∧ c (i + 2) ≤ 57
    · exact ⟨_, L_dg hT cd.1 cd.2.1 cd.2.2⟩
    · exact ⟨_, L_dgn hT (by omega) cd⟩
  have ev2 : wdO (c i) = 2 → v = a2 := by
    intro w
    obtain ⟨b1, b2, b3⟩ := hd w
    rw [L_dg hT b1 b2 b3] at ev
    rw [e2 w]
    exact (Option.some.inj ev).symm
  have g0 : ∀ x, x < 1000 → ((0 : Int32) ≤ o32 x) := fun x hx => o_ge0 x (by omega)
  have neg : ∀ r : Int32, r = -1 ∨ r = -2 → ¬ (0 : Int32) ≤ r := by
    rintro r (rfl | rfl) <;> decide
  unfold X10_act X11_act
  rw [o_s, E2, L_dg hT hi1 d1 d2, ev, L_at hT hi, Option.bind_some, Option.bind_some, Option.bind_some, e0, ← e1]
  rcases wdO_k hne with ⟨w, k | k⟩ | ⟨w, k | k⟩ | ⟨w, k⟩
  · rw [k, if_neg (by decide), if_neg (by decide), if_neg (by decide), if_neg (by decide), if_neg (by decide), if_neg (by decide), if_neg (by decide), if_neg (by decide), if_neg (by decide), if_neg (by decide), if_neg (by decide), if_neg (by decide), if_neg (by decide), if_neg (by decide)]
    rcases L_lea h a1 with ⟨r, w', hr, e3, e4, hR⟩ | ⟨q, x, w', hq, e5, x0, x1, e3, e4, -, ⟨z, ez, hz⟩, hR⟩
    · rw [e3, e4, Option.bind_some, Option.bind_some, if_neg (neg r hr)]
      exact ⟨_, _, rfl, rfl, Or.inr ⟨neg r hr, rfl⟩, hR⟩
    · rw [e3, e4, Option.bind_some, Option.bind_some, if_pos (by decide), ez, Option.bind_some]
      exact ⟨_, _, rfl, rfl, Or.inl ⟨g0 x (by omega), rfl⟩, hR.eq hz⟩
  · rw [k, if_pos (by rfl), if_pos (by rfl), e1]
    obtain ⟨y, ey, y1, y2⟩ := L_goBy h hv hc stack thing (m := c (i + 1) - 48) (by omega)
    obtain ⟨y', ey', y1', y2'⟩ := L_goMornings hri EQ.rf hm hc len top at' wrong isAsked asked (m := c (i + 1) - 48) (by omega)
    have hU := UP_lt (vs := vs) hri (c (i + 1) - 48)
    rw [ey, ey', Option.bind_some, Option.bind_some]
    refine ⟨_, _, rfl, rfl, Or.inl ⟨?_, rfl⟩, y2.eq y2'⟩
    show 0 ≤ y.1
    rw [y1]; exact g0 _ (by omega)
  · rw [k, if_neg (by decide), if_neg (by decide), if_neg (by decide), if_neg (by decide), if_neg (by decide), if_pos (by rfl), if_neg (by decide), if_neg (by decide), if_neg (by decide), if_neg (by decide), if_neg (by decide), if_pos (by rfl), ev2 w]
    rcases L_ski h a1 a2 with ⟨r, s', hr, e3, e4, hR⟩ | ⟨q, m, x, hq, e5, e6, x1, m1, e7, e3, e4, hR⟩
    · rw [e3, e4, Option.bind_some, Option.bind_some, if_neg (neg r hr)]
      exact ⟨_, _, rfl, rfl, Or.inr ⟨neg r hr, rfl⟩, hR⟩
    · rw [e3, e4, Option.bind_some, Option.bind_some, if_pos (by decide), e5, e6, gi_o (by omega) (by decide), o_cl (by omega)]
      exact ⟨_, _, rfl, rfl, Or.inl ⟨g0 (10 + x) (by omega), rfl⟩, hR⟩
  · rw [k, if_neg (by decide), if_neg (by decide), if_neg (by decide), if_neg (by decide), if_neg (by decide), if_neg (by decide), if_pos (by rfl), if_neg (by decide), if_neg (by decide), if_neg (by decide), if_neg (by decide), if_neg (by decide), if_neg (by decide), if_pos (by rfl), ev2 w]
    rcases L_turn h a1 a2 with ⟨e3, e4⟩ | ⟨p, q, x, hp, hq, hpq, e5, e6, x1, x2, e7, e8, e3, e4, hR⟩
    · rw [e3, e4, Option.bind_some, Option.bind_some, if_pos rfl]
      exact ⟨_, _, rfl, rfl, Or.inr ⟨neg (-1) (Or.inl rfl), rfl⟩, h⟩
    · rw [e3, e4, Option.bind_some, Option.bind_some, if_neg (by decide), e5, e6, o_la, gi_o (by omega) (by decide), gi_o (by omega) (by decide), o_cl (by omega), e8]
      exact ⟨_, _, rfl, rfl, Or.inl ⟨g0 x (by omega), rfl⟩, hR⟩
  · rw [k, if_neg (by decide), if_neg (by decide), if_pos (by rfl), if_neg (by decide), if_neg (by decide), if_pos (by rfl), ev2 w]
    rcases L_pil h a1 a2 with ⟨r, hr, e3, e4⟩ | ⟨q, m, x, hq, e5, e6, x1, e7, e3, e4, hR⟩
    · rw [e3, e4, Option.bind_some, Option.bind_some, if_neg (neg r hr)]
      exact ⟨_, _, rfl, rfl, Or.inr ⟨neg r hr, rfl⟩, h⟩
    · rw [e3, e4, Option.bind_some, Option.bind_some, if_pos (by decide), e5, e6, o_la, gi_o (by omega) (by decide), gi_o (by omega) (by decide), o_cl (by omega), e7]
      exact ⟨_, _, rfl, rfl, Or.inl ⟨g0 x (by omega), rfl⟩, hR⟩
end WKB
