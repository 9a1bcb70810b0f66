/-! ===== the pure level: week ===== -/
section WKM
variable {vs : (Nat → Int32) → Int32} {n t m : Nat} {c : Nat → Nat} {signs text acts : Nat → Int32} {csz : Int32} {code : Nat → Int32} {ruleSize : Int32} {rule : Nat → Int32}
theorem wps_m (c : Nat → Nat) {k : Nat} : ∀ {m : Nat}, k ≤ m → wps c k ≤ wps c m
  | 0, h => by
    have : k = 0 := by omega
    rw [this]; exact Nat.le_refl _
  | m + 1, h => by
    by_cases e : k = m + 1
    · rw [e]; exact Nat.le_refl _
    · have := wps_m c (k := k) (m := m) (by omega)
      show wps c k ≤ wps c m + 1 + _
      omega
theorem L_wkl (hT : TC t c signs text) (hg : ∀ i, i < t → TaO t c i) (hv : RV vs csz code) (hm : RM vs ruleSize rule) (hc : VC vs) (hm60 : m ≤ 60) (hmt : wps c m = t) (hA : AcR c m acts) : ∀ (r k : Nat), m - k = r → k ≤ m → ∀ (day unmet : Int32) (skill pills slept woken wanted stack thing : Nat → Int32) (len top at' wrong isAsked : Int32) (now asked : Nat → Int32), RF n day unmet skill pills slept woken wanted now → ∃ z z' k', lp (fun x44 : Int32 × Int32 × Int32 × Int32 × Int32 × Int32 × (Nat → Int32) × (Nat → Int32) × (Nat → Int32) × (Nat → Int32) × (Nat → Int32) × (Nat → Int32) × (Nat → Int32) => X10_week_s44 (o32 t) signs (o32 n) csz code x44.1 x44.2.1 x44.2.2.1 x44.2.2.2.1 x44.2.2.2.2.1 x44.2.2.2.2.2.1 x44.2.2.2.2.2.2.1 x44.2.2.2.2.2.2.2.1 x44.2.2.2.2.2.2.2.2.1 x44.2.2.2.2.2.2.2.2.2.1 x44.2.2.2.2.2.2.2.2.2.2.1 x44.2.2.2.2.2.2.2.2.2.2.2.1 x44.2.2.2.2.2.2.2.2.2.2.2.2) (1000 - k) (o32 k, (0 : Int32), o32 (wps c k), o32 k, day, unmet, skill, pills, slept, woken, wanted, stack, thing) = some z ∧ lp (fun x72 : Int32 × Int32 × Int32 × Int32 × Int32 × Int32 × (Nat → Int32) × (Nat → Int32) => X11_week_s72 (o32 n) ruleSize rule (o32 m) acts x72.1 x72.2.1 x72.2.2.1 x72.2.2.2.1 x72.2.2.2.2.1 x72.2.2.2.2.2.1 x72.2.2.2.2.2.2.1 x72.2.2.2.2.2.2.2) (1000 - k) (o32 k, len, top, at', wrong, isAsked, now, asked) = some z' ∧ k' ≤ m ∧ z.1 = o32 k' ∧ z.2.1 = (if m ≤ k' then (0 : Int32) else 1) ∧ z'.1 = o32 k' ∧ RF n z.2.2.1 z.2.2.2.1 z.2.2.2.2.1 z.2.2.2.2.2.1 z.2.2.2.2.2.2.1 z.2.2.2.2.2.2.2.1 z.2.2.2.2.2.2.2.2.1 z'.2.2.2.2.2.2.1
  | 0, k, hr, hk, day, unmet, skill, pills, slept, woken, wanted, stack, thing, len, top, at', wrong, isAsked, now, asked, h => by
    have ht := hT.1
    have ek : k = m := by omega
    subst ek
    obtain ⟨q, eq⟩ : ∃ q, 1000 - k = q + 1 := ⟨999 - k, by omega⟩
    refine ⟨(o32 k, (0 : Int32), day, unmet, skill, pills, slept, woken, wanted, stack, thing), (o32 k, len, top, at', wrong, isAsked, now, asked), k, ?_, ?_, Nat.le_refl _, rfl, by rw [if_pos (Nat.le_refl k)], rfl, h⟩
    · rw [eq]
      apply lp_e
      show X10_week_s44 (o32 t) signs (o32 n) csz code (o32 k) 0 (o32 (wps c k)) (o32 k) day unmet skill pills slept woken wanted stack thing = _
      unfold X10_week_s44
      rw [hmt, i_le (Nat.le_refl t) (by omega)]
      split <;> rfl
    · rw [eq]
      apply lp_e
      show X11_week_s72 (o32 n) ruleSize rule (o32 k) acts (o32 k) len top at' wrong isAsked now asked = _
      unfold X11_week_s72
      rw [i_le (Nat.le_refl k) (by omega)]
  | r + 1, k, hr, hk, day, unmet, skill, pills, slept, woken, wanted, stack, thing, len, top, at', wrong, isAsked, now, asked, h => by
    have ht := hT.1
    have hkm : k < m := by omega
    have hle : wps c (k + 1) ≤ t := by rw [← hmt]; exact wps_m c (by omega)
    obtain ⟨a1, a2, a3, a4, a5, a6⟩ := wps_a hg hle
    obtain ⟨b1, b2, b3⟩ := hA k hkm
    have hci := (hT.2 (wps c k) (by omega)).1
    obtain ⟨y, y', ey, ey', hy, hR⟩ := L_act h hT hv hm hc stack thing len top at' wrong isAsked asked (i := wps c k) (a0 := acts (3 * k)) (a1 := acts (3 * k + 1)) (a2 := acts (3 * k + 2)) a1 a2 a3 a4 a5 a6 b1 b2 b3
    have e60 : (60 : Int32) = o32 60 := rfl
    have m3 : (3 : Int32) * o32 k = o32 (3 * k) := o_mul 3 k
    have E2 : o32 (3 * k) + 2 = o32 (3 * k + 2) := o_add (3 * k) 2
    have epos : o32 (wps c k) + (1 + o32 (wdO (c (wps c k)))) = o32 (wps c (k + 1)) := by
      rw [show (1 : Int32) = o32 1 from rfl, o_add, o_add]
      show o32 _ = o32 (wps c k + 1 + wdO (c (wps c k)))
      rw [Nat.add_assoc]
    obtain ⟨q, eq⟩ : ∃ q, 1000 - k = q + 1 := ⟨999 - k, by omega⟩
    have eq' : 1000 - (k + 1) = q := by omega
    have stepC : X10_week_s44 (o32 t) signs (o32 n) csz code (o32 k) 0 (o32 (wps c k)) (o32 k) day unmet skill pills slept woken wanted stack thing = some (.inl ((if 0 ≤ y.1 then o32 (k + 1) else o32 k), (if 0 ≤ y.1 then (0 : Int32) else 1), o32 (wps c (k + 1)), o32 (k + 1), y.2.1, y.2.2.1, y.2.2.2.1, y.2.2.2.2.1, y.2.2.2.2.2.1, y.2.2.2.2.2.2.1, y.2.2.2.2.2.2.2.1, y.2.2.2.2.2.2.2.2.1, y.2.2.2.2.2.2.2.2.2)) := by
      unfold X10_week_s44
      rw [e60, i_ge (by omega) (by decide), i_ge a2 (by omega), if_pos rfl, ey, Option.bind_some, L_at hT a2, Option.bind_some, wdO_o hci, epos, o_s]
    have stepM : X11_week_s72 (o32 n) ruleSize rule (o32 m) acts (o32 k) len top at' wrong isAsked now asked = if y'.1 = 0 then some (.inr (o32 k, y'.2.1, y'.2.2.1, y'.2.2.2.1, y'.2.2.2.2.1, y'.2.2.2.2.2.1, y'.2.2.2.2.2.2.1, y'.2.2.2.2.2.2.2)) else some (.inl (o32 (k + 1), y'.2.1, y'.2.2.1, y'.2.2.2.1, y'.2.2.2.2.1, y'.2.2.2.2.2.1, y'.2.2.2.2.2.2.1, y'.2.2.2.2.2.2.2)) := by
      unfold X11_week_s72
      rw [i_ge hkm (by omega), m3, o_s, E2, gi_o (by omega) (by decide), gi_o (by omega) (by decide), gi_o (by omega) (by decide), o_cl (by omega), o_cl (by omega), o_cl (by omega), ey', Option.bind_some, o_s]
    rcases hy with ⟨hy1, hy2⟩ | ⟨hy1, hy2⟩
    · rw [if_pos hy1, if_pos hy1] at stepC
      rw [hy2, if_neg (by decide)] at stepM
      obtain ⟨z, z', k', ez, ez', rest⟩ := L_wkl hT hg hv hm hc hm60 hmt hA r (k + 1) (by omega) (by omega) y.2.1 y.2.2.1 y.2.2.2.1 y.2.2.2.2.1 y.2.2.2.2.2.1 y.2.2.2.2.2.2.1 y.2.2.2.2.2.2.2.1 y.2.2.2.2.2.2.2.2.1 y.2.2.2.2.2.2.2.2.2 y'.2.1 y'.2.2.1 y'.2.2.2.1 y'.2.2.2.2.1 y'.2.2.2.2.2.1 y'.2.2.2.2.2.2.1 y'.2.2.2.2.2.2.2 hR
      rw [eq'] at ez ez'
      refine ⟨z, z', k', ?_, ?_, rest⟩
      · rw [eq]
        exact (lp_c q stepC).trans ez
      · rw [eq]
        exact (lp_c q stepM).trans ez'
    · rw [if_neg hy1, if_neg hy1] at stepC
      rw [hy2, if_pos rfl] at stepM
      obtain ⟨q', eqq⟩ : ∃ q', q = q' + 1 := ⟨q - 1, by omega⟩
      refine ⟨(o32 k, (1 : Int32), y.2.1, y.2.2.1, y.2.2.2.1, y.2.2.2.2.1, y.2.2.2.2.2.1, y.2.2.2.2.2.2.1, y.2.2.2.2.2.2.2.1, y.2.2.2.2.2.2.2.2.1, y.2.2.2.2.2.2.2.2.2), (o32 k, y'.2.1, y'.2.2.1, y'.2.2.2.1, y'.2.2.2.2.1, y'.2.2.2.2.2.1, y'.2.2.2.2.2.2.1, y'.2.2.2.2.2.2.2), k, ?_, ?_, by omega, rfl, by rw [if_neg (by omega)], rfl, hR⟩
      · rw [eq]
        refine (lp_c q stepC).trans ?_
        rw [eqq]
        apply lp_e
        show X10_week_s44 (o32 t) signs (o32 n) csz code (o32 k) 1 (o32 (wps c (k + 1))) (o32 (k + 1)) y.2.1 y.2.2.1 y.2.2.2.1 y.2.2.2.2.1 y.2.2.2.2.2.1 y.2.2.2.2.2.2.1 y.2.2.2.2.2.2.2.1 y.2.2.2.2.2.2.2.2.1 y.2.2.2.2.2.2.2.2.2 = _
        unfold X10_week_s44
        rw [if_neg (show ¬ (1 : Int32) = 0 by decide)]
        split
        · rfl
        · split <;> rfl
      · rw [eq]
        exact lp_e q stepM
end WKM
section WKN
variable {vs : (Nat → Int32) → Int32} {n : Nat} {day unmet : Int32} {skill pills slept woken wanted now signs text : Nat → Int32} {size typed : Int32} {csz : Int32} {code : Nat → Int32} {ruleSize : Int32} {rule : Nat → Int32} {tsz rm : Int32} {tnum row : Nat → Int64} {next psz um : Int32} {sN sD sU : Nat → Int32} {sK sP sL sW sT : Nat → Nat → Int32} {undos : Nat → Int32}
theorem M_week (h : RF n day unmet skill pills slept woken wanted now) (hx : TX size typed signs text) (hv : RV vs csz code) (hm : RM vs ruleSize rule) (hc : VC vs) (hto : TO tsz rm tnum row) (hp : PA n next psz um sN sD sU sK sP sL sW sT undos) (stack thing : Nat → Int32) (isAsked : Int32) (asked aside acts : Nat → Int32) : ∃ y y', X10_week size signs tsz tnum (o32 n) day unmet skill pills slept woken wanted next psz sN sD sU sK sP sL sW sT csz code stack thing = some y ∧ X11_week (o32 n) typed rm ruleSize isAsked um now text row rule asked undos aside acts = some y' ∧ y.1 = y'.1 ∧ TX y.2.1 y'.2.1 signs text ∧ TO y.2.2.1 y'.2.2.1 y.2.2.2.1 y'.2.2.2.2.2.2.2.2.2.2.2.1 ∧ RF n y.2.2.2.2.1 y.2.2.2.2.2.1 y.2.2.2.2.2.2.1 y.2.2.2.2.2.2.2.1 y.2.2.2.2.2.2.2.2.1 y.2.2.2.2.2.2.2.2.2.1 y.2.2.2.2.2.2.2.2.2.2.1 y'.2.2.2.2.2.2.2.2.2.2.1 ∧ PA n y.2.2.2.2.2.2.2.2.2.2.2.1 y.2.2.2.2.2.2.2.2.2.2.2.2.1 y'.2.2.2.2.2.2.2.2.2.1 y.2.2.2.2.2.2.2.2.2.2.2.2.2.1 y.2.2.2.2.2.2.2.2.2.2.2.2.2.2.1 y.2.2.2.2.2.2.2.2.2.2.2.2.2.2.2.1 y.2.2.2.2.2.2.2.2.2.2.2.2.2.2.2.2.1 y.2.2.2.2.2.2.2.2.2.2.2.2.2.2.2.2.2.1 y.2.2.2.2.2.2.2.2.2.2.2.2.2.2.2.2.2.2.1 y.2.2.2.2.2.2.2.2.2.2.2.2.2.2.2.2.2.2.2.1 y.2.2.2.2.2.2.2.2.2.2.2.2.2.2.2.2.2.2.2.2.1 y'.2.2.2.2.2.2.2.2.2.2.2.2.2.1 := by
  have hn := h.nn
  have hemp := hx.emp
  obtain ⟨t, c, rfl, rfl, hT⟩ := hx.tc
  have ht := hT.1
  have bt : X11_beginText (o32 t) 60 = ((0 : Int32), o32 t, o32 60, (0 : Int32), (-1 : Int32)) := rfl
  obtain ⟨f, hf, hf2, hb, hg⟩ := TaO_f t c
  have eF := L_af2 hT hf hf2 hb hg
  obtain ⟨z, ez, hz⟩ := L_rd hT hf hf2 hb hg acts
  obtain ⟨z0, z1, z2, z3⟩ := z
  rcases hz with ⟨⟨g1, g2⟩, m, m1, m2, m3, m4, m5, m6⟩ | ⟨hno, hwr⟩
  · subst g1
    rw [if_pos ⟨rfl, g2⟩] at eF
    have m3 : z0 = _ := m3
    have m4 : z1 = _ := m4
    have m5 : z2 = _ := m5
    subst m3 m4 m5
    have m7 : AcR c m z3 := m6
    have hwr : X11_wasRight (o32 f) (o32 f) (-1) = some (1, -1) := by
      rw [L_wr1 (by omega) (by omega), if_pos (Nat.le_refl f)]
    obtain ⟨k0, ek0, hPM⟩ := L_marks h hp
    obtain ⟨as, eas, has⟩ := L_lay (now := now) (t := aside)
    obtain ⟨w, w', k', ew, ew', hk', w1, w2, w3, hR⟩ := L_wkl (acts := z3) hT hg hv hm hc m1 m2 m7 (m - 0) 0 rfl (Nat.zero_le m) day unmet skill pills slept woken wanted stack thing (o32 f) (o32 60) (o32 f) (-1) isAsked now asked h
    obtain ⟨v0, v1, v2, v3, v4, v5, v6, v7, v8, v9, v10⟩ := w
    obtain ⟨u0, u1, u2, u3, u4, u5, u6, u7⟩ := w'
    have w1 : v0 = _ := w1
    have w2 : v1 = _ := w2
    have w3 : u0 = _ := w3
    subst w1 w2 w3
    have hR2 : RF n v2 v3 v4 v5 v6 v7 v8 u6 := hR
    obtain ⟨b, b', b'', eb, eb', eb'', hTO⟩ := TO.both tnum row ((if m ≤ k' then (0 : Int32) else 1).toInt64) (v3.toInt64)
    have eb1 : X11_tell 0 row (if o32 m ≤ o32 k' then (0 : Int64) else (1 : Int64)) = some b' := by
      rw [← eb']
      by_cases e : m ≤ k'
      · rw [i_le e (by omega), if_pos e]; rfl
      · rw [i_ge (by omega) (by omega), if_neg e]; rfl
    have eu : u6 36 = v3 := hR2.unm
    have k127 : ∀ nx sz, X10_week_k127 tnum k0 (o32 k') (if m ≤ k' then (0 : Int32) else 1) v2 v3 v4 v5 v6 v7 v8 v9 v10 nx sz = some (o32 k', X9_empties, b.1, b.2, v2, v3, v4, v5, v6, v7, v8, nx, sz, k0.1, k0.2.1, k0.2.2.1, k0.2.2.2.1, k0.2.2.2.2.1, k0.2.2.2.2.2.1, k0.2.2.2.2.2.2.1, k0.2.2.2.2.2.2.2, v9, v10) := by
      intro nx sz
      unfold X10_week_k127
      rw [eb, Option.bind_some]
    have k130 : ∀ nu us, X11_week_k130 (o32 f) row (o32 m) z3 as (o32 k') u1 u2 u3 u4 u5 u6 u7 nu us = some (o32 k', (0 : Int32), b''.1, (0 : Int32), u1, u2, u3, u4, u5, nu, u6, b''.2, u7, us, as, z3) := by
      intro nu us
      unfold X11_week_k130
      rw [eb1, Option.bind_some, gl36, tl36, eu, eb'', Option.bind_some, bt]
    have preC : ∀ r, (if o32 k' ≤ 0 then X10_week_k127 tnum k0 (o32 k') (if m ≤ k' then (0 : Int32) else 1) v2 v3 v4 v5 v6 v7 v8 v9 v10 next psz else ((X3_keepsMark next psz).bind fun y124 => X10_week_k127 tnum k0 (o32 k') (if m ≤ k' then (0 : Int32) else 1) v2 v3 v4 v5 v6 v7 v8 v9 v10 y124.1 y124.2)) = some r → X10_week (o32 f) signs tsz tnum (o32 n) day unmet skill pills slept woken wanted next psz sN sD sU sK sP sL sW sT csz code stack thing = some r := by
      intro r hr
      unfold X10_week
      rw [eF, Option.bind_some, if_pos (by decide), ek0, Option.bind_some]
      show (lp _ (1000 - 0) (o32 0, (0 : Int32), o32 (wps c 0), o32 0, day, unmet, skill, pills, slept, woken, wanted, stack, thing)).bind _ = _
      rw [ew, Option.bind_some]
      exact hr
    have preM : ∀ r, (if o32 k' ≤ 0 then X11_week_k130 (o32 f) row (o32 m) z3 as (o32 k') u1 u2 u3 u4 u5 u6 u7 um undos else ((X11_remember um undos 37 as).bind fun y127 => X11_week_k130 (o32 f) row (o32 m) z3 as (o32 k') u1 u2 u3 u4 u5 u6 u7 y127.1 y127.2)) = some r → X11_week (o32 n) (o32 f) rm ruleSize isAsked um now text row rule asked undos aside acts = some r := by
      intro r hr
      unfold X11_week
      rw [bt]
      dsimp only
      rw [ez, Option.bind_some]
      dsimp only [un]
      rw [hwr, Option.bind_some]
      dsimp only
      rw [if_neg (by decide), eas, Option.bind_some]
      show (lp _ (1000 - 0) (o32 0, o32 f, o32 60, o32 f, (-1 : Int32), isAsked, now, asked)).bind _ = _
      rw [ew', Option.bind_some]
      exact hr
    by_cases e0 : k' = 0
    · have c0 : o32 k' ≤ (0 : Int32) := by rw [e0]; decide
      refine ⟨_, _, preC _ (by rw [if_pos c0, k127]), preM _ (by rw [if_pos c0, k130]), rfl, hemp, hTO, hR2, hPM.1⟩
    · have c0 : ¬ o32 k' ≤ (0 : Int32) := by
        show ¬ o32 k' ≤ o32 0
        rw [o_le (by omega) (by decide)]; omega
      obtain ⟨kk, rr, ekk, err, hPA⟩ := L_kept hPM (w := as) has
      refine ⟨_, _, preC _ (by rw [if_neg c0, ekk, Option.bind_some, k127]), preM _ (by rw [if_neg c0, err, Option.bind_some, k130]), rfl, hemp, hTO, hR2, hPA⟩
  · rw [if_neg hno] at eF
    have hwr : X11_wasRight (o32 t) z1 z2 = some (0, o32 f) := hwr
    refine ⟨((-1 : Int32) - o32 f, X9_empties, tsz, tnum, day, unmet, skill, pills, slept, woken, wanted, next, psz, sN, sD, sU, sK, sP, sL, sW, sT, stack, thing), ((-1 : Int32) - o32 f, (0 : Int32), rm, (0 : Int32), o32 t, o32 60, z1, o32 f, isAsked, um, now, row, asked, undos, aside, z3), ?_, ?_, rfl, hemp, hto, h, hp⟩
    · unfold X10_week
      rw [eF, Option.bind_some, if_neg (o_nn f (by omega))]
    unfold X11_week
    rw [bt]
    dsimp only
    rw [ez, Option.bind_some]
    dsimp only [un]
    rw [hwr, Option.bind_some]
    dsimp only
    rw [if_pos rfl]
end WKN
