/-! ===== the pure level: mornings on both sides; the ROW ===== -/
section GM
variable {vs : (Nat → Int32) → Int32} {n : Nat} {a w : Nat → Int32} {ruleSize : Int32} {rule : Nat → Int32}
theorem L_goMorning (h : RI n a) (hw : EQ w a) (hm : RM vs ruleSize rule) (hc : VC vs) (len top at' wrong isAsked : Int32) (asked : Nat → Int32) : ∃ y, X11_goMorning (o32 n) len top at' wrong ruleSize isAsked rule asked 37 w = some y ∧ y.1 = o32 (AW vs n a) ∧ EQ y.2.2.2.2.2.2.2 (MO vs n a) := by
  have hn := h.1
  obtain ⟨y, ey, hy⟩ := L_awake h hw hm hc len top at' wrong isAsked asked
  have hu : AW vs n a < 128 := bm_128 hn
  have hM := MO_ri (vs := vs) h
  revert hM
  unfold MO
  generalize AW vs n a = up at hy hu ⊢
  intro hM
  obtain ⟨z, e, hz⟩ := lp_ct (f := fun x29 : Int32 × (Nat → Int32) => X11_goMorning_s29 (o32 n) 37 y x29.1 x29.2) (fun k x => x.1 = o32 k ∧ ∀ j, j < 37 → x.2 j = if j = 36 then J9_min_7cf53 9999 (a 36 + o32 (UM n a up)) else MP k up a j) (fun z => ∀ j, j < 37 → z j = if j = 36 then J9_min_7cf53 9999 (a 36 + o32 (UM n a up)) else MP n up a j) n ((0 : Int32), upd w 36 (J9_min_7cf53 9999 (w 36 + o32 (UM n a up)))) ⟨rfl, fun j hj => by
      show upd w 36 _ j = _
      by_cases h36 : j = 36
      · subst h36; rw [pk_us, if_pos rfl, hw 36 (by omega)]
      · rw [pk_un h36, if_neg h36, hw j hj]
        unfold MP
        rw [if_neg (by omega), if_neg (by omega), if_neg (by omega)]⟩ (by
    rintro k ⟨i, x⟩ hk ⟨h1, h2⟩
    have h1 : i = _ := h1
    subst h1
    have h2 : ∀ j, j < 37 → x j = if j = 36 then J9_min_7cf53 9999 (a 36 + o32 (UM n a up)) else MP k up a j := h2
    have g1 := h2 (7 + k) (by omega)
    have g2 := h2 (14 + k) (by omega)
    have g3 := h2 (21 + k) (by omega)
    rw [if_neg (by omega), MP_7 (by omega), if_neg (by omega)] at g1
    rw [if_neg (by omega), MP_14 (by omega) (by omega), if_neg (by omega)] at g2
    rw [if_neg (by omega), MP_21 (by omega) (by omega), if_neg (by omega)] at g3
    have hbi : X11_has y.1 (o32 k) = bi (up.testBit k) := by rw [hy, pu_has hu (by omega)]
    have fin : ∀ j, j < 37 → ¬ j = 7 + k → ¬ j = 14 + k → ¬ j = 21 + k → x j = if j = 36 then J9_min_7cf53 9999 (a 36 + o32 (UM n a up)) else MP (k + 1) up a j := by
      intro j hj n1 n2 n3
      rw [h2 j hj]
      by_cases h36 : j = 36
      · rw [if_pos h36, if_pos h36]
      · rw [if_neg h36, if_neg h36]
        unfold MP
        have c1 : (7 ≤ j ∧ j < 7 + k) ↔ (7 ≤ j ∧ j < 7 + (k + 1)) := by omega
        have c2 : (14 ≤ j ∧ j < 14 + k) ↔ (14 ≤ j ∧ j < 14 + (k + 1)) := by omega
        have c3 : (21 ≤ j ∧ j < 21 + k) ↔ (21 ≤ j ∧ j < 21 + (k + 1)) := by omega
        simp only [c1, c2, c3]
    cases hb : up.testBit k with
    | false =>
      refine ⟨(o32 (k + 1), upd (upd x (14 + k) (J9_min_7cf53 99 (x (14 + k) + 1))) (7 + k) (J9_max_7cf53 0 (x (7 + k) - 1))), ?_, rfl, fun j hj => ?_⟩
      · simp (disch := omega) only [X11_goMorning_s29, X11_goMorning_k65, X11_goMorning_k95, i_ge, o_la, gi_o, o_cl, o_s, hbi, bi_0, hb, if_true]
        rw [pk_un (f := x) (k := 14 + k) (j := 7 + k) (by omega)]
      · show upd (upd x (14 + k) _) (7 + k) _ j = _
        by_cases j1 : j = 7 + k
        · subst j1
          rw [pk_us, if_neg (by omega), MP_7 (by omega), if_pos (by omega), g1]
        · rw [pk_un j1]
          by_cases j2 : j = 14 + k
          · subst j2
            rw [pk_us, if_neg (by omega), MP_14 (by omega) (by omega), if_pos (by omega), g2, hb]
            rfl
          · rw [pk_un j2]
            by_cases j3 : j = 21 + k
            · subst j3
              rw [if_neg (by omega), MP_21 (by omega) (by omega), if_pos (by omega), g3, hb]
              rfl
            · exact fin j hj j1 j2 j3
    | true =>
      refine ⟨(o32 (k + 1), upd (upd (upd x (21 + k) (J9_min_7cf53 999 (x (21 + k) + 1))) (14 + k) 0) (7 + k) (J9_max_7cf53 0 (x (7 + k) - 1))), ?_, rfl, fun j hj => ?_⟩
      · simp (disch := omega) only [X11_goMorning_s29, X11_goMorning_k65, X11_goMorning_k95, i_ge, o_la, gi_o, o_cl, o_s, hbi, bi_0, hb]
        rw [if_neg (by decide), if_neg (by decide), pk_un (k := 14 + k) (j := 7 + k) (by omega), pk_un (k := 21 + k) (j := 7 + k) (by omega)]
      · show upd (upd (upd x (21 + k) _) (14 + k) _) (7 + k) _ j = _
        by_cases j1 : j = 7 + k
        · subst j1
          rw [pk_us, if_neg (by omega), MP_7 (by omega), if_pos (by omega), g1]
        · rw [pk_un j1]
          by_cases j2 : j = 14 + k
          · subst j2
            rw [pk_us, if_neg (by omega), MP_14 (by omega) (by omega), if_pos (by omega), hb]
            rfl
          · rw [pk_un j2]
            by_cases j3 : j = 21 + k
            · subst j3
              rw [pk_us, if_neg (by omega), MP_21 (by omega) (by omega), if_pos (by omega), g3, hb]
              rfl
            · rw [pk_un j3]; exact fin j hj j1 j2 j3) (by
    rintro ⟨i, x⟩ ⟨h1, h2⟩
    have h1 : i = _ := h1
    subst h1
    refine ⟨x, ?_, h2⟩
    simp (disch := omega) only [X11_goMorning_s29, i_le]) (by omega)
  have ez : z 35 = a 35 := by rw [hz 35 (by omega), if_neg (by omega), MP_hi hn (by omega)]
  refine ⟨(o32 up, y.2.1, y.2.2.1, y.2.2.2.1, y.2.2.2.2.1, y.2.2.2.2.2.1, y.2.2.2.2.2.2, upd z 35 (z 35 + 1)), ?_, rfl, fun j hj => ?_⟩
  · unfold X11_goMorning
    rw [ey, Option.bind_some, gl36, hy, L_unmet h hw, Option.bind_some, gl36, tl36, e, Option.bind_some, gl35, gl35, tl35]
  · show upd z 35 (z 35 + 1) j = _
    unfold MOu
    by_cases j1 : j = 35
    · subst j1; rw [pk_us, if_neg (by decide), if_pos rfl, ez]
    · rw [pk_un j1, hz j hj, if_neg j1]
end GM
/-- the row behind so many mornings -/
def MI (vs : (Nat → Int32) → Int32) (n : Nat) (a : Nat → Int32) : Nat → Nat → Int32
  | 0 => a
  | k + 1 => MO vs n (MI vs n a k)
/-- who woke on the last of so many -/
def UP (vs : (Nat → Int32) → Int32) (n : Nat) (a : Nat → Int32) : Nat → Nat
  | 0 => 0
  | k + 1 => AW vs n (MI vs n a k)
theorem MI_ri {vs : (Nat → Int32) → Int32} {n : Nat} {a : Nat → Int32} (h : RI n a) : ∀ k, RI n (MI vs n a k)
  | 0 => h
  | k + 1 => MO_ri (MI_ri h k)
theorem UP_lt {vs : (Nat → Int32) → Int32} {n : Nat} {a : Nat → Int32} (h : RI n a) : ∀ k, UP vs n a k < 128
  | 0 => by show 0 < 128; decide
  | k + 1 => bm_128 h.1
theorem L_goMornings {vs : (Nat → Int32) → Int32} {n : Nat} {a w : Nat → Int32} {ruleSize : Int32} {rule : Nat → Int32} (h : RI n a) (hw : EQ w a) (hm : RM vs ruleSize rule) (hc : VC vs) (len top at' wrong isAsked : Int32) (asked : Nat → Int32) {m : Nat} (hm' : m < 1000) : ∃ y, X11_goMornings (o32 n) len top at' wrong ruleSize isAsked rule asked 37 w (o32 m) = some y ∧ y.1 = o32 (UP vs n a m) ∧ EQ y.2.2.2.2.2.2.2 (MI vs n a m) := by
  obtain ⟨z, e, hz⟩ := lp_ct (f := fun x5 : Int32 × Int32 × Int32 × Int32 × Int32 × Int32 × Int32 × (Nat → Int32) × (Nat → Int32) => X11_goMornings_s5 (o32 n) ruleSize rule 37 (o32 m) x5.1 x5.2.1 x5.2.2.1 x5.2.2.2.1 x5.2.2.2.2.1 x5.2.2.2.2.2.1 x5.2.2.2.2.2.2.1 x5.2.2.2.2.2.2.2.1 x5.2.2.2.2.2.2.2.2) (fun k x => x.1 = o32 (UP vs n a k) ∧ x.2.1 = o32 k ∧ EQ x.2.2.2.2.2.2.2.2 (MI vs n a k)) (fun z => z.1 = o32 (UP vs n a m) ∧ EQ z.2.2.2.2.2.2.2 (MI vs n a m)) m ((0 : Int32), (0 : Int32), len, top, at', wrong, isAsked, asked, w) ⟨rfl, rfl, hw⟩ (by
    rintro k ⟨acc, i, u1, u2, u3, u4, u5, u6, x⟩ hk ⟨h1, h2, h3⟩
    have h2 : i = _ := h2
    subst h2
    obtain ⟨y, ey, hy, hy2⟩ := L_goMorning (MI_ri h k) h3 hm hc u1 u2 u3 u4 u5 u6
    have ey : X11_goMorning (o32 n) u1 u2 u3 u4 ruleSize u5 rule u6 37 x = some y := ey
    simp (disch := omega) only [X11_goMornings_s5, i_ge, ey, Option.bind_some, o_s]
    exact ⟨_, rfl, hy, rfl, hy2⟩) (by
    rintro ⟨acc, i, u1, u2, u3, u4, u5, u6, x⟩ ⟨h1, h2, h3⟩
    have h2 : i = _ := h2
    subst h2
    refine ⟨(acc, u1, u2, u3, u4, u5, u6, x), ?_, h1, h3⟩
    simp (disch := omega) only [X11_goMornings_s5, i_le]) hm'
  unfold X11_goMornings
  rw [e]
  exact ⟨_, rfl, hz⟩
theorem L_goBy {vs : (Nat → Int32) → Int32} {n : Nat} {day unmet : Int32} {skill pills slept woken wanted a : Nat → Int32} (h : RF n day unmet skill pills slept woken wanted a) {size : Int32} {code : Nat → Int32} (hv : RV vs size code) (hc : VC vs) (stack thing : Nat → Int32) {m : Nat} (hm' : m < 1000) : ∃ y, X10_goBy size code stack thing (o32 n) day unmet skill pills slept woken wanted (o32 m) = some y ∧ y.1 = o32 (UP vs n a m) ∧ RF n y.2.2.2.1 y.2.2.2.2.1 skill y.2.2.2.2.2.1 y.2.2.2.2.2.2.1 y.2.2.2.2.2.2.2 wanted (MI vs n a m) := by
  have hn := h.nn
  obtain ⟨z, e, hz⟩ := lp_ct (f := fun x5 : Int32 × Int32 × (Nat → Int32) × (Nat → Int32) × Int32 × Int32 × (Nat → Int32) × (Nat → Int32) × (Nat → Int32) => X10_goBy_s5 size code (o32 n) skill wanted (o32 m) x5.1 x5.2.1 x5.2.2.1 x5.2.2.2.1 x5.2.2.2.2.1 x5.2.2.2.2.2.1 x5.2.2.2.2.2.2.1 x5.2.2.2.2.2.2.2.1 x5.2.2.2.2.2.2.2.2) (fun k x => x.1 = o32 (UP vs n a k) ∧ x.2.1 = o32 k ∧ RF n x.2.2.2.2.1 x.2.2.2.2.2.1 skill x.2.2.2.2.2.2.1 x.2.2.2.2.2.2.2.1 x.2.2.2.2.2.2.2.2 wanted (MI vs n a k)) (fun z => z.1 = o32 (UP vs n a m) ∧ RF n z.2.2.2.1 z.2.2.2.2.1 skill z.2.2.2.2.2.1 z.2.2.2.2.2.2.1 z.2.2.2.2.2.2.2 wanted (MI vs n a m)) m ((0 : Int32), (0 : Int32), stack, thing, day, unmet, pills, slept, woken) ⟨rfl, rfl, h⟩ (by
    rintro k ⟨acc, i, u1, u2, u3, u4, u5, u6, u7⟩ hk ⟨h1, h2, h3⟩
    have h2 : i = _ := h2
    subst h2
    have h3 : RF n u3 u4 skill u5 u6 u7 wanted (MI vs n a k) := h3
    obtain ⟨y, ey, hy⟩ := L_wakers h3 hv hc u1 u2
    obtain ⟨x, ex, hx⟩ := L_pass h3 (up := AW vs n (MI vs n a k)) (bm_128 hn)
    simp (disch := omega) only [X10_goBy_s5, i_ge, ey, hy, ex, Option.bind_some, o_s]
    exact ⟨_, rfl, rfl, rfl, hx⟩) (by
    rintro ⟨acc, i, u1, u2, u3, u4, u5, u6, u7⟩ ⟨h1, h2, h3⟩
    have h2 : i = _ := h2
    subst h2
    refine ⟨(acc, u1, u2, u3, u4, u5, u6, u7), ?_, h1, h3⟩
    simp (disch := omega) only [X10_goBy_s5, i_le]) hm'
  unfold X10_goBy
  rw [e]
  exact ⟨_, rfl, hz⟩
/-- the class's one morning more -/
theorem L_go1 {vs : (Nat → Int32) → Int32} {n : Nat} {day unmet : Int32} {skill pills slept woken wanted a : Nat → Int32} (h : RF n day unmet skill pills slept woken wanted a) {size : Int32} {code : Nat → Int32} (hv : RV vs size code) (hc : VC vs) (stack thing : Nat → Int32) : ∃ y, X10_goBy size code stack thing (o32 n) day unmet skill pills slept woken wanted 1 = some y ∧ y.1 = o32 (AW vs n a) ∧ RF n y.2.2.2.1 y.2.2.2.2.1 skill y.2.2.2.2.2.1 y.2.2.2.2.2.2.1 y.2.2.2.2.2.2.2 wanted (MO vs n a) :=
  L_goBy h hv hc stack thing (m := 1) (by decide)
/-- a trial is as the people are -/
theorem L_trial {n : Nat} {day unmet : Int32} {skill pills slept woken wanted a : Nat → Int32} (h : RF n day unmet skill pills slept woken wanted a) (t1 t2 t3 t4 t5 : Nat → Int32) : ∃ y, X0_becomes t1 t2 t3 t4 t5 (o32 n) day unmet skill pills slept woken wanted = some y ∧ y.1 = o32 n ∧ RF n y.2.1 y.2.2.1 y.2.2.2.1 y.2.2.2.2.1 y.2.2.2.2.2.1 y.2.2.2.2.2.2.1 y.2.2.2.2.2.2.2 a := by
  obtain ⟨y, e, h1, h2, h3, h4⟩ := L_becomes t1 t2 t3 t4 t5 (o32 n) day unmet skill pills slept woken wanted
  refine ⟨y, e, h1, ?_⟩
  rw [h2, h3]
  exact h.cg h4 (fun _ _ => rfl)
theorem L_then {n : Nat} {a w : Nat → Int32} (hw : EQ w a) (t : Nat → Int32) : ∃ y, X11_lay 37 w 37 t 0 = some y ∧ EQ y a := by
  obtain ⟨y, e, h⟩ := L_lay (now := w) (t := t)
  exact ⟨y, e, fun j hj => (h j hj).trans (hw j hj)⟩
/-! the ROW on both sides -/
def TO (sz cnt : Int32) (num row : Nat → Int64) : Prop := ∃ m, m ≤ 16 ∧ sz = o32 m ∧ cnt = o32 m ∧ ∀ k, k < m → num k = row k
theorem TO.nil (num row : Nat → Int64) : TO 0 0 num row := ⟨0, by decide, rfl, rfl, fun k hk => absurd hk (Nat.not_lt_zero k)⟩
theorem TO.ad {m : Nat} {num row : Nat → Int64} (h : ∀ k, k < m → num k = row k) (hm : m < 16) (v : Int64) : ∃ y y', X2_adds (o32 m) num v = some y ∧ X11_tell (o32 m) row v = some y' ∧ y.1 = o32 (m + 1) ∧ y'.1 = o32 (m + 1) ∧ ∀ k, k < m + 1 → y.2 k = y'.2 k := by
  refine ⟨(o32 (m + 1), vp_updL num m v), (o32 (m + 1), vp_updL row m v), ?_, ?_, rfl, rfl, fun k hk => ?_⟩
  · have e0 : (16 : Int32) = o32 16 := rfl
    simp (disch := omega) only [X2_adds, e0, i_ge, gi_o, o_cl, o_s]
  · simp (disch := omega) only [X11_tell, gi_o, o_cl, o_s]
  · show vp_updL num m v k = vp_updL row m v k
    by_cases e : k = m
    · subst e; rw [pk_uLs, pk_uLs]
    · rw [pk_uLn e, pk_uLn e]; exact h k (by omega)
theorem TO.one (num row : Nat → Int64) (v : Int64) : ∃ y y', X2_tellsOne num v = some y ∧ X11_tell 0 row v = some y' ∧ TO y.1 y'.1 y.2 y'.2 := by
  obtain ⟨y, y', e, e', h1, h1', h2⟩ := TO.ad (m := 0) (num := num) (row := row) (fun k hk => absurd hk (Nat.not_lt_zero k)) (by decide) v
  refine ⟨y, y', ?_, e', 1, by decide, h1, h1', h2⟩
  unfold X2_tellsOne
  show (X2_adds (o32 0) num v).bind _ = _
  rw [e]
  rfl
theorem TO.both (num row : Nat → Int64) (v u : Int64) : ∃ y y' y'', X2_tellsBoth num v u = some y ∧ X11_tell 0 row v = some y' ∧ X11_tell y'.1 y'.2 u = some y'' ∧ TO y.1 y''.1 y.2 y''.2 := by
  obtain ⟨y, y', e, e', h1, h1', h2⟩ := TO.ad (m := 0) (num := num) (row := row) (fun k hk => absurd hk (Nat.not_lt_zero k)) (by decide) v
  obtain ⟨z, z', f, f', g1, g1', g2⟩ := TO.ad (m := 1) (num := y.2) (row := y'.2) h2 (by decide) u
  refine ⟨z, y', z', ?_, e', ?_, 2, by decide, g1, g1', g2⟩
  · unfold X2_tellsBoth
    show (X2_adds (o32 0) num v).bind _ = _
    rw [e, Option.bind_some, h1]
    show (X2_adds (o32 1) y.2 u).bind _ = _
    rw [f]
    rfl
  · rw [h1']; exact f'
