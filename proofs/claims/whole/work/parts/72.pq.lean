/-! ===== the pure level: ring, both ===== -/
section RG2
variable {n : Nat} {day unmet : Int32} {skill pills slept woken wanted now : Nat → Int32} {tsz rm : Int32} {tnum row : Nat → Int64}
theorem L_rf (h : RF n day unmet skill pills slept woken wanted now) {s : Nat} (hs : s < n) (far : Nat → Int32) : ∃ y z, X4_roundFrom far (o32 n) wanted (o32 s) = some (y, z) ∧ (∀ j, j < n → z j = fv (BF n now (2 ^ n - 2 ^ s) s (n - 1) j)) ∧ ((∃ v, 1 ≤ v ∧ v < n ∧ y = o32 (v + 1) ∧ (∃ i, i < n ∧ NR n now (2 ^ n - 2 ^ s) s s v i = true) ∧ ∀ w, 1 ≤ w → w < v → ∀ i, i < n → NR n now (2 ^ n - 2 ^ s) s s w i = false) ∨ (y = 0 ∧ ∀ w, 1 ≤ w → w < n → ∀ i, i < n → NR n now (2 ^ n - 2 ^ s) s s w i = false)) := by
  have hn := h.nn
  have h7 := p2_7 hn
  have hp2 : 0 < 2 ^ s := Nat.two_pow_pos s
  obtain ⟨z, ez, hz⟩ := L_meas (am := 2 ^ n - 2 ^ s) h far (by omega) hs
  have no : ∀ w, 1 ≤ w → w < n → (∀ i, i < n → NR n now (2 ^ n - 2 ^ s) s s w i = false) → X4_roundFrom_s17 (o32 n) wanted (o32 s) z (o32 w) = some (.inl (o32 (w + 1))) := by
    intro w h1 h2 h3
    rcases L_near (am := 2 ^ n - 2 ^ s) (to := s) h hz hs (show w < 90 by omega) with ⟨i, hi, b1, -, -⟩ | ⟨-, e⟩
    · rw [h3 i hi] at b1; cases b1
    · have neg : ((-1 : Int32) < 0) = True := eq_true (by decide)
      simp (disch := omega) only [X4_roundFrom_s17, i_ge, e, Option.bind_some, neg, if_true, o_s]
  have pre : X4_roundFrom far (o32 n) wanted (o32 s) = (lp (fun x17 => X4_roundFrom_s17 (o32 n) wanted (o32 s) z x17) 1000 (1 : Int32)).bind fun y17 => sm y17 (fun _u17_0 => some ((0 : Int32), z)) (fun ye17_1_0 => some ((ye17_1_0 + (1 : Int32)), z)) := by
    unfold X4_roundFrom
    rw [ev_o hn, am_o hn hs, ez, Option.bind_some]
  rcases least_or (P := fun w => 1 ≤ w ∧ ∃ i, i < n ∧ NR n now (2 ^ n - 2 ^ s) s s w i = true) (n - 1) with ⟨v, hv, ⟨v1, i, hi, v2⟩, v3⟩ | hno
  · have v4 : ∀ w, 1 ≤ w → w < v → ∀ i, i < n → NR n now (2 ^ n - 2 ^ s) s s w i = false := by
      intro w h1 h2 i hi
      cases hc : NR n now (2 ^ n - 2 ^ s) s s w i with
      | false => rfl
      | true => exact absurd ⟨h1, i, hi, hc⟩ (v3 w h2)
    have hlast : X4_roundFrom_s17 (o32 n) wanted (o32 s) z (o32 v) = some (.inr (.inr (o32 v))) := by
      rcases L_near (am := 2 ^ n - 2 ^ s) (to := s) h hz hs (show v < 90 by omega) with ⟨i', hi', b1, -, e⟩ | ⟨hbad, -⟩
      · have neg : (o32 i' < 0) = False := eq_false (o_nn i' (by omega))
        simp (disch := omega) only [X4_roundFrom_s17, i_ge, e, Option.bind_some, neg, if_false]
      · rw [hbad i hi] at v2; cases v2
    have el : lp (fun x17 => X4_roundFrom_s17 (o32 n) wanted (o32 s) z x17) 1000 (1 : Int32) = some (.inr (o32 v)) := by
      refine lp_run (f := fun x17 => X4_roundFrom_s17 (o32 n) wanted (o32 s) z x17) (r := .inr (o32 v)) (fun k => o32 (k + 1)) (v - 1) 0 1000 (fun k _ hk => no (k + 1) (by omega) (by omega) (v4 (k + 1) (by omega) (by omega))) ?_ (by omega)
      show X4_roundFrom_s17 (o32 n) wanted (o32 s) z (o32 (0 + (v - 1) + 1)) = _
      rw [show 0 + (v - 1) + 1 = v by omega]; exact hlast
    refine ⟨o32 (v + 1), z, ?_, hz, Or.inl ⟨v, v1, by omega, rfl, ⟨i, hi, v2⟩, v4⟩⟩
    rw [pre, el, ← o_s]
    rfl
  · have v4 : ∀ w, 1 ≤ w → w < n → ∀ i, i < n → NR n now (2 ^ n - 2 ^ s) s s w i = false := by
      intro w h1 h2 i hi
      cases hc : NR n now (2 ^ n - 2 ^ s) s s w i with
      | false => rfl
      | true => exact absurd ⟨h1, i, hi, hc⟩ (hno w (by omega))
    have el : lp (fun x17 => X4_roundFrom_s17 (o32 n) wanted (o32 s) z x17) 1000 (1 : Int32) = some (.inl ()) := by
      refine lp_run (f := fun x17 => X4_roundFrom_s17 (o32 n) wanted (o32 s) z x17) (r := .inl ()) (fun k => o32 (k + 1)) (n - 1) 0 1000 (fun k _ hk => no (k + 1) (by omega) (by omega) (v4 (k + 1) (by omega) (by omega))) ?_ (by omega)
      show X4_roundFrom_s17 (o32 n) wanted (o32 s) z (o32 (0 + (n - 1) + 1)) = _
      rw [show 0 + (n - 1) + 1 = n by omega]
      simp (disch := omega) only [X4_roundFrom_s17, i_le]
    refine ⟨0, z, ?_, hz, Or.inr ⟨rfl, v4⟩⟩
    rw [pre, el]
    rfl
/-- what both hold behind some starts -/
def RB (n : Nat) (now : Nat → Int32) (f one b : Int32) (best : Nat → Int32) : Prop := (f = 8 ∧ one = -1 ∧ b = o32 1000000) ∨ (∃ s M, s < n ∧ 2 ≤ M ∧ M ≤ n ∧ f = o32 M ∧ one = o32 s ∧ b = o32 M ∧ best 0 = o32 s ∧ GR n now s M 0 best)
theorem L_rgs (h : RF n day unmet skill pills slept woken wanted now) {s : Nat} (hs : s < n) {f one b : Int32} {line best far : Nat → Int32} (hR : RB n now f one b best) : ∃ x y, X4_tellsRing_s9 (o32 n) wanted f one (o32 s) far = some (.inl x) ∧ X11_ring_s14 (o32 n) now (o32 s) b line best = some (.inl y) ∧ x.2.2.1 = o32 (s + 1) ∧ y.1 = o32 (s + 1) ∧ RB n now x.1 x.2.1 y.2.1 y.2.2.2 := by
  have hn := h.nn
  have hri := h.ri
  have hw := hri.wt hs
  have hA : AT n 0 s 0 := ⟨Nat.two_pow_pos n, by decide, hs, Nat.zero_testBit s⟩
  obtain ⟨F, B, eF, eB, hFB, hB⟩ : ∃ F B, f = o32 F ∧ b = o32 B ∧ ((F = 8 ∧ B = 1000000) ∨ (F = B ∧ B ≤ 7)) ∧ B ≤ 1000000 := by
    rcases hR with ⟨h1, -, h2⟩ | ⟨_, M, _, _, h3, h1, -, h2, -⟩
    · exact ⟨8, 1000000, h1, h2, Or.inl ⟨rfl, rfl⟩, Nat.le_refl _⟩
    · exact ⟨M, M, h1, h2, Or.inr ⟨rfl, by omega⟩, by omega⟩
  subst eF eB
  obtain ⟨y, z, ey, hz, hy⟩ := L_rf h hs far
  -- nobody whom s wants is s itself
  have hno0 : ∀ k, k < n → (nt (now (28 + s))).testBit k = true → 1 ≤ RW n now s k := by
    intro k hk hwk
    rcases Nat.eq_zero_or_pos (RW n now s k) with c | c
    · have c1 : k = s := BF_0.mp c
      subst c1
      rw [hw.2.2.2] at hwk; cases hwk
    · exact c
  have hr1 := L_r1 hri hs n (100 - n) 0 s 0 B (upd line 0 (o32 s)) best rfl hA pk_us pk_us (Nat.le_refl s) hB
  rw [show 100 - n + n = 100 by omega, Nat.zero_or] at hr1
  have pre : X11_ring_s14 (o32 n) now (o32 s) (o32 B) line best = (X11_ringr 100 (o32 n) (o32 B) now (upd line 0 (o32 s)) best (o32 (0 + 1)) (o32 (2 ^ s))).bind fun y34 => some (.inl (o32 (s + 1), y34.1, y34.2.1, y34.2.2)) := by
    simp (disch := omega) only [X11_ring_s14, i_ge, gl0, tl0, o_shl, o_s]
    rfl
  have same : (∀ B' : Nat, B' < B → B' ≤ 7 → (∃ k, k < n ∧ (nt (now (28 + s))).testBit k = true ∧ RW n now s k + 0 + 1 ≤ B') → False) → ∃ line', X11_ring_s14 (o32 n) now (o32 s) (o32 B) line best = some (.inl (o32 (s + 1), o32 B, line', best)) := by
    intro hc
    obtain ⟨B', l', b', e, -, h32⟩ := hr1
    rcases h32 with ⟨rfl, rfl⟩ | ⟨g1, g2, g3⟩
    · refine ⟨l', ?_⟩
      rw [pre, e, Option.bind_some]
    · exact (hc B' g1 g2 g3).elim
  rcases hy with ⟨v, v1, v2, ev, ⟨i, hi, v3⟩, v4⟩ | ⟨ev, v4⟩
  · subst ev
    have hpos : ¬ o32 (v + 1) ≤ (0 : Int32) := by
      show ¬ o32 (v + 1) ≤ o32 0
      rw [o_le (by omega) (by decide)]; omega
    have hmin : ∀ k, k < n → (nt (now (28 + s))).testBit k = true → v ≤ RW n now s k := by
      intro k hk hwk
      have h1 := hno0 k hk hwk
      rcases Nat.lt_or_ge (RW n now s k) v with c | c
      · have h2 := v4 (RW n now s k) h1 c k hk
        rw [NR_i.mpr ⟨hwk, rfl⟩] at h2; cases h2
      · exact c
    obtain ⟨w1, w2⟩ := NR_i.mp v3
    rcases Nat.lt_or_ge (v + 1) F with c | c
    · obtain ⟨l', b', e, -, hb1, hb2⟩ := L_r2 hri hs (M := v + 1) (by omega) n (100 - n) 0 s 0 B (upd line 0 (o32 s)) best rfl hA pk_us pk_us (Nat.le_refl s) (fun _ => by omega) (by omega) (fun k hk hwk => by have := hmin k hk hwk; omega) ⟨i, hi, w1, by omega⟩ (fun j hj hb => by
        rw [Nat.zero_or, tb_2] at hb
        exact Or.inl (of_decide_eq_true hb).symm) (by omega) hB
      rw [show 100 - n + n = 100 by omega, Nat.zero_or] at e
      refine ⟨(o32 (v + 1), o32 s, o32 (s + 1), z), (o32 (s + 1), o32 (v + 1), l', b'), ?_, ?_, rfl, rfl, Or.inr ⟨s, v + 1, hs, by omega, by omega, rfl, rfl, rfl, ?_, hb2⟩⟩
      · unfold X4_tellsRing_s9
        rw [i_ge hs (by omega), ey, Option.bind_some]
        show some (Sum.inl (_, _, _, _)) = _
        rw [if_neg hpos, if_neg hpos, i_ge c (by omega), i_ge c (by omega), o_s]
      · rw [pre, e, Option.bind_some]
      · show b' 0 = _
        rw [hb1 0 (Nat.le_refl 0)]; exact pk_us
    · obtain ⟨l', e⟩ := same (fun B' g1 g2 ⟨k, k1, k2, k3⟩ => by
        have := hmin k k1 k2
        omega)
      refine ⟨(o32 F, one, o32 (s + 1), z), _, ?_, e, rfl, rfl, hR⟩
      unfold X4_tellsRing_s9
      rw [i_ge hs (by omega), ey, Option.bind_some]
      show some (Sum.inl (_, _, _, _)) = _
      rw [if_neg hpos, if_neg hpos, i_le c (by omega), i_le c (by omega), o_s]
  · subst ev
    obtain ⟨l', e⟩ := same (fun B' g1 g2 ⟨k, k1, k2, k3⟩ => by
      have h1 := hno0 k k1 k2
      have h3 : RW n now s k < n := by
        rcases BF_le (n := n) (now := now) (am := 2 ^ n - 2 ^ s) (to := s) (n - 1) k with c | c
        · have c : RW n now s k ≤ n - 1 := c
          omega
        · have c : RW n now s k = 99 := c
          omega
      have h2 := v4 (RW n now s k) h1 h3 k k1
      rw [NR_i.mpr ⟨k2, rfl⟩] at h2; cases h2)
    refine ⟨(o32 F, one, o32 (s + 1), z), _, ?_, e, rfl, rfl, hR⟩
    unfold X4_tellsRing_s9
    rw [i_ge hs (by omega), ey, Option.bind_some]
    show some (Sum.inl (_, _, _, _)) = _
    rw [if_pos (show (0 : Int32) ≤ 0 by decide), if_pos (show (0 : Int32) ≤ 0 by decide), o_s]
theorem M_ring (h : RF n day unmet skill pills slept woken wanted now) (ht : TO tsz rm tnum row) (far line best : Nat → Int32) : ∃ y y', X10_ring tsz tnum (o32 n) wanted far = some y ∧ X11_ring (o32 n) rm now row line best = some y' ∧ y.1 = y'.1 ∧ TO y.2.1 y'.2.1 y.2.2.1 y'.2.2.2.2.1 := by
  have hn := h.nn
  obtain ⟨z, z', ez, ez', hR⟩ := lp_ct2 (f := fun x9 : Int32 × Int32 × Int32 × (Nat → Int32) => X4_tellsRing_s9 (o32 n) wanted x9.1 x9.2.1 x9.2.2.1 x9.2.2.2) (f' := fun x14 : Int32 × Int32 × (Nat → Int32) × (Nat → Int32) => X11_ring_s14 (o32 n) now x14.1 x14.2.1 x14.2.2.1 x14.2.2.2) (fun k x x' => x.2.2.1 = o32 k ∧ x'.1 = o32 k ∧ RB n now x.1 x.2.1 x'.2.1 x'.2.2.2) (fun z z' => RB n now z.1 z.2.1 z'.1 z'.2.2) n ((8 : Int32), (-1 : Int32), (0 : Int32), far) ((0 : Int32), (1000000 : Int32), line, best) ⟨rfl, rfl, Or.inl ⟨rfl, rfl, rfl⟩⟩ (by
    rintro k ⟨f, o, i, fr⟩ ⟨i', b, l, bs⟩ hk ⟨h1, h2, h3⟩
    have h1 : i = _ := h1
    have h2 : i' = _ := h2
    subst h1 h2
    obtain ⟨x, y, ex, ey, r1, r2, r3⟩ := L_rgs h hk (line := l) (far := fr) h3
    exact ⟨x, y, ex, ey, r1, r2, r3⟩) (by
    rintro ⟨f, o, i, fr⟩ ⟨i', b, l, bs⟩ ⟨h1, h2, h3⟩
    have h1 : i = _ := h1
    have h2 : i' = _ := h2
    subst h1 h2
    refine ⟨(f, o, fr), (b, l, bs), ?_, ?_, h3⟩
    · simp (disch := omega) only [X4_tellsRing_s9, i_le]
    · simp (disch := omega) only [X11_ring_s14, i_le]) (by omega)
  obtain ⟨f, o, fr⟩ := z
  obtain ⟨b, l, bs⟩ := z'
  rcases hR with ⟨h1, h2, h3⟩ | ⟨s, M, hs, hM2, hMn, h1, h2, h3, h4, h5⟩
  · have h1 : f = _ := h1
    have h2 : o = _ := h2
    have h3 : b = _ := h3
    subst h1 h2 h3
    have c1 : ((0 : Int32) ≤ -1) = False := eq_false (by decide)
    have c2 : (o32 1000000 = (1000000 : Int32)) = True := eq_true rfl
    simp only [X10_ring, X4_tellsRing, X11_ring, ez, ez', Option.bind_some, un, c1, c2, if_false, if_true]
    exact ⟨_, _, rfl, rfl, rfl, ht⟩
  · have h1 : f = _ := h1
    have h2 : o = _ := h2
    have h3 : b = _ := h3
    subst h1 h2 h3
    have hb0 : bs 0 = o32 s := h4
    have hg5 : GR n now s M 0 bs := h5
    have c1 : ((0 : Int32) ≤ o32 s) = True := eq_true (o_ge0 s (by omega))
    have c2 : (o32 M = (1000000 : Int32)) = False := by
      show (o32 M = o32 1000000) = False
      rw [o_eq (by omega) (by decide)]; exact eq_false (by omega)
    obtain ⟨y, z, ey, hz, -⟩ := L_rf h hs fr
    obtain ⟨t, t', et, et', r1, r1', r2⟩ : ∃ t t', X2_tellsOne tnum ((o32 s).toInt64) = some t ∧ X11_tell 0 row ((o32 s).toInt64) = some t' ∧ t.1 = o32 1 ∧ t'.1 = o32 1 ∧ ∀ k, k < 1 → t.2 k = t'.2 k := by
      obtain ⟨y, y', e, e', h1, h1', h2⟩ := TO.ad (m := 0) (num := tnum) (row := row) (fun k hk => absurd hk (Nat.not_lt_zero k)) (by decide) ((o32 s).toInt64)
      refine ⟨y, y', ?_, e', h1, h1', h2⟩
      unfold X2_tellsOne
      show (X2_adds (o32 0) tnum _).bind _ = _
      rw [e]
      rfl
    have first : lp (fun x7 : Int32 × Int32 × (Nat → Int64) => X11_tellBest_s7 (o32 M) bs x7.1 x7.2.1 x7.2.2) (999 + 1) ((0 : Int32), (0 : Int32), row) = lp (fun x7 : Int32 × Int32 × (Nat → Int64) => X11_tellBest_s7 (o32 M) bs x7.1 x7.2.1 x7.2.2) 999 (o32 1, t'.1, t'.2) := by
      apply lp_c
      show X11_tellBest_s7 (o32 M) bs (o32 0) 0 row = _
      unfold X11_tellBest_s7
      rw [i_ge (by omega) (by omega), gi_o (by decide) (by decide), o_cl (by decide), hb0, et', Option.bind_some, o_s]
    obtain ⟨w, w', ew, ew', hw1, hw2, hw3⟩ := lp_two (f := fun x83 : Int32 × Int32 × Int32 × (Nat → Int64) => X4_tellsRing_s83 (o32 n) wanted (y, z) x83.1 x83.2.1 x83.2.2.1 x83.2.2.2) (f' := fun x7 : Int32 × Int32 × (Nat → Int64) => X11_tellBest_s7 (o32 M) bs x7.1 x7.2.1 x7.2.2)
      (fun k x x' => x.1 = bs k ∧ x.2.1 = o32 (M - k) - 1 ∧ x.2.2.1 = o32 (k + 1) ∧ x'.1 = o32 (k + 1) ∧ x'.2.1 = o32 (k + 1) ∧ ∀ j, j < k + 1 → x.2.2.2 j = x'.2.2 j)
      (fun w w' => w.1 = o32 M ∧ w'.1 = o32 M ∧ ∀ j, j < M → w.2 j = w'.2 j) (M - 1) 0 1000 999
      (o32 s, o32 M - 1, t.1, t.2) (o32 1, t'.1, t'.2) (by
        rintro k ⟨a, lf, sz, nm⟩ ⟨i, sz', rw'⟩ - hk ⟨g1, g3', g4, g5, g6, g7⟩
        have g4 : sz = _ := g4
        have g5 : i = _ := g5
        have g6 : sz' = _ := g6
        subst g4 g5 g6
        obtain ⟨v, hv⟩ : ∃ v, M - k = v + 1 := ⟨M - k - 1, by omega⟩
        have g3 : lf = o32 v := by
          have h3 : lf = o32 (M - k) - 1 := g3'
          rw [h3, hv, pu_m1]
        clear g3'
        subst g3
        have q1 : a = bs k := g1
        have q7 : ∀ j, j < k + 1 → nm j = rw' j := g7
        rcases Nat.lt_or_ge k (M - 1) with hlt | hge
        · right
          obtain ⟨x0, y0, hx0, hy0, e1, e2, e3, e4⟩ := hg5 (k + 1) (by omega) (by omega)
          rw [show k + 1 - 1 = k by omega] at e1
          rw [show M - (k + 1) = v by omega] at e3 e4
          rw [e1] at q1
          subst q1
          refine ⟨by omega, ?_⟩
          have vp : ¬ o32 v ≤ (0 : Int32) := by
            show ¬ o32 v ≤ o32 0
            rw [o_le (by omega) (by decide)]; omega
          have en : X4_nearer z (o32 n) wanted (o32 x0) (o32 v) = some (o32 y0) := by
            rcases L_near (am := 2 ^ n - 2 ^ s) (to := s) h hz hx0 (show v < 90 by omega) with ⟨i2, hi2, b1, b2, b3⟩ | ⟨hbad, -⟩
            · have : i2 = y0 := by
                rcases Nat.lt_trichotomy i2 y0 with c | c | c
                · have := e4 i2 c
                  rw [b1] at this; cases this
                · exact c
                · have := b2 y0 c
                  rw [e3] at this; cases this
              rw [← this]; exact b3
            · have := hbad y0 hy0
              rw [e3] at this; cases this
          obtain ⟨u, u', eu, eu', s1, s2, s3⟩ := TO.ad q7 (show k + 1 < 16 by omega) ((o32 y0).toInt64)
          refine ⟨(o32 y0, o32 v - 1, u.1, u.2), (o32 (k + 2), u'.1, u'.2), ?_, ?_, e2.symm, by rw [show M - (k + 1) = v by omega], s1, rfl, s2, s3⟩
          · show X4_tellsRing_s83 (o32 n) wanted (y, z) (o32 x0) (o32 v) (o32 (k + 1)) nm = _
            unfold X4_tellsRing_s83
            rw [if_neg vp, en, Option.bind_some, eu, Option.bind_some, pu_am1]
          · show X11_tellBest_s7 (o32 M) bs (o32 (k + 1)) (o32 (k + 1)) rw' = _
            unfold X11_tellBest_s7
            rw [i_ge (by omega) (by omega), gi_o (by omega) (by decide), o_cl (by omega), e2, eu', Option.bind_some, o_s]
        · left
          have hk1 : k + 1 = M := by omega
          have hv0 : v = 0 := by omega
          subst hv0
          refine ⟨(o32 (k + 1), nm), (o32 (k + 1), rw'), ?_, ?_, by rw [hk1], by rw [hk1], fun j hj => q7 j (by omega)⟩
          · show X4_tellsRing_s83 (o32 n) wanted (y, z) a (o32 0) (o32 (k + 1)) nm = _
            unfold X4_tellsRing_s83
            rw [if_pos (by decide)]
          · show X11_tellBest_s7 (o32 M) bs (o32 (k + 1)) (o32 (k + 1)) rw' = _
            unfold X11_tellBest_s7
            rw [i_le (by omega) (by omega)]) ⟨hb0.symm, rfl, r1, rfl, r1', r2⟩ (by omega) (by omega)
    rw [← first] at ew'
    simp (disch := omega) only [X10_ring, X4_tellsRing, X11_ring, X11_tellBest, ez, ez', Option.bind_some, un, c1, c2, if_false, if_true, ey, et, ew, ew']
    exact ⟨_, _, rfl, rfl, rfl, M, by omega, hw1, hw2, hw3⟩
end RG2
