/-! ===== the pure level: the class reads a rule: what is held, a thing ===== -/
section RBU
variable {t : Nat} {c : Nat → Nat} {signs text : Nat → Int32}
theorem stl_up {b b' : Nat} (hb : b ≤ b') : ∀ {s : List Nat}, stl b s = s → stl b' s = s
  | [], _ => rfl
  | e :: r, h1 => by
    have h1 : (if b ≤ bnx e then stl b r else e :: r) = e :: r := h1
    show (if b' ≤ bnx e then stl b' r else e :: r) = e :: r
    by_cases c2 : b ≤ bnx e
    · rw [if_pos c2] at h1
      have h2 := stl_le b r
      have h3 := congrArg List.length h1
      have h3 : (stl b r).length = r.length + 1 := h3
      omega
    · rw [if_neg (by omega)]
theorem B_held (hT : TC t c signs text) {n p i : Nat} (hp : p ≤ 4) (IH : ∀ j, i ≤ j → j ≤ 40 → j ≤ t → IHx t c signs n 1 j p) (hi : i ≤ 40) (hit : i ≤ t) : IHx t c signs (n + 1) 0 i p := by
  intro M s g a code d hM h0 hs hl hw hc
  obtain ⟨r, er⟩ : ∃ r, PD (HSx t c) n 1 i p = r := ⟨_, rfl⟩
  have eP : PD (HSx t c) (n + 1) 0 i p = if r.1 = true ∧ okx 0 (HSx t c r.2.1) = true then ((PD (HSx t c) n 1 (r.2.1 + 1) p).1, (PD (HSx t c) n 1 (r.2.1 + 1) p).2.1, r.2.2 ++ (PD (HSx t c) n 1 (r.2.1 + 1) p).2.2 ++ [1999 + opx (HSx t c r.2.1)]) else r := by rw [← er]; rfl
  obtain ⟨b1, b2, b3, b4, b5⟩ := IH i (Nat.le_refl i) hi hit M s g a code d hM (fun q => by omega) (fun q => stl_up (by decide) (hs (by decide))) hl hw hc
  rw [er] at b1 b2 b3 b4 b5
  rw [eP]
  by_cases cc : r.1 = true ∧ okx 0 (HSx t c r.2.1) = true
  · rw [if_pos cc]
    obtain ⟨d1, d2, d3, d4, d5⟩ := L_stp hT (n := n) (k := 0) (by decide) hp ((b4 cc.1).2.wk (by decide)) (hs (by decide)) (fun _ => h0 rfl) cc.2 (fun h1 h2 => IH (r.2.1 + 1) (by omega) (by omega) (by omega))
    refine ⟨by show i ≤ (PD (HSx t c) n 1 (r.2.1 + 1) p).2.1; have d1 : r.2.1 + 1 ≤ (PD (HSx t c) n 1 (r.2.1 + 1) p).2.1 := d1; omega, d2, d3, fun q => ⟨by show i < (PD (HSx t c) n 1 (r.2.1 + 1) p).2.1; have d1 : r.2.1 + 1 ≤ (PD (HSx t c) n 1 (r.2.1 + 1) p).2.1 := d1; omega, ?_⟩, d5⟩
    have h7 := d4 q
    rw [if_pos rfl] at h7
    rw [List.append_assoc, List.append_assoc] at h7
    show S1x t c signs 0 0 p M s (g ++ (r.2.2 ++ _ ++ _)) _ _
    rw [List.append_assoc]
    exact h7
  · rw [if_neg cc]
    refine ⟨b1, b2, b3, fun q => ⟨(b4 q).1, ?_⟩, b5⟩
    obtain ⟨s', g', a', code', M', d', e1, e2, e3, e4, e5, e6, e7, e8, e9, e10⟩ := (b4 q).2
    refine ⟨s', g', a', code', M', d', e1, e2, e3, stl_mo (by decide) e4, e5, e6, e7, e8, e9, fun q0 => by omega, fun _ => e10.2.1 (by decide), fun _ => e10.2.2.1 (by decide), fun _ q2 => ?_⟩
    exact absurd ⟨q, q2⟩ cc
theorem nmk_e {i : Nat} (hd : dgx (HSx t c i) = true) : i + nmk (HSx t c) i ≤ t ∧ i + nmk (HSx t c) i ≤ 40 ∧ 1 ≤ nmk (HSx t c) i ∧ nmk (HSx t c) i ≤ 3 ∧ (dgx (HSx t c (i + nmk (HSx t c) i)) = true → nmk (HSx t c) i = 3) := by
  obtain ⟨i1, i2, ic⟩ := HSx_d hd
  unfold nmk
  cases d1 : dgx (HSx t c (i + 1)) with
  | false =>
    rw [if_neg (by decide)]
    exact ⟨by omega, by omega, by decide, by decide, fun q => by rw [d1] at q; cases q⟩
  | true =>
    obtain ⟨j1, j2, jc⟩ := HSx_d d1
    rw [if_pos rfl]
    cases d2 : dgx (HSx t c (i + 2)) with
    | false =>
      rw [if_neg (by decide)]
      exact ⟨by omega, by omega, by decide, by decide, fun q => by rw [d2] at q; cases q⟩
    | true =>
      obtain ⟨k1, k2, kc⟩ := HSx_d d2
      rw [if_pos rfl]
      exact ⟨by omega, by omega, by decide, by decide, fun _ => rfl⟩
theorem B_thing (hT : TC t c signs text) {n p i : Nat} (hp : p ≤ 4) (IH3 : i < 40 → i < t → IHx t c signs n 3 (i + 1) p) (IH0 : i < 40 → i < t → p < 4 → IHx t c signs n 0 (i + 1) (p + 1)) (hi : i ≤ 40) (hit : i ≤ t) : IHx t c signs (n + 1) 3 i p := by
  intro M s g a code d hM h0 hs hl hw hc
  have eP : PD (HSx t c) (n + 1) 3 i p = if HSx t c i = 45 then ((PD (HSx t c) n 3 (i + 1) p).1, (PD (HSx t c) n 3 (i + 1) p).2.1, (PD (HSx t c) n 3 (i + 1) p).2.2 ++ [2007])
    else if HSx t c i = 40 ∧ p < 4 then (if (PD (HSx t c) n 0 (i + 1) (p + 1)).1 = true then (if HSx t c (PD (HSx t c) n 0 (i + 1) (p + 1)).2.1 = 41 then (true, (PD (HSx t c) n 0 (i + 1) (p + 1)).2.1 + 1, (PD (HSx t c) n 0 (i + 1) (p + 1)).2.2) else (false, (PD (HSx t c) n 0 (i + 1) (p + 1)).2.1, [])) else (false, (PD (HSx t c) n 0 (i + 1) (p + 1)).2.1, []))
    else if dgx (HSx t c i) = true then (true, i + nmk (HSx t c) i, [nmv (HSx t c) i])
    else if ¬ lex (HSx t c i) = 0 then (true, i + 1, [999 + lex (HSx t c i)])
    else (false, i, []) := rfl
  by_cases e : i < t ∧ i < 40
  · have hx := (hT.2 i (by omega)).1
    have hH : HSx t c i = c i := HSx_i e
    have eN : 1000 - i = (1000 - (i + 1)) + 1 := by omega
    rcases L_beg hx hw hc (by omega) (by omega) hp (o32 M) d 0 with ⟨hx45, hb⟩ | ⟨hx40, hp4, hb⟩ | ⟨hdg, hb⟩ | ⟨hle, hdg, n45, n40, hb⟩ | ⟨hle, hdg, n45, n40, hb⟩
    · rw [eP, if_pos (by rw [hH]; exact hx45)]
      have st : fIn t signs (o32 i, o32 s.length, o32 p, o32 M, d, (0 : Int32), a, o32 g.length, code) = some (.inl (o32 (i + 1), o32 (2007 :: s).length, o32 p, o32 M, d, (0 : Int32), upd a s.length (o32 2007), o32 g.length, code)) := by
        show X6_faultIn_s32 80 signs (o32 t) (o32 i) (o32 s.length) (o32 p) (o32 M) d 0 a (o32 g.length) code = _
        rw [L_fs0 hT e.1 e.2 hb, if_neg (show ¬ (1 : Int32) = 0 by decide)]
      obtain ⟨b1, b2, b3, b4, b5⟩ := IH3 e.2 e.1 M (2007 :: s) g (upd a s.length (o32 2007)) code d hM (fun q => by omega) (fun q => by omega) (by show g.length + (s.length + 1) ≤ i + 1; omega) (hw.push (by omega)) hc
      rw [← lp_c _ st, ← eN] at b4 b5
      refine ⟨by show i ≤ (PD (HSx t c) n 3 (i + 1) p).2.1; omega, b2, b3, fun q => ⟨by show i < (PD (HSx t c) n 3 (i + 1) p).2.1; omega, ?_⟩, b5⟩
      obtain ⟨-, s2, g2, a2, code3, M3, d3, f1, f2, f3, f4, f5, f6, f7, f8, f9, f10⟩ := b4 q
      have eap : (s2 ++ [2007]) ++ s = s2 ++ 2007 :: s := by rw [List.append_assoc]; rfl
      refine ⟨s2 ++ [2007], g2, a2, code3, M3, d3, ?_, ?_, f3, ?_, ?_, f6, f7, f8, ?_, f10⟩
      · rw [eap]; exact f1
      · rw [eap]; exact f2
      · rw [stl_ap f4]; rfl
      · rw [← List.append_assoc, f5, List.append_assoc]
      · rw [eap]; exact f9
    · rw [eP, if_neg (by rw [hH]; omega), if_pos (by rw [hH]; exact ⟨hx40, hp4⟩)]
      obtain ⟨m1, m2, m3⟩ := clx_g hM (show p + 1 ≤ 4 by omega)
      rw [m1] at hb
      have st : fIn t signs (o32 i, o32 s.length, o32 p, o32 M, d, (0 : Int32), a, o32 g.length, code) = some (.inl (o32 (i + 1), o32 (0 :: s).length, o32 (p + 1), o32 (clx M (p + 1)), d, (0 : Int32), upd a s.length (o32 0), o32 g.length, code)) := by
        show X6_faultIn_s32 80 signs (o32 t) (o32 i) (o32 s.length) (o32 p) (o32 M) d 0 a (o32 g.length) code = _
        rw [L_fs0 hT e.1 e.2 hb, if_neg (show ¬ (1 : Int32) = 0 by decide)]
      obtain ⟨b1, b2, b3, b4, b5⟩ := IH0 e.2 e.1 hp4 (clx M (p + 1)) (0 :: s) g (upd a s.length (o32 0)) code d m2 (fun _ => m3) (fun q => rfl) (by show g.length + (s.length + 1) ≤ i + 1; omega) (hw.push (Or.inl rfl)) hc
      rw [← lp_c _ st, ← eN] at b4 b5
      obtain ⟨r, er⟩ : ∃ r, PD (HSx t c) n 0 (i + 1) (p + 1) = r := ⟨_, rfl⟩
      rw [er] at b1 b2 b3 b4 b5 ⊢
      by_cases c1 : r.1 = true
      · rw [if_pos c1]
        obtain ⟨-, s2, g2, a2, code3, M3, d3, f1, f2, f3, f4, f5, f6, f7, f8, f9, f10⟩ := b4 c1
        by_cases c41 : HSx t c r.2.1 = 41
        · rw [if_pos c41]
          obtain ⟨j1, j2, jc⟩ := HSx_l (show HSx t c r.2.1 < 256 by omega)
          have hst : stl 1 (s2 ++ 0 :: s) = 0 :: s := by rw [stl_ap f4]; rfl
          have hsg : stg 1 (s2 ++ 0 :: s) = s2 := by
            rw [stg_ap f4]
            show s2 ++ [] = s2
            rw [List.append_nil]
          have hll : (s2 ++ 0 :: s).length = s2.length + (s.length + 1) := List.length_append
          have hGl : g2.length + s2.length = (g ++ r.2.2).length := by rw [← f5, List.length_append]
          obtain ⟨code4, eg, hcd⟩ := L_gcl (s := s2 ++ 0 :: s) (r := s) (p := p + 1) f2 f3 (by omega) (by omega) (by omega) (o32 M3) d3 1 hst
          rw [hsg, f5, Nat.add_sub_cancel] at eg
          rw [hsg, f5] at hcd
          have st2 : fIn t signs (o32 r.2.1, o32 (s2 ++ 0 :: s).length, o32 (p + 1), o32 M3, d3, (1 : Int32), a2, o32 g2.length, code3) = some (.inl (o32 (r.2.1 + 1), o32 s.length, o32 p, o32 M3, (0 : Int32), (1 : Int32), a2, o32 (g ++ r.2.2).length, code4)) := by
            show X6_faultIn_s32 80 signs (o32 t) (o32 r.2.1) (o32 (s2 ++ 0 :: s).length) (o32 (p + 1)) (o32 M3) d3 1 a2 (o32 g2.length) code3 = _
            have e41 : o32 41 = o32 (c r.2.1) := by rw [jc, c41]
            rw [e41] at eg
            rw [L_fs1 hT j1 j2 eg, if_neg (show ¬ (1 : Int32) = 0 by decide)]
          rw [show 1000 - r.2.1 = (1000 - (r.2.1 + 1)) + 1 by omega, lp_c _ st2] at f1
          have hw3 : WtR a2 s := by
            have h2 := f2.st (b := 1)
            rw [hst] at h2
            exact h2.tl
          refine ⟨by show i ≤ r.2.1 + 1; omega, by show r.2.1 + 1 ≤ t; omega, by show r.2.1 + 1 ≤ 40; omega, fun _ => ⟨by show i < r.2.1 + 1; omega, ?_⟩, fun q => Bool.noConfusion q⟩
          refine ⟨[], g ++ r.2.2, a2, code4, M3, 0, f1, hw3, hcd, rfl, List.append_nil _, f6, fun q hq => ?_, fun _ => Or.inl rfl, ?_, fun _ => ?_, fun q => by omega, fun q => by omega, fun q => by omega⟩
          · rw [f7 q (by omega), clx_n hM (by omega) (by omega) (by omega)]
          · show (g ++ r.2.2).length + s.length ≤ r.2.1 + 1
            omega
          · rw [f7 p (by omega), clx_n hM (by omega) (by omega) (by omega)]
        · rw [if_neg c41]
          refine ⟨by show i ≤ r.2.1; omega, b2, b3, fun q => Bool.noConfusion q, fun _ => ?_⟩
          rw [f1]
          exact L_flt hT b3 (by omega) f6 f8 f10 (Or.inl c41) (fun _ => by omega)
      · rw [if_neg c1]
        exact ⟨by show i ≤ r.2.1; omega, b2, b3, fun q => Bool.noConfusion q, fun _ => b5 (by cases h : r.1; rfl; exact absurd h c1)⟩
    · have hdg2 : dgx (HSx t c i) = true := by rw [hH]; exact hdg
      have hdv := of_decide_eq_true hdg
      rw [eP, if_neg (by rw [hH]; omega), if_neg (by rw [hH]; omega), if_pos hdg2]
      obtain ⟨k1, k2, k3, k4, k5⟩ := nmk_e hdg2
      obtain ⟨code', el, hcd⟩ := L_num hT hdg2 hw hc (by omega) (by omega) hp (o32 M) d (997 - i)
      rw [show 997 - i + 3 = 1000 - i by omega, show 1000 - i - nmk (HSx t c) i = 1000 - (i + nmk (HSx t c) i) by omega] at el
      refine ⟨by show i ≤ i + nmk (HSx t c) i; omega, k1, k2, fun _ => ⟨by show i < i + nmk (HSx t c) i; omega, ?_⟩, fun q => Bool.noConfusion q⟩
      refine ⟨[], g ++ [nmv (HSx t c) i], a, code', M, o32 (nmk (HSx t c) i), el, hw, hcd, rfl, List.append_nil _, hM, fun q hq => rfl, fun q => Or.inr (by rw [k5 q]; rfl), ?_, fun _ => rfl, fun q => by omega, fun q => by omega, fun q => by omega⟩
      show (g ++ [nmv (HSx t c) i]).length + s.length ≤ i + nmk (HSx t c) i
      rw [List.length_append]
      show g.length + 1 + s.length ≤ _
      omega
    · rw [eP, if_neg (by rw [hH]; exact n45), if_neg (by rw [hH]; exact fun q => n40 q.1), if_neg (by rw [hH, hdg]; decide), if_pos (by rw [hH]; exact hle)]
      have st : fIn t signs (o32 i, o32 s.length, o32 p, o32 M, d, (0 : Int32), a, o32 g.length, code) = some (.inl (o32 (i + 1), o32 s.length, o32 p, o32 M, (0 : Int32), (1 : Int32), a, o32 (g ++ [999 + lex (c i)]).length, upd code g.length (o32 (999 + lex (c i))))) := by
        show X6_faultIn_s32 80 signs (o32 t) (o32 i) (o32 s.length) (o32 p) (o32 M) d 0 a (o32 g.length) code = _
        rw [L_fs0 hT e.1 e.2 hb, if_neg (show ¬ (1 : Int32) = 0 by decide)]
      have el := lp_c (1000 - (i + 1)) st
      rw [← eN] at el
      rw [hH]
      refine ⟨by show i ≤ i + 1; omega, e.1, e.2, fun _ => ⟨by show i < i + 1; omega, ?_⟩, fun q => Bool.noConfusion q⟩
      refine ⟨[], g ++ [999 + lex (c i)], a, _, M, 0, el, hw, (hc.ad (by omega) _).2, rfl, List.append_nil _, hM, fun q hq => rfl, fun q => Or.inl rfl, ?_, fun _ => rfl, fun q => by omega, fun q => by omega, fun q => by omega⟩
      show (g ++ [999 + lex (c i)]).length + s.length ≤ i + 1
      rw [List.length_append]
      show g.length + 1 + s.length ≤ _
      omega
    · rw [eP, if_neg (by rw [hH]; exact n45), if_neg (by rw [hH]; exact n40), if_neg (by rw [hH, hdg]; decide), if_neg (by rw [hH]; exact fun q => q hle)]
      have st : fIn t signs (o32 i, o32 s.length, o32 p, o32 M, d, (0 : Int32), a, o32 g.length, code) = some (.inr (.inr (o32 i, o32 s.length, o32 p, o32 M, d, (0 : Int32), a, o32 g.length, code))) := by
        show X6_faultIn_s32 80 signs (o32 t) (o32 i) (o32 s.length) (o32 p) (o32 M) d 0 a (o32 g.length) code = _
        rw [L_fs0 hT e.1 e.2 hb, if_pos rfl]
      have el := lp_e (1000 - (i + 1)) st
      rw [← eN] at el
      exact ⟨Nat.le_refl i, hit, hi, fun q => Bool.noConfusion q, fun _ => ⟨_, el, Or.inl ⟨e.1, e.2, _, rfl⟩⟩⟩
  · have hH : HSx t c i = 999 := HSx_n e
    rw [eP, if_neg (by rw [hH]; decide), if_neg (by rw [hH]; exact fun q => absurd q.1 (by decide)), if_neg (by rw [hH]; decide), if_neg (by rw [hH]; decide)]
    have st : fIn t signs (o32 i, o32 s.length, o32 p, o32 M, d, (0 : Int32), a, o32 g.length, code) = some (.inr (.inl (o32 s.length, o32 p, o32 M, d, (0 : Int32), a, o32 g.length, code))) := L_fse hT e (by omega)
    have el := lp_e (1000 - (i + 1)) st
    rw [show 1000 - (i + 1) + 1 = 1000 - i by omega] at el
    exact ⟨Nat.le_refl i, hit, hi, fun q => Bool.noConfusion q, fun _ => ⟨_, el, Or.inr ⟨e, _, _, _, _, _, _, _, _, rfl, Or.inl rfl⟩⟩⟩
theorem L_rB (hT : TC t c signs text) : ∀ (f k i p : Nat), k ≤ 3 → i ≤ 40 → i ≤ t → p ≤ 4 → 4 * (5 - p) + (41 - i) < f + k → IHx t c signs f k i p
  | 0, k, i, p, hk, hi, hit, hp, hf => by omega
  | f + 1, k, i, p, hk, hi, hit, hp, hf => by
    rcases (show k = 0 ∨ k = 1 ∨ k = 2 ∨ k = 3 by omega) with rfl | rfl | rfl | rfl
    · exact B_held hT hp (fun j h1 h2 h3 => L_rB hT f 1 j p (by decide) h2 h3 hp (by omega)) hi hit
    · exact B_sum hT (Or.inl rfl) hp (fun j h1 h2 h3 => L_rB hT f 2 j p (by decide) h2 h3 hp (by omega)) hi hit
    · exact B_sum hT (Or.inr rfl) hp (fun j h1 h2 h3 => L_rB hT f 3 j p (by decide) h2 h3 hp (by omega)) hi hit
    · exact B_thing hT hp (fun h1 h2 => L_rB hT f 3 (i + 1) p (by decide) (by omega) (by omega) hp (by omega)) (fun h1 h2 h3 => L_rB hT f 0 (i + 1) (p + 1) (by decide) (by omega) (by omega) (by omega) (by omega)) hi hit
end RBU
