/-! ===== the pure level: the class reads a rule: an operator and what stands behind it ===== -/
section RBT
variable {t : Nat} {c : Nat → Nat} {signs text : Nat → Int32}
theorem S1x.wk {b b' k p M j : Nat} {s G : List Nat} {X : XRx} (h : S1x t c signs b k p M s G j X) (hb : b' ≤ b) : S1x t c signs b' k p M s G j X := by
  obtain ⟨s', g', a', code', M', d', h1, h2, h3, h4, h5⟩ := h
  exact ⟨s', g', a', code', M', d', h1, h2, h3, stl_mo (by omega) h4, h5⟩
theorem L_stp (hT : TC t c signs text) {n k j p M : Nat} {s G : List Nat} {X : XRx} (hk : k ≤ 2) (hp : p ≤ 4) (h1 : S1x t c signs k (k + 1) p M s G j X) (hs : stl (k + 1) s = s) (hM : k = 0 → btx M p = 0) (ho : okx k (HSx t c j) = true) (IH : j < 40 → j < t → IHx t c signs n (k + 1) (j + 1) p) : j + 1 ≤ (PD (HSx t c) n (k + 1) (j + 1) p).2.1 ∧ (PD (HSx t c) n (k + 1) (j + 1) p).2.1 ≤ t ∧ (PD (HSx t c) n (k + 1) (j + 1) p).2.1 ≤ 40 ∧ ((PD (HSx t c) n (k + 1) (j + 1) p).1 = true → S1x t c signs k (if k = 0 then 0 else k + 1) p M s (G ++ (PD (HSx t c) n (k + 1) (j + 1) p).2.2 ++ [1999 + opx (HSx t c j)]) (PD (HSx t c) n (k + 1) (j + 1) p).2.1 X) ∧ ((PD (HSx t c) n (k + 1) (j + 1) p).1 = false → FaX t (PD (HSx t c) n (k + 1) (j + 1) p).2.1 X) := by
  obtain ⟨hx, hop, hbn⟩ := okx_f hk ho
  obtain ⟨i1, i2, ic⟩ := HSx_l hx
  obtain ⟨s', g', a', code', M', d', e1, e2, e3, e4, e5, e6, e7, e8, e9, e10⟩ := h1
  obtain ⟨x, ex⟩ : ∃ x, HSx t c j = x := ⟨_, rfl⟩
  rw [ex] at hx hop hbn ic ho ⊢
  have h7 := opx_b x
  have hst : stl (k + 1) (s' ++ s) = s := by rw [stl_ap e4, hs]
  have hsg : stg (k + 1) (s' ++ s) = s' := by rw [stg_ap e4, stg_o hs, List.append_nil]
  have hbit : btx M' p = btx M p := e10.1 (by omega)
  obtain ⟨code2, eg, hcd⟩ := L_gop (a := a') (s := s' ++ s) (x := x) hx e2 e3 (by omega) hp (o32 M') d' 1 hop (fun hb1 => by
    rw [btx_g e6 hp, hbit, hM (by omega)]; rfl)
  rw [hbn, hst, hsg] at eg
  rw [hbn, hsg, e5] at hcd
  have hgl : (g' ++ s').length = G.length := by rw [e5]
  rw [hgl] at eg
  have hw2 : WtR (upd a' s.length (o32 (1999 + opx x))) ((1999 + opx x) :: s) := by
    have h2 := e2.st (b := k + 1)
    rw [hst] at h2
    exact h2.push (by omega)
  obtain ⟨M2, eM2, hM2, hM2p, hM2q⟩ : ∃ M2, (o32 M' ||| (if k + 1 = 1 then ((1 : Int32) <<< (o32 p &&& 31)) else (0 : Int32))) = o32 M2 ∧ M2 < 32 ∧ btx M2 p = (if k = 0 then 1 else btx M p) ∧ ∀ q, q < p → btx M2 q = btx M q := by
    by_cases k0 : k = 0
    · obtain ⟨f1, f2, f3⟩ := sex_g e6 hp
      refine ⟨sex M' p, ?_, f2, ?_, fun q hq => ?_⟩
      · rw [if_pos (by omega)]; exact f1
      · rw [if_pos k0]; exact f3
      · rw [sex_n e6 hp (by omega) (by omega), e7 q hq]
    · refine ⟨M', ?_, e6, ?_, e7⟩
      · rw [if_neg (by omega)]; simp
      · rw [if_neg k0]; exact hbit
  rw [eM2] at eg
  have st : fIn t signs (o32 j, o32 (s' ++ s).length, o32 p, o32 M', d', (1 : Int32), a', o32 g'.length, code') = some (.inl (o32 (j + 1), o32 ((1999 + opx x) :: s).length, o32 p, o32 M2, (0 : Int32), (0 : Int32), upd a' s.length (o32 (1999 + opx x)), o32 G.length, code2)) := by
    show X6_faultIn_s32 80 signs (o32 t) (o32 j) (o32 (s' ++ s).length) (o32 p) (o32 M') d' 1 a' (o32 g'.length) code' = _
    rw [← ic] at eg
    rw [L_fs1 hT i1 i2 eg, if_neg (show ¬ (1 : Int32) = 0 by decide), ic]
  have hlen : g'.length + (s' ++ s).length = G.length + s.length := by
    rw [← hgl, List.length_append, List.length_append]; omega
  have hih := IH i2 i1 M2 ((1999 + opx x) :: s) G (upd a' s.length (o32 (1999 + opx x))) code2 0 hM2 (fun q => by omega) (fun q => by
    show (if k + 1 + 1 ≤ bnx (1999 + opx x) then _ else _) = _
    rw [hbn, if_neg (by omega)]) (by show G.length + (s.length + 1) ≤ j + 1; omega) hw2 hcd
  rw [show 1000 - j = (1000 - (j + 1)) + 1 by omega, lp_c _ st] at e1
  rw [← e1] at hih
  obtain ⟨b1, b2, b3, b4, b5⟩ := hih
  refine ⟨b1, b2, b3, fun hr => ?_, b5⟩
  obtain ⟨-, s2, g2, a2, code3, M3, d3, f1, f2, f3, f4, f5, f6, f7, f8, f9, f10⟩ := b4 hr
  have eap : (s2 ++ [1999 + opx x]) ++ s = s2 ++ (1999 + opx x) :: s := by rw [List.append_assoc]; rfl
  refine ⟨s2 ++ [1999 + opx x], g2, a2, code3, M3, d3, ?_, ?_, f3, ?_, ?_, f6, fun q hq => ?_, f8, ?_, ?_⟩
  · rw [eap]; exact f1
  · rw [eap]; exact f2
  · rw [stl_ap (stl_mo (by omega) f4)]
    show (if k + 1 ≤ bnx (1999 + opx x) then _ else _) = _
    rw [hbn, if_pos (Nat.le_refl _)]; rfl
  · rw [← List.append_assoc, f5]
  · rw [f7 q hq, hM2q q hq]
  · rw [eap]; exact f9
  · have hb3 : btx M3 p = btx M2 p := f10.1 (by omega)
    by_cases k0 : k = 0
    · subst k0
      rw [if_pos rfl]
      exact ⟨fun q => by omega, fun _ => f10.2.1 (by omega), fun _ => f10.2.2.1 (by omega), fun _ _ => by rw [hb3, hM2p, if_pos rfl]⟩
    · rw [if_neg k0]
      refine ⟨fun _ => by rw [hb3, hM2p, if_neg k0], fun q => f10.2.1 q, fun q => f10.2.2.1 q, fun q => by omega⟩
theorem B_loop (hT : TC t c signs text) {n k p M i : Nat} {s g : List Nat} {X : XRx} (hk : k = 1 ∨ k = 2) (hp : p ≤ 4) (hs : stl (k + 1) s = s) (IH : ∀ j, i ≤ j → j < 40 → j < t → IHx t c signs n (k + 1) (j + 1) p) : ∀ (m : Nat) (r : Bool × Nat × List Nat), i ≤ r.2.1 → r.2.1 ≤ t → r.2.1 ≤ 40 → 40 - r.2.1 < m → (r.1 = true → i < r.2.1 ∧ S1x t c signs k (k + 1) p M s (g ++ r.2.2) r.2.1 X) → (r.1 = false → FaX t r.2.1 X) → BPx t c signs k i p M s g X (PDl (HSx t c) (okx k) (fun j => PD (HSx t c) n (k + 1) j p) m r)
  | 0, r, h1, h2, h3, h4, h5, h6 => by omega
  | m + 1, r, h1, h2, h3, h4, h5, h6 => by
    by_cases cc : r.1 = true ∧ okx k (HSx t c r.2.1) = true
    · have eP : PDl (HSx t c) (okx k) (fun j => PD (HSx t c) n (k + 1) j p) (m + 1) r = PDl (HSx t c) (okx k) (fun j => PD (HSx t c) n (k + 1) j p) m ((PD (HSx t c) n (k + 1) (r.2.1 + 1) p).1, (PD (HSx t c) n (k + 1) (r.2.1 + 1) p).2.1, r.2.2 ++ (PD (HSx t c) n (k + 1) (r.2.1 + 1) p).2.2 ++ [1999 + opx (HSx t c r.2.1)]) := if_pos cc
      rw [eP]
      obtain ⟨q1, q2⟩ := h5 cc.1
      obtain ⟨b1, b2, b3, b4, b5⟩ := L_stp hT (by omega) hp q2 hs (fun q => by omega) cc.2 (IH r.2.1 h1)
      refine B_loop hT hk hp hs IH m _ (by show i ≤ (PD (HSx t c) n (k + 1) (r.2.1 + 1) p).2.1; omega) b2 b3 (by show 40 - (PD (HSx t c) n (k + 1) (r.2.1 + 1) p).2.1 < m; omega) (fun q => ⟨by show i < (PD (HSx t c) n (k + 1) (r.2.1 + 1) p).2.1; omega, ?_⟩) b5
      have h7 := b4 q
      rw [if_neg (by omega)] at h7
      rw [List.append_assoc, List.append_assoc] at h7
      show S1x t c signs k (k + 1) p M s (g ++ (r.2.2 ++ _ ++ _)) _ X
      rw [List.append_assoc]
      exact h7
    · have eP : PDl (HSx t c) (okx k) (fun j => PD (HSx t c) n (k + 1) j p) (m + 1) r = r := if_neg cc
      rw [eP]
      refine ⟨h1, h2, h3, fun q => ⟨(h5 q).1, ?_⟩, h6⟩
      have hn : okx k (HSx t c r.2.1) = false := by
        cases hh : okx k (HSx t c r.2.1) with
        | false => rfl
        | true => exact absurd ⟨q, hh⟩ cc
      obtain ⟨s', g', a', code', M', d', e1, e2, e3, e4, e5, e6, e7, e8, e9, e10⟩ := (h5 q).2
      refine ⟨s', g', a', code', M', d', e1, e2, e3, e4, e5, e6, e7, e8, e9, fun _ => e10.1 (by omega), fun _ => ?_, fun q1 => ?_, fun q0 => by omega⟩
      · rcases hk with rfl | rfl
        · exact e10.2.1 (by omega)
        · exact hn
      · rcases hk with rfl | rfl
        · exact hn
        · omega
theorem B_sum (hT : TC t c signs text) {n k p i : Nat} (hk : k = 1 ∨ k = 2) (hp : p ≤ 4) (IH : ∀ j, i ≤ j → j ≤ 40 → j ≤ t → IHx t c signs n (k + 1) j p) (hi : i ≤ 40) (hit : i ≤ t) : IHx t c signs (n + 1) k i p := by
  intro M s g a code d hM h0 hs hl hw hc
  have eP : PD (HSx t c) (n + 1) k i p = PDl (HSx t c) (okx k) (fun j => PD (HSx t c) n (k + 1) j p) 50 (PD (HSx t c) n (k + 1) i p) := by
    rcases hk with rfl | rfl <;> rfl
  rw [eP]
  obtain ⟨b1, b2, b3, b4, b5⟩ := IH i (Nat.le_refl i) hi hit M s g a code d hM (fun q => by omega) (fun q => by
    have h1 := hs (by omega)
    rcases hk with rfl | rfl
    · cases s with
      | nil => rfl
      | cons e r =>
        have h1 : (if 2 ≤ bnx e then stl 2 r else e :: r) = e :: r := h1
        show (if 3 ≤ bnx e then stl 3 r else e :: r) = e :: r
        by_cases c2 : 2 ≤ bnx e
        · rw [if_pos c2] at h1
          have h2 := stl_le 2 r
          have h3 := congrArg List.length h1
          have h3 : (stl 2 r).length = r.length + 1 := h3
          omega
        · rw [if_neg (by omega)]
    · omega) hl hw hc
  exact B_loop hT hk hp (hs (by omega)) (fun j h1 h2 h3 => IH (j + 1) (by omega) (by omega) (by omega)) 50 _ b1 b2 b3 (by omega) (fun q => ⟨(b4 q).1, (b4 q).2.wk (by omega)⟩) b5
end RBT
