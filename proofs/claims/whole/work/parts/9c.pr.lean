/-! ===== the pure level: rule ===== -/
def usN (j : Nat) : Nat := ([115, 45, 52, 43, 119] : List Nat).getD j 0
theorem us_tc : TC 5 usN us_at (fun k => (o32 (usN k)).toInt8.toInt32) := by
  refine ⟨by decide, fun k hk => ?_⟩
  have h1 : ∀ k : Fin 80, usN k.val < 256 ∧ us_at k.val = o32 (usN k.val) := by decide +kernel
  exact ⟨(h1 ⟨k, hk⟩).1, (h1 ⟨k, hk⟩).2, rfl⟩
theorem us_f : (fun x32 : Int32 × Int32 × Int32 × Int32 × Int32 × Int32 × (Nat → Int32) × Int32 × (Nat → Int32) => X6_faultInU_s32 5 x32.1 x32.2.1 x32.2.2.1 x32.2.2.2.1 x32.2.2.2.2.1 x32.2.2.2.2.2.1 x32.2.2.2.2.2.2.1 x32.2.2.2.2.2.2.2.1 x32.2.2.2.2.2.2.2.2) = fIn 5 us_at := by
  funext x
  obtain ⟨x0, x1, x2, x3, x4, x5, x6, x7, x8⟩ := x
  show X6_faultInU_s32 5 x0 x1 x2 x3 x4 x5 x6 x7 x8 = X6_faultIn_s32 80 us_at (o32 5) x0 x1 x2 x3 x4 x5 x6 x7 x8
  unfold X6_faultInU_s32 X6_faultIn_s32
  rw [show o32 5 = (5 : Int32) from rfl, show Int32.ofNat 80 = (80 : Int32) from rfl]
  by_cases h5 : (5 : Int32) ≤ x0
  · rw [if_pos h5, if_pos h5]
  · have h40 : ¬ (40 : Int32) ≤ x0 := fun h => h5 (Int32.le_trans (by decide) h)
    have h80 : ¬ (80 : Int32) ≤ x0 := fun h => h5 (Int32.le_trans (by decide) h)
    rw [if_neg h5, if_neg h40, if_neg h5, if_neg h5, if_neg h40, if_neg h80]
    have hg : ∀ {α : Type} (y : Option α), gi x0 5 y = gi x0 80 y := by
      intro α y
      unfold gi
      by_cases h0 : x0 < 0
      · rw [if_pos (Or.inl h0), if_pos (Or.inl h0)]
      · obtain ⟨m, hm, rfl⟩ := o_of h0
        have hm5 : m < 5 := by
          have : ¬ o32 5 ≤ o32 m := h5
          rw [o_le (by decide) hm] at this
          omega
        rw [o_cl hm, if_neg (by rintro (q | q); exact h0 q; omega), if_neg (by rintro (q | q); exact h0 q; omega)]
    rw [hg, hg]
    rfl
theorem us_fi (waiting code0 : Nat → Int32) : X6_faultInU waiting code0 5 = X6_faultIn waiting 80 us_at code0 (o32 5) := by
  unfold X6_faultInU X6_faultIn
  rw [us_f]
  rfl
theorem us_pd : PD (HSx 5 usN) 100 0 0 0 = (true, 5, [1000, 4, 2004, 1002, 2003]) := by decide +kernel
/-- what the code of a list says -/
def VsL (l : List Nat) : (Nat → Int32) → Int32 := VLc (fun j => l.getD j 0) l.length
theorem us_vs (t : Nat → Int32) : VsL [1000, 4, 2004, 1002, 2003] t = t 0 - 4 + t 2 := rfl
theorem VsL_vc {l : List Nat} (h : ∀ e, e ∈ l → VKc e) : VC (VsL l) := VLc_v (fun j hj => by
  have hj : j < l.length := hj
  rw [List.getD_eq_getElem?_getD, List.getElem?_eq_getElem hj]
  exact h _ (List.getElem_mem hj))
theorem VsL_rv {l : List Nat} {code : Nat → Int32} (h : ∀ e, e ∈ l → VKc e) (hl : l.length ≤ 40) (hc : CdR code l) : RV (VsL l) (o32 l.length) code := L_val hl (fun j hj => by
  have hj : j < l.length := hj
  rw [List.getD_eq_getElem?_getD, List.getElem?_eq_getElem hj]
  exact h _ (List.getElem_mem hj)) hc
section RRU
variable {t : Nat} {c : Nat → Nat} {signs text : Nat → Int32}
theorem TC.rd (hT : TC t c signs text) : RdH t 80 text (HSx t c) := by
  refine ⟨hT.1, by decide, by decide, fun i _ => ?_⟩
  by_cases e : i < t ∧ i < 40
  · have h1 := hT.2 i (by have := hT.1; omega)
    rw [HSx_i e]
    exact Or.inl ⟨e.1, e.2, h1.1, h1.2.2⟩
  · exact Or.inr ⟨e, HSx_n e⟩
theorem TC.rr (hT : TC t c signs text) {rule : Nat → Int32} (hr : ∀ i, i < t → i < 40 → rule i = text i) : RdH t 40 rule (HSx t c) := by
  refine ⟨hT.1, by decide, by decide, fun i _ => ?_⟩
  by_cases e : i < t ∧ i < 40
  · have h1 := hT.2 i (by have := hT.1; omega)
    rw [HSx_i e, hr i e.1 e.2]
    exact Or.inl ⟨e.1, e.2, h1.1, h1.2.2⟩
  · exact Or.inr ⟨e, HSx_n e⟩
/-- is the text a rule, and where is the fault -/
def okR (t : Nat) (c : Nat → Nat) : Bool := decide (t = 0) || ((PD (HSx t c) 100 0 0 0).1 && decide ((PD (HSx t c) 100 0 0 0).2.1 = t))
def cdR (t : Nat) (c : Nat → Nat) : List Nat := if t = 0 then [1000, 4, 2004, 1002, 2003] else (PD (HSx t c) 100 0 0 0).2.2
theorem cdR_v (t : Nat) (c : Nat → Nat) : ∀ e, e ∈ cdR t c → VKc e := by
  intro e he
  unfold cdR at he
  by_cases h0 : t = 0
  · rw [if_pos h0, ← show (PD (HSx 5 usN) 100 0 0 0).2.2 = [1000, 4, 2004, 1002, 2003] by rw [us_pd]] at he
    exact PD_v _ _ _ _ _ e he
  · rw [if_neg h0] at he
    exact PD_v _ _ _ _ _ e he
theorem L_rsp (hT : TC t c signs text) (waiting code0 : Nat → Int32) : ∃ y, X10_readsSpare (o32 t) signs waiting code0 = some y ∧ y.2.1 = 0 ∧ (okR t c = true → y.1 = -1 ∧ (cdR t c).length ≤ 40 ∧ t ≤ 40 ∧ RV (VsL (cdR t c)) y.2.2.2.2.2.2.2.2.1 y.2.2.2.2.2.2.2.2.2) ∧ (okR t c = false → y.1 = o32 (PD (HSx t c) 100 0 0 0).2.1 ∧ (PD (HSx t c) 100 0 0 0).2.1 ≤ 40) := by
  have ht := hT.1
  by_cases h0 : t = 0
  · subst h0
    obtain ⟨y, ey, h4, h5⟩ := L_fi us_tc waiting code0
    rw [us_pd] at h4 h5
    have ok : okR 0 c = true := rfl
    refine ⟨(y.1, (0 : Int32), y.2), ?_, rfl, fun _ => ?_, fun q => by rw [ok] at q; cases q⟩
    · unfold X10_readsSpare
      rw [if_pos (show o32 0 = (0 : Int32) from rfl), us_fi, ey, Option.bind_some]
      rfl
    · rcases h5 with ⟨-, -, h6, h7, h8, h9⟩ | ⟨h6, -⟩
      · refine ⟨h6, show ([1000, 4, 2004, 1002, 2003] : List Nat).length ≤ 40 by decide, by decide, ?_⟩
        show RV (VsL [1000, 4, 2004, 1002, 2003]) y.2.2.2.2.2.2.2.1 y.2.2.2.2.2.2.2.2
        rw [h7]
        exact VsL_rv (cdR_v 0 c) (by decide) h8
      · exact absurd ⟨rfl, Nat.le_refl 5⟩ h6
  · obtain ⟨y, ey, h4, h5⟩ := L_fi hT waiting code0
    have pre : X10_readsSpare (o32 t) signs waiting code0 = some (y.1, (0 : Int32), y.2) := by
      unfold X10_readsSpare
      rw [if_neg (show ¬ o32 t = (0 : Int32) by
        show ¬ o32 t = o32 0
        rw [o_eq (by omega) (by decide)]; exact h0), ey, Option.bind_some]
      rfl
    refine ⟨_, pre, rfl, fun q => ?_, fun q => ?_⟩
    · unfold okR at q
      rw [decide_eq_false h0, Bool.false_or, Bool.and_eq_true] at q
      have q2 := of_decide_eq_true q.2
      rcases h5 with ⟨-, h5, h6, h7, h8, h9⟩ | ⟨h6, -⟩
      · have ec : cdR t c = (PD (HSx t c) 100 0 0 0).2.2 := if_neg h0
        rw [ec]
        refine ⟨h6, h9, by omega, ?_⟩
        show RV _ y.2.2.2.2.2.2.2.1 y.2.2.2.2.2.2.2.2
        rw [h7]
        exact VsL_rv (fun e he => PD_v _ _ _ _ _ e he) h9 h8
      · exact absurd ⟨q.1, by omega⟩ h6
    · unfold okR at q
      rw [decide_eq_false h0, Bool.false_or] at q
      rcases h5 with ⟨h1, h5, h6, h7, h8, h9⟩ | ⟨h6, h7⟩
      · rw [h1, decide_eq_true h5] at q; cases q
      · exact ⟨h7, h4⟩
theorem L_rr (hT : TC t c signs text) (asked : Nat → Int32) : ∃ y, X11_readRule (o32 t) text asked = some y ∧ y.2.1 = 0 ∧ (okR t c = true → y.1 = 1) ∧ (okR t c = false → y.1 = 0 ∧ y.2.2.2.2.2.1 = o32 (PD (HSx t c) 100 0 0 0).2.1) := by
  have ht := hT.1
  have bt : X11_beginText (o32 t) (40 : Int32) = ((0 : Int32), o32 t, (40 : Int32), (0 : Int32), (-1 : Int32)) := rfl
  by_cases h0 : t = 0
  · subst h0
    have ok : okR 0 c = true := rfl
    refine ⟨((1 : Int32), (0 : Int32), o32 0, (40 : Int32), (0 : Int32), (-1 : Int32), (0 : Int32)), ?_, rfl, fun _ => rfl, fun q => by rw [ok] at q; cases q⟩
    unfold X11_readRule X11_readRule_k24
    rw [bt]
    dsimp only
    rw [if_pos (show o32 0 ≤ (0 : Int32) by decide), show (0 : Int32) = o32 0 from rfl, L_wr1 (by decide) (by decide), if_pos (Nat.le_refl 0), Option.bind_some]
    exact gn_b (Or.inr rfl)
  · obtain ⟨v, ev, b1, b2, b3⟩ := L_rA (isA := 0) (asked := asked) hT.rd (Or.inl rfl) 100 0 0 0 (by decide) (by decide) (by decide) (by decide)
    have pre : ∀ r, X11_readRule_k24 (o32 t) (o32 (PD (HSx t c) 100 0 0 0).2.1) (wrx (PD (HSx t c) 100 0 0 0)) = some r → X11_readRule (o32 t) text asked = some r := by
      intro r hr
      unfold X11_readRule
      rw [bt]
      dsimp only
      rw [if_neg (show ¬ o32 t ≤ (0 : Int32) by
        show ¬ o32 t ≤ o32 0
        rw [o_le (by omega) (by decide)]; omega)]
      show (X11_expr 100 0 (o32 t) (o32 40) (o32 0) (-1) 0 80 text asked (o32 0)).bind _ = _
      rw [ev, Option.bind_some]
      exact hr
    by_cases c1 : (PD (HSx t c) 100 0 0 0).1 = true
    · have ew : wrx (PD (HSx t c) 100 0 0 0) = -1 := if_pos c1
      rw [ew] at pre
      by_cases c2 : t ≤ (PD (HSx t c) 100 0 0 0).2.1
      · have hle : (PD (HSx t c) 100 0 0 0).2.1 ≤ t := (L_rB hT 100 0 0 0 (by decide) (by decide) (by omega) (by decide) (by decide) 0 [] [] (fun _ => 0) (fun _ => 0) 0 (by decide) (fun _ => rfl) (fun _ => rfl) (Nat.le_refl 0) ⟨fun e he => absurd he List.not_mem_nil, fun j hj => absurd hj (Nat.not_lt_zero j)⟩ (fun j hj => absurd hj (Nat.not_lt_zero j))).2.1
        have ok : okR t c = true := by
          unfold okR
          rw [c1, decide_eq_true (show (PD (HSx t c) 100 0 0 0).2.1 = t by omega), Bool.and_true, Bool.or_true]
        refine ⟨_, pre _ (by
          unfold X11_readRule_k24
          rw [bt]
          dsimp only
          rw [L_wr1 (by omega) (by omega), if_pos c2, Option.bind_some]
          exact gn_b (Or.inr rfl)), rfl, fun _ => rfl, fun q => by rw [ok] at q; cases q⟩
      · have ok : okR t c = false := by
          unfold okR
          rw [decide_eq_false h0, decide_eq_false (show ¬ (PD (HSx t c) 100 0 0 0).2.1 = t by omega), Bool.and_false, Bool.or_false]
        refine ⟨_, pre _ (by
          unfold X11_readRule_k24
          rw [bt]
          dsimp only
          rw [L_wr1 (by omega) (by omega), if_neg c2, Option.bind_some]
          exact gn_b (Or.inl rfl)), rfl, (fun q => by rw [ok] at q; cases q), fun _ => ⟨rfl, rfl⟩⟩
    · have ew : wrx (PD (HSx t c) 100 0 0 0) = o32 (PD (HSx t c) 100 0 0 0).2.1 := if_neg c1
      rw [ew] at pre
      have c1' : (PD (HSx t c) 100 0 0 0).1 = false := by cases h : (PD (HSx t c) 100 0 0 0).1; rfl; exact absurd h c1
      have ok : okR t c = false := by
        unfold okR
        rw [decide_eq_false h0, c1', Bool.false_and, Bool.or_false]
      refine ⟨_, pre _ (by
        unfold X11_readRule_k24
        rw [bt]
        dsimp only
        rw [L_wr (by omega), Option.bind_some]
        exact gn_b (Or.inl rfl)), rfl, (fun q => by rw [ok] at q; cases q), fun _ => ⟨rfl, rfl⟩⟩
/-- the rule that is laid beside is the text -/
theorem L_rm (hT : TC t c signs text) (hok : okR t c = true) {rule : Nat → Int32} (hr : ∀ i, i < t → i < 40 → rule i = text i) : RM (VsL (cdR t c)) (o32 t) rule := by
  have ht := hT.1
  have e0 : (o32 t = (0 : Int32)) = (t = 0) := by
    show (o32 t = o32 0) = _
    rw [o_eq (by omega) (by decide)]
  refine ⟨fun q u => ?_, fun q asked => ?_⟩
  · rw [e0] at q
    subst q
    exact us_vs u
  · rw [e0] at q
    have ec : cdR t c = (PD (HSx t c) 100 0 0 0).2.2 := if_neg q
    unfold okR at hok
    rw [decide_eq_false q, Bool.false_or, Bool.and_eq_true] at hok
    obtain ⟨v, ev, b1, b2, b3⟩ := L_rA (isA := 1) (asked := asked) (hT.rr hr) (Or.inr rfl) 100 0 0 0 (by decide) (by decide) (by decide) (by decide)
    refine ⟨_, ev, ?_⟩
    rw [ec]
    exact (VLc_p ((b3 hok.1).2 rfl)).symm
end RRU
