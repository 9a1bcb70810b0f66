/-! ===== the pure level: who wants some, none of whom wakes; a morning ===== -/
def WS (n : Nat) (a : Nat → Int32) (set : Nat) : Nat := bm (fun k => decide (¬ nt (a (28 + k)) &&& set = 0)) n
def UM (n : Nat) (a : Nat → Int32) (up : Nat) : Nat := cn (fun q => decide (¬ nt (a (28 + q)) = 0) && decide (nt (a (28 + q)) &&& up = 0)) n
theorem pu_or0 (b : Int32) : b ||| 0 = b := by apply Int32.toBitVec.inj; show b.toBitVec ||| 0#32 = _; exact BitVec.or_zero
theorem pu_a0 {a b : Nat} (h : a < 128) : (o32 a &&& o32 b = 0) = (a &&& b = 0) := by
  rw [o_and]
  exact o0 (Nat.lt_of_le_of_lt Nat.and_le_left (by omega))
theorem L_ws {n : Nat} {day unmet : Int32} {skill pills slept woken wanted a : Nat → Int32} (h : RF n day unmet skill pills slept woken wanted a) (set : Nat) : X0_wantingSome (o32 n) wanted (o32 set) = some (o32 (WS n a set)) := by
  have hn := h.nn
  obtain ⟨z, e, hz⟩ := lp_ct (f := fun x4 : Int32 × Int32 => X0_wantingSome_s4 (o32 n) wanted (o32 set) x4.1 x4.2) (fun k x => x = (o32 (bm (fun k => decide (¬ nt (a (28 + k)) &&& set = 0)) k), o32 k)) (fun z => z = o32 (WS n a set)) n ((0 : Int32), (0 : Int32)) rfl (by
    rintro k x hk rfl
    have hw := h.ri.wt hk
    have e1 : wanted k = o32 (nt (a (28 + k))) := by rw [← h.wan (by omega)]; exact hw.2.1
    refine ⟨(o32 (bm (fun k => decide (¬ nt (a (28 + k)) &&& set = 0)) (k + 1)), o32 (k + 1)), ?_, rfl⟩
    simp (disch := omega) only [X0_wantingSome_s4, i_ge, gi_o, o_cl, o_s]
    rw [e1, ← bm_o (by omega)]
    simp only [pu_a0 hw.2.2.1, decide_eq_false_iff_not, Classical.not_not]) (by
    rintro x rfl
    refine ⟨o32 (WS n a set), ?_, rfl⟩
    simp (disch := omega) only [X0_wantingSome_s4, i_le]
    rfl) (by omega)
  unfold X0_wantingSome
  rw [e, hz]
  rfl
theorem pu_tb {m : Nat} (h : m = 0) (k : Nat) : m.testBit k = false := by subst h; exact Nat.zero_testBit k
theorem UM_ws {n : Nat} {a : Nat → Int32} (h : RI n a) (up : Nat) : pc (WS n a (2 ^ n - 1) &&& (127 ^^^ WS n a up)) = UM n a up := by
  have hn := h.1
  unfold pc UM
  rw [cn_tail (n := n) hn (fun k h1 h2 => by
    rw [Nat.testBit_and]
    unfold WS
    rw [bm_tb]
    have : ¬ k < n := by omega
    simp [this])]
  refine cn_ext (fun k hk => ?_)
  rw [Nat.testBit_and, Nat.testBit_xor, tb_127 (by omega)]
  unfold WS
  rw [bm_tb, bm_tb]
  have e1 : nt (a (28 + k)) &&& (2 ^ n - 1) = nt (a (28 + k)) := by
    rw [Nat.and_two_pow_sub_one_eq_mod, Nat.mod_eq_of_lt (h.wt hk).1]
  rw [e1]
  simp only [hk, decide_true, Bool.true_and]
  by_cases h1 : nt (a (28 + k)) &&& up = 0
  · simp [h1]
  · simp [h1]
theorem L_unserved {n : Nat} {day unmet : Int32} {skill pills slept woken wanted a : Nat → Int32} (h : RF n day unmet skill pills slept woken wanted a) {up : Nat} : X0_unserved (o32 n) wanted (o32 up) = some (o32 (UM n a up)) := by
  have hn := h.nn
  have h1 : WS n a (2 ^ n - 1) < 128 := bm_128 hn
  have h2 : WS n a up < 128 := bm_128 hn
  unfold X0_unserved
  rw [ev_o hn, L_ws h, Option.bind_some, L_ws h, Option.bind_some, an_o h1 h2, bc_o (Nat.lt_of_le_of_lt Nat.and_le_left h1), UM_ws h.ri]
theorem L_unmet {n : Nat} {a w : Nat → Int32} (h : RI n a) (hw : EQ w a) (up : Nat) : X11_unmet (o32 n) 37 w (o32 up) = some (o32 (UM n a up)) := by
  have hn := h.1
  obtain ⟨z, e, hz⟩ := lp_ct (f := fun x5 : Int32 × Int32 => X11_unmet_s5 (o32 n) 37 w (o32 up) x5.1 x5.2) (fun k x => x = (o32 (cn (fun q => decide (¬ nt (a (28 + q)) = 0) && decide (nt (a (28 + q)) &&& up = 0)) k), o32 k)) (fun z => z = o32 (UM n a up)) n ((0 : Int32), (0 : Int32)) rfl (by
    rintro k x hk rfl
    have hk' := h.wt hk
    have e1 : w (28 + k) = o32 (nt (a (28 + k))) := by rw [hw _ (by omega)]; exact hk'.2.1
    refine ⟨(o32 (cn (fun q => decide (¬ nt (a (28 + q)) = 0) && decide (nt (a (28 + q)) &&& up = 0)) (k + 1)), o32 (k + 1)), ?_, rfl⟩
    simp (disch := omega) only [X11_unmet_s5, i_ge, o_la, gi_o, o_cl, o_s]
    simp (disch := omega) only [e1, pu_a0 hk'.2.2.1, o0]
    show _ = some (Sum.inl (o32 (cn (fun q => decide (¬ nt (a (28 + q)) = 0) && decide (nt (a (28 + q)) &&& up = 0)) k + _), o32 (k + 1)))
    by_cases h1 : nt (a (28 + k)) = 0
    · rw [if_pos h1]
      simp only [h1]
      show some (Sum.inl (o32 _ + o32 0, o32 (k + 1))) = _
      rw [o_add]
      rfl
    · rw [if_neg h1]
      by_cases h2 : nt (a (28 + k)) &&& up = 0
      · rw [if_pos h2]
        simp only [h1, h2]
        rfl
      · rw [if_neg h2]
        simp only [h1, h2]
        show some (Sum.inl (o32 _ + o32 0, o32 (k + 1))) = _
        rw [o_add]
        rfl) (by
    rintro x rfl
    refine ⟨o32 (UM n a up), ?_, rfl⟩
    simp (disch := omega) only [X11_unmet_s5, i_le]
    rfl) (by omega)
  unfold X11_unmet
  rw [e, hz]
  rfl
/-- those below k have gone by -/
def MP (k up : Nat) (a : Nat → Int32) : Nat → Int32 := fun j =>
  if 7 ≤ j ∧ j < 7 + k then J9_max_7cf53 0 (a j - 1)
  else if 14 ≤ j ∧ j < 14 + k then (if up.testBit (j - 14) then 0 else J9_min_7cf53 99 (a j + 1))
  else if 21 ≤ j ∧ j < 21 + k then (if up.testBit (j - 21) then J9_min_7cf53 999 (a j + 1) else a j)
  else a j
def MOu (n up : Nat) (a : Nat → Int32) : Nat → Int32 := fun j =>
  if j = 36 then J9_min_7cf53 9999 (a 36 + o32 (UM n a up)) else if j = 35 then a 35 + 1 else MP n up a j
def MO (vs : (Nat → Int32) → Int32) (n : Nat) (a : Nat → Int32) : Nat → Int32 := MOu n (AW vs n a) a
theorem MP_7 {k up : Nat} {a : Nat → Int32} {j : Nat} (hj : j < 7) : MP k up a (7 + j) = if j < k then J9_max_7cf53 0 (a (7 + j) - 1) else a (7 + j) := by
  unfold MP
  by_cases h : j < k
  · rw [if_pos (by omega), if_pos h]
  · rw [if_neg (by omega), if_neg (by omega), if_neg (by omega), if_neg h]
theorem MP_14 {k up : Nat} {a : Nat → Int32} {j : Nat} (hk : k ≤ 7) (hj : j < 7) : MP k up a (14 + j) = if j < k then (if up.testBit j then 0 else J9_min_7cf53 99 (a (14 + j) + 1)) else a (14 + j) := by
  unfold MP
  by_cases h : j < k
  · rw [if_neg (by omega), if_pos (by omega), if_pos h, Nat.add_sub_cancel_left]
  · rw [if_neg (by omega), if_neg (by omega), if_neg (by omega), if_neg h]
theorem MP_21 {k up : Nat} {a : Nat → Int32} {j : Nat} (hk : k ≤ 7) (hj : j < 7) : MP k up a (21 + j) = if j < k then (if up.testBit j then J9_min_7cf53 999 (a (21 + j) + 1) else a (21 + j)) else a (21 + j) := by
  unfold MP
  by_cases h : j < k
  · rw [if_neg (by omega), if_neg (by omega), if_pos (by omega), if_pos h, Nat.add_sub_cancel_left]
  · rw [if_neg (by omega), if_neg (by omega), if_neg (by omega), if_neg h]
theorem MP_lo {k up : Nat} {a : Nat → Int32} {j : Nat} (hj : j < 7) : MP k up a j = a j := by
  unfold MP
  rw [if_neg (by omega), if_neg (by omega), if_neg (by omega)]
theorem MP_hi {k up : Nat} {a : Nat → Int32} {j : Nat} (hk : k ≤ 7) (hj : 28 ≤ j) : MP k up a j = a j := by
  unfold MP
  rw [if_neg (by omega), if_neg (by omega), if_neg (by omega)]
theorem pu_pill {p : Nat} (h : p < 10) : J9_max_7cf53 0 (o32 p - 1) = o32 (p - 1) := by
  have h1 : ∀ p : Fin 10, J9_max_7cf53 0 (o32 p.val - 1) = o32 (p.val - 1) := by decide +kernel
  exact h1 ⟨p, h⟩
theorem MOu_ri {n up : Nat} {a : Nat → Int32} (h : RI n a) : RI n (MOu n up a) := by
  have hn := h.1
  refine ⟨hn, fun k hk => ⟨?_, ?_, ?_⟩⟩
  · show ∃ s, s < 10 ∧ MOu n up a k = o32 s
    unfold MOu
    rw [if_neg (by omega), if_neg (by omega), MP_lo (by omega)]
    exact (h.2 k hk).1
  · unfold MOu
    rw [if_neg (by omega), if_neg (by omega), MP_7 (by omega), if_pos hk]
    obtain ⟨p, hp, e⟩ := (h.2 k hk).2.1
    rw [e, pu_pill hp]
    exact ⟨p - 1, by omega, rfl⟩
  · unfold MOu
    rw [if_neg (by omega), if_neg (by omega), MP_hi hn (by omega)]
    exact (h.2 k hk).2.2
theorem MO_ri {vs : (Nat → Int32) → Int32} {n : Nat} {a : Nat → Int32} (h : RI n a) : RI n (MO vs n a) := MOu_ri h
/-- the class's people behind a morning -/
theorem L_pass {n : Nat} {day unmet : Int32} {skill pills slept woken wanted a : Nat → Int32} (h : RF n day unmet skill pills slept woken wanted a) {up : Nat} (hu : up < 128) : ∃ y, X0_passMorning (o32 n) day unmet pills slept woken wanted (o32 up) = some y ∧ RF n y.1 y.2.1 skill y.2.2.1 y.2.2.2.1 y.2.2.2.2 wanted (MOu n up a) := by
  have hn := h.nn
  obtain ⟨z, e, hz⟩ := lp_ct (f := fun x32 : Int32 × (Nat → Int32) × (Nat → Int32) × (Nat → Int32) => X0_passMorning_s32 (o32 n) (o32 up) x32.1 x32.2.1 x32.2.2.1 x32.2.2.2) (fun k x => x.1 = o32 k ∧ ∀ j, j < 7 → x.2.1 j = MP k up a (7 + j) ∧ x.2.2.1 j = MP k up a (14 + j) ∧ x.2.2.2 j = MP k up a (21 + j)) (fun z => ∀ j, j < 7 → z.1 j = MP n up a (7 + j) ∧ z.2.1 j = MP n up a (14 + j) ∧ z.2.2 j = MP n up a (21 + j)) n ((0 : Int32), pills, slept, woken) ⟨rfl, fun j hj => ⟨by rw [MP_7 hj, if_neg (by omega)]; exact (h.pil hj).symm, by rw [MP_14 (by omega) hj, if_neg (by omega)]; exact (h.sle hj).symm, by rw [MP_21 (by omega) hj, if_neg (by omega)]; exact (h.wok hj).symm⟩⟩ (by
    rintro k ⟨i, x1, x2, x3⟩ hk ⟨h1, h2⟩
    have h1 : i = _ := h1
    subst h1
    have h2 : ∀ j, j < 7 → x1 j = MP k up a (7 + j) ∧ x2 j = MP k up a (14 + j) ∧ x3 j = MP k up a (21 + j) := h2
    obtain ⟨g1, g2, g3⟩ := h2 k (by omega)
    rw [MP_7 (by omega), if_neg (by omega)] at g1
    rw [MP_14 (by omega) (by omega), if_neg (by omega)] at g2
    rw [MP_21 (by omega) (by omega), if_neg (by omega)] at g3
    have fin : ∀ (s w : Int32), s = (if up.testBit k then 0 else J9_min_7cf53 99 (a (14 + k) + 1)) → (w = (if up.testBit k then J9_min_7cf53 999 (a (21 + k) + 1) else a (21 + k))) → ∀ j, j < 7 → upd x1 k (J9_max_7cf53 0 (x1 k - 1)) j = MP (k + 1) up a (7 + j) ∧ upd x2 k s j = MP (k + 1) up a (14 + j) ∧ upd x3 k w j = MP (k + 1) up a (21 + j) := by
      intro s w hs hw j hj
      rw [MP_7 hj, MP_14 (by omega) hj, MP_21 (by omega) hj]
      by_cases hjk : j = k
      · subst hjk
        rw [pk_us, pk_us, pk_us, g1]
        simp only [if_pos (Nat.lt_succ_self j)]
        exact ⟨True.intro, hs, hw⟩
      · obtain ⟨q1, q2, q3⟩ := h2 j hj
        rw [MP_7 hj] at q1
        rw [MP_14 (by omega) hj] at q2
        rw [MP_21 (by omega) hj] at q3
        rw [pk_un hjk, pk_un hjk, pk_un hjk, q1, q2, q3]
        by_cases hlt : j < k
        · simp only [if_pos hlt, if_pos (show j < k + 1 by omega)]; exact ⟨True.intro, True.intro, True.intro⟩
        · simp only [if_neg hlt, if_neg (show ¬ j < k + 1 by omega)]; exact ⟨True.intro, True.intro, True.intro⟩
    cases hb : up.testBit k with
    | false =>
      have hb' : ((o32 up >>> (o32 k &&& 31)) &&& 1) = 0 := by rw [bt_bit hu (by omega), hb]; rfl
      refine ⟨(o32 (k + 1), upd x1 k (J9_max_7cf53 0 (x1 k - 1)), upd x2 k (J9_min_7cf53 99 (x2 k + 1)), x3), ?_, rfl, fun j hj => ?_⟩
      · simp (disch := omega) only [X0_passMorning_s32, X0_passMorning_k97, i_ge, gi_o, o_cl, o_s]
        rw [if_pos hb']
      · have f := fin (J9_min_7cf53 99 (x2 k + 1)) (x3 k) (by rw [hb, g2]; rfl) (by rw [hb, g3]; rfl) j hj
        refine ⟨f.1, f.2.1, ?_⟩
        rw [← f.2.2]
        show x3 j = _
        by_cases hjk : j = k
        · subst hjk; rw [pk_us]
        · rw [pk_un hjk]
    | true =>
      have hb' : ¬ ((o32 up >>> (o32 k &&& 31)) &&& 1) = 0 := by rw [bt_bit hu (by omega), hb]; decide
      refine ⟨(o32 (k + 1), upd x1 k (J9_max_7cf53 0 (x1 k - 1)), upd x2 k 0, upd x3 k (J9_min_7cf53 999 (x3 k + 1))), ?_, rfl, fun j hj => ?_⟩
      · simp (disch := omega) only [X0_passMorning_s32, X0_passMorning_k97, i_ge, gi_o, o_cl, o_s]
        rw [if_neg hb']
      · exact fin 0 (J9_min_7cf53 999 (x3 k + 1)) (by rw [hb]; rfl) (by rw [hb, g3]; rfl) j hj) (by
    rintro ⟨i, x1, x2, x3⟩ ⟨h1, h2⟩
    have h1 : i = _ := h1
    subst h1
    refine ⟨(x1, x2, x3), ?_, h2⟩
    simp (disch := omega) only [X0_passMorning_s32, i_le]) (by omega)
  refine ⟨(day + 1, J9_min_7cf53 9999 (unmet + o32 (UM n a up)), z.1, z.2.1, z.2.2), ?_, ?_⟩
  · unfold X0_passMorning
    rw [L_unserved h, Option.bind_some, e]
    rfl
  · have hri := MOu_ri (up := up) h.ri
    refine ⟨hn, ?_, ?_, fun k hk => ?_, fun k hk => ?_⟩
    · show a 35 + 1 = day + 1
      rw [h.dy]
    · show J9_min_7cf53 9999 (a 36 + o32 (UM n a up)) = _
      rw [h.unm]
    · obtain ⟨q1, q2, q3⟩ := hz k hk
      refine ⟨?_, ?_, ?_, ?_, ?_⟩
      · unfold MOu; rw [if_neg (by omega), if_neg (by omega), MP_lo hk]; exact h.ski hk
      · unfold MOu; rw [if_neg (by omega), if_neg (by omega)]; exact q1.symm
      · unfold MOu; rw [if_neg (by omega), if_neg (by omega)]; exact q2.symm
      · unfold MOu; rw [if_neg (by omega), if_neg (by omega)]; exact q3.symm
      · unfold MOu; rw [if_neg (by omega), if_neg (by omega), MP_hi hn (by omega)]; exact h.wan hk
    · refine ⟨h.bsk hk, ?_, h.bwa hk, h.bse hk⟩
      obtain ⟨p, hp, e⟩ := (hri.2 k hk).2.1
      refine ⟨p, hp, ?_⟩
      show z.1 k = o32 p
      rw [(hz k (by omega)).1, ← e]
      unfold MOu; rw [if_neg (by omega), if_neg (by omega)]
