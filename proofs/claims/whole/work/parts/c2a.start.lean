/-! ===== the law, from its entry ===== -/
theorem tbT {w : Cond} (i : Nat) (h : tables_1[i]? = some w) : w ∈ lw_tbl := List.mem_append_right _ (List.mem_of_getElem? h)
theorem XN_t : ∀ w ∈ XNw, w ∈ lw_tbl := by decide +kernel
theorem pmI (a b c m o : va_W) : ((([] ++ (a ++ (b ++ c))) ++ m) ++ o).Perm ((a ++ c) ++ (b ++ (m ++ o))) := by
  have h1 : ((([] ++ (a ++ (b ++ c))) ++ m) ++ o) = a ++ ((b ++ c) ++ (m ++ o)) := by simp only [List.nil_append, List.append_assoc]
  have h2 : ((a ++ c) ++ (b ++ (m ++ o))) = a ++ ((c ++ b) ++ (m ++ o)) := by simp only [List.append_assoc]
  rw [h1, h2]
  exact List.Perm.append_left a (List.Perm.append_right _ List.perm_append_comm)
theorem RF_0 : RF 0 0 0 (fun _ => 0) (fun _ => 0) (fun _ => 0) (fun _ => 0) (fun _ => 0) (fun _ => 0) := ⟨by decide, rfl, rfl, fun k _ => ⟨rfl, rfl, rfl, rfl, rfl⟩, fun k hk => absurd hk (Nat.not_lt_zero k)⟩
theorem TX_0 : TX 0 0 (fun _ => 0) (fun _ => 0) := ⟨0, by decide, rfl, rfl, fun k _ => ⟨0, by decide, rfl, rfl⟩⟩
theorem PA_0 : PA 0 0 0 0 (fun _ => 0) (fun _ => 0) (fun _ => 0) (fun _ _ => 0) (fun _ _ => 0) (fun _ _ => 0) (fun _ _ => 0) (fun _ _ => 0) (fun _ => 0) := ⟨0, 0, by decide, by decide, rfl, rfl, rfl, fun i hi => absurd hi (Nat.not_lt_zero i)⟩
theorem KP_0 : KP 0 0 0 (fun _ => 0) (fun _ => 0) (fun _ => 0) (fun _ => 0) (fun _ _ => 0) (fun _ _ => 0) (fun _ _ => 0) (fun _ _ => 0) (fun _ _ => 0) (fun _ => 0) (fun _ => 0) (fun _ => 0) := ⟨0, Nat.le_refl 0, rfl, fun i _ => ⟨0, Nat.le_refl 0, rfl, Or.inr ⟨rfl, Or.inl rfl⟩⟩⟩
theorem HE_0 : HE 0 0 (fun _ => 0) (fun _ => 0) (fun _ => 0) (fun _ => 0) := ⟨0, by decide, rfl, rfl, fun k hk => absurd hk (Nat.not_lt_zero k)⟩
theorem SI_0 : SI 0 0 (fun _ => 0) (fun _ => 0) (fun _ => 0) (fun _ => 0) (fun _ => 0) := ⟨0, by decide, rfl, rfl, fun k hk => absurd hk (Nat.not_lt_zero k)⟩
theorem us_0 : ∃ r, X6_faultInU (fun _ => 0) (fun _ => 0) 5 = some r ∧ RV (VsL [1000, 4, 2004, 1002, 2003]) r.2.2.2.2.2.2.2.1 r.2.2.2.2.2.2.2.2 := by
  obtain ⟨y, ey, h4, h5⟩ := L_fi us_tc (fun _ => 0) (fun _ => 0)
  rw [us_pd] at h4 h5
  refine ⟨y, by rw [us_fi]; exact ey, ?_⟩
  rcases h5 with ⟨-, -, h6, h7, h8, h9⟩ | ⟨h6, -⟩
  · rw [h7]
    exact VsL_rv (cdR_v 0 (fun _ => 0)) (by decide) h8
  · exact absurd ⟨rfl, Nat.le_refl 5⟩ h6
theorem RM_0 : RM (VsL [1000, 4, 2004, 1002, 2003]) 0 (fun _ => 0) := ⟨fun _ t => us_vs t, fun h => absurd rfl h⟩
theorem VC_0 : VC (VsL [1000, 4, 2004, 1002, 2003]) := VsL_vc (cdR_v 0 (fun _ => 0))
set_option maxHeartbeats 4000000 in
set_option maxRecDepth 100000 in
theorem kn_cl {s : State} {a : Array Value} (hg : ∀ w ∈ lw_g, w.before a s = true) (hao : (Cond.arrayOver (.object "BellForWanted$Folk")).before a s = true) : ∃ (D : va_G) (cy : Nat → ClassId), va_K D vwCl (TYc cy) s := by
  obtain ⟨cX0, iX0, hX0⟩ := u_known (C := RX0) (T := TX0) (N := 8) (n := 8) hg inX0 (hg _ inst_X0)
  obtain ⟨cX1, iX1, hX1⟩ := u_known (C := RX1) (T := TX1) (N := 3) (n := 3) hg inX1 (hg _ inst_X1)
  obtain ⟨cX2, iX2, hX2⟩ := u_known (C := RX2) (T := TX2) (N := 2) (n := 2) hg inX2 (hg _ inst_X2)
  obtain ⟨cX3, iX3, hX3⟩ := u_known (C := RX3) (T := TX3) (N := 5) (n := 5) hg inX3 (hg _ inst_X3)
  obtain ⟨cX4, iX4, hX4⟩ := u_known (C := RX4) (T := TX4) (N := 4) (n := 4) hg inX4 (hg _ inst_X4)
  obtain ⟨cX5, iX5, hX5⟩ := u_known (C := RX5) (T := TX5) (N := 4) (n := 4) hg inX5 (hg _ inst_X5)
  obtain ⟨cX6, iX6, hX6⟩ := u_known (C := RX6) (T := TX6) (N := 6) (n := 6) hg inX6 (hg _ inst_X6)
  obtain ⟨cX7, iX7, hX7⟩ := u_known (C := RX7) (T := TX7) (N := 1) (n := 1) hg inX7 (hg _ inst_X7)
  obtain ⟨cX8, iX8, hX8⟩ := u_known (C := RX8) (T := TX8) (N := 5) (n := 5) hg inX8 (hg _ inst_X8)
  obtain ⟨cX9, iX9, hX9⟩ := u_known (C := RX9) (T := TX9) (N := 2) (n := 2) hg inX9 (hg _ inst_X9)
  obtain ⟨cX10, iX10, hX10⟩ := u_known (C := RX10) (T := TX10) (N := 13) (n := 13) hg inX10 (hg _ inst_X10)
  obtain ⟨cX11, iX11, hX11⟩ := u_known (C := RX11) (T := TX11) (N := 41) (n := 41) hg inX11 (hg _ inst_X11)
  obtain ⟨tB, kB, mB, fB, gB, eB⟩ := Cond.arrayClass_spec (args := a) (first := s) (o := none) (s := s) (idx := []) (type := .byte) (hg _ ac_B)
  obtain ⟨tC, kC, mC, fC, gC, eC⟩ := Cond.arrayClass_spec (args := a) (first := s) (o := none) (s := s) (idx := []) (type := .char) (hg _ ac_C)
  obtain ⟨tI, kI, mI, fI, gI, eI⟩ := Cond.arrayClass_spec (args := a) (first := s) (o := none) (s := s) (idx := []) (type := .int) (hg _ ac_I)
  obtain ⟨tJ, kJ, mJ, fJ, gJ, eJ⟩ := Cond.arrayClass_spec (args := a) (first := s) (o := none) (s := s) (idx := []) (type := .long) (hg _ ac_J)
  obtain ⟨tZ, kZ, mZ, fZ, gZ, eZ⟩ := Cond.arrayClass_spec (args := a) (first := s) (o := none) (s := s) (idx := []) (type := .boolean) (hg _ ac_Z)
  obtain ⟨mF, tF, kF, fF, -, gF, eF, nF⟩ := Cond.arrayOver_spec (args := a) (first := s) (o := none) (s := s) (idx := []) (n := "BellForWanted$Folk") hao
  refine ⟨(fun k => ([cX0, cX1, cX2, cX3, cX4, cX5, cX6, cX7, cX8, cX9, cX10, cX11] : List ClassId).getD k cX0, fun k => ([iX0, iX1, iX2, iX3, iX4, iX5, iX6, iX7, iX8, iX9, iX10, iX11] : List (Nat → Nat)).getD k iX0), fun k => ([tB, tC, tI, tJ, tZ, tF] : List ClassId).getD k tB, fun k q hq => ?_, fun k q hq => ?_⟩
  · match k, hq with
    | 0, hq => cases hq; exact hX0
    | 1, hq => cases hq; exact hX1
    | 2, hq => cases hq; exact hX2
    | 3, hq => cases hq; exact hX3
    | 4, hq => cases hq; exact hX4
    | 5, hq => cases hq; exact hX5
    | 6, hq => cases hq; exact hX6
    | 7, hq => cases hq; exact hX7
    | 8, hq => cases hq; exact hX8
    | 9, hq => cases hq; exact hX9
    | 10, hq => cases hq; exact hX10
    | 11, hq => cases hq; exact hX11
    | k + 12, hq => simp [vwCl] at hq
  · match k, hq with
    | 0, hq => cases hq; exact ⟨fun n z => ⟨fun k h => (by cases h), kB, gB, mB, eB⟩, fB⟩
    | 1, hq => cases hq; exact ⟨fun n z => ⟨fun k h => (by cases h), kC, gC, mC, eC⟩, fC⟩
    | 2, hq => cases hq; exact ⟨fun n z => ⟨fun k h => (by cases h), kI, gI, mI, eI⟩, fI⟩
    | 3, hq => cases hq; exact ⟨fun n z => ⟨fun k h => (by cases h), kJ, gJ, mJ, eJ⟩, fJ⟩
    | 4, hq => cases hq; exact ⟨fun n z => ⟨fun k h => (by cases h), kZ, gZ, mZ, eZ⟩, fZ⟩
    | 5, hq => cases hq; exact ⟨fun n z => ⟨fun k h => (by cases h), kF, gF, mF, eF⟩, kF, mF, gF, eF, fF, nF⟩
    | k + 6, hq => simp [TYc] at hq
set_option maxHeartbeats 4000000 in
set_option maxRecDepth 100000 in
theorem kn_G {s : State} {a : Array Value} (hts : ∀ w ∈ lw_tbl, w.before a s = true) (hgv : (Jvm.Cond.and given_1 narrow_1).before a s = true) : ∃ g : Gt, Gx g (fun q => s.heap.size ≤ q) s s.heap := by
  have hs := flat_of_before _ hgv
  have hA : ∀ a : Nat, a < s.heap.size → ¬ (fun q : Nat => s.heap.size ≤ q) a := fun a h => Nat.not_le.mpr h
  obtain ⟨t, ht, hT⟩ := va_Tof (args := a) (s := s) (tm := (.static "BellForWanted" "USUAL" "[C")) (ty := .char) (N := 5) (f := fun j => .int (us_at j)) (A := fun q : Nat => s.heap.size ≤ q) (by decide) (hs (Cond.arrayOf (.static "BellForWanted" "USUAL" "[C") .char) (by decide +kernel)) (va_eqt (hs (Cond.eq (.length (.static "BellForWanted" "USUAL" "[C")) (.int 5)) (by decide +kernel))) (fun j hj => by
    rcases (show j = 0 ∨ j = 1 ∨ j = 2 ∨ j = 3 ∨ j = 4 by omega) with rfl | rfl | rfl | rfl | rfl
    · exact va_eqt (hs (Cond.eq (.elem (.static "BellForWanted" "USUAL" "[C") (.int 0)) (.int 115)) (by decide +kernel))
    · exact va_eqt (hs (Cond.eq (.elem (.static "BellForWanted" "USUAL" "[C") (.int 1)) (.int 45)) (by decide +kernel))
    · exact va_eqt (hs (Cond.eq (.elem (.static "BellForWanted" "USUAL" "[C") (.int 2)) (.int 52)) (by decide +kernel))
    · exact va_eqt (hs (Cond.eq (.elem (.static "BellForWanted" "USUAL" "[C") (.int 3)) (.int 43)) (by decide +kernel))
    · exact va_eqt (hs (Cond.eq (.elem (.static "BellForWanted" "USUAL" "[C") (.int 4)) (.int 119)) (by decide +kernel))) hA
  have hZ := va_Zof (A := fun q : Nat => s.heap.size ≤ q) (hts (Cond.laysStatic "BellForWanted" "USUAL" "[C") (tbT 259 (by decide +kernel))) (hts (Cond.initialized "BellForWanted") (tbT 1 (by decide +kernel))) ht hA
  have hC := va_Zof (A := fun q : Nat => s.heap.size ≤ q) (hts (Cond.laysStatic "java/lang/String" "COMPACT_STRINGS" "Z") (tbT 312 (by decide +kernel))) (hts (Cond.initialized "java/lang/String") (tbT 13 (by decide +kernel))) (va_eqt (hs (Cond.eq (.static "java/lang/String" "COMPACT_STRINGS" "Z") (.int 1)) (by decide +kernel))) hA
  obtain ⟨adK, adV, hSt, hSe⟩ := vk_Sof (args := a) (s := s) (N := 2) (tm := fun i => if i = 0 then (.string "BellForWanted$RuleReader" 71) else (.string "BellForWanted$RuleReader" 48)) (len := tx_len) (byt := tx_byt) (A := fun q : Nat => s.heap.size ≤ q)
    (fun i hi => by rcases lt2 hi with rfl | rfl <;> decide)
    (fun i hi => by
    rcases lt2 hi with rfl | rfl
    · exact hs (Cond.exactly (.string "BellForWanted$RuleReader" 71) "java/lang/String") (by decide +kernel)
    · exact hs (Cond.exactly (.string "BellForWanted$RuleReader" 48) "java/lang/String") (by decide +kernel))
    (fun i hi => by
    rcases lt2 hi with rfl | rfl
    · exact hs (Cond.eq (.field (.string "BellForWanted$RuleReader" 71) "java/lang/String" "coder" "B") (.int 0)) (by decide +kernel)
    · exact hs (Cond.eq (.field (.string "BellForWanted$RuleReader" 48) "java/lang/String" "coder" "B") (.int 0)) (by decide +kernel))
    (fun i hi => by
    rcases lt2 hi with rfl | rfl
    · exact hs (Cond.arrayOf (.field (.string "BellForWanted$RuleReader" 71) "java/lang/String" "value" "[B") .byte) (by decide +kernel)
    · exact hs (Cond.arrayOf (.field (.string "BellForWanted$RuleReader" 48) "java/lang/String" "value" "[B") .byte) (by decide +kernel))
    (fun i hi => by
    rcases lt2 hi with rfl | rfl
    · exact hs (Cond.eq (.length (.field (.string "BellForWanted$RuleReader" 71) "java/lang/String" "value" "[B")) (.int 7)) (by decide +kernel)
    · exact hs (Cond.eq (.length (.field (.string "BellForWanted$RuleReader" 48) "java/lang/String" "value" "[B")) (.int 7)) (by decide +kernel))
    (fun i hi j hj => by
    rcases lt2 hi with rfl | rfl
    · have hj : j < 7 := hj
      exact (by
      rcases (show j = 0 ∨ j = 1 ∨ j = 2 ∨ j = 3 ∨ j = 4 ∨ j = 5 ∨ j = 6 by omega) with rfl | rfl | rfl | rfl | rfl | rfl | rfl
      · exact hs (Cond.eq (.elem (.field (.string "BellForWanted$RuleReader" 71) "java/lang/String" "value" "[B") (.int 0)) (.int 60)) (by decide +kernel)
      · exact hs (Cond.eq (.elem (.field (.string "BellForWanted$RuleReader" 71) "java/lang/String" "value" "[B") (.int 1)) (.int 62)) (by decide +kernel)
      · exact hs (Cond.eq (.elem (.field (.string "BellForWanted$RuleReader" 71) "java/lang/String" "value" "[B") (.int 2)) (.int 61)) (by decide +kernel)
      · exact hs (Cond.eq (.elem (.field (.string "BellForWanted$RuleReader" 71) "java/lang/String" "value" "[B") (.int 3)) (.int 43)) (by decide +kernel)
      · exact hs (Cond.eq (.elem (.field (.string "BellForWanted$RuleReader" 71) "java/lang/String" "value" "[B") (.int 4)) (.int 45)) (by decide +kernel)
      · exact hs (Cond.eq (.elem (.field (.string "BellForWanted$RuleReader" 71) "java/lang/String" "value" "[B") (.int 5)) (.int 42)) (by decide +kernel)
      · exact hs (Cond.eq (.elem (.field (.string "BellForWanted$RuleReader" 71) "java/lang/String" "value" "[B") (.int 6)) (.int 47)) (by decide +kernel))
    · have hj : j < 7 := hj
      exact (by
      rcases (show j = 0 ∨ j = 1 ∨ j = 2 ∨ j = 3 ∨ j = 4 ∨ j = 5 ∨ j = 6 by omega) with rfl | rfl | rfl | rfl | rfl | rfl | rfl
      · exact hs (Cond.eq (.elem (.field (.string "BellForWanted$RuleReader" 48) "java/lang/String" "value" "[B") (.int 0)) (.int 115)) (by decide +kernel)
      · exact hs (Cond.eq (.elem (.field (.string "BellForWanted$RuleReader" 48) "java/lang/String" "value" "[B") (.int 1)) (.int 116)) (by decide +kernel)
      · exact hs (Cond.eq (.elem (.field (.string "BellForWanted$RuleReader" 48) "java/lang/String" "value" "[B") (.int 2)) (.int 119)) (by decide +kernel)
      · exact hs (Cond.eq (.elem (.field (.string "BellForWanted$RuleReader" 48) "java/lang/String" "value" "[B") (.int 3)) (.int 118)) (by decide +kernel)
      · exact hs (Cond.eq (.elem (.field (.string "BellForWanted$RuleReader" 48) "java/lang/String" "value" "[B") (.int 4)) (.int 117)) (by decide +kernel)
      · exact hs (Cond.eq (.elem (.field (.string "BellForWanted$RuleReader" 48) "java/lang/String" "value" "[B") (.int 5)) (.int 98)) (by decide +kernel)
      · exact hs (Cond.eq (.elem (.field (.string "BellForWanted$RuleReader" 48) "java/lang/String" "value" "[B") (.int 6)) (.int 110)) (by decide +kernel)))
    (fun i j hi hj hij => by
    rcases lt2 hi with rfl | rfl <;> rcases lt2 hj with rfl | rfl
    · exact absurd rfl hij
    · exact Or.inl (hs (Cond.not (Cond.eq (.string "BellForWanted$RuleReader" 71) (.string "BellForWanted$RuleReader" 48))) (by decide +kernel))
    · exact Or.inr (hs (Cond.not (Cond.eq (.string "BellForWanted$RuleReader" 71) (.string "BellForWanted$RuleReader" 48))) (by decide +kernel))
    · exact absurd rfl hij) hA
  exact ⟨(t, adK, adV), hZ, hT, hC, hSt, vk_R.of (A := a) (hts (Cond.stringRef "BellForWanted$RuleReader" 71 "<>=+-*/") (tbT 298 (by decide +kernel))) (hSe 0 (by decide)), vk_R.of (A := a) (hts (Cond.stringRef "BellForWanted$RuleReader" 48 "stwvubn") (tbT 391 (by decide +kernel))) (hSe 1 (by decide))⟩
set_option maxHeartbeats 4000000 in
set_option maxRecDepth 100000 in
theorem kn_T {s : State} {a : Array Value} (hts : ∀ w ∈ lw_tbl, w.before a s = true) (hgv : (Jvm.Cond.and given_1 narrow_1).before a s = true) : Tx (fun q => s.heap.size ≤ q) s s.heap := by
  have hs := flat_of_before _ hgv
  have hA : ∀ a : Nat, a < s.heap.size → ¬ (fun q : Nat => s.heap.size ≤ q) a := fun a h => Nat.not_le.mpr h
  refine ⟨vx_Zqof (hts (Cond.laysStatic "java/lang/Throwable" "UNASSIGNED_STACK" "[Ljava/lang/StackTraceElement;") (tbT 1033 (by decide +kernel))) (hts (Cond.initialized "java/lang/Throwable") (tbT 19 (by decide +kernel))) (hs (Cond.isRef (.static "java/lang/Throwable" "UNASSIGNED_STACK" "[Ljava/lang/StackTraceElement;")) (by decide +kernel)) hA, vx_Zqof (hts (Cond.laysStatic "java/lang/Throwable" "SUPPRESSED_SENTINEL" "Ljava/util/List;") (tbT 1035 (by decide +kernel))) (hts (Cond.initialized "java/lang/Throwable") (tbT 19 (by decide +kernel))) (hs (Cond.isRef (.static "java/lang/Throwable" "SUPPRESSED_SENTINEL" "Ljava/util/List;")) (by decide +kernel)) hA, fun w hw => ?_⟩
  have hx := XN_x w hw
  unfold xfw at hx
  rw [Bool.and_eq_true] at hx
  exact va_Nw.of hx.1 (hts w (XN_t w hw))
