set_option maxHeartbeats 4000000 in
set_option maxRecDepth 100000 in
theorem c_X9_takes {l : Launch} {D : va_G} {cy : Nat → ClassId} (q0 : Nat) (q1 : Nat) (v_size : Int32) (v_signs : Nat → Int32) (p1 : Int32) (r : Int32 × Int32 × (Nat → Int32)) (h : X9_takes v_size v_signs p1 = some r) : Ct l yX9_takes cX9_takes 3 (some .boolean) 0 0 D cy [.ref q0, .int p1] [oX9 q0 (.ref q1) (.int v_size), aC cy q1 80 v_signs] (fun _ => [oX9 q0 (.ref q1) (.int r.2.1), aC cy q1 80 r.2.2]) (some (.int r.1)) := by
  refine Ct.mk kX9_takes (by decide +kernel) (Nat.le_of_ble_eq_true rfl) ?_
  intro p e s m below meth c A ls args R Q hRf hRl hQ E H locs hS hl
  have hx := E.x
  have hb := E.b
  have hl : lv_has ls 3 [(0, .ref q0), (1, .int p1)] := hl
  unfold X9_takes at h
  refine lv_aload_n hx hb dX9_takes_0 rfl (lv_at hl 0 rfl) ?_
  refine r_get E frX9_15 hS 0 rfl rfl dX9_takes_1 ?_
  refine lv_iconst (v := 4) hx hb dX9_takes_4 (by decide) ?_
  refine lv_iadd hx hb dX9_takes_5 ?_
  refine lv_bipush (v := 80) hx hb dX9_takes_6 (by decide) ?_
  refine lv_icmp_le (tgt := 13) hx hb dX9_takes_8 (by decide) (fun c1 => ?_) (fun c1 => ?_)
  · have h := it_pos c1 h
    refine lv_bipush (v := 24) hx hb dX9_takes_13 (by decide) ?_
    refine lv_istore_n (lv' := [(2, .int (24 : Int32)), (0, .ref q0), (1, .int p1)]) hx hb dX9_takes_15 rfl hl (by decide) rfl (fun ls hl => ?_)
    have hL16 : ∀ (n : Nat) (x16_0 : Int32) (x16_1 : Int32) (x16_2 : Nat → Int32) (y16 : Int32 × (Nat → Int32)) (H : Heap) (locs : List Loc) (ls : Array Slot), lp (fun x16 => X9_takes_s16 p1 x16.1 x16.2.1 x16.2.2) n (x16_0, x16_1, x16_2) = some y16 → Sv D A s.heap [oX9 q0 (.ref q1) (.int x16_1), aC cy q1 80 x16_2] H locs → lv_has ls 3 [(0, .ref q0), (1, .int p1), (2, .int x16_0)] → ( ∀ (y16_0 : Int32) (y16_1 : Nat → Int32), (y16_0, y16_1) = y16 → ∀ (H : Heap) (locs : List Loc) (ls : Array Slot), Sv D A s.heap [oX9 q0 (.ref q1) (.int y16_0), aC cy q1 80 y16_1] H locs → lv_has ls 3 [] → W p l e R s m args below meth c H locs 0 0 Q (F0 m 53 ls [])) → W p l e R s m args below meth c H locs 0 0 Q (F0 m 16 ls []) := by
      intro n
      induction n with
      | zero =>
        intro x16_0 x16_1 x16_2 y16 H locs ls h
        exact lp_zero h
      | succ n ih16 =>
        intro x16_0 x16_1 x16_2 y16 H locs ls h hS hl hk16_0
        obtain ⟨z16, h, hz16a, hz16b⟩ := lp_succ h
        have h : X9_takes_s16 p1 x16_0 x16_1 x16_2 = some z16 := h
        unfold X9_takes_s16 at h
        refine lv_iload_n hx hb dX9_takes_16 rfl (lv_at hl 2 rfl) ?_
        refine lv_if_lt (tgt := 53) hx hb dX9_takes_17 (by decide) (fun c2 => ?_) (fun c2 => ?_)
        · have h := it_pos c2 h
          exact hk16_0 x16_1 x16_2 (hz16b _ (Option.some.inj h).symm)  H locs ls hS (lv_sub hl [] rfl)
        · have h := it_neg c2 h
          refine lv_aload_n hx hb dX9_takes_20 rfl (lv_at hl 0 rfl) ?_
          refine r_get E frX9_9 hS 0 rfl rfl dX9_takes_21 ?_
          refine lv_aload_n hx hb dX9_takes_24 rfl (lv_at hl 0 rfl) ?_
          refine r_get E frX9_15 hS 0 rfl rfl dX9_takes_25 ?_
          refine lv_iload_n hx hb dX9_takes_28 rfl (lv_at hl 1 rfl) ?_
          refine lv_iload_n hx hb dX9_takes_29 rfl (lv_at hl 2 rfl) ?_
          refine lv_iushr (v := iushr p1 x16_0) hx hb dX9_takes_30 rfl ?_
          refine lv_sipush (v := 255) hx hb dX9_takes_31 (by decide) ?_
          refine lv_iand hx hb dX9_takes_34 ?_
          refine lv_i2c (v := ((((iushr p1 x16_0) &&& (255 : Int32)).toUInt32 % 65536).toInt32)) hx hb dX9_takes_35 rfl ?_
          obtain ⟨g3, h⟩ := gi_some h
          refine r_cast (ws' := [oX9 q0 (.ref q1) (.int x16_1), aC cy q1 80 (upd x16_2 x16_1.toNatClampNeg (vp_nar .char ((((iushr p1 x16_0) &&& (255 : Int32)).toUInt32 % 65536).toInt32)))]) E hS 1 rfl g3 rfl dX9_takes_36 (fun H locs hS => ?_)
          refine lv_aload_n hx hb dX9_takes_37 rfl (lv_at hl 0 rfl) ?_
          refine lv_dup hx hb dX9_takes_38 rfl ?_
          refine r_get E frX9_15 hS 0 rfl rfl dX9_takes_39 ?_
          refine lv_iconst (v := 1) hx hb dX9_takes_42 (by decide) ?_
          refine lv_iadd hx hb dX9_takes_43 ?_
          refine r_put (ws' := [oX9 q0 (.ref q1) (.int (x16_1 + (1 : Int32))), aC cy q1 80 (upd x16_2 x16_1.toNatClampNeg (vp_nar .char ((((iushr p1 x16_0) &&& (255 : Int32)).toUInt32 % 65536).toInt32)))]) E frX9_15 hS 0 rfl (Nat.le_of_ble_eq_true rfl) rfl rfl rfl rfl dX9_takes_44 (fun H locs hS => ?_)
          refine lv_iinc (v := (x16_0 + (-8 : Int32))) (lv' := [(2, .int (x16_0 + (-8 : Int32))), (0, .ref q0), (1, .int p1)]) hx hb dX9_takes_47 hl (k := 2) rfl rfl (by decide) rfl (fun ls hl => ?_)
          refine lv_goto (tgt := 16) hx hb dX9_takes_50 (by decide) ?_
          exact ih16 (x16_0 + (-8 : Int32)) (x16_1 + (1 : Int32)) (upd x16_2 x16_1.toNatClampNeg (vp_nar .char ((((iushr p1 x16_0) &&& (255 : Int32)).toUInt32 % 65536).toInt32))) y16  H locs ls (hz16a _ (Option.some.inj h).symm) hS (lv_sub hl [1, 2, 0] rfl) hk16_0
    obtain ⟨y16, e16, h⟩ := bd_some h
    refine hL16 1000 (24 : Int32) v_size v_signs y16  H locs ls e16 hS (lv_sub hl [1, 2, 0] rfl) (fun y16_0 y16_1 ey16 H locs ls hS hl => ?_)
    subst ey16
    have h := un_r h
    refine lv_iconst (v := 1) hx hb dX9_takes_53 (by decide) ?_
    obtain rfl := Option.some.inj h
    exact rt_n E rfl hQ (.null) hS dX9_takes_54
  · have h := it_neg c1 h
    refine lv_iconst (v := 0) hx hb dX9_takes_11 (by decide) ?_
    obtain rfl := Option.some.inj h
    exact rt_n E rfl hQ (.null) hS dX9_takes_12
set_option maxHeartbeats 4000000 in
set_option maxRecDepth 100000 in
theorem c_X9_cutsTo {l : Launch} {D : va_G} {cy : Nat → ClassId} (q0 : Nat) (u0_0 : Value) (v_size : Int32) (p1 : Int32) (r : Int32 × Int32) (h : X9_cutsTo v_size p1 = r) : Ct l yX9_cutsTo cX9_cutsTo 2 (some .boolean) 0 0 D cy [.ref q0, .int p1] [oX9 q0 u0_0 (.int v_size)] (fun _ => [oX9 q0 u0_0 (.int r.2)]) (some (.int r.1)) := by
  refine Ct.mk kX9_cutsTo (by decide +kernel) (Nat.le_of_ble_eq_true rfl) ?_
  intro p e s m below meth c A ls args R Q hRf hRl hQ E H locs hS hl
  have hx := E.x
  have hb := E.b
  have hl : lv_has ls 2 [(0, .ref q0), (1, .int p1)] := hl
  unfold X9_cutsTo at h
  refine lv_iload_n hx hb dX9_cutsTo_0 rfl (lv_at hl 1 rfl) ?_
  refine lv_if_lt (tgt := 12) hx hb dX9_cutsTo_1 (by decide) (fun c1 => ?_) (fun c1 => ?_)
  · have h := it_pos c1 h
    refine lv_iconst (v := 0) hx hb dX9_cutsTo_12 (by decide) ?_
    subst h
    exact rt_n E rfl hQ (.null) hS dX9_cutsTo_13
  · have h := it_neg c1 h
    refine lv_iload_n hx hb dX9_cutsTo_4 rfl (lv_at hl 1 rfl) ?_
    refine lv_aload_n hx hb dX9_cutsTo_5 rfl (lv_at hl 0 rfl) ?_
    refine r_get E frX9_15 hS 0 rfl rfl dX9_cutsTo_6 ?_
    refine lv_icmp_le (tgt := 14) hx hb dX9_cutsTo_9 (by decide) (fun c2 => ?_) (fun c2 => ?_)
    · have h := it_pos c2 h
      refine lv_aload_n hx hb dX9_cutsTo_14 rfl (lv_at hl 0 rfl) ?_
      refine lv_iload_n hx hb dX9_cutsTo_15 rfl (lv_at hl 1 rfl) ?_
      refine r_put (ws' := [oX9 q0 u0_0 (.int p1)]) E frX9_15 hS 0 rfl (Nat.le_of_ble_eq_true rfl) rfl rfl rfl rfl dX9_cutsTo_16 (fun H locs hS => ?_)
      refine lv_iconst (v := 1) hx hb dX9_cutsTo_19 (by decide) ?_
      subst h
      exact rt_n E rfl hQ (.null) hS dX9_cutsTo_20
    · have h := it_neg c2 h
      refine lv_iconst (v := 0) hx hb dX9_cutsTo_12 (by decide) ?_
      subst h
      exact rt_n E rfl hQ (.null) hS dX9_cutsTo_13
set_option maxHeartbeats 4000000 in
set_option maxRecDepth 100000 in
theorem c_X9_empties {l : Launch} {D : va_G} {cy : Nat → ClassId} (q0 : Nat) (u0_0 : Value) (v_size : Int32) (r : Int32) (h : X9_empties = r) : Ct l yX9_empties cX9_empties 1 none 0 0 D cy [.ref q0] [oX9 q0 u0_0 (.int v_size)] (fun _ => [oX9 q0 u0_0 (.int r)]) (none) := by
  refine Ct.mk kX9_empties (by decide +kernel) (Nat.le_of_ble_eq_true rfl) ?_
  intro p e s m below meth c A ls args R Q hRf hRl hQ E H locs hS hl
  have hx := E.x
  have hb := E.b
  have hl : lv_has ls 1 [(0, .ref q0)] := hl
  unfold X9_empties at h
  refine lv_aload_n hx hb dX9_empties_0 rfl (lv_at hl 0 rfl) ?_
  refine lv_iconst (v := 0) hx hb dX9_empties_1 (by decide) ?_
  refine r_put (ws' := [oX9 q0 u0_0 (.int (0 : Int32))]) E frX9_15 hS 0 rfl (Nat.le_of_ble_eq_true rfl) rfl rfl rfl rfl dX9_empties_2 (fun H locs hS => ?_)
  subst h
  exact rt_v E hQ (.null) hS dX9_empties_5
set_option maxHeartbeats 4000000 in
set_option maxRecDepth 100000 in
theorem c_X9_at {l : Launch} {D : va_G} {cy : Nat → ClassId} (q0 : Nat) (q1 : Nat) (v_size : Int32) (v_signs : Nat → Int32) (p1 : Int32) (r : Int32) (h : X9_at v_size v_signs p1 = some r) : Ct l yX9_at cX9_at 2 (some .char) 0 0 D cy [.ref q0, .int p1] [oX9 q0 (.ref q1) (.int v_size), aC cy q1 80 v_signs] (fun _ => [oX9 q0 (.ref q1) (.int v_size), aC cy q1 80 v_signs]) (some (.int r)) := by
  refine Ct.mk kX9_at (by decide +kernel) (Nat.le_of_ble_eq_true rfl) ?_
  intro p e s m below meth c A ls args R Q hRf hRl hQ E H locs hS hl
  have hx := E.x
  have hb := E.b
  have hl : lv_has ls 2 [(0, .ref q0), (1, .int p1)] := hl
  unfold X9_at at h
  refine lv_iload_n hx hb dX9_at_0 rfl (lv_at hl 1 rfl) ?_
  refine lv_if_lt (tgt := 21) hx hb dX9_at_1 (by decide) (fun c1 => ?_) (fun c1 => ?_)
  · have h := it_pos c1 h
    refine lv_iconst (v := 0) hx hb dX9_at_21 (by decide) ?_
    obtain rfl := Option.some.inj h
    exact rt_n E rfl hQ (.null) hS dX9_at_22
  · have h := it_neg c1 h
    refine lv_iload_n hx hb dX9_at_4 rfl (lv_at hl 1 rfl) ?_
    refine lv_aload_n hx hb dX9_at_5 rfl (lv_at hl 0 rfl) ?_
    refine r_get E frX9_15 hS 0 rfl rfl dX9_at_6 ?_
    refine lv_icmp_ge (tgt := 21) hx hb dX9_at_9 (by decide) (fun c2 => ?_) (fun c2 => ?_)
    · have h := it_pos c2 h
      refine lv_iconst (v := 0) hx hb dX9_at_21 (by decide) ?_
      obtain rfl := Option.some.inj h
      exact rt_n E rfl hQ (.null) hS dX9_at_22
    · have h := it_neg c2 h
      refine lv_aload_n hx hb dX9_at_12 rfl (lv_at hl 0 rfl) ?_
      refine r_get E frX9_9 hS 0 rfl rfl dX9_at_13 ?_
      refine lv_iload_n hx hb dX9_at_16 rfl (lv_at hl 1 rfl) ?_
      obtain ⟨g3, h⟩ := gi_some h
      refine r_cald E hS 1 rfl g3 dX9_at_17 ?_
      refine lv_goto (tgt := 22) hx hb dX9_at_18 (by decide) ?_
      obtain ⟨g4, h⟩ := gn_some h
      obtain rfl := Option.some.inj h
      exact rt_n E (gn_nar g4) hQ (.null) hS dX9_at_22
set_option maxHeartbeats 4000000 in
set_option maxRecDepth 100000 in
theorem c_X9_digitAt {l : Launch} {D : va_G} {cy : Nat → ClassId} (q0 : Nat) (q1 : Nat) (v_size : Int32) (v_signs : Nat → Int32) (p1 : Int32) (r : Int32) (h : X9_digitAt v_size v_signs p1 = some r) : Ct l yX9_digitAt cX9_digitAt 3 (some .int) 1 21 D cy [.ref q0, .int p1] [oX9 q0 (.ref q1) (.int v_size), aC cy q1 80 v_signs] (fun _ => [oX9 q0 (.ref q1) (.int v_size), aC cy q1 80 v_signs]) (some (.int r)) := by
  refine Ct.mk kX9_digitAt (by decide +kernel) (Nat.le_of_ble_eq_true rfl) ?_
  intro p e s m below meth c A ls args R Q hRf hRl hQ E H locs hS hl
  have hx := E.x
  have hb := E.b
  have hl : lv_has ls 3 [(0, .ref q0), (1, .int p1)] := hl
  unfold X9_digitAt at h
  refine lv_aload_n hx hb dX9_digitAt_0 rfl (lv_at hl 0 rfl) ?_
  refine lv_iload_n hx hb dX9_digitAt_1 rfl (lv_at hl 1 rfl) ?_
  obtain ⟨y2, e1, h⟩ := bd_some h
  refine ct_V (ws' := fun _ => [oX9 q0 (.ref q1) (.int v_size), aC cy q1 80 v_signs]) (st' := [.int y2]) (rest := []) E hS vlX9_19 (c_X9_at (l := l) (D := D) (cy := cy) (q0 := q0) (q1 := q1) (v_size := v_size) (v_signs := v_signs) (p1 := p1) (r := y2) e1) [0, 1] rfl rfl (fun _ => rfl) (fun _ => rfl) rfl rfl rfl rfl (Nat.le_of_ble_eq_true rfl) hl.1 (by rw [hRf]; exact Nat.le_of_ble_eq_true rfl) (by rw [hRl]; exact Nat.le_of_ble_eq_true rfl) ⟨Nat.zero_le _, Nat.zero_le _⟩ dX9_digitAt_2 rfl (fun H locs _ hS => ?_)
  refine lv_istore_n (lv' := [(2, .int y2), (0, .ref q0), (1, .int p1)]) hx hb dX9_digitAt_5 rfl hl (by decide) rfl (fun ls hl => ?_)
  refine lv_iload_n hx hb dX9_digitAt_6 rfl (lv_at hl 0 rfl) ?_
  refine lv_bipush (v := 48) hx hb dX9_digitAt_7 (by decide) ?_
  have hJ26 : ∀ (s26_0 : Int32) (ls : Array Slot), s26_0 = (if y2 < (48 : Int32) then (-1 : Int32) else (if (57 : Int32) < y2 then (-1 : Int32) else (y2 - (48 : Int32)))) → lv_has ls 3 [] → W p l e R s m args below meth c H locs 0 0 Q (F0 m 26 ls [.int s26_0]) := by
    intro s26_0 ls es26_0 hl
    subst es26_0
    obtain rfl := Option.some.inj h
    exact rt_i E hQ (.null) hS dX9_digitAt_26
  refine lv_icmp_lt (tgt := 25) hx hb dX9_digitAt_9 (by decide) (fun c2 => ?_) (fun c2 => ?_)
  · refine lv_iconst (v := -1) hx hb dX9_digitAt_25 (by decide) ?_
    exact hJ26 _ ls ((if_pos c2)).symm (lv_sub hl [] rfl)
  · refine lv_iload_n hx hb dX9_digitAt_12 rfl (lv_at hl 0 rfl) ?_
    refine lv_bipush (v := 57) hx hb dX9_digitAt_13 (by decide) ?_
    refine lv_icmp_gt (tgt := 25) hx hb dX9_digitAt_15 (by decide) (fun c3 => ?_) (fun c3 => ?_)
    · refine lv_iconst (v := -1) hx hb dX9_digitAt_25 (by decide) ?_
      exact hJ26 _ ls (((if_neg c2).trans (if_pos c3))).symm (lv_sub hl [] rfl)
    · refine lv_iload_n hx hb dX9_digitAt_18 rfl (lv_at hl 0 rfl) ?_
      refine lv_bipush (v := 48) hx hb dX9_digitAt_19 (by decide) ?_
      refine lv_isub hx hb dX9_digitAt_21 ?_
      refine lv_goto (tgt := 26) hx hb dX9_digitAt_22 (by decide) ?_
      exact hJ26 _ ls (((if_neg c2).trans (if_neg c3))).symm (lv_sub hl [] rfl)
set_option maxHeartbeats 4000000 in
set_option maxRecDepth 100000 in
theorem c_X9_peopleFault {l : Launch} {D : va_G} {cy : Nat → ClassId} (q0 : Nat) (q1 : Nat) (v_size : Int32) (v_signs : Nat → Int32) (p1 : Int32) (r : Int32) (h : X9_peopleFault v_size v_signs p1 = some r) : Ct l yX9_peopleFault cX9_peopleFault 4 (some .int) 2 43 D cy [.ref q0, .int p1] [oX9 q0 (.ref q1) (.int v_size), aC cy q1 80 v_signs] (fun _ => [oX9 q0 (.ref q1) (.int v_size), aC cy q1 80 v_signs]) (some (.int r)) := by
  refine Ct.mk kX9_peopleFault (by decide +kernel) (Nat.le_of_ble_eq_true rfl) ?_
  intro p e s m below meth c A ls args R Q hRf hRl hQ E H locs hS hl
  have hx := E.x
  have hb := E.b
  have hl : lv_has ls 4 [(0, .ref q0), (1, .int p1)] := hl
  unfold X9_peopleFault at h
  refine lv_iconst (v := 0) hx hb dX9_peopleFault_0 (by decide) ?_
  refine lv_istore_n (lv' := [(2, .int (0 : Int32)), (0, .ref q0), (1, .int p1)]) hx hb dX9_peopleFault_1 rfl hl (by decide) rfl (fun ls hl => ?_)
  have hL2 : ∀ (n : Nat) (x2_0 : Int32) (y2 : (Unit) ⊕ ((Int32) ⊕ ((Int32) ⊕ ((Int32))))) (H : Heap) (locs : List Loc) (ls : Array Slot), lp (fun x2 => X9_peopleFault_s2 v_size v_signs p1 x2) n x2_0 = some y2 → Sv D A s.heap [oX9 q0 (.ref q1) (.int v_size), aC cy q1 80 v_signs] H locs → lv_has ls 4 [(0, .ref q0), (1, .int p1), (2, .int x2_0)] → ( .inl () = y2 → ∀ (H : Heap) (locs : List Loc) (ls : Array Slot), Sv D A s.heap [oX9 q0 (.ref q1) (.int v_size), aC cy q1 80 v_signs] H locs → lv_has ls 4 [(0, .ref q0)] → W p l e R s m args below meth c H locs 0 0 Q (F0 m 67 ls [])) → ( ∀ (ye2_1_0 : Int32), .inr (.inl ye2_1_0) = y2 → ∀ (H : Heap) (locs : List Loc) (ls : Array Slot), Sv D A s.heap [oX9 q0 (.ref q1) (.int v_size), aC cy q1 80 v_signs] H locs → lv_has ls 4 [(2, .int ye2_1_0)] → W p l e R s m args below meth c H locs 0 0 Q (F0 m 31 ls [])) → ( ∀ (ye2_2_0 : Int32), .inr (.inr (.inl ye2_2_0)) = y2 → ∀ (H : Heap) (locs : List Loc) (ls : Array Slot), Sv D A s.heap [oX9 q0 (.ref q1) (.int v_size), aC cy q1 80 v_signs] H locs → lv_has ls 4 [(2, .int ye2_2_0)] → W p l e R s m args below meth c H locs 0 0 Q (F0 m 48 ls [])) → ( ∀ (ye2_3_0 : Int32), .inr (.inr (.inr ye2_3_0)) = y2 → ∀ (H : Heap) (locs : List Loc) (ls : Array Slot), Sv D A s.heap [oX9 q0 (.ref q1) (.int v_size), aC cy q1 80 v_signs] H locs → lv_has ls 4 [(2, .int ye2_3_0)] → W p l e R s m args below meth c H locs 0 0 Q (F0 m 59 ls [])) → W p l e R s m args below meth c H locs 0 0 Q (F0 m 2 ls []) := by
    intro n
    induction n with
    | zero =>
      intro x2_0 y2 H locs ls h
      exact lp_zero h
    | succ n ih2 =>
      intro x2_0 y2 H locs ls h hS hl hk2_0 hk2_1 hk2_2 hk2_3
      obtain ⟨z2, h, hz2a, hz2b⟩ := lp_succ h
      have h : X9_peopleFault_s2 v_size v_signs p1 x2_0 = some z2 := h
      unfold X9_peopleFault_s2 at h
      refine lv_iload_n hx hb dX9_peopleFault_2 rfl (lv_at hl 2 rfl) ?_
      refine lv_aload_n hx hb dX9_peopleFault_3 rfl (lv_at hl 0 rfl) ?_
      refine r_get E frX9_15 hS 0 rfl rfl dX9_peopleFault_4 ?_
      refine lv_icmp_ge (tgt := 67) hx hb dX9_peopleFault_7 (by decide) (fun c1 => ?_) (fun c1 => ?_)
      · have h := it_pos c1 h
        exact hk2_0  (hz2b _ (Option.some.inj h).symm)  H locs ls hS (lv_sub hl [0] rfl)
      · have h := it_neg c1 h
        refine lv_iload_n hx hb dX9_peopleFault_10 rfl (lv_at hl 2 rfl) ?_
        refine lv_bipush (v := 20) hx hb dX9_peopleFault_11 (by decide) ?_
        refine lv_icmp_ge (tgt := 67) hx hb dX9_peopleFault_13 (by decide) (fun c2 => ?_) (fun c2 => ?_)
        · have h := it_pos c2 h
          exact hk2_0  (hz2b _ (Option.some.inj h).symm)  H locs ls hS (lv_sub hl [0] rfl)
        · have h := it_neg c2 h
          refine lv_iload_n hx hb dX9_peopleFault_16 rfl (lv_at hl 2 rfl) ?_
          refine lv_iconst (v := 3) hx hb dX9_peopleFault_17 (by decide) ?_
          obtain ⟨g3, h⟩ := gz_some h
          refine lv_irem hx hb dX9_peopleFault_18 g3 ?_
          refine lv_istore_n (lv' := [(3, .int (irem x2_0 (3 : Int32))), (0, .ref q0), (1, .int p1), (2, .int x2_0)]) hx hb dX9_peopleFault_19 rfl hl (by decide) rfl (fun ls hl => ?_)
          refine lv_iload_n hx hb dX9_peopleFault_20 rfl (lv_at hl 0 rfl) ?_
          have hJ33 : ∀ (H : Heap) (locs : List Loc) (ls : Array Slot), X9_peopleFault_k33 v_size v_signs x2_0 = some z2 → Sv D A s.heap [oX9 q0 (.ref q1) (.int v_size), aC cy q1 80 v_signs] H locs → lv_has ls 4 [(0, .ref q0), (1, .int p1), (2, .int x2_0), (3, .int (irem x2_0 (3 : Int32)))] → W p l e R s m args below meth c H locs 0 0 Q (F0 m 33 ls []) := by
            intro H locs ls h hS hl
            unfold X9_peopleFault_k33 at h
            refine lv_iload_n hx hb dX9_peopleFault_33 rfl (lv_at hl 3 rfl) ?_
            refine lv_iconst (v := 2) hx hb dX9_peopleFault_34 (by decide) ?_
            refine lv_icmp_ne (tgt := 51) hx hb dX9_peopleFault_35 (by decide) (fun c4 => ?_) (fun c4 => ?_)
            · have h := it_neg c4 h
              refine lv_aload_n hx hb dX9_peopleFault_51 rfl (lv_at hl 0 rfl) ?_
              refine lv_iload_n hx hb dX9_peopleFault_52 rfl (lv_at hl 2 rfl) ?_
              obtain ⟨y53, e5, h⟩ := bd_some h
              refine ct_V (ws' := fun _ => [oX9 q0 (.ref q1) (.int v_size), aC cy q1 80 v_signs]) (st' := [.int y53]) (rest := []) E hS vlX9_23 (c_X9_digitAt (l := l) (D := D) (cy := cy) (q0 := q0) (q1 := q1) (v_size := v_size) (v_signs := v_signs) (p1 := x2_0) (r := y53) e5) [0, 1] rfl rfl (fun _ => rfl) (fun _ => rfl) rfl rfl rfl rfl (Nat.le_of_ble_eq_true rfl) hl.1 (by rw [hRf]; exact Nat.le_of_ble_eq_true rfl) (by rw [hRl]; exact Nat.le_of_ble_eq_true rfl) ⟨Nat.zero_le _, Nat.zero_le _⟩ dX9_peopleFault_53 rfl (fun H locs _ hS => ?_)
              refine lv_if_ge (tgt := 61) hx hb dX9_peopleFault_56 (by decide) (fun c6 => ?_) (fun c6 => ?_)
              · have h := it_pos c6 h
                refine lv_iinc (v := (x2_0 + (1 : Int32))) (lv' := [(2, .int (x2_0 + (1 : Int32))), (0, .ref q0), (1, .int p1), (3, .int (irem x2_0 (3 : Int32)))]) hx hb dX9_peopleFault_61 hl (k := 2) rfl rfl (by decide) rfl (fun ls hl => ?_)
                refine lv_goto (tgt := 2) hx hb dX9_peopleFault_64 (by decide) ?_
                exact ih2 (x2_0 + (1 : Int32)) y2  H locs ls (hz2a _ (Option.some.inj h).symm) hS (lv_sub hl [1, 2, 0] rfl) hk2_0 hk2_1 hk2_2 hk2_3
              · have h := it_neg c6 h
                exact hk2_3 x2_0 (hz2b _ (Option.some.inj h).symm)  H locs ls hS (lv_sub hl [2] rfl)
            · have h := it_pos c4 h
              refine lv_aload_n hx hb dX9_peopleFault_38 rfl (lv_at hl 0 rfl) ?_
              refine lv_iload_n hx hb dX9_peopleFault_39 rfl (lv_at hl 2 rfl) ?_
              obtain ⟨y40, e7, h⟩ := bd_some h
              refine ct_V (ws' := fun _ => [oX9 q0 (.ref q1) (.int v_size), aC cy q1 80 v_signs]) (st' := [.int y40]) (rest := []) E hS vlX9_19 (c_X9_at (l := l) (D := D) (cy := cy) (q0 := q0) (q1 := q1) (v_size := v_size) (v_signs := v_signs) (p1 := x2_0) (r := y40) e7) [0, 1] rfl rfl (fun _ => rfl) (fun _ => rfl) rfl rfl rfl rfl (Nat.le_of_ble_eq_true rfl) hl.1 (by rw [hRf]; exact Nat.le_of_ble_eq_true rfl) (by rw [hRl]; exact Nat.le_of_ble_eq_true rfl) ⟨Nat.zero_le _, Nat.zero_le _⟩ dX9_peopleFault_40 rfl (fun H locs _ hS => ?_)
              refine lv_bipush (v := 59) hx hb dX9_peopleFault_43 (by decide) ?_
              refine lv_icmp_eq (tgt := 61) hx hb dX9_peopleFault_45 (by decide) (fun c8 => ?_) (fun c8 => ?_)
              · have h := it_pos c8 h
                refine lv_iinc (v := (x2_0 + (1 : Int32))) (lv' := [(2, .int (x2_0 + (1 : Int32))), (0, .ref q0), (1, .int p1), (3, .int (irem x2_0 (3 : Int32)))]) hx hb dX9_peopleFault_61 hl (k := 2) rfl rfl (by decide) rfl (fun ls hl => ?_)
                refine lv_goto (tgt := 2) hx hb dX9_peopleFault_64 (by decide) ?_
                exact ih2 (x2_0 + (1 : Int32)) y2  H locs ls (hz2a _ (Option.some.inj h).symm) hS (lv_sub hl [1, 2, 0] rfl) hk2_0 hk2_1 hk2_2 hk2_3
              · have h := it_neg c8 h
                exact hk2_2 x2_0 (hz2b _ (Option.some.inj h).symm)  H locs ls hS (lv_sub hl [2] rfl)
          refine lv_if_ne (tgt := 33) hx hb dX9_peopleFault_21 (by decide) (fun c9 => ?_) (fun c9 => ?_)
          · have h := it_neg c9 h
            exact hJ33   H locs ls h hS (lv_sub hl [1, 2, 3, 0] rfl)
          · have h := it_pos c9 h
            refine lv_iload_n hx hb dX9_peopleFault_24 rfl (lv_at hl 3 rfl) ?_
            refine lv_iconst (v := 3) hx hb dX9_peopleFault_25 (by decide) ?_
            obtain ⟨g10, h⟩ := gz_some h
            refine lv_idiv hx hb dX9_peopleFault_26 g10 ?_
            refine lv_iload_n hx hb dX9_peopleFault_27 rfl (lv_at hl 2 rfl) ?_
            refine lv_icmp_lt (tgt := 33) hx hb dX9_peopleFault_28 (by decide) (fun c11 => ?_) (fun c11 => ?_)
            · have h := it_pos c11 h
              exact hJ33   H locs ls h hS (lv_sub hl [1, 2, 3, 0] rfl)
            · have h := it_neg c11 h
              exact hk2_1 x2_0 (hz2b _ (Option.some.inj h).symm)  H locs ls hS (lv_sub hl [3] rfl)
  obtain ⟨y2, e2, h⟩ := bd_some h
  refine hL2 1000 (0 : Int32) y2  H locs ls e2 hS (lv_sub hl [1, 2, 0] rfl) (fun ey2 H locs ls hS hl => ?_) (fun ye2_1_0 ey2 H locs ls hS hl => ?_) (fun ye2_2_0 ey2 H locs ls hS hl => ?_) (fun ye2_3_0 ey2 H locs ls hS hl => ?_)
  · subst ey2
    have h := sm_l h
    refine lv_aload_n hx hb dX9_peopleFault_67 rfl (lv_at hl 0 rfl) ?_
    refine r_get E frX9_15 hS 0 rfl rfl dX9_peopleFault_68 ?_
    refine lv_bipush (v := 20) hx hb dX9_peopleFault_71 (by decide) ?_
    refine lv_icmp_le (tgt := 79) hx hb dX9_peopleFault_73 (by decide) (fun c12 => ?_) (fun c12 => ?_)
    · have h := it_pos c12 h
      refine lv_aload_n hx hb dX9_peopleFault_79 rfl (lv_at hl 0 rfl) ?_
      refine r_get E frX9_15 hS 0 rfl rfl dX9_peopleFault_80 ?_
      refine lv_iconst (v := 3) hx hb dX9_peopleFault_83 (by decide) ?_
      obtain ⟨g13, h⟩ := gz_some h
      refine lv_irem hx hb dX9_peopleFault_84 g13 ?_
      refine lv_iconst (v := 2) hx hb dX9_peopleFault_85 (by decide) ?_
      have hJ97 : ∀ (s97_0 : Int32) (ls : Array Slot), s97_0 = (if (irem v_size (3 : Int32)) = (2 : Int32) then (-1 : Int32) else v_size) → lv_has ls 4 [] → W p l e R s m args below meth c H locs 0 0 Q (F0 m 97 ls [.int s97_0]) := by
        intro s97_0 ls es97_0 hl
        subst es97_0
        obtain rfl := Option.some.inj h
        exact rt_i E hQ (.null) hS dX9_peopleFault_97
      refine lv_icmp_ne (tgt := 93) hx hb dX9_peopleFault_86 (by decide) (fun c14 => ?_) (fun c14 => ?_)
      · refine lv_aload_n hx hb dX9_peopleFault_93 rfl (lv_at hl 0 rfl) ?_
        refine r_get E frX9_15 hS 0 rfl rfl dX9_peopleFault_94 ?_
        exact hJ97 _ ls ((if_neg c14)).symm (lv_sub hl [] rfl)
      · refine lv_iconst (v := -1) hx hb dX9_peopleFault_89 (by decide) ?_
        refine lv_goto (tgt := 97) hx hb dX9_peopleFault_90 (by decide) ?_
        exact hJ97 _ ls ((if_pos c14)).symm (lv_sub hl [] rfl)
    · have h := it_neg c12 h
      refine lv_bipush (v := 20) hx hb dX9_peopleFault_76 (by decide) ?_
      obtain rfl := Option.some.inj h
      exact rt_i E hQ (.null) hS dX9_peopleFault_78
  · subst ey2
    have h := sm_r h
    have h := sm_l h
    refine lv_iload_n hx hb dX9_peopleFault_31 rfl (lv_at hl 0 rfl) ?_
    obtain rfl := Option.some.inj h
    exact rt_i E hQ (.null) hS dX9_peopleFault_32
  · subst ey2
    have h := sm_r h
    have h := sm_r h
    have h := sm_l h
    refine lv_goto (tgt := 59) hx hb dX9_peopleFault_48 (by decide) ?_
    refine lv_iload_n hx hb dX9_peopleFault_59 rfl (lv_at hl 0 rfl) ?_
    obtain rfl := Option.some.inj h
    exact rt_i E hQ (.null) hS dX9_peopleFault_60
  · subst ey2
    have h := sm_r h
    have h := sm_r h
    have h := sm_r h
    refine lv_iload_n hx hb dX9_peopleFault_59 rfl (lv_at hl 0 rfl) ?_
    obtain rfl := Option.some.inj h
    exact rt_i E hQ (.null) hS dX9_peopleFault_60
set_option maxHeartbeats 4000000 in
set_option maxRecDepth 100000 in
theorem c_X9_wantsFault {l : Launch} {D : va_G} {cy : Nat → ClassId} (q0 : Nat) (q1 : Nat) (v_size : Int32) (v_signs : Nat → Int32) (p1 : Int32) (r : Int32) (h : X9_wantsFault v_size v_signs p1 = some r) : Ct l yX9_wantsFault cX9_wantsFault 6 (some .int) 2 43 D cy [.ref q0, .int p1] [oX9 q0 (.ref q1) (.int v_size), aC cy q1 80 v_signs] (fun _ => [oX9 q0 (.ref q1) (.int v_size), aC cy q1 80 v_signs]) (some (.int r)) := by
  refine Ct.mk kX9_wantsFault (by decide +kernel) (Nat.le_of_ble_eq_true rfl) ?_
  intro p e s m below meth c A ls args R Q hRf hRl hQ E H locs hS hl
  have hx := E.x
  have hb := E.b
  have hl : lv_has ls 6 [(0, .ref q0), (1, .int p1)] := hl
  unfold X9_wantsFault at h
  refine lv_iconst (v := -1) hx hb dX9_wantsFault_0 (by decide) ?_
  refine lv_istore_n (lv' := [(2, .int (-1 : Int32)), (0, .ref q0), (1, .int p1)]) hx hb dX9_wantsFault_1 rfl hl (by decide) rfl (fun ls hl => ?_)
  refine lv_iconst (v := -1) hx hb dX9_wantsFault_2 (by decide) ?_
  refine lv_istore_n (lv' := [(3, .int (-1 : Int32)), (2, .int (-1 : Int32)), (0, .ref q0), (1, .int p1)]) hx hb dX9_wantsFault_3 rfl hl (by decide) rfl (fun ls hl => ?_)
  refine lv_iconst (v := 0) hx hb dX9_wantsFault_4 (by decide) ?_
  refine lv_istore (lv' := [(4, .int (0 : Int32)), (3, .int (-1 : Int32)), (2, .int (-1 : Int32)), (0, .ref q0), (1, .int p1)]) hx hb dX9_wantsFault_5 hl (by decide) rfl (fun ls hl => ?_)
  have hL7 : ∀ (n : Nat) (x7_0 : Int32) (x7_1 : Int32) (x7_2 : Int32) (y7 : (Int32 × Int32) ⊕ ((Int32) ⊕ ((Int32)))) (H : Heap) (locs : List Loc) (ls : Array Slot), lp (fun x7 => X9_wantsFault_s7 v_size v_signs p1 x7.1 x7.2.1 x7.2.2) n (x7_0, x7_1, x7_2) = some y7 → Sv D A s.heap [oX9 q0 (.ref q1) (.int v_size), aC cy q1 80 v_signs] H locs → lv_has ls 6 [(0, .ref q0), (1, .int p1), (2, .int x7_0), (3, .int x7_1), (4, .int x7_2)] → ( ∀ (ye7_0_0 : Int32) (ye7_0_1 : Int32), .inl (ye7_0_0, ye7_0_1) = y7 → ∀ (H : Heap) (locs : List Loc) (ls : Array Slot), Sv D A s.heap [oX9 q0 (.ref q1) (.int v_size), aC cy q1 80 v_signs] H locs → lv_has ls 6 [(0, .ref q0), (2, .int ye7_0_0), (3, .int ye7_0_1)] → W p l e R s m args below meth c H locs 0 0 Q (F0 m 109 ls [])) → ( ∀ (ye7_1_0 : Int32), .inr (.inl ye7_1_0) = y7 → ∀ (H : Heap) (locs : List Loc) (ls : Array Slot), Sv D A s.heap [oX9 q0 (.ref q1) (.int v_size), aC cy q1 80 v_signs] H locs → lv_has ls 6 [(4, .int ye7_1_0)] → W p l e R s m args below meth c H locs 0 0 Q (F0 m 45 ls [])) → ( ∀ (ye7_2_0 : Int32), .inr (.inr ye7_2_0) = y7 → ∀ (H : Heap) (locs : List Loc) (ls : Array Slot), Sv D A s.heap [oX9 q0 (.ref q1) (.int v_size), aC cy q1 80 v_signs] H locs → lv_has ls 6 [(4, .int ye7_2_0)] → W p l e R s m args below meth c H locs 0 0 Q (F0 m 97 ls [])) → W p l e R s m args below meth c H locs 0 0 Q (F0 m 7 ls []) := by
    intro n
    induction n with
    | zero =>
      intro x7_0 x7_1 x7_2 y7 H locs ls h
      exact lp_zero h
    | succ n ih7 =>
      intro x7_0 x7_1 x7_2 y7 H locs ls h hS hl hk7_0 hk7_1 hk7_2
      obtain ⟨z7, h, hz7a, hz7b⟩ := lp_succ h
      have h : X9_wantsFault_s7 v_size v_signs p1 x7_0 x7_1 x7_2 = some z7 := h
      unfold X9_wantsFault_s7 at h
      refine lv_iload hx hb dX9_wantsFault_7 (lv_at hl 4 rfl) ?_
      refine lv_aload_n hx hb dX9_wantsFault_9 rfl (lv_at hl 0 rfl) ?_
      refine r_get E frX9_15 hS 0 rfl rfl dX9_wantsFault_10 ?_
      refine lv_icmp_ge (tgt := 109) hx hb dX9_wantsFault_13 (by decide) (fun c1 => ?_) (fun c1 => ?_)
      · have h := it_pos c1 h
        exact hk7_0 x7_0 x7_1 (hz7b _ (Option.some.inj h).symm)  H locs ls hS (lv_sub hl [0, 2, 3] rfl)
      · have h := it_neg c1 h
        refine lv_iload hx hb dX9_wantsFault_16 (lv_at hl 4 rfl) ?_
        refine lv_bipush (v := 60) hx hb dX9_wantsFault_18 (by decide) ?_
        refine lv_icmp_ge (tgt := 109) hx hb dX9_wantsFault_20 (by decide) (fun c2 => ?_) (fun c2 => ?_)
        · have h := it_pos c2 h
          exact hk7_0 x7_0 x7_1 (hz7b _ (Option.some.inj h).symm)  H locs ls hS (lv_sub hl [0, 2, 3] rfl)
        · have h := it_neg c2 h
          refine lv_iload_n hx hb dX9_wantsFault_23 rfl (lv_at hl 2 rfl) ?_
          refine lv_if_ge (tgt := 48) hx hb dX9_wantsFault_24 (by decide) (fun c3 => ?_) (fun c3 => ?_)
          · have h := it_pos c3 h
            refine lv_aload_n hx hb dX9_wantsFault_48 rfl (lv_at hl 0 rfl) ?_
            refine lv_iload hx hb dX9_wantsFault_49 (lv_at hl 4 rfl) ?_
            obtain ⟨y51, e4, h⟩ := bd_some h
            refine ct_V (ws' := fun _ => [oX9 q0 (.ref q1) (.int v_size), aC cy q1 80 v_signs]) (st' := [.int y51]) (rest := []) E hS vlX9_19 (c_X9_at (l := l) (D := D) (cy := cy) (q0 := q0) (q1 := q1) (v_size := v_size) (v_signs := v_signs) (p1 := x7_2) (r := y51) e4) [0, 1] rfl rfl (fun _ => rfl) (fun _ => rfl) rfl rfl rfl rfl (Nat.le_of_ble_eq_true rfl) hl.1 (by rw [hRf]; exact Nat.le_of_ble_eq_true rfl) (by rw [hRl]; exact Nat.le_of_ble_eq_true rfl) ⟨Nat.zero_le _, Nat.zero_le _⟩ dX9_wantsFault_51 rfl (fun H locs _ hS => ?_)
            refine lv_bipush (v := 59) hx hb dX9_wantsFault_54 (by decide) ?_
            have hJ68 : ∀ (H : Heap) (locs : List Loc) (ls : Array Slot), X9_wantsFault_k68 v_size v_signs p1 x7_0 x7_1 x7_2 = some z7 → Sv D A s.heap [oX9 q0 (.ref q1) (.int v_size), aC cy q1 80 v_signs] H locs → lv_has ls 6 [(0, .ref q0), (1, .int p1), (2, .int x7_0), (3, .int x7_1), (4, .int x7_2)] → W p l e R s m args below meth c H locs 0 0 Q (F0 m 68 ls []) := by
              intro H locs ls h hS hl
              unfold X9_wantsFault_k68 at h
              refine lv_aload_n hx hb dX9_wantsFault_68 rfl (lv_at hl 0 rfl) ?_
              refine lv_iload hx hb dX9_wantsFault_69 (lv_at hl 4 rfl) ?_
              obtain ⟨y71, e5, h⟩ := bd_some h
              refine ct_V (ws' := fun _ => [oX9 q0 (.ref q1) (.int v_size), aC cy q1 80 v_signs]) (st' := [.int y71]) (rest := []) E hS vlX9_19 (c_X9_at (l := l) (D := D) (cy := cy) (q0 := q0) (q1 := q1) (v_size := v_size) (v_signs := v_signs) (p1 := x7_2) (r := y71) e5) [0, 1] rfl rfl (fun _ => rfl) (fun _ => rfl) rfl rfl rfl rfl (Nat.le_of_ble_eq_true rfl) hl.1 (by rw [hRf]; exact Nat.le_of_ble_eq_true rfl) (by rw [hRl]; exact Nat.le_of_ble_eq_true rfl) ⟨Nat.zero_le _, Nat.zero_le _⟩ dX9_wantsFault_71 rfl (fun H locs _ hS => ?_)
              refine lv_bipush (v := 97) hx hb dX9_wantsFault_74 (by decide) ?_
              refine lv_isub hx hb dX9_wantsFault_76 ?_
              refine lv_istore (lv' := [(5, .int (y71 - (97 : Int32))), (0, .ref q0), (1, .int p1), (2, .int x7_0), (3, .int x7_1), (4, .int x7_2)]) hx hb dX9_wantsFault_77 hl (by decide) rfl (fun ls hl => ?_)
              refine lv_iload hx hb dX9_wantsFault_79 (lv_at hl 0 rfl) ?_
              refine lv_iload_n hx hb dX9_wantsFault_81 rfl (lv_at hl 4 rfl) ?_
              refine lv_icmp_le (tgt := 97) hx hb dX9_wantsFault_82 (by decide) (fun c6 => ?_) (fun c6 => ?_)
              · have h := it_pos c6 h
                exact hk7_2 x7_2 (hz7b _ (Option.some.inj h).symm)  H locs ls hS (lv_sub hl [5] rfl)
              · have h := it_neg c6 h
                refine lv_iload hx hb dX9_wantsFault_85 (lv_at hl 0 rfl) ?_
                refine lv_iload_n hx hb dX9_wantsFault_87 rfl (lv_at hl 2 rfl) ?_
                refine lv_icmp_ge (tgt := 97) hx hb dX9_wantsFault_88 (by decide) (fun c7 => ?_) (fun c7 => ?_)
                · have h := it_pos c7 h
                  exact hk7_2 x7_2 (hz7b _ (Option.some.inj h).symm)  H locs ls hS (lv_sub hl [5] rfl)
                · have h := it_neg c7 h
                  refine lv_iload hx hb dX9_wantsFault_91 (lv_at hl 0 rfl) ?_
                  refine lv_iload_n hx hb dX9_wantsFault_93 rfl (lv_at hl 3 rfl) ?_
                  refine lv_icmp_ne (tgt := 100) hx hb dX9_wantsFault_94 (by decide) (fun c8 => ?_) (fun c8 => ?_)
                  · have h := it_neg c8 h
                    refine lv_iload hx hb dX9_wantsFault_100 (lv_at hl 0 rfl) ?_
                    refine lv_istore_n (lv' := [(3, .int (y71 - (97 : Int32))), (5, .int (y71 - (97 : Int32))), (0, .ref q0), (1, .int p1), (2, .int x7_0), (4, .int x7_2)]) hx hb dX9_wantsFault_102 rfl hl (by decide) rfl (fun ls hl => ?_)
                    refine lv_iinc (v := (x7_2 + (1 : Int32))) (lv' := [(4, .int (x7_2 + (1 : Int32))), (3, .int (y71 - (97 : Int32))), (5, .int (y71 - (97 : Int32))), (0, .ref q0), (1, .int p1), (2, .int x7_0)]) hx hb dX9_wantsFault_103 hl (k := 5) rfl rfl (by decide) rfl (fun ls hl => ?_)
                    refine lv_goto (tgt := 7) hx hb dX9_wantsFault_106 (by decide) ?_
                    exact ih7 x7_0 (y71 - (97 : Int32)) (x7_2 + (1 : Int32)) y7  H locs ls (hz7a _ (Option.some.inj h).symm) hS (lv_sub hl [3, 4, 5, 1, 0] rfl) hk7_0 hk7_1 hk7_2
                  · have h := it_pos c8 h
                    exact hk7_2 x7_2 (hz7b _ (Option.some.inj h).symm)  H locs ls hS (lv_sub hl [5] rfl)
            refine lv_icmp_ne (tgt := 68) hx hb dX9_wantsFault_56 (by decide) (fun c9 => ?_) (fun c9 => ?_)
            · have h := it_neg c9 h
              exact hJ68   H locs ls h hS (lv_sub hl [0, 1, 2, 3, 4] rfl)
            · have h := it_pos c9 h
              refine lv_iload_n hx hb dX9_wantsFault_59 rfl (lv_at hl 3 rfl) ?_
              refine lv_if_lt (tgt := 68) hx hb dX9_wantsFault_60 (by decide) (fun c10 => ?_) (fun c10 => ?_)
              · have h := it_pos c10 h
                exact hJ68   H locs ls h hS (lv_sub hl [0, 1, 2, 3, 4] rfl)
              · have h := it_neg c10 h
                refine lv_iconst (v := -1) hx hb dX9_wantsFault_63 (by decide) ?_
                refine lv_istore_n (lv' := [(2, .int (-1 : Int32)), (0, .ref q0), (1, .int p1), (3, .int x7_1), (4, .int x7_2)]) hx hb dX9_wantsFault_64 rfl hl (by decide) rfl (fun ls hl => ?_)
                refine lv_goto (tgt := 103) hx hb dX9_wantsFault_65 (by decide) ?_
                refine lv_iinc (v := (x7_2 + (1 : Int32))) (lv' := [(4, .int (x7_2 + (1 : Int32))), (2, .int (-1 : Int32)), (0, .ref q0), (1, .int p1), (3, .int x7_1)]) hx hb dX9_wantsFault_103 hl (k := 4) rfl rfl (by decide) rfl (fun ls hl => ?_)
                refine lv_goto (tgt := 7) hx hb dX9_wantsFault_106 (by decide) ?_
                exact ih7 (-1 : Int32) x7_1 (x7_2 + (1 : Int32)) y7  H locs ls (hz7a _ (Option.some.inj h).symm) hS (lv_sub hl [2, 3, 1, 4, 0] rfl) hk7_0 hk7_1 hk7_2
          · have h := it_neg c3 h
            refine lv_aload_n hx hb dX9_wantsFault_27 rfl (lv_at hl 0 rfl) ?_
            refine lv_iload hx hb dX9_wantsFault_28 (lv_at hl 4 rfl) ?_
            obtain ⟨y30, e11, h⟩ := bd_some h
            refine ct_V (ws' := fun _ => [oX9 q0 (.ref q1) (.int v_size), aC cy q1 80 v_signs]) (st' := [.int y30]) (rest := []) E hS vlX9_23 (c_X9_digitAt (l := l) (D := D) (cy := cy) (q0 := q0) (q1 := q1) (v_size := v_size) (v_signs := v_signs) (p1 := x7_2) (r := y30) e11) [0, 1] rfl rfl (fun _ => rfl) (fun _ => rfl) rfl rfl rfl rfl (Nat.le_of_ble_eq_true rfl) hl.1 (by rw [hRf]; exact Nat.le_of_ble_eq_true rfl) (by rw [hRl]; exact Nat.le_of_ble_eq_true rfl) ⟨Nat.zero_le _, Nat.zero_le _⟩ dX9_wantsFault_30 rfl (fun H locs _ hS => ?_)
            refine lv_istore_n (lv' := [(2, .int y30), (0, .ref q0), (1, .int p1), (3, .int x7_1), (4, .int x7_2)]) hx hb dX9_wantsFault_33 rfl hl (by decide) rfl (fun ls hl => ?_)
            refine lv_iconst (v := -1) hx hb dX9_wantsFault_34 (by decide) ?_
            refine lv_istore_n (lv' := [(3, .int (-1 : Int32)), (2, .int y30), (0, .ref q0), (1, .int p1), (4, .int x7_2)]) hx hb dX9_wantsFault_35 rfl hl (by decide) rfl (fun ls hl => ?_)
            refine lv_iload_n hx hb dX9_wantsFault_36 rfl (lv_at hl 1 rfl) ?_
            refine lv_if_lt (tgt := 45) hx hb dX9_wantsFault_37 (by decide) (fun c12 => ?_) (fun c12 => ?_)
            · have h := it_pos c12 h
              exact hk7_1 x7_2 (hz7b _ (Option.some.inj h).symm)  H locs ls hS (lv_sub hl [4] rfl)
            · have h := it_neg c12 h
              refine lv_iload_n hx hb dX9_wantsFault_40 rfl (lv_at hl 1 rfl) ?_
              refine lv_iload_n hx hb dX9_wantsFault_41 rfl (lv_at hl 3 rfl) ?_
              refine lv_icmp_lt (tgt := 103) hx hb dX9_wantsFault_42 (by decide) (fun c13 => ?_) (fun c13 => ?_)
              · have h := it_pos c13 h
                refine lv_iinc (v := (x7_2 + (1 : Int32))) (lv' := [(4, .int (x7_2 + (1 : Int32))), (3, .int (-1 : Int32)), (2, .int y30), (0, .ref q0), (1, .int p1)]) hx hb dX9_wantsFault_103 hl (k := 4) rfl rfl (by decide) rfl (fun ls hl => ?_)
                refine lv_goto (tgt := 7) hx hb dX9_wantsFault_106 (by decide) ?_
                exact ih7 y30 (-1 : Int32) (x7_2 + (1 : Int32)) y7  H locs ls (hz7a _ (Option.some.inj h).symm) hS (lv_sub hl [3, 4, 2, 1, 0] rfl) hk7_0 hk7_1 hk7_2
              · have h := it_neg c13 h
                exact hk7_1 x7_2 (hz7b _ (Option.some.inj h).symm)  H locs ls hS (lv_sub hl [4] rfl)
  obtain ⟨y7, e7, h⟩ := bd_some h
  refine hL7 1000 (-1 : Int32) (-1 : Int32) (0 : Int32) y7  H locs ls e7 hS (lv_sub hl [3, 4, 2, 1, 0] rfl) (fun ye7_0_0 ye7_0_1 ey7 H locs ls hS hl => ?_) (fun ye7_1_0 ey7 H locs ls hS hl => ?_) (fun ye7_2_0 ey7 H locs ls hS hl => ?_)
  · subst ey7
    have h := sm_l h
    have h := un_r h
    refine lv_aload_n hx hb dX9_wantsFault_109 rfl (lv_at hl 0 rfl) ?_
    refine r_get E frX9_15 hS 0 rfl rfl dX9_wantsFault_110 ?_
    refine lv_bipush (v := 60) hx hb dX9_wantsFault_113 (by decide) ?_
    refine lv_icmp_le (tgt := 121) hx hb dX9_wantsFault_115 (by decide) (fun c14 => ?_) (fun c14 => ?_)
    · have h := it_pos c14 h
      refine lv_iload_n hx hb dX9_wantsFault_121 rfl (lv_at hl 1 rfl) ?_
      have hJ137 : ∀ (s137_0 : Int32) (ls : Array Slot), s137_0 = (if ye7_0_0 < 0 then v_size else (if ye7_0_1 < 0 then v_size else (-1 : Int32))) → lv_has ls 6 [] → W p l e R s m args below meth c H locs 0 0 Q (F0 m 137 ls [.int s137_0]) := by
        intro s137_0 ls es137_0 hl
        subst es137_0
        obtain rfl := Option.some.inj h
        exact rt_i E hQ (.null) hS dX9_wantsFault_137
      refine lv_if_lt (tgt := 133) hx hb dX9_wantsFault_122 (by decide) (fun c15 => ?_) (fun c15 => ?_)
      · refine lv_aload_n hx hb dX9_wantsFault_133 rfl (lv_at hl 0 rfl) ?_
        refine r_get E frX9_15 hS 0 rfl rfl dX9_wantsFault_134 ?_
        exact hJ137 _ ls ((if_pos c15)).symm (lv_sub hl [] rfl)
      · refine lv_iload_n hx hb dX9_wantsFault_125 rfl (lv_at hl 2 rfl) ?_
        refine lv_if_lt (tgt := 133) hx hb dX9_wantsFault_126 (by decide) (fun c16 => ?_) (fun c16 => ?_)
        · refine lv_aload_n hx hb dX9_wantsFault_133 rfl (lv_at hl 0 rfl) ?_
          refine r_get E frX9_15 hS 0 rfl rfl dX9_wantsFault_134 ?_
          exact hJ137 _ ls (((if_neg c15).trans (if_pos c16))).symm (lv_sub hl [] rfl)
        · refine lv_iconst (v := -1) hx hb dX9_wantsFault_129 (by decide) ?_
          refine lv_goto (tgt := 137) hx hb dX9_wantsFault_130 (by decide) ?_
          exact hJ137 _ ls (((if_neg c15).trans (if_neg c16))).symm (lv_sub hl [] rfl)
    · have h := it_neg c14 h
      refine lv_bipush (v := 60) hx hb dX9_wantsFault_118 (by decide) ?_
      obtain rfl := Option.some.inj h
      exact rt_i E hQ (.null) hS dX9_wantsFault_120
  · subst ey7
    have h := sm_r h
    have h := sm_l h
    refine lv_iload hx hb dX9_wantsFault_45 (lv_at hl 0 rfl) ?_
    obtain rfl := Option.some.inj h
    exact rt_i E hQ (.null) hS dX9_wantsFault_47
  · subst ey7
    have h := sm_r h
    have h := sm_r h
    refine lv_iload hx hb dX9_wantsFault_97 (lv_at hl 0 rfl) ?_
    obtain rfl := Option.some.inj h
    exact rt_i E hQ (.null) hS dX9_wantsFault_99
set_option maxHeartbeats 4000000 in
set_option maxRecDepth 100000 in
theorem c_X9_digitsOf {l : Launch} {D : va_G} {cy : Nat → ClassId} (p0 : Int32) (r : Int32) (h : X9_digitsOf p0 = r) : Ct l yX9_digitsOf cX9_digitsOf 1 (some .int) 0 0 D cy [.int p0] [] (fun _ => []) (some (.int r)) := by
  refine Ct.mk kX9_digitsOf (by decide +kernel) (Nat.le_of_ble_eq_true rfl) ?_
  intro p e s m below meth c A ls args R Q hRf hRl hQ E H locs hS hl
  have hx := E.x
  have hb := E.b
  have hl : lv_has ls 1 [(0, .int p0)] := hl
  unfold X9_digitsOf at h
  refine lv_iload_n hx hb dX9_digitsOf_0 rfl (lv_at hl 0 rfl) ?_
  rcases Decidable.em (p0 = 108) with c1 | c1
  · have h := it_pos c1 h
    refine lv_tableIn (off := 51) (tgt := 52) hx hb dX9_digitsOf_1 (by rw [c1]; decide) (by rw [c1]; decide) (by rw [c1]; rfl) (by decide) ?_
    refine lv_iconst (v := 1) hx hb dX9_digitsOf_52 (by decide) ?_
    subst h
    exact rt_i E hQ (.null) hS dX9_digitsOf_53
  · have h := it_neg c1 h
    rcases Decidable.em (p0 = 109) with c2 | c2
    · have h := it_pos c2 h
      refine lv_tableIn (off := 55) (tgt := 56) hx hb dX9_digitsOf_1 (by rw [c2]; decide) (by rw [c2]; decide) (by rw [c2]; rfl) (by decide) ?_
      refine lv_iconst (v := 0) hx hb dX9_digitsOf_56 (by decide) ?_
      subst h
      exact rt_i E hQ (.null) hS dX9_digitsOf_57
    · have h := it_neg c2 h
      rcases Decidable.em (p0 = 110) with c3 | c3
      · have h := it_pos c3 h
        refine lv_tableIn (off := 51) (tgt := 52) hx hb dX9_digitsOf_1 (by rw [c3]; decide) (by rw [c3]; decide) (by rw [c3]; rfl) (by decide) ?_
        refine lv_iconst (v := 1) hx hb dX9_digitsOf_52 (by decide) ?_
        subst h
        exact rt_i E hQ (.null) hS dX9_digitsOf_53
      · have h := it_neg c3 h
        rcases Decidable.em (p0 = 111) with c4 | c4
        · have h := it_pos c4 h
          refine lv_tableIn (off := 55) (tgt := 56) hx hb dX9_digitsOf_1 (by rw [c4]; decide) (by rw [c4]; decide) (by rw [c4]; rfl) (by decide) ?_
          refine lv_iconst (v := 0) hx hb dX9_digitsOf_56 (by decide) ?_
          subst h
          exact rt_i E hQ (.null) hS dX9_digitsOf_57
        · have h := it_neg c4 h
          rcases Decidable.em (p0 = 112) with c5 | c5
          · have h := it_pos c5 h
            refine lv_tableIn (off := 53) (tgt := 54) hx hb dX9_digitsOf_1 (by rw [c5]; decide) (by rw [c5]; decide) (by rw [c5]; rfl) (by decide) ?_
            refine lv_iconst (v := 2) hx hb dX9_digitsOf_54 (by decide) ?_
            subst h
            exact rt_i E hQ (.null) hS dX9_digitsOf_55
          · have h := it_neg c5 h
            rcases Decidable.em (p0 = 113) with c6 | c6
            · have h := it_pos c6 h
              refine lv_tableIn (off := 55) (tgt := 56) hx hb dX9_digitsOf_1 (by rw [c6]; decide) (by rw [c6]; decide) (by rw [c6]; rfl) (by decide) ?_
              refine lv_iconst (v := 0) hx hb dX9_digitsOf_56 (by decide) ?_
              subst h
              exact rt_i E hQ (.null) hS dX9_digitsOf_57
            · have h := it_neg c6 h
              rcases Decidable.em (p0 = 114) with c7 | c7
              · have h := it_pos c7 h
                refine lv_tableIn (off := 55) (tgt := 56) hx hb dX9_digitsOf_1 (by rw [c7]; decide) (by rw [c7]; decide) (by rw [c7]; rfl) (by decide) ?_
                refine lv_iconst (v := 0) hx hb dX9_digitsOf_56 (by decide) ?_
                subst h
                exact rt_i E hQ (.null) hS dX9_digitsOf_57
              · have h := it_neg c7 h
                rcases Decidable.em (p0 = 115) with c8 | c8
                · have h := it_pos c8 h
                  refine lv_tableIn (off := 53) (tgt := 54) hx hb dX9_digitsOf_1 (by rw [c8]; decide) (by rw [c8]; decide) (by rw [c8]; rfl) (by decide) ?_
                  refine lv_iconst (v := 2) hx hb dX9_digitsOf_54 (by decide) ?_
                  subst h
                  exact rt_i E hQ (.null) hS dX9_digitsOf_55
                · have h := it_neg c8 h
                  rcases Decidable.em (p0 = 116) with c9 | c9
                  · have h := it_pos c9 h
                    refine lv_tableIn (off := 53) (tgt := 54) hx hb dX9_digitsOf_1 (by rw [c9]; decide) (by rw [c9]; decide) (by rw [c9]; rfl) (by decide) ?_
                    refine lv_iconst (v := 2) hx hb dX9_digitsOf_54 (by decide) ?_
                    subst h
                    exact rt_i E hQ (.null) hS dX9_digitsOf_55
                  · have h := it_neg c9 h
                    have ht : p0.toInt < 108 ∨ (116 : Int) < p0.toInt := by
                      refine tb_neg (fun k h1 h2 => ?_)
                      have hh : k = 108 ∨ k = 109 ∨ k = 110 ∨ k = 111 ∨ k = 112 ∨ k = 113 ∨ k = 114 ∨ k = 115 ∨ k = 116 := by omega
                      rcases hh with rfl | rfl | rfl | rfl | rfl | rfl | rfl | rfl | rfl
                      · exact c1
                      · exact c2
                      · exact c3
                      · exact c4
                      · exact c5
                      · exact c6
                      · exact c7
                      · exact c8
                      · exact c9
                    refine lv_tableOut (tgt := 56) hx hb dX9_digitsOf_1 ht (by decide) ?_
                    refine lv_iconst (v := 0) hx hb dX9_digitsOf_56 (by decide) ?_
                    subst h
                    exact rt_i E hQ (.null) hS dX9_digitsOf_57
set_option maxHeartbeats 4000000 in
set_option maxRecDepth 100000 in
theorem c_X9_weekFault {l : Launch} {D : va_G} {cy : Nat → ClassId} (q0 : Nat) (q1 : Nat) (v_size : Int32) (v_signs : Nat → Int32) (r : Int32) (h : X9_weekFault v_size v_signs = some r) : Ct l yX9_weekFault cX9_weekFault 5 (some .int) 2 43 D cy [.ref q0] [oX9 q0 (.ref q1) (.int v_size), aC cy q1 80 v_signs] (fun _ => [oX9 q0 (.ref q1) (.int v_size), aC cy q1 80 v_signs]) (some (.int r)) := by
  refine Ct.mk kX9_weekFault (by decide +kernel) (Nat.le_of_ble_eq_true rfl) ?_
  intro p e s m below meth c A ls args R Q hRf hRl hQ E H locs hS hl
  have hx := E.x
  have hb := E.b
  have hl : lv_has ls 5 [(0, .ref q0)] := hl
  unfold X9_weekFault at h
  refine lv_iconst (v := 0) hx hb dX9_weekFault_0 (by decide) ?_
  refine lv_istore_n (lv' := [(1, .int (0 : Int32)), (0, .ref q0)]) hx hb dX9_weekFault_1 rfl hl (by decide) rfl (fun ls hl => ?_)
  refine lv_iconst (v := 0) hx hb dX9_weekFault_2 (by decide) ?_
  refine lv_istore_n (lv' := [(2, .int (0 : Int32)), (1, .int (0 : Int32)), (0, .ref q0)]) hx hb dX9_weekFault_3 rfl hl (by decide) rfl (fun ls hl => ?_)
  refine lv_iconst (v := 0) hx hb dX9_weekFault_4 (by decide) ?_
  refine lv_istore_n (lv' := [(3, .int (0 : Int32)), (2, .int (0 : Int32)), (1, .int (0 : Int32)), (0, .ref q0)]) hx hb dX9_weekFault_5 rfl hl (by decide) rfl (fun ls hl => ?_)
  have hL6 : ∀ (n : Nat) (x6_0 : Int32) (x6_1 : Int32) (x6_2 : Int32) (y6 : (Int32) ⊕ ((Int32) ⊕ ((Int32)))) (H : Heap) (locs : List Loc) (ls : Array Slot), lp (fun x6 => X9_weekFault_s6 v_size v_signs x6.1 x6.2.1 x6.2.2) n (x6_0, x6_1, x6_2) = some y6 → Sv D A s.heap [oX9 q0 (.ref q1) (.int v_size), aC cy q1 80 v_signs] H locs → lv_has ls 5 [(0, .ref q0), (1, .int x6_0), (2, .int x6_1), (3, .int x6_2)] → ( ∀ (ye6_0_0 : Int32), .inl ye6_0_0 = y6 → ∀ (H : Heap) (locs : List Loc) (ls : Array Slot), Sv D A s.heap [oX9 q0 (.ref q1) (.int v_size), aC cy q1 80 v_signs] H locs → lv_has ls 5 [(0, .ref q0), (2, .int ye6_0_0)] → W p l e R s m args below meth c H locs 0 0 Q (F0 m 93 ls [])) → ( ∀ (ye6_1_0 : Int32), .inr (.inl ye6_1_0) = y6 → ∀ (H : Heap) (locs : List Loc) (ls : Array Slot), Sv D A s.heap [oX9 q0 (.ref q1) (.int v_size), aC cy q1 80 v_signs] H locs → lv_has ls 5 [(3, .int ye6_1_0)] → W p l e R s m args below meth c H locs 0 0 Q (F0 m 39 ls [])) → ( ∀ (ye6_2_0 : Int32), .inr (.inr ye6_2_0) = y6 → ∀ (H : Heap) (locs : List Loc) (ls : Array Slot), Sv D A s.heap [oX9 q0 (.ref q1) (.int v_size), aC cy q1 80 v_signs] H locs → lv_has ls 5 [(3, .int ye6_2_0)] → W p l e R s m args below meth c H locs 0 0 Q (F0 m 82 ls [])) → W p l e R s m args below meth c H locs 0 0 Q (F0 m 6 ls []) := by
    intro n
    induction n with
    | zero =>
      intro x6_0 x6_1 x6_2 y6 H locs ls h
      exact lp_zero h
    | succ n ih6 =>
      intro x6_0 x6_1 x6_2 y6 H locs ls h hS hl hk6_0 hk6_1 hk6_2
      obtain ⟨z6, h, hz6a, hz6b⟩ := lp_succ h
      have h : X9_weekFault_s6 v_size v_signs x6_0 x6_1 x6_2 = some z6 := h
      unfold X9_weekFault_s6 at h
      refine lv_iload_n hx hb dX9_weekFault_6 rfl (lv_at hl 3 rfl) ?_
      refine lv_aload_n hx hb dX9_weekFault_7 rfl (lv_at hl 0 rfl) ?_
      refine r_get E frX9_15 hS 0 rfl rfl dX9_weekFault_8 ?_
      refine lv_icmp_ge (tgt := 93) hx hb dX9_weekFault_11 (by decide) (fun c1 => ?_) (fun c1 => ?_)
      · have h := it_pos c1 h
        exact hk6_0 x6_1 (hz6b _ (Option.some.inj h).symm)  H locs ls hS (lv_sub hl [0, 2] rfl)
      · have h := it_neg c1 h
        refine lv_iload_n hx hb dX9_weekFault_14 rfl (lv_at hl 3 rfl) ?_
        refine lv_bipush (v := 60) hx hb dX9_weekFault_15 (by decide) ?_
        refine lv_icmp_ge (tgt := 93) hx hb dX9_weekFault_17 (by decide) (fun c2 => ?_) (fun c2 => ?_)
        · have h := it_pos c2 h
          exact hk6_0 x6_1 (hz6b _ (Option.some.inj h).symm)  H locs ls hS (lv_sub hl [0, 2] rfl)
        · have h := it_neg c2 h
          refine lv_iload_n hx hb dX9_weekFault_20 rfl (lv_at hl 2 rfl) ?_
          refine lv_if_ne (tgt := 41) hx hb dX9_weekFault_21 (by decide) (fun c3 => ?_) (fun c3 => ?_)
          · have h := it_neg c3 h
            refine lv_iload_n hx hb dX9_weekFault_41 rfl (lv_at hl 1 rfl) ?_
            refine lv_bipush (v := 112) hx hb dX9_weekFault_42 (by decide) ?_
            have hJ67 : ∀ (j67_t0 : Int32) (H : Heap) (locs : List Loc) (ls : Array Slot), X9_weekFault_k67 v_size v_signs x6_0 x6_1 x6_2 j67_t0 = some z6 → Sv D A s.heap [oX9 q0 (.ref q1) (.int v_size), aC cy q1 80 v_signs] H locs → lv_has ls 5 [(0, .ref q0), (1, .int x6_0), (2, .int x6_1), (3, .int x6_2)] → W p l e R s m args below meth c H locs 0 0 Q (F0 m 67 ls [.int j67_t0]) := by
              intro j67_t0 H locs ls h hS hl
              unfold X9_weekFault_k67 at h
              refine lv_istore (lv' := [(4, .int j67_t0), (0, .ref q0), (1, .int x6_0), (2, .int x6_1), (3, .int x6_2)]) hx hb dX9_weekFault_67 hl (by decide) rfl (fun ls hl => ?_)
              refine lv_aload_n hx hb dX9_weekFault_69 rfl (lv_at hl 1 rfl) ?_
              refine lv_iload_n hx hb dX9_weekFault_70 rfl (lv_at hl 4 rfl) ?_
              obtain ⟨y71, e4, h⟩ := bd_some h
              refine ct_V (ws' := fun _ => [oX9 q0 (.ref q1) (.int v_size), aC cy q1 80 v_signs]) (st' := [.int y71]) (rest := []) E hS vlX9_23 (c_X9_digitAt (l := l) (D := D) (cy := cy) (q0 := q0) (q1 := q1) (v_size := v_size) (v_signs := v_signs) (p1 := x6_2) (r := y71) e4) [0, 1] rfl rfl (fun _ => rfl) (fun _ => rfl) rfl rfl rfl rfl (Nat.le_of_ble_eq_true rfl) hl.1 (by rw [hRf]; exact Nat.le_of_ble_eq_true rfl) (by rw [hRl]; exact Nat.le_of_ble_eq_true rfl) ⟨Nat.zero_le _, Nat.zero_le _⟩ dX9_weekFault_71 rfl (fun H locs _ hS => ?_)
              refine lv_if_lt (tgt := 82) hx hb dX9_weekFault_74 (by decide) (fun c5 => ?_) (fun c5 => ?_)
              · have h := it_pos c5 h
                exact hk6_2 x6_2 (hz6b _ (Option.some.inj h).symm)  H locs ls hS (lv_sub hl [4] rfl)
              · have h := it_neg c5 h
                refine lv_iload hx hb dX9_weekFault_77 (lv_at hl 0 rfl) ?_
                refine lv_if_eq (tgt := 84) hx hb dX9_weekFault_79 (by decide) (fun c6 => ?_) (fun c6 => ?_)
                · have h := it_pos c6 h
                  refine lv_iinc (v := (x6_1 + (-1 : Int32))) (lv' := [(2, .int (x6_1 + (-1 : Int32))), (4, .int j67_t0), (0, .ref q0), (1, .int x6_0), (3, .int x6_2)]) hx hb dX9_weekFault_84 hl (k := 3) rfl rfl (by decide) rfl (fun ls hl => ?_)
                  refine lv_iinc (v := (x6_2 + (1 : Int32))) (lv' := [(3, .int (x6_2 + (1 : Int32))), (2, .int (x6_1 + (-1 : Int32))), (4, .int j67_t0), (0, .ref q0), (1, .int x6_0)]) hx hb dX9_weekFault_87 hl (k := 4) rfl rfl (by decide) rfl (fun ls hl => ?_)
                  refine lv_goto (tgt := 6) hx hb dX9_weekFault_90 (by decide) ?_
                  exact ih6 x6_0 (x6_1 + (-1 : Int32)) (x6_2 + (1 : Int32)) y6  H locs ls (hz6a _ (Option.some.inj h).symm) hS (lv_sub hl [3, 4, 1, 0] rfl) hk6_0 hk6_1 hk6_2
                · have h := it_neg c6 h
                  exact hk6_2 x6_2 (hz6b _ (Option.some.inj h).symm)  H locs ls hS (lv_sub hl [4] rfl)
            refine lv_icmp_ne (tgt := 66) hx hb dX9_weekFault_44 (by decide) (fun c7 => ?_) (fun c7 => ?_)
            · have h := it_neg c7 h
              refine lv_iconst (v := 0) hx hb dX9_weekFault_66 (by decide) ?_
              exact hJ67 (0 : Int32)  H locs ls h hS (lv_sub hl [0, 1, 2, 3] rfl)
            · have h := it_pos c7 h
              refine lv_iload_n hx hb dX9_weekFault_47 rfl (lv_at hl 2 rfl) ?_
              refine lv_iconst (v := 1) hx hb dX9_weekFault_48 (by decide) ?_
              refine lv_icmp_ne (tgt := 66) hx hb dX9_weekFault_49 (by decide) (fun c8 => ?_) (fun c8 => ?_)
              · have h := it_neg c8 h
                refine lv_iconst (v := 0) hx hb dX9_weekFault_66 (by decide) ?_
                exact hJ67 (0 : Int32)  H locs ls h hS (lv_sub hl [0, 1, 2, 3] rfl)
              · have h := it_pos c8 h
                refine lv_aload_n hx hb dX9_weekFault_52 rfl (lv_at hl 0 rfl) ?_
                refine lv_iload_n hx hb dX9_weekFault_53 rfl (lv_at hl 3 rfl) ?_
                obtain ⟨y54, e9, h⟩ := bd_some h
                refine ct_V (ws' := fun _ => [oX9 q0 (.ref q1) (.int v_size), aC cy q1 80 v_signs]) (st' := [.int y54]) (rest := []) E hS vlX9_19 (c_X9_at (l := l) (D := D) (cy := cy) (q0 := q0) (q1 := q1) (v_size := v_size) (v_signs := v_signs) (p1 := x6_2) (r := y54) e9) [0, 1] rfl rfl (fun _ => rfl) (fun _ => rfl) rfl rfl rfl rfl (Nat.le_of_ble_eq_true rfl) hl.1 (by rw [hRf]; exact Nat.le_of_ble_eq_true rfl) (by rw [hRl]; exact Nat.le_of_ble_eq_true rfl) ⟨Nat.zero_le _, Nat.zero_le _⟩ dX9_weekFault_54 rfl (fun H locs _ hS => ?_)
                refine lv_bipush (v := 48) hx hb dX9_weekFault_57 (by decide) ?_
                refine lv_icmp_ne (tgt := 66) hx hb dX9_weekFault_59 (by decide) (fun c10 => ?_) (fun c10 => ?_)
                · have h := it_neg c10 h
                  refine lv_iconst (v := 0) hx hb dX9_weekFault_66 (by decide) ?_
                  exact hJ67 (0 : Int32)  H locs ls h hS (lv_sub hl [0, 1, 2, 3] rfl)
                · have h := it_pos c10 h
                  refine lv_iconst (v := 1) hx hb dX9_weekFault_62 (by decide) ?_
                  refine lv_goto (tgt := 67) hx hb dX9_weekFault_63 (by decide) ?_
                  exact hJ67 (1 : Int32)  H locs ls h hS (lv_sub hl [0, 1, 2, 3] rfl)
          · have h := it_pos c3 h
            refine lv_aload_n hx hb dX9_weekFault_24 rfl (lv_at hl 0 rfl) ?_
            refine lv_iload_n hx hb dX9_weekFault_25 rfl (lv_at hl 3 rfl) ?_
            obtain ⟨y26, e11, h⟩ := bd_some h
            refine ct_V (ws' := fun _ => [oX9 q0 (.ref q1) (.int v_size), aC cy q1 80 v_signs]) (st' := [.int y26]) (rest := []) E hS vlX9_19 (c_X9_at (l := l) (D := D) (cy := cy) (q0 := q0) (q1 := q1) (v_size := v_size) (v_signs := v_signs) (p1 := x6_2) (r := y26) e11) [0, 1] rfl rfl (fun _ => rfl) (fun _ => rfl) rfl rfl rfl rfl (Nat.le_of_ble_eq_true rfl) hl.1 (by rw [hRf]; exact Nat.le_of_ble_eq_true rfl) (by rw [hRl]; exact Nat.le_of_ble_eq_true rfl) ⟨Nat.zero_le _, Nat.zero_le _⟩ dX9_weekFault_26 rfl (fun H locs _ hS => ?_)
            refine lv_istore_n (lv' := [(1, .int y26), (0, .ref q0), (2, .int x6_1), (3, .int x6_2)]) hx hb dX9_weekFault_29 rfl hl (by decide) rfl (fun ls hl => ?_)
            refine lv_iload_n hx hb dX9_weekFault_30 rfl (lv_at hl 0 rfl) ?_
            refine ct_S (ws' := fun _ => [oX9 q0 (.ref q1) (.int v_size), aC cy q1 80 v_signs]) (st' := [.int (X9_digitsOf y26)]) (rest := []) E hS slX9_27 (c_X9_digitsOf (l := l) (D := D) (cy := cy) (p0 := y26) (r := (X9_digitsOf y26)) rfl) [] rfl rfl (fun _ => rfl) (fun _ => rfl) rfl rfl (Nat.le_of_ble_eq_true rfl) hl.1 (by rw [hRf]; exact Nat.le_of_ble_eq_true rfl) (by rw [hRl]; exact Nat.le_of_ble_eq_true rfl) ⟨Nat.zero_le _, Nat.zero_le _⟩ dX9_weekFault_31 rfl (fun H locs _ hS => ?_)
            refine lv_istore_n (lv' := [(2, .int (X9_digitsOf y26)), (1, .int y26), (0, .ref q0), (3, .int x6_2)]) hx hb dX9_weekFault_34 rfl hl (by decide) rfl (fun ls hl => ?_)
            refine lv_iload_n hx hb dX9_weekFault_35 rfl (lv_at hl 0 rfl) ?_
            refine lv_if_ne (tgt := 87) hx hb dX9_weekFault_36 (by decide) (fun c12 => ?_) (fun c12 => ?_)
            · have h := it_neg c12 h
              refine lv_iinc (v := (x6_2 + (1 : Int32))) (lv' := [(3, .int (x6_2 + (1 : Int32))), (2, .int (X9_digitsOf y26)), (1, .int y26), (0, .ref q0)]) hx hb dX9_weekFault_87 hl (k := 3) rfl rfl (by decide) rfl (fun ls hl => ?_)
              refine lv_goto (tgt := 6) hx hb dX9_weekFault_90 (by decide) ?_
              exact ih6 y26 (X9_digitsOf y26) (x6_2 + (1 : Int32)) y6  H locs ls (hz6a _ (Option.some.inj h).symm) hS (lv_sub hl [3, 2, 1, 0] rfl) hk6_0 hk6_1 hk6_2
            · have h := it_pos c12 h
              exact hk6_1 x6_2 (hz6b _ (Option.some.inj h).symm)  H locs ls hS (lv_sub hl [3] rfl)
  obtain ⟨y6, e6, h⟩ := bd_some h
  refine hL6 1000 (0 : Int32) (0 : Int32) (0 : Int32) y6  H locs ls e6 hS (lv_sub hl [3, 2, 1, 0] rfl) (fun ye6_0_0 ey6 H locs ls hS hl => ?_) (fun ye6_1_0 ey6 H locs ls hS hl => ?_) (fun ye6_2_0 ey6 H locs ls hS hl => ?_)
  · subst ey6
    have h := sm_l h
    refine lv_aload_n hx hb dX9_weekFault_93 rfl (lv_at hl 0 rfl) ?_
    refine r_get E frX9_15 hS 0 rfl rfl dX9_weekFault_94 ?_
    refine lv_bipush (v := 60) hx hb dX9_weekFault_97 (by decide) ?_
    refine lv_icmp_le (tgt := 105) hx hb dX9_weekFault_99 (by decide) (fun c13 => ?_) (fun c13 => ?_)
    · have h := it_pos c13 h
      refine lv_iload_n hx hb dX9_weekFault_105 rfl (lv_at hl 1 rfl) ?_
      have hJ117 : ∀ (s117_0 : Int32) (ls : Array Slot), s117_0 = (if ye6_0_0 = 0 then (-1 : Int32) else v_size) → lv_has ls 5 [] → W p l e R s m args below meth c H locs 0 0 Q (F0 m 117 ls [.int s117_0]) := by
        intro s117_0 ls es117_0 hl
        subst es117_0
        obtain rfl := Option.some.inj h
        exact rt_i E hQ (.null) hS dX9_weekFault_117
      refine lv_if_ne (tgt := 113) hx hb dX9_weekFault_106 (by decide) (fun c14 => ?_) (fun c14 => ?_)
      · refine lv_aload_n hx hb dX9_weekFault_113 rfl (lv_at hl 0 rfl) ?_
        refine r_get E frX9_15 hS 0 rfl rfl dX9_weekFault_114 ?_
        exact hJ117 _ ls ((if_neg c14)).symm (lv_sub hl [] rfl)
      · refine lv_iconst (v := -1) hx hb dX9_weekFault_109 (by decide) ?_
        refine lv_goto (tgt := 117) hx hb dX9_weekFault_110 (by decide) ?_
        exact hJ117 _ ls ((if_pos c14)).symm (lv_sub hl [] rfl)
    · have h := it_neg c13 h
      refine lv_bipush (v := 60) hx hb dX9_weekFault_102 (by decide) ?_
      obtain rfl := Option.some.inj h
      exact rt_i E hQ (.null) hS dX9_weekFault_104
  · subst ey6
    have h := sm_r h
    have h := sm_l h
    refine lv_iload_n hx hb dX9_weekFault_39 rfl (lv_at hl 0 rfl) ?_
    obtain rfl := Option.some.inj h
    exact rt_i E hQ (.null) hS dX9_weekFault_40
  · subst ey6
    have h := sm_r h
    have h := sm_r h
    refine lv_iload_n hx hb dX9_weekFault_82 rfl (lv_at hl 0 rfl) ?_
    obtain rfl := Option.some.inj h
    exact rt_i E hQ (.null) hS dX9_weekFault_83

