set_option maxHeartbeats 4000000 in
set_option maxRecDepth 100000 in
theorem c_X11_thrown {l : Launch} {D : va_G} {cy : Nat → ClassId} (q0 : Nat) (u0_0 : Value) (u0_1 : Value) (u0_2 : Value) (u0_3 : Value) (u0_4 : Value) (u0_5 : Value) (u0_7 : Value) (u0_8 : Value) (u0_9 : Value) (u0_10 : Value) (u0_11 : Value) (u0_12 : Value) (u0_13 : Value) (u0_14 : Value) (u0_15 : Value) (u0_16 : Value) (u0_17 : Value) (u0_18 : Value) (u0_19 : Value) (u0_20 : Value) (u0_21 : Value) (u0_22 : Value) (u0_23 : Value) (u0_24 : Value) (u0_25 : Value) (u0_26 : Value) (u0_27 : Value) (u0_28 : Value) (u0_29 : Value) (u0_30 : Value) (u0_31 : Value) (u0_32 : Value) (u0_33 : Value) (u0_34 : Value) (u0_35 : Value) (u0_36 : Value) (u0_37 : Value) (u0_38 : Value) (u0_39 : Value) (u0_40 : Value) (v_thrown : Int32) (r : Int32) (h : X11_thrown v_thrown = r) : Ct l yX11_thrown cX11_thrown 1 (some .int) 0 0 D cy [.ref q0] [oX11 q0 u0_0 u0_1 u0_2 u0_3 u0_4 u0_5 (.int v_thrown) u0_7 u0_8 u0_9 u0_10 u0_11 u0_12 u0_13 u0_14 u0_15 u0_16 u0_17 u0_18 u0_19 u0_20 u0_21 u0_22 u0_23 u0_24 u0_25 u0_26 u0_27 u0_28 u0_29 u0_30 u0_31 u0_32 u0_33 u0_34 u0_35 u0_36 u0_37 u0_38 u0_39 u0_40] (fun _ => [oX11 q0 u0_0 u0_1 u0_2 u0_3 u0_4 u0_5 (.int v_thrown) u0_7 u0_8 u0_9 u0_10 u0_11 u0_12 u0_13 u0_14 u0_15 u0_16 u0_17 u0_18 u0_19 u0_20 u0_21 u0_22 u0_23 u0_24 u0_25 u0_26 u0_27 u0_28 u0_29 u0_30 u0_31 u0_32 u0_33 u0_34 u0_35 u0_36 u0_37 u0_38 u0_39 u0_40]) (some (.int r)) := by
  refine Ct.mk kX11_thrown (by decide +kernel) (Nat.le_of_ble_eq_true rfl) ?_
  intro p e s m below meth c A ls args R Q hRf hRl hQ E H locs hS hl
  have hx := E.x
  have hb := E.b
  have hl : lv_has ls 1 [(0, .ref q0)] := hl
  unfold X11_thrown at h
  refine lv_aload_n hx hb dX11_thrown_0 rfl (lv_at hl 0 rfl) ?_
  refine r_get E frX11_85 hS 0 rfl rfl dX11_thrown_1 ?_
  subst h
  exact rt_i E hQ (.null) hS dX11_thrown_4
set_option maxHeartbeats 4000000 in
set_option maxRecDepth 100000 in
theorem c_X11_in {l : Launch} {D : va_G} {cy : Nat → ClassId} (p0 : Int32) (p1 : Int32) (p2 : Int32) (r : Int32) (h : X11_in p0 p1 p2 = r) : Ct l yX11_in cX11_in 3 (some .boolean) 0 0 D cy [.int p0, .int p1, .int p2] [] (fun _ => []) (some (.int r)) := by
  refine Ct.mk kX11_in (by decide +kernel) (Nat.le_of_ble_eq_true rfl) ?_
  intro p e s m below meth c A ls args R Q hRf hRl hQ E H locs hS hl
  have hx := E.x
  have hb := E.b
  have hl : lv_has ls 3 [(0, .int p0), (1, .int p1), (2, .int p2)] := hl
  unfold X11_in at h
  refine lv_iload_n hx hb dX11_in_0 rfl (lv_at hl 0 rfl) ?_
  refine lv_iload_n hx hb dX11_in_1 rfl (lv_at hl 1 rfl) ?_
  have hJ15 : ∀ (s15_0 : Int32) (ls : Array Slot), s15_0 = (if p0 < p1 then (0 : Int32) else (if p2 < p0 then (0 : Int32) else (1 : Int32))) → lv_has ls 3 [] → W p l e R s m args below meth c H locs 0 0 Q (F0 m 15 ls [.int s15_0]) := by
    intro s15_0 ls es15_0 hl
    subst es15_0
    subst h
    exact rt_n E (by repeat' (first | rfl | split)) hQ (.null) hS dX11_in_15
  refine lv_icmp_lt (tgt := 14) hx hb dX11_in_2 (by decide) (fun c1 => ?_) (fun c1 => ?_)
  · refine lv_iconst (v := 0) hx hb dX11_in_14 (by decide) ?_
    exact hJ15 _ ls ((if_pos c1)).symm (lv_sub hl [] rfl)
  · refine lv_iload_n hx hb dX11_in_5 rfl (lv_at hl 0 rfl) ?_
    refine lv_iload_n hx hb dX11_in_6 rfl (lv_at hl 2 rfl) ?_
    refine lv_icmp_gt (tgt := 14) hx hb dX11_in_7 (by decide) (fun c2 => ?_) (fun c2 => ?_)
    · refine lv_iconst (v := 0) hx hb dX11_in_14 (by decide) ?_
      exact hJ15 _ ls (((if_neg c1).trans (if_pos c2))).symm (lv_sub hl [] rfl)
    · refine lv_iconst (v := 1) hx hb dX11_in_10 (by decide) ?_
      refine lv_goto (tgt := 15) hx hb dX11_in_11 (by decide) ?_
      exact hJ15 _ ls (((if_neg c1).trans (if_neg c2))).symm (lv_sub hl [] rfl)
set_option maxHeartbeats 4000000 in
set_option maxRecDepth 100000 in
theorem c_X11_has {l : Launch} {D : va_G} {cy : Nat → ClassId} (p0 : Int32) (p1 : Int32) (r : Int32) (h : X11_has p0 p1 = r) : Ct l yX11_has cX11_has 2 (some .boolean) 0 0 D cy [.int p0, .int p1] [] (fun _ => []) (some (.int r)) := by
  refine Ct.mk kX11_has (by decide +kernel) (Nat.le_of_ble_eq_true rfl) ?_
  intro p e s m below meth c A ls args R Q hRf hRl hQ E H locs hS hl
  have hx := E.x
  have hb := E.b
  have hl : lv_has ls 2 [(0, .int p0), (1, .int p1)] := hl
  unfold X11_has at h
  refine lv_iload_n hx hb dX11_has_0 rfl (lv_at hl 0 rfl) ?_
  refine lv_iload_n hx hb dX11_has_1 rfl (lv_at hl 1 rfl) ?_
  refine lv_ishr hx hb dX11_has_2 ?_
  refine lv_iconst (v := 1) hx hb dX11_has_3 (by decide) ?_
  refine lv_iand hx hb dX11_has_4 ?_
  refine lv_iconst (v := 1) hx hb dX11_has_5 (by decide) ?_
  have hJ14 : ∀ (s14_0 : Int32) (ls : Array Slot), s14_0 = (if ((p0 >>> (p1 &&& 31)) &&& (1 : Int32)) = (1 : Int32) then (1 : Int32) else (0 : Int32)) → lv_has ls 2 [] → W p l e R s m args below meth c H locs 0 0 Q (F0 m 14 ls [.int s14_0]) := by
    intro s14_0 ls es14_0 hl
    subst es14_0
    subst h
    exact rt_n E (by repeat' (first | rfl | split)) hQ (.null) hS dX11_has_14
  refine lv_icmp_ne (tgt := 13) hx hb dX11_has_6 (by decide) (fun c1 => ?_) (fun c1 => ?_)
  · refine lv_iconst (v := 0) hx hb dX11_has_13 (by decide) ?_
    exact hJ14 _ ls ((if_neg c1)).symm (lv_sub hl [] rfl)
  · refine lv_iconst (v := 1) hx hb dX11_has_9 (by decide) ?_
    refine lv_goto (tgt := 14) hx hb dX11_has_10 (by decide) ?_
    exact hJ14 _ ls ((if_pos c1)).symm (lv_sub hl [] rfl)
set_option maxHeartbeats 4000000 in
set_option maxRecDepth 100000 in
theorem c_X11_lost {l : Launch} {D : va_G} {cy : Nat → ClassId} (q0 : Nat) (u0_0 : Value) (u0_1 : Value) (u0_2 : Value) (u0_3 : Value) (u0_4 : Value) (u0_5 : Value) (u0_7 : Value) (u0_8 : Value) (u0_9 : Value) (u0_10 : Value) (u0_11 : Value) (u0_12 : Value) (u0_13 : Value) (u0_14 : Value) (u0_15 : Value) (u0_16 : Value) (u0_17 : Value) (u0_18 : Value) (u0_19 : Value) (u0_20 : Value) (u0_21 : Value) (u0_22 : Value) (u0_23 : Value) (u0_24 : Value) (u0_25 : Value) (u0_26 : Value) (u0_27 : Value) (u0_28 : Value) (u0_29 : Value) (u0_30 : Value) (u0_31 : Value) (u0_32 : Value) (u0_33 : Value) (u0_34 : Value) (u0_35 : Value) (u0_36 : Value) (u0_37 : Value) (u0_38 : Value) (u0_39 : Value) (u0_40 : Value) (v_thrown : Int32) (r : Int32 × Int32) (h : X11_lost = r) : Ct l yX11_lost cX11_lost 1 (some .int) 0 0 D cy [.ref q0] [oX11 q0 u0_0 u0_1 u0_2 u0_3 u0_4 u0_5 (.int v_thrown) u0_7 u0_8 u0_9 u0_10 u0_11 u0_12 u0_13 u0_14 u0_15 u0_16 u0_17 u0_18 u0_19 u0_20 u0_21 u0_22 u0_23 u0_24 u0_25 u0_26 u0_27 u0_28 u0_29 u0_30 u0_31 u0_32 u0_33 u0_34 u0_35 u0_36 u0_37 u0_38 u0_39 u0_40] (fun _ => [oX11 q0 u0_0 u0_1 u0_2 u0_3 u0_4 u0_5 (.int r.2) u0_7 u0_8 u0_9 u0_10 u0_11 u0_12 u0_13 u0_14 u0_15 u0_16 u0_17 u0_18 u0_19 u0_20 u0_21 u0_22 u0_23 u0_24 u0_25 u0_26 u0_27 u0_28 u0_29 u0_30 u0_31 u0_32 u0_33 u0_34 u0_35 u0_36 u0_37 u0_38 u0_39 u0_40]) (some (.int r.1)) := by
  refine Ct.mk kX11_lost (by decide +kernel) (Nat.le_of_ble_eq_true rfl) ?_
  intro p e s m below meth c A ls args R Q hRf hRl hQ E H locs hS hl
  have hx := E.x
  have hb := E.b
  have hl : lv_has ls 1 [(0, .ref q0)] := hl
  unfold X11_lost at h
  refine lv_aload_n hx hb dX11_lost_0 rfl (lv_at hl 0 rfl) ?_
  refine lv_iconst (v := 1) hx hb dX11_lost_1 (by decide) ?_
  refine r_put (ws' := [oX11 q0 u0_0 u0_1 u0_2 u0_3 u0_4 u0_5 (.int (1 : Int32)) u0_7 u0_8 u0_9 u0_10 u0_11 u0_12 u0_13 u0_14 u0_15 u0_16 u0_17 u0_18 u0_19 u0_20 u0_21 u0_22 u0_23 u0_24 u0_25 u0_26 u0_27 u0_28 u0_29 u0_30 u0_31 u0_32 u0_33 u0_34 u0_35 u0_36 u0_37 u0_38 u0_39 u0_40]) E frX11_85 hS 0 rfl (Nat.le_of_ble_eq_true rfl) rfl rfl rfl rfl dX11_lost_2 (fun H locs hS => ?_)
  refine lv_iconst (v := 0) hx hb dX11_lost_5 (by decide) ?_
  subst h
  exact rt_i E hQ (.null) hS dX11_lost_6
set_option maxHeartbeats 4000000 in
set_option maxRecDepth 100000 in
theorem c_X11_tell {l : Launch} {D : va_G} {cy : Nat → ClassId} (q0 : Nat) (q1 : Nat) (u0_0 : Value) (u0_1 : Value) (u0_2 : Value) (u0_3 : Value) (u0_6 : Value) (u0_7 : Value) (u0_8 : Value) (u0_9 : Value) (u0_10 : Value) (u0_11 : Value) (u0_12 : Value) (u0_13 : Value) (u0_14 : Value) (u0_15 : Value) (u0_16 : Value) (u0_17 : Value) (u0_18 : Value) (u0_19 : Value) (u0_20 : Value) (u0_21 : Value) (u0_22 : Value) (u0_23 : Value) (u0_24 : Value) (u0_25 : Value) (u0_26 : Value) (u0_27 : Value) (u0_28 : Value) (u0_29 : Value) (u0_30 : Value) (u0_31 : Value) (u0_32 : Value) (u0_33 : Value) (u0_34 : Value) (u0_35 : Value) (u0_36 : Value) (u0_37 : Value) (u0_38 : Value) (u0_39 : Value) (u0_40 : Value) (v_rowMany : Int32) (v_row : Nat → Int64) (p1 : Int64) (r : Int32 × (Nat → Int64)) (h : X11_tell v_rowMany v_row p1 = some r) : Ct l yX11_tell cX11_tell 3 none 0 0 D cy [.ref q0, .long p1] [oX11 q0 u0_0 u0_1 u0_2 u0_3 (.ref q1) (.int v_rowMany) u0_6 u0_7 u0_8 u0_9 u0_10 u0_11 u0_12 u0_13 u0_14 u0_15 u0_16 u0_17 u0_18 u0_19 u0_20 u0_21 u0_22 u0_23 u0_24 u0_25 u0_26 u0_27 u0_28 u0_29 u0_30 u0_31 u0_32 u0_33 u0_34 u0_35 u0_36 u0_37 u0_38 u0_39 u0_40, aJ cy q1 16 v_row] (fun _ => [oX11 q0 u0_0 u0_1 u0_2 u0_3 (.ref q1) (.int r.1) u0_6 u0_7 u0_8 u0_9 u0_10 u0_11 u0_12 u0_13 u0_14 u0_15 u0_16 u0_17 u0_18 u0_19 u0_20 u0_21 u0_22 u0_23 u0_24 u0_25 u0_26 u0_27 u0_28 u0_29 u0_30 u0_31 u0_32 u0_33 u0_34 u0_35 u0_36 u0_37 u0_38 u0_39 u0_40, aJ cy q1 16 r.2]) (none) := by
  refine Ct.mk kX11_tell (by decide +kernel) (Nat.le_of_ble_eq_true rfl) ?_
  intro p e s m below meth c A ls args R Q hRf hRl hQ E H locs hS hl
  have hx := E.x
  have hb := E.b
  have hl : lv_has ls 3 [(0, .ref q0), (1, .long p1)] := hl
  unfold X11_tell at h
  refine lv_aload_n hx hb dX11_tell_0 rfl (lv_at hl 0 rfl) ?_
  refine r_get E frX11_17 hS 0 rfl rfl dX11_tell_1 ?_
  refine lv_aload_n hx hb dX11_tell_4 rfl (lv_at hl 0 rfl) ?_
  refine r_get E frX11_89 hS 0 rfl rfl dX11_tell_5 ?_
  refine lv_lload_n hx hb dX11_tell_8 rfl (lv_at hl 1 rfl) ?_
  obtain ⟨g1, h⟩ := gi_some h
  refine r_last (ws' := [oX11 q0 u0_0 u0_1 u0_2 u0_3 (.ref q1) (.int v_rowMany) u0_6 u0_7 u0_8 u0_9 u0_10 u0_11 u0_12 u0_13 u0_14 u0_15 u0_16 u0_17 u0_18 u0_19 u0_20 u0_21 u0_22 u0_23 u0_24 u0_25 u0_26 u0_27 u0_28 u0_29 u0_30 u0_31 u0_32 u0_33 u0_34 u0_35 u0_36 u0_37 u0_38 u0_39 u0_40, aJ cy q1 16 (vp_updL v_row v_rowMany.toNatClampNeg p1)]) E hS 1 rfl g1 rfl dX11_tell_9 (fun H locs hS => ?_)
  refine lv_aload_n hx hb dX11_tell_10 rfl (lv_at hl 0 rfl) ?_
  refine lv_dup hx hb dX11_tell_11 rfl ?_
  refine r_get E frX11_89 hS 0 rfl rfl dX11_tell_12 ?_
  refine lv_iconst (v := 1) hx hb dX11_tell_15 (by decide) ?_
  refine lv_iadd hx hb dX11_tell_16 ?_
  refine r_put (ws' := [oX11 q0 u0_0 u0_1 u0_2 u0_3 (.ref q1) (.int (v_rowMany + (1 : Int32))) u0_6 u0_7 u0_8 u0_9 u0_10 u0_11 u0_12 u0_13 u0_14 u0_15 u0_16 u0_17 u0_18 u0_19 u0_20 u0_21 u0_22 u0_23 u0_24 u0_25 u0_26 u0_27 u0_28 u0_29 u0_30 u0_31 u0_32 u0_33 u0_34 u0_35 u0_36 u0_37 u0_38 u0_39 u0_40, aJ cy q1 16 (vp_updL v_row v_rowMany.toNatClampNeg p1)]) E frX11_89 hS 0 rfl (Nat.le_of_ble_eq_true rfl) rfl rfl rfl rfl dX11_tell_17 (fun H locs hS => ?_)
  obtain rfl := Option.some.inj h
  exact rt_v E hQ (.null) hS dX11_tell_20
set_option maxHeartbeats 4000000 in
set_option maxRecDepth 100000 in
theorem c_X11_isOne {l : Launch} {D : va_G} {cy : Nat → ClassId} (q0 : Nat) (u0_0 : Value) (u0_2 : Value) (u0_3 : Value) (u0_4 : Value) (u0_5 : Value) (u0_6 : Value) (u0_7 : Value) (u0_8 : Value) (u0_9 : Value) (u0_10 : Value) (u0_11 : Value) (u0_12 : Value) (u0_13 : Value) (u0_14 : Value) (u0_15 : Value) (u0_16 : Value) (u0_17 : Value) (u0_18 : Value) (u0_19 : Value) (u0_20 : Value) (u0_21 : Value) (u0_22 : Value) (u0_23 : Value) (u0_24 : Value) (u0_25 : Value) (u0_26 : Value) (u0_27 : Value) (u0_28 : Value) (u0_29 : Value) (u0_30 : Value) (u0_31 : Value) (u0_32 : Value) (u0_33 : Value) (u0_34 : Value) (u0_35 : Value) (u0_36 : Value) (u0_37 : Value) (u0_38 : Value) (u0_39 : Value) (u0_40 : Value) (v_people : Int32) (p1 : Int32) (r : Int32) (h : X11_isOne v_people p1 = some r) : Ct l yX11_isOne cX11_isOne 2 (some .boolean) 1 22 D cy [.ref q0, .int p1] [oX11 q0 u0_0 (.int v_people) u0_2 u0_3 u0_4 u0_5 u0_6 u0_7 u0_8 u0_9 u0_10 u0_11 u0_12 u0_13 u0_14 u0_15 u0_16 u0_17 u0_18 u0_19 u0_20 u0_21 u0_22 u0_23 u0_24 u0_25 u0_26 u0_27 u0_28 u0_29 u0_30 u0_31 u0_32 u0_33 u0_34 u0_35 u0_36 u0_37 u0_38 u0_39 u0_40] (fun _ => [oX11 q0 u0_0 (.int v_people) u0_2 u0_3 u0_4 u0_5 u0_6 u0_7 u0_8 u0_9 u0_10 u0_11 u0_12 u0_13 u0_14 u0_15 u0_16 u0_17 u0_18 u0_19 u0_20 u0_21 u0_22 u0_23 u0_24 u0_25 u0_26 u0_27 u0_28 u0_29 u0_30 u0_31 u0_32 u0_33 u0_34 u0_35 u0_36 u0_37 u0_38 u0_39 u0_40]) (some (.int r)) := by
  refine Ct.mk kX11_isOne (by decide +kernel) (Nat.le_of_ble_eq_true rfl) ?_
  intro p e s m below meth c A ls args R Q hRf hRl hQ E H locs hS hl
  have hx := E.x
  have hb := E.b
  have hl : lv_has ls 2 [(0, .ref q0), (1, .int p1)] := hl
  unfold X11_isOne at h
  refine lv_iload_n hx hb dX11_isOne_0 rfl (lv_at hl 1 rfl) ?_
  refine lv_iconst (v := 0) hx hb dX11_isOne_1 (by decide) ?_
  refine lv_aload_n hx hb dX11_isOne_2 rfl (lv_at hl 0 rfl) ?_
  refine r_get E frX11_92 hS 0 rfl rfl dX11_isOne_3 ?_
  refine lv_iconst (v := 1) hx hb dX11_isOne_6 (by decide) ?_
  refine lv_isub hx hb dX11_isOne_7 ?_
  refine ct_S (ws' := fun _ => [oX11 q0 u0_0 (.int v_people) u0_2 u0_3 u0_4 u0_5 u0_6 u0_7 u0_8 u0_9 u0_10 u0_11 u0_12 u0_13 u0_14 u0_15 u0_16 u0_17 u0_18 u0_19 u0_20 u0_21 u0_22 u0_23 u0_24 u0_25 u0_26 u0_27 u0_28 u0_29 u0_30 u0_31 u0_32 u0_33 u0_34 u0_35 u0_36 u0_37 u0_38 u0_39 u0_40]) (st' := [.int (X11_in p1 (0 : Int32) (v_people - (1 : Int32)))]) (rest := []) E hS slX11_95 (c_X11_in (l := l) (D := D) (cy := cy) (p0 := p1) (p1 := (0 : Int32)) (p2 := (v_people - (1 : Int32))) (r := (X11_in p1 (0 : Int32) (v_people - (1 : Int32)))) rfl) [] rfl rfl (fun _ => rfl) (fun _ => rfl) rfl rfl (Nat.le_of_ble_eq_true rfl) hl.1 (by rw [hRf]; exact Nat.le_of_ble_eq_true rfl) (by rw [hRl]; exact Nat.le_of_ble_eq_true rfl) ⟨Nat.zero_le _, Nat.zero_le _⟩ dX11_isOne_8 rfl (fun H locs _ hS => ?_)
  obtain ⟨g1, h⟩ := gn_some h
  obtain rfl := Option.some.inj h
  exact rt_n E (gn_nar g1) hQ (.null) hS dX11_isOne_11
set_option maxHeartbeats 4000000 in
set_option maxRecDepth 100000 in
theorem c_X11_areTwo {l : Launch} {D : va_G} {cy : Nat → ClassId} (q0 : Nat) (u0_0 : Value) (u0_2 : Value) (u0_3 : Value) (u0_4 : Value) (u0_5 : Value) (u0_6 : Value) (u0_7 : Value) (u0_8 : Value) (u0_9 : Value) (u0_10 : Value) (u0_11 : Value) (u0_12 : Value) (u0_13 : Value) (u0_14 : Value) (u0_15 : Value) (u0_16 : Value) (u0_17 : Value) (u0_18 : Value) (u0_19 : Value) (u0_20 : Value) (u0_21 : Value) (u0_22 : Value) (u0_23 : Value) (u0_24 : Value) (u0_25 : Value) (u0_26 : Value) (u0_27 : Value) (u0_28 : Value) (u0_29 : Value) (u0_30 : Value) (u0_31 : Value) (u0_32 : Value) (u0_33 : Value) (u0_34 : Value) (u0_35 : Value) (u0_36 : Value) (u0_37 : Value) (u0_38 : Value) (u0_39 : Value) (u0_40 : Value) (v_people : Int32) (p1 : Int32) (p2 : Int32) (r : Int32) (h : X11_areTwo v_people p1 p2 = some r) : Ct l yX11_areTwo cX11_areTwo 3 (some .boolean) 2 43 D cy [.ref q0, .int p1, .int p2] [oX11 q0 u0_0 (.int v_people) u0_2 u0_3 u0_4 u0_5 u0_6 u0_7 u0_8 u0_9 u0_10 u0_11 u0_12 u0_13 u0_14 u0_15 u0_16 u0_17 u0_18 u0_19 u0_20 u0_21 u0_22 u0_23 u0_24 u0_25 u0_26 u0_27 u0_28 u0_29 u0_30 u0_31 u0_32 u0_33 u0_34 u0_35 u0_36 u0_37 u0_38 u0_39 u0_40] (fun _ => [oX11 q0 u0_0 (.int v_people) u0_2 u0_3 u0_4 u0_5 u0_6 u0_7 u0_8 u0_9 u0_10 u0_11 u0_12 u0_13 u0_14 u0_15 u0_16 u0_17 u0_18 u0_19 u0_20 u0_21 u0_22 u0_23 u0_24 u0_25 u0_26 u0_27 u0_28 u0_29 u0_30 u0_31 u0_32 u0_33 u0_34 u0_35 u0_36 u0_37 u0_38 u0_39 u0_40]) (some (.int r)) := by
  refine Ct.mk kX11_areTwo (by decide +kernel) (Nat.le_of_ble_eq_true rfl) ?_
  intro p e s m below meth c A ls args R Q hRf hRl hQ E H locs hS hl
  have hx := E.x
  have hb := E.b
  have hl : lv_has ls 3 [(0, .ref q0), (1, .int p1), (2, .int p2)] := hl
  unfold X11_areTwo at h
  refine lv_aload_n hx hb dX11_areTwo_0 rfl (lv_at hl 0 rfl) ?_
  refine lv_iload_n hx hb dX11_areTwo_1 rfl (lv_at hl 1 rfl) ?_
  obtain ⟨y2, e1, h⟩ := bd_some h
  refine ct_V (ws' := fun _ => [oX11 q0 u0_0 (.int v_people) u0_2 u0_3 u0_4 u0_5 u0_6 u0_7 u0_8 u0_9 u0_10 u0_11 u0_12 u0_13 u0_14 u0_15 u0_16 u0_17 u0_18 u0_19 u0_20 u0_21 u0_22 u0_23 u0_24 u0_25 u0_26 u0_27 u0_28 u0_29 u0_30 u0_31 u0_32 u0_33 u0_34 u0_35 u0_36 u0_37 u0_38 u0_39 u0_40]) (st' := [.int y2]) (rest := []) E hS vlX11_99 (c_X11_isOne (l := l) (D := D) (cy := cy) (q0 := q0) (u0_0 := u0_0) (u0_2 := u0_2) (u0_3 := u0_3) (u0_4 := u0_4) (u0_5 := u0_5) (u0_6 := u0_6) (u0_7 := u0_7) (u0_8 := u0_8) (u0_9 := u0_9) (u0_10 := u0_10) (u0_11 := u0_11) (u0_12 := u0_12) (u0_13 := u0_13) (u0_14 := u0_14) (u0_15 := u0_15) (u0_16 := u0_16) (u0_17 := u0_17) (u0_18 := u0_18) (u0_19 := u0_19) (u0_20 := u0_20) (u0_21 := u0_21) (u0_22 := u0_22) (u0_23 := u0_23) (u0_24 := u0_24) (u0_25 := u0_25) (u0_26 := u0_26) (u0_27 := u0_27) (u0_28 := u0_28) (u0_29 := u0_29) (u0_30 := u0_30) (u0_31 := u0_31) (u0_32 := u0_32) (u0_33 := u0_33) (u0_34 := u0_34) (u0_35 := u0_35) (u0_36 := u0_36) (u0_37 := u0_37) (u0_38 := u0_38) (u0_39 := u0_39) (u0_40 := u0_40) (v_people := v_people) (p1 := p1) (r := y2) e1) [0] rfl rfl (fun _ => rfl) (fun _ => rfl) rfl rfl rfl rfl (Nat.le_of_ble_eq_true rfl) hl.1 (by rw [hRf]; exact Nat.le_of_ble_eq_true rfl) (by rw [hRl]; exact Nat.le_of_ble_eq_true rfl) ⟨Nat.zero_le _, Nat.zero_le _⟩ dX11_areTwo_2 rfl (fun H locs _ hS => ?_)
  refine lv_if_eq (tgt := 25) hx hb dX11_areTwo_5 (by decide) (fun c2 => ?_) (fun c2 => ?_)
  · have h := it_pos c2 h
    refine lv_iconst (v := 0) hx hb dX11_areTwo_25 (by decide) ?_
    obtain rfl := Option.some.inj h
    exact rt_n E rfl hQ (.null) hS dX11_areTwo_26
  · have h := it_neg c2 h
    refine lv_aload_n hx hb dX11_areTwo_8 rfl (lv_at hl 0 rfl) ?_
    refine lv_iload_n hx hb dX11_areTwo_9 rfl (lv_at hl 2 rfl) ?_
    obtain ⟨y10, e3, h⟩ := bd_some h
    refine ct_V (ws' := fun _ => [oX11 q0 u0_0 (.int v_people) u0_2 u0_3 u0_4 u0_5 u0_6 u0_7 u0_8 u0_9 u0_10 u0_11 u0_12 u0_13 u0_14 u0_15 u0_16 u0_17 u0_18 u0_19 u0_20 u0_21 u0_22 u0_23 u0_24 u0_25 u0_26 u0_27 u0_28 u0_29 u0_30 u0_31 u0_32 u0_33 u0_34 u0_35 u0_36 u0_37 u0_38 u0_39 u0_40]) (st' := [.int y10]) (rest := []) E hS vlX11_99 (c_X11_isOne (l := l) (D := D) (cy := cy) (q0 := q0) (u0_0 := u0_0) (u0_2 := u0_2) (u0_3 := u0_3) (u0_4 := u0_4) (u0_5 := u0_5) (u0_6 := u0_6) (u0_7 := u0_7) (u0_8 := u0_8) (u0_9 := u0_9) (u0_10 := u0_10) (u0_11 := u0_11) (u0_12 := u0_12) (u0_13 := u0_13) (u0_14 := u0_14) (u0_15 := u0_15) (u0_16 := u0_16) (u0_17 := u0_17) (u0_18 := u0_18) (u0_19 := u0_19) (u0_20 := u0_20) (u0_21 := u0_21) (u0_22 := u0_22) (u0_23 := u0_23) (u0_24 := u0_24) (u0_25 := u0_25) (u0_26 := u0_26) (u0_27 := u0_27) (u0_28 := u0_28) (u0_29 := u0_29) (u0_30 := u0_30) (u0_31 := u0_31) (u0_32 := u0_32) (u0_33 := u0_33) (u0_34 := u0_34) (u0_35 := u0_35) (u0_36 := u0_36) (u0_37 := u0_37) (u0_38 := u0_38) (u0_39 := u0_39) (u0_40 := u0_40) (v_people := v_people) (p1 := p2) (r := y10) e3) [0] rfl rfl (fun _ => rfl) (fun _ => rfl) rfl rfl rfl rfl (Nat.le_of_ble_eq_true rfl) hl.1 (by rw [hRf]; exact Nat.le_of_ble_eq_true rfl) (by rw [hRl]; exact Nat.le_of_ble_eq_true rfl) ⟨Nat.zero_le _, Nat.zero_le _⟩ dX11_areTwo_10 rfl (fun H locs _ hS => ?_)
    refine lv_if_eq (tgt := 25) hx hb dX11_areTwo_13 (by decide) (fun c4 => ?_) (fun c4 => ?_)
    · have h := it_pos c4 h
      refine lv_iconst (v := 0) hx hb dX11_areTwo_25 (by decide) ?_
      obtain rfl := Option.some.inj h
      exact rt_n E rfl hQ (.null) hS dX11_areTwo_26
    · have h := it_neg c4 h
      refine lv_iload_n hx hb dX11_areTwo_16 rfl (lv_at hl 1 rfl) ?_
      refine lv_iload_n hx hb dX11_areTwo_17 rfl (lv_at hl 2 rfl) ?_
      refine lv_icmp_eq (tgt := 25) hx hb dX11_areTwo_18 (by decide) (fun c5 => ?_) (fun c5 => ?_)
      · have h := it_pos c5 h
        refine lv_iconst (v := 0) hx hb dX11_areTwo_25 (by decide) ?_
        obtain rfl := Option.some.inj h
        exact rt_n E rfl hQ (.null) hS dX11_areTwo_26
      · have h := it_neg c5 h
        refine lv_iconst (v := 1) hx hb dX11_areTwo_21 (by decide) ?_
        refine lv_goto (tgt := 26) hx hb dX11_areTwo_22 (by decide) ?_
        obtain rfl := Option.some.inj h
        exact rt_n E rfl hQ (.null) hS dX11_areTwo_26
set_option maxHeartbeats 4000000 in
set_option maxRecDepth 100000 in
theorem c_X11_everybody {l : Launch} {D : va_G} {cy : Nat → ClassId} (q0 : Nat) (u0_0 : Value) (u0_2 : Value) (u0_3 : Value) (u0_4 : Value) (u0_5 : Value) (u0_6 : Value) (u0_7 : Value) (u0_8 : Value) (u0_9 : Value) (u0_10 : Value) (u0_11 : Value) (u0_12 : Value) (u0_13 : Value) (u0_14 : Value) (u0_15 : Value) (u0_16 : Value) (u0_17 : Value) (u0_18 : Value) (u0_19 : Value) (u0_20 : Value) (u0_21 : Value) (u0_22 : Value) (u0_23 : Value) (u0_24 : Value) (u0_25 : Value) (u0_26 : Value) (u0_27 : Value) (u0_28 : Value) (u0_29 : Value) (u0_30 : Value) (u0_31 : Value) (u0_32 : Value) (u0_33 : Value) (u0_34 : Value) (u0_35 : Value) (u0_36 : Value) (u0_37 : Value) (u0_38 : Value) (u0_39 : Value) (u0_40 : Value) (v_people : Int32) (r : Int32) (h : X11_everybody v_people = r) : Ct l yX11_everybody cX11_everybody 1 (some .int) 0 0 D cy [.ref q0] [oX11 q0 u0_0 (.int v_people) u0_2 u0_3 u0_4 u0_5 u0_6 u0_7 u0_8 u0_9 u0_10 u0_11 u0_12 u0_13 u0_14 u0_15 u0_16 u0_17 u0_18 u0_19 u0_20 u0_21 u0_22 u0_23 u0_24 u0_25 u0_26 u0_27 u0_28 u0_29 u0_30 u0_31 u0_32 u0_33 u0_34 u0_35 u0_36 u0_37 u0_38 u0_39 u0_40] (fun _ => [oX11 q0 u0_0 (.int v_people) u0_2 u0_3 u0_4 u0_5 u0_6 u0_7 u0_8 u0_9 u0_10 u0_11 u0_12 u0_13 u0_14 u0_15 u0_16 u0_17 u0_18 u0_19 u0_20 u0_21 u0_22 u0_23 u0_24 u0_25 u0_26 u0_27 u0_28 u0_29 u0_30 u0_31 u0_32 u0_33 u0_34 u0_35 u0_36 u0_37 u0_38 u0_39 u0_40]) (some (.int r)) := by
  refine Ct.mk kX11_everybody (by decide +kernel) (Nat.le_of_ble_eq_true rfl) ?_
  intro p e s m below meth c A ls args R Q hRf hRl hQ E H locs hS hl
  have hx := E.x
  have hb := E.b
  have hl : lv_has ls 1 [(0, .ref q0)] := hl
  unfold X11_everybody at h
  refine lv_iconst (v := 1) hx hb dX11_everybody_0 (by decide) ?_
  refine lv_aload_n hx hb dX11_everybody_1 rfl (lv_at hl 0 rfl) ?_
  refine r_get E frX11_92 hS 0 rfl rfl dX11_everybody_2 ?_
  refine lv_ishl hx hb dX11_everybody_5 ?_
  refine lv_iconst (v := 1) hx hb dX11_everybody_6 (by decide) ?_
  refine lv_isub hx hb dX11_everybody_7 ?_
  subst h
  exact rt_i E hQ (.null) hS dX11_everybody_8
set_option maxHeartbeats 4000000 in
set_option maxRecDepth 100000 in
theorem c_X11_sign {l : Launch} {D : va_G} {cy : Nat → ClassId} (q0 : Nat) (q1 : Nat) (u0_0 : Value) (u0_1 : Value) (u0_4 : Value) (u0_5 : Value) (u0_7 : Value) (u0_8 : Value) (u0_9 : Value) (u0_10 : Value) (u0_11 : Value) (u0_12 : Value) (u0_13 : Value) (u0_14 : Value) (u0_15 : Value) (u0_16 : Value) (u0_17 : Value) (u0_18 : Value) (u0_19 : Value) (u0_20 : Value) (u0_21 : Value) (u0_22 : Value) (u0_23 : Value) (u0_24 : Value) (u0_25 : Value) (u0_26 : Value) (u0_27 : Value) (u0_28 : Value) (u0_29 : Value) (u0_30 : Value) (u0_31 : Value) (u0_32 : Value) (u0_33 : Value) (u0_34 : Value) (u0_35 : Value) (u0_36 : Value) (u0_37 : Value) (u0_38 : Value) (u0_39 : Value) (u0_40 : Value) (v_typed : Int32) (v_thrown : Int32) (v_text : Nat → Int32) (p1 : Int32) (r : Int32 × Int32 × Int32 × (Nat → Int32)) (h : X11_sign v_typed v_text p1 = some r) : Ct l yX11_sign cX11_sign 3 (some .int) 0 0 D cy [.ref q0, .int p1] [oX11 q0 u0_0 u0_1 (.ref q1) (.int v_typed) u0_4 u0_5 (.int v_thrown) u0_7 u0_8 u0_9 u0_10 u0_11 u0_12 u0_13 u0_14 u0_15 u0_16 u0_17 u0_18 u0_19 u0_20 u0_21 u0_22 u0_23 u0_24 u0_25 u0_26 u0_27 u0_28 u0_29 u0_30 u0_31 u0_32 u0_33 u0_34 u0_35 u0_36 u0_37 u0_38 u0_39 u0_40, aB cy q1 80 v_text] (fun _ => [oX11 q0 u0_0 u0_1 (.ref q1) (.int r.2.1) u0_4 u0_5 (.int r.2.2.1) u0_7 u0_8 u0_9 u0_10 u0_11 u0_12 u0_13 u0_14 u0_15 u0_16 u0_17 u0_18 u0_19 u0_20 u0_21 u0_22 u0_23 u0_24 u0_25 u0_26 u0_27 u0_28 u0_29 u0_30 u0_31 u0_32 u0_33 u0_34 u0_35 u0_36 u0_37 u0_38 u0_39 u0_40, aB cy q1 80 r.2.2.2]) (some (.int r.1)) := by
  refine Ct.mk kX11_sign (by decide +kernel) (Nat.le_of_ble_eq_true rfl) ?_
  intro p e s m below meth c A ls args R Q hRf hRl hQ E H locs hS hl
  have hx := E.x
  have hb := E.b
  have hl : lv_has ls 3 [(0, .ref q0), (1, .int p1)] := hl
  unfold X11_sign at h
  refine lv_aload_n hx hb dX11_sign_0 rfl (lv_at hl 0 rfl) ?_
  refine lv_iconst (v := 0) hx hb dX11_sign_1 (by decide) ?_
  refine r_put (ws' := [oX11 q0 u0_0 u0_1 (.ref q1) (.int v_typed) u0_4 u0_5 (.int (0 : Int32)) u0_7 u0_8 u0_9 u0_10 u0_11 u0_12 u0_13 u0_14 u0_15 u0_16 u0_17 u0_18 u0_19 u0_20 u0_21 u0_22 u0_23 u0_24 u0_25 u0_26 u0_27 u0_28 u0_29 u0_30 u0_31 u0_32 u0_33 u0_34 u0_35 u0_36 u0_37 u0_38 u0_39 u0_40, aB cy q1 80 v_text]) E frX11_85 hS 0 rfl (Nat.le_of_ble_eq_true rfl) rfl rfl rfl rfl dX11_sign_2 (fun H locs hS => ?_)
  refine lv_aload_n hx hb dX11_sign_5 rfl (lv_at hl 0 rfl) ?_
  refine r_get E frX11_103 hS 0 rfl rfl dX11_sign_6 ?_
  refine lv_iconst (v := 4) hx hb dX11_sign_9 (by decide) ?_
  refine lv_iadd hx hb dX11_sign_10 ?_
  refine lv_bipush (v := 80) hx hb dX11_sign_11 (by decide) ?_
  refine lv_icmp_le (tgt := 18) hx hb dX11_sign_13 (by decide) (fun c1 => ?_) (fun c1 => ?_)
  · have h := it_pos c1 h
    refine lv_iconst (v := 3) hx hb dX11_sign_18 (by decide) ?_
    refine lv_istore_n (lv' := [(2, .int (3 : Int32)), (0, .ref q0), (1, .int p1)]) hx hb dX11_sign_19 rfl hl (by decide) rfl (fun ls hl => ?_)
    have hL20 : ∀ (n : Nat) (x20_0 : Int32) (x20_1 : Int32) (x20_2 : Nat → Int32) (y20 : Int32 × (Nat → Int32)) (H : Heap) (locs : List Loc) (ls : Array Slot), lp (fun x20 => X11_sign_s20 p1 x20.1 x20.2.1 x20.2.2) n (x20_0, x20_1, x20_2) = some y20 → Sv D A s.heap [oX11 q0 u0_0 u0_1 (.ref q1) (.int x20_1) u0_4 u0_5 (.int (0 : Int32)) u0_7 u0_8 u0_9 u0_10 u0_11 u0_12 u0_13 u0_14 u0_15 u0_16 u0_17 u0_18 u0_19 u0_20 u0_21 u0_22 u0_23 u0_24 u0_25 u0_26 u0_27 u0_28 u0_29 u0_30 u0_31 u0_32 u0_33 u0_34 u0_35 u0_36 u0_37 u0_38 u0_39 u0_40, aB cy q1 80 x20_2] H locs → lv_has ls 3 [(0, .ref q0), (1, .int p1), (2, .int x20_0)] → ( ∀ (y20_0 : Int32) (y20_1 : Nat → Int32), (y20_0, y20_1) = y20 → ∀ (H : Heap) (locs : List Loc) (ls : Array Slot), Sv D A s.heap [oX11 q0 u0_0 u0_1 (.ref q1) (.int y20_0) u0_4 u0_5 (.int (0 : Int32)) u0_7 u0_8 u0_9 u0_10 u0_11 u0_12 u0_13 u0_14 u0_15 u0_16 u0_17 u0_18 u0_19 u0_20 u0_21 u0_22 u0_23 u0_24 u0_25 u0_26 u0_27 u0_28 u0_29 u0_30 u0_31 u0_32 u0_33 u0_34 u0_35 u0_36 u0_37 u0_38 u0_39 u0_40, aB cy q1 80 y20_1] H locs → lv_has ls 3 [(0, .ref q0)] → W p l e R s m args below meth c H locs 0 0 Q (F0 m 53 ls [])) → W p l e R s m args below meth c H locs 0 0 Q (F0 m 20 ls []) := by
      intro n
      induction n with
      | zero =>
        intro x20_0 x20_1 x20_2 y20 H locs ls h
        exact lp_zero h
      | succ n ih20 =>
        intro x20_0 x20_1 x20_2 y20 H locs ls h hS hl hk20_0
        obtain ⟨z20, h, hz20a, hz20b⟩ := lp_succ h
        have h : X11_sign_s20 p1 x20_0 x20_1 x20_2 = some z20 := h
        unfold X11_sign_s20 at h
        refine lv_iload_n hx hb dX11_sign_20 rfl (lv_at hl 2 rfl) ?_
        refine lv_if_lt (tgt := 53) hx hb dX11_sign_21 (by decide) (fun c2 => ?_) (fun c2 => ?_)
        · have h := it_pos c2 h
          exact hk20_0 x20_1 x20_2 (hz20b _ (Option.some.inj h).symm)  H locs ls hS (lv_sub hl [0] rfl)
        · have h := it_neg c2 h
          refine lv_aload_n hx hb dX11_sign_24 rfl (lv_at hl 0 rfl) ?_
          refine r_get E frX11_13 hS 0 rfl rfl dX11_sign_25 ?_
          refine lv_aload_n hx hb dX11_sign_28 rfl (lv_at hl 0 rfl) ?_
          refine lv_dup hx hb dX11_sign_29 rfl ?_
          refine r_get E frX11_103 hS 0 rfl rfl dX11_sign_30 ?_
          refine lv_dup_x1 hx hb dX11_sign_33 rfl rfl ?_
          refine lv_iconst (v := 1) hx hb dX11_sign_34 (by decide) ?_
          refine lv_iadd hx hb dX11_sign_35 ?_
          refine r_put (ws' := [oX11 q0 u0_0 u0_1 (.ref q1) (.int (x20_1 + (1 : Int32))) u0_4 u0_5 (.int (0 : Int32)) u0_7 u0_8 u0_9 u0_10 u0_11 u0_12 u0_13 u0_14 u0_15 u0_16 u0_17 u0_18 u0_19 u0_20 u0_21 u0_22 u0_23 u0_24 u0_25 u0_26 u0_27 u0_28 u0_29 u0_30 u0_31 u0_32 u0_33 u0_34 u0_35 u0_36 u0_37 u0_38 u0_39 u0_40, aB cy q1 80 x20_2]) E frX11_103 hS 0 rfl (Nat.le_of_ble_eq_true rfl) rfl rfl rfl rfl dX11_sign_36 (fun H locs hS => ?_)
          refine lv_iload_n hx hb dX11_sign_39 rfl (lv_at hl 1 rfl) ?_
          refine lv_bipush (v := 8) hx hb dX11_sign_40 (by decide) ?_
          refine lv_iload_n hx hb dX11_sign_42 rfl (lv_at hl 2 rfl) ?_
          refine lv_imul hx hb dX11_sign_43 ?_
          refine lv_ishr hx hb dX11_sign_44 ?_
          refine lv_i2b (v := ((p1 >>> (((8 : Int32) * x20_0) &&& 31)).toInt8.toInt32)) hx hb dX11_sign_45 rfl ?_
          obtain ⟨g3, h⟩ := gi_some h
          refine r_bast (ws' := [oX11 q0 u0_0 u0_1 (.ref q1) (.int (x20_1 + (1 : Int32))) u0_4 u0_5 (.int (0 : Int32)) u0_7 u0_8 u0_9 u0_10 u0_11 u0_12 u0_13 u0_14 u0_15 u0_16 u0_17 u0_18 u0_19 u0_20 u0_21 u0_22 u0_23 u0_24 u0_25 u0_26 u0_27 u0_28 u0_29 u0_30 u0_31 u0_32 u0_33 u0_34 u0_35 u0_36 u0_37 u0_38 u0_39 u0_40, aB cy q1 80 (upd x20_2 x20_1.toNatClampNeg (vp_nar .byte ((p1 >>> (((8 : Int32) * x20_0) &&& 31)).toInt8.toInt32)))]) E hS 1 rfl g3 rfl dX11_sign_46 (fun H locs hS => ?_)
          refine lv_iinc (v := (x20_0 + (-1 : Int32))) (lv' := [(2, .int (x20_0 + (-1 : Int32))), (0, .ref q0), (1, .int p1)]) hx hb dX11_sign_47 hl (k := 2) rfl rfl (by decide) rfl (fun ls hl => ?_)
          refine lv_goto (tgt := 20) hx hb dX11_sign_50 (by decide) ?_
          exact ih20 (x20_0 + (-1 : Int32)) (x20_1 + (1 : Int32)) (upd x20_2 x20_1.toNatClampNeg (vp_nar .byte ((p1 >>> (((8 : Int32) * x20_0) &&& 31)).toInt8.toInt32))) y20  H locs ls (hz20a _ (Option.some.inj h).symm) hS (lv_sub hl [1, 2, 0] rfl) hk20_0
    obtain ⟨y20, e20, h⟩ := bd_some h
    refine hL20 1000 (3 : Int32) v_typed v_text y20  H locs ls e20 hS (lv_sub hl [1, 2, 0] rfl) (fun y20_0 y20_1 ey20 H locs ls hS hl => ?_)
    subst ey20
    have h := un_r h
    refine lv_aload_n hx hb dX11_sign_53 rfl (lv_at hl 0 rfl) ?_
    refine r_get E frX11_103 hS 0 rfl rfl dX11_sign_54 ?_
    obtain rfl := Option.some.inj h
    exact rt_i E hQ (.null) hS dX11_sign_57
  · have h := it_neg c1 h
    refine lv_iconst (v := -1) hx hb dX11_sign_16 (by decide) ?_
    obtain rfl := Option.some.inj h
    exact rt_i E hQ (.null) hS dX11_sign_17
set_option maxHeartbeats 4000000 in
set_option maxRecDepth 100000 in
theorem c_X11_end {l : Launch} {D : va_G} {cy : Nat → ClassId} (q0 : Nat) (u0_0 : Value) (u0_1 : Value) (u0_2 : Value) (u0_4 : Value) (u0_5 : Value) (u0_7 : Value) (u0_8 : Value) (u0_9 : Value) (u0_10 : Value) (u0_11 : Value) (u0_12 : Value) (u0_13 : Value) (u0_14 : Value) (u0_15 : Value) (u0_16 : Value) (u0_17 : Value) (u0_18 : Value) (u0_19 : Value) (u0_20 : Value) (u0_21 : Value) (u0_22 : Value) (u0_23 : Value) (u0_24 : Value) (u0_25 : Value) (u0_26 : Value) (u0_27 : Value) (u0_28 : Value) (u0_29 : Value) (u0_30 : Value) (u0_31 : Value) (u0_32 : Value) (u0_33 : Value) (u0_34 : Value) (u0_35 : Value) (u0_36 : Value) (u0_37 : Value) (u0_38 : Value) (u0_39 : Value) (u0_40 : Value) (v_typed : Int32) (v_thrown : Int32) (p1 : Int32) (r : Int32 × Int32 × Int32) (h : X11_end v_typed p1 = r) : Ct l yX11_end cX11_end 2 (some .boolean) 1 22 D cy [.ref q0, .int p1] [oX11 q0 u0_0 u0_1 u0_2 (.int v_typed) u0_4 u0_5 (.int v_thrown) u0_7 u0_8 u0_9 u0_10 u0_11 u0_12 u0_13 u0_14 u0_15 u0_16 u0_17 u0_18 u0_19 u0_20 u0_21 u0_22 u0_23 u0_24 u0_25 u0_26 u0_27 u0_28 u0_29 u0_30 u0_31 u0_32 u0_33 u0_34 u0_35 u0_36 u0_37 u0_38 u0_39 u0_40] (fun _ => [oX11 q0 u0_0 u0_1 u0_2 (.int r.2.1) u0_4 u0_5 (.int r.2.2) u0_7 u0_8 u0_9 u0_10 u0_11 u0_12 u0_13 u0_14 u0_15 u0_16 u0_17 u0_18 u0_19 u0_20 u0_21 u0_22 u0_23 u0_24 u0_25 u0_26 u0_27 u0_28 u0_29 u0_30 u0_31 u0_32 u0_33 u0_34 u0_35 u0_36 u0_37 u0_38 u0_39 u0_40]) (some (.int r.1)) := by
  refine Ct.mk kX11_end (by decide +kernel) (Nat.le_of_ble_eq_true rfl) ?_
  intro p e s m below meth c A ls args R Q hRf hRl hQ E H locs hS hl
  have hx := E.x
  have hb := E.b
  have hl : lv_has ls 2 [(0, .ref q0), (1, .int p1)] := hl
  unfold X11_end at h
  refine lv_aload_n hx hb dX11_end_0 rfl (lv_at hl 0 rfl) ?_
  refine lv_iconst (v := 0) hx hb dX11_end_1 (by decide) ?_
  refine r_put (ws' := [oX11 q0 u0_0 u0_1 u0_2 (.int v_typed) u0_4 u0_5 (.int (0 : Int32)) u0_7 u0_8 u0_9 u0_10 u0_11 u0_12 u0_13 u0_14 u0_15 u0_16 u0_17 u0_18 u0_19 u0_20 u0_21 u0_22 u0_23 u0_24 u0_25 u0_26 u0_27 u0_28 u0_29 u0_30 u0_31 u0_32 u0_33 u0_34 u0_35 u0_36 u0_37 u0_38 u0_39 u0_40]) E frX11_85 hS 0 rfl (Nat.le_of_ble_eq_true rfl) rfl rfl rfl rfl dX11_end_2 (fun H locs hS => ?_)
  refine lv_iload_n hx hb dX11_end_5 rfl (lv_at hl 1 rfl) ?_
  refine lv_iconst (v := 0) hx hb dX11_end_6 (by decide) ?_
  refine lv_aload_n hx hb dX11_end_7 rfl (lv_at hl 0 rfl) ?_
  refine r_get E frX11_103 hS 0 rfl rfl dX11_end_8 ?_
  refine ct_S (ws' := fun _ => [oX11 q0 u0_0 u0_1 u0_2 (.int v_typed) u0_4 u0_5 (.int (0 : Int32)) u0_7 u0_8 u0_9 u0_10 u0_11 u0_12 u0_13 u0_14 u0_15 u0_16 u0_17 u0_18 u0_19 u0_20 u0_21 u0_22 u0_23 u0_24 u0_25 u0_26 u0_27 u0_28 u0_29 u0_30 u0_31 u0_32 u0_33 u0_34 u0_35 u0_36 u0_37 u0_38 u0_39 u0_40]) (st' := [.int (X11_in p1 (0 : Int32) v_typed)]) (rest := []) E hS slX11_95 (c_X11_in (l := l) (D := D) (cy := cy) (p0 := p1) (p1 := (0 : Int32)) (p2 := v_typed) (r := (X11_in p1 (0 : Int32) v_typed)) rfl) [] rfl rfl (fun _ => rfl) (fun _ => rfl) rfl rfl (Nat.le_of_ble_eq_true rfl) hl.1 (by rw [hRf]; exact Nat.le_of_ble_eq_true rfl) (by rw [hRl]; exact Nat.le_of_ble_eq_true rfl) ⟨Nat.zero_le _, Nat.zero_le _⟩ dX11_end_11 rfl (fun H locs _ hS => ?_)
  refine lv_if_ne (tgt := 19) hx hb dX11_end_14 (by decide) (fun c1 => ?_) (fun c1 => ?_)
  · have h := it_neg c1 h
    refine lv_aload_n hx hb dX11_end_19 rfl (lv_at hl 0 rfl) ?_
    refine lv_iload_n hx hb dX11_end_20 rfl (lv_at hl 1 rfl) ?_
    refine r_put (ws' := [oX11 q0 u0_0 u0_1 u0_2 (.int p1) u0_4 u0_5 (.int (0 : Int32)) u0_7 u0_8 u0_9 u0_10 u0_11 u0_12 u0_13 u0_14 u0_15 u0_16 u0_17 u0_18 u0_19 u0_20 u0_21 u0_22 u0_23 u0_24 u0_25 u0_26 u0_27 u0_28 u0_29 u0_30 u0_31 u0_32 u0_33 u0_34 u0_35 u0_36 u0_37 u0_38 u0_39 u0_40]) E frX11_103 hS 0 rfl (Nat.le_of_ble_eq_true rfl) rfl rfl rfl rfl dX11_end_21 (fun H locs hS => ?_)
    refine lv_iconst (v := 1) hx hb dX11_end_24 (by decide) ?_
    subst h
    exact rt_n E rfl hQ (.null) hS dX11_end_25
  · have h := it_pos c1 h
    refine lv_iconst (v := 0) hx hb dX11_end_17 (by decide) ?_
    subst h
    exact rt_n E rfl hQ (.null) hS dX11_end_18
set_option maxHeartbeats 4000000 in
set_option maxRecDepth 100000 in
theorem c_X11_begin {l : Launch} {D : va_G} {cy : Nat → ClassId} (q0 : Nat) (u0_0 : Value) (u0_1 : Value) (u0_2 : Value) (u0_3 : Value) (u0_4 : Value) (u0_5 : Value) (u0_6 : Value) (u0_7 : Value) (u0_12 : Value) (u0_13 : Value) (u0_14 : Value) (u0_15 : Value) (u0_16 : Value) (u0_17 : Value) (u0_18 : Value) (u0_19 : Value) (u0_20 : Value) (u0_21 : Value) (u0_22 : Value) (u0_23 : Value) (u0_24 : Value) (u0_25 : Value) (u0_26 : Value) (u0_27 : Value) (u0_28 : Value) (u0_29 : Value) (u0_30 : Value) (u0_31 : Value) (u0_32 : Value) (u0_33 : Value) (u0_34 : Value) (u0_35 : Value) (u0_36 : Value) (u0_37 : Value) (u0_38 : Value) (u0_39 : Value) (u0_40 : Value) (z_a1 : Nat) (v_length : Int32) (v_top : Int32) (v_at : Int32) (v_wrong : Int32) (p2 : Int32) (p3 : Int32) (r : Int32 × Int32 × Int32 × Int32) (h : X11_begin p2 p3 = r) : Ct l yX11_begin cX11_begin 4 none 0 0 D cy [.ref q0, .ref z_a1, .int p2, .int p3] [oX11 q0 u0_0 u0_1 u0_2 u0_3 u0_4 u0_5 u0_6 u0_7 (.int v_length) (.int v_top) (.int v_at) (.int v_wrong) u0_12 u0_13 u0_14 u0_15 u0_16 u0_17 u0_18 u0_19 u0_20 u0_21 u0_22 u0_23 u0_24 u0_25 u0_26 u0_27 u0_28 u0_29 u0_30 u0_31 u0_32 u0_33 u0_34 u0_35 u0_36 u0_37 u0_38 u0_39 u0_40] (fun _ => [oX11 q0 u0_0 u0_1 u0_2 u0_3 u0_4 u0_5 u0_6 (.ref z_a1) (.int r.1) (.int r.2.1) (.int r.2.2.1) (.int r.2.2.2) u0_12 u0_13 u0_14 u0_15 u0_16 u0_17 u0_18 u0_19 u0_20 u0_21 u0_22 u0_23 u0_24 u0_25 u0_26 u0_27 u0_28 u0_29 u0_30 u0_31 u0_32 u0_33 u0_34 u0_35 u0_36 u0_37 u0_38 u0_39 u0_40]) (none) := by
  refine Ct.mk kX11_begin (by decide +kernel) (Nat.le_of_ble_eq_true rfl) ?_
  intro p e s m below meth c A ls args R Q hRf hRl hQ E H locs hS hl
  have hx := E.x
  have hb := E.b
  have hl : lv_has ls 4 [(0, .ref q0), (1, .ref z_a1), (2, .int p2), (3, .int p3)] := hl
  unfold X11_begin at h
  refine lv_aload_n hx hb dX11_begin_0 rfl (lv_at hl 0 rfl) ?_
  refine lv_aload_n hx hb dX11_begin_1 rfl (lv_at hl 1 rfl) ?_
  refine r_put (ws' := [oX11 q0 u0_0 u0_1 u0_2 u0_3 u0_4 u0_5 u0_6 (.ref z_a1) (.int v_length) (.int v_top) (.int v_at) (.int v_wrong) u0_12 u0_13 u0_14 u0_15 u0_16 u0_17 u0_18 u0_19 u0_20 u0_21 u0_22 u0_23 u0_24 u0_25 u0_26 u0_27 u0_28 u0_29 u0_30 u0_31 u0_32 u0_33 u0_34 u0_35 u0_36 u0_37 u0_38 u0_39 u0_40]) E frX11_106 hS 0 rfl (Nat.le_of_ble_eq_true rfl) rfl rfl rfl rfl dX11_begin_2 (fun H locs hS => ?_)
  refine lv_aload_n hx hb dX11_begin_5 rfl (lv_at hl 0 rfl) ?_
  refine lv_iload_n hx hb dX11_begin_6 rfl (lv_at hl 2 rfl) ?_
  refine r_put (ws' := [oX11 q0 u0_0 u0_1 u0_2 u0_3 u0_4 u0_5 u0_6 (.ref z_a1) (.int p2) (.int v_top) (.int v_at) (.int v_wrong) u0_12 u0_13 u0_14 u0_15 u0_16 u0_17 u0_18 u0_19 u0_20 u0_21 u0_22 u0_23 u0_24 u0_25 u0_26 u0_27 u0_28 u0_29 u0_30 u0_31 u0_32 u0_33 u0_34 u0_35 u0_36 u0_37 u0_38 u0_39 u0_40]) E frX11_109 hS 0 rfl (Nat.le_of_ble_eq_true rfl) rfl rfl rfl rfl dX11_begin_7 (fun H locs hS => ?_)
  refine lv_aload_n hx hb dX11_begin_10 rfl (lv_at hl 0 rfl) ?_
  refine lv_iload_n hx hb dX11_begin_11 rfl (lv_at hl 3 rfl) ?_
  refine r_put (ws' := [oX11 q0 u0_0 u0_1 u0_2 u0_3 u0_4 u0_5 u0_6 (.ref z_a1) (.int p2) (.int p3) (.int v_at) (.int v_wrong) u0_12 u0_13 u0_14 u0_15 u0_16 u0_17 u0_18 u0_19 u0_20 u0_21 u0_22 u0_23 u0_24 u0_25 u0_26 u0_27 u0_28 u0_29 u0_30 u0_31 u0_32 u0_33 u0_34 u0_35 u0_36 u0_37 u0_38 u0_39 u0_40]) E frX11_112 hS 0 rfl (Nat.le_of_ble_eq_true rfl) rfl rfl rfl rfl dX11_begin_12 (fun H locs hS => ?_)
  refine lv_aload_n hx hb dX11_begin_15 rfl (lv_at hl 0 rfl) ?_
  refine lv_iconst (v := 0) hx hb dX11_begin_16 (by decide) ?_
  refine r_put (ws' := [oX11 q0 u0_0 u0_1 u0_2 u0_3 u0_4 u0_5 u0_6 (.ref z_a1) (.int p2) (.int p3) (.int (0 : Int32)) (.int v_wrong) u0_12 u0_13 u0_14 u0_15 u0_16 u0_17 u0_18 u0_19 u0_20 u0_21 u0_22 u0_23 u0_24 u0_25 u0_26 u0_27 u0_28 u0_29 u0_30 u0_31 u0_32 u0_33 u0_34 u0_35 u0_36 u0_37 u0_38 u0_39 u0_40]) E frX11_115 hS 0 rfl (Nat.le_of_ble_eq_true rfl) rfl rfl rfl rfl dX11_begin_17 (fun H locs hS => ?_)
  refine lv_aload_n hx hb dX11_begin_20 rfl (lv_at hl 0 rfl) ?_
  refine lv_iconst (v := -1) hx hb dX11_begin_21 (by decide) ?_
  refine r_put (ws' := [oX11 q0 u0_0 u0_1 u0_2 u0_3 u0_4 u0_5 u0_6 (.ref z_a1) (.int p2) (.int p3) (.int (0 : Int32)) (.int (-1 : Int32)) u0_12 u0_13 u0_14 u0_15 u0_16 u0_17 u0_18 u0_19 u0_20 u0_21 u0_22 u0_23 u0_24 u0_25 u0_26 u0_27 u0_28 u0_29 u0_30 u0_31 u0_32 u0_33 u0_34 u0_35 u0_36 u0_37 u0_38 u0_39 u0_40]) E frX11_118 hS 0 rfl (Nat.le_of_ble_eq_true rfl) rfl rfl rfl rfl dX11_begin_22 (fun H locs hS => ?_)
  subst h
  exact rt_v E hQ (.null) hS dX11_begin_25
set_option maxHeartbeats 4000000 in
set_option maxRecDepth 100000 in
theorem c_X11_beginText {l : Launch} {D : va_G} {cy : Nat → ClassId} (q0 : Nat) (u0_0 : Value) (u0_1 : Value) (u0_4 : Value) (u0_5 : Value) (u0_6 : Value) (u0_7 : Value) (u0_12 : Value) (u0_13 : Value) (u0_14 : Value) (u0_15 : Value) (u0_16 : Value) (u0_17 : Value) (u0_18 : Value) (u0_19 : Value) (u0_20 : Value) (u0_21 : Value) (u0_22 : Value) (u0_23 : Value) (u0_24 : Value) (u0_25 : Value) (u0_26 : Value) (u0_27 : Value) (u0_28 : Value) (u0_29 : Value) (u0_30 : Value) (u0_31 : Value) (u0_32 : Value) (u0_33 : Value) (u0_34 : Value) (u0_35 : Value) (u0_36 : Value) (u0_37 : Value) (u0_38 : Value) (u0_39 : Value) (u0_40 : Value) (z0_2 : Nat) (v_typed : Int32) (v_length : Int32) (v_top : Int32) (v_at : Int32) (v_wrong : Int32) (p1 : Int32) (r : Int32 × Int32 × Int32 × Int32 × Int32) (h : X11_beginText v_typed p1 = r) : Ct l yX11_beginText cX11_beginText 2 none 1 23 D cy [.ref q0, .int p1] [oX11 q0 u0_0 u0_1 (.ref z0_2) (.int v_typed) u0_4 u0_5 u0_6 u0_7 (.int v_length) (.int v_top) (.int v_at) (.int v_wrong) u0_12 u0_13 u0_14 u0_15 u0_16 u0_17 u0_18 u0_19 u0_20 u0_21 u0_22 u0_23 u0_24 u0_25 u0_26 u0_27 u0_28 u0_29 u0_30 u0_31 u0_32 u0_33 u0_34 u0_35 u0_36 u0_37 u0_38 u0_39 u0_40] (fun _ => [oX11 q0 u0_0 u0_1 (.ref z0_2) (.int r.1) u0_4 u0_5 u0_6 (.ref z0_2) (.int r.2.1) (.int r.2.2.1) (.int r.2.2.2.1) (.int r.2.2.2.2) u0_12 u0_13 u0_14 u0_15 u0_16 u0_17 u0_18 u0_19 u0_20 u0_21 u0_22 u0_23 u0_24 u0_25 u0_26 u0_27 u0_28 u0_29 u0_30 u0_31 u0_32 u0_33 u0_34 u0_35 u0_36 u0_37 u0_38 u0_39 u0_40]) (none) := by
  refine Ct.mk kX11_beginText (by decide +kernel) (Nat.le_of_ble_eq_true rfl) ?_
  intro p e s m below meth c A ls args R Q hRf hRl hQ E H locs hS hl
  have hx := E.x
  have hb := E.b
  have hl : lv_has ls 2 [(0, .ref q0), (1, .int p1)] := hl
  unfold X11_beginText at h
  refine lv_aload_n hx hb dX11_beginText_0 rfl (lv_at hl 0 rfl) ?_
  refine lv_aload_n hx hb dX11_beginText_1 rfl (lv_at hl 0 rfl) ?_
  refine r_get E frX11_13 hS 0 rfl rfl dX11_beginText_2 ?_
  refine lv_aload_n hx hb dX11_beginText_5 rfl (lv_at hl 0 rfl) ?_
  refine r_get E frX11_103 hS 0 rfl rfl dX11_beginText_6 ?_
  refine lv_iload_n hx hb dX11_beginText_9 rfl (lv_at hl 1 rfl) ?_
  refine ct_V (ws' := fun _ => [oX11 q0 u0_0 u0_1 (.ref z0_2) (.int v_typed) u0_4 u0_5 u0_6 (.ref z0_2) (.int ((X11_begin v_typed p1).1)) (.int ((X11_begin v_typed p1).2.1)) (.int ((X11_begin v_typed p1).2.2.1)) (.int ((X11_begin v_typed p1).2.2.2)) u0_12 u0_13 u0_14 u0_15 u0_16 u0_17 u0_18 u0_19 u0_20 u0_21 u0_22 u0_23 u0_24 u0_25 u0_26 u0_27 u0_28 u0_29 u0_30 u0_31 u0_32 u0_33 u0_34 u0_35 u0_36 u0_37 u0_38 u0_39 u0_40]) (st' := []) (rest := []) E hS vlX11_121 (c_X11_begin (l := l) (D := D) (cy := cy) (q0 := q0) (u0_0 := u0_0) (u0_1 := u0_1) (u0_2 := .ref z0_2) (u0_3 := .int v_typed) (u0_4 := u0_4) (u0_5 := u0_5) (u0_6 := u0_6) (u0_7 := u0_7) (u0_12 := u0_12) (u0_13 := u0_13) (u0_14 := u0_14) (u0_15 := u0_15) (u0_16 := u0_16) (u0_17 := u0_17) (u0_18 := u0_18) (u0_19 := u0_19) (u0_20 := u0_20) (u0_21 := u0_21) (u0_22 := u0_22) (u0_23 := u0_23) (u0_24 := u0_24) (u0_25 := u0_25) (u0_26 := u0_26) (u0_27 := u0_27) (u0_28 := u0_28) (u0_29 := u0_29) (u0_30 := u0_30) (u0_31 := u0_31) (u0_32 := u0_32) (u0_33 := u0_33) (u0_34 := u0_34) (u0_35 := u0_35) (u0_36 := u0_36) (u0_37 := u0_37) (u0_38 := u0_38) (u0_39 := u0_39) (u0_40 := u0_40) (z_a1 := z0_2) (v_length := v_length) (v_top := v_top) (v_at := v_at) (v_wrong := v_wrong) (p2 := v_typed) (p3 := p1) (r := (X11_begin v_typed p1)) rfl) [0] rfl rfl (fun _ => rfl) (fun _ => rfl) rfl rfl rfl rfl (Nat.le_of_ble_eq_true rfl) hl.1 (by rw [hRf]; exact Nat.le_of_ble_eq_true rfl) (by rw [hRl]; exact Nat.le_of_ble_eq_true rfl) ⟨Nat.zero_le _, Nat.zero_le _⟩ dX11_beginText_10 rfl (fun H locs _ hS => ?_)
  refine lv_aload_n hx hb dX11_beginText_13 rfl (lv_at hl 0 rfl) ?_
  refine lv_iconst (v := 0) hx hb dX11_beginText_14 (by decide) ?_
  refine r_put (ws' := [oX11 q0 u0_0 u0_1 (.ref z0_2) (.int (0 : Int32)) u0_4 u0_5 u0_6 (.ref z0_2) (.int ((X11_begin v_typed p1).1)) (.int ((X11_begin v_typed p1).2.1)) (.int ((X11_begin v_typed p1).2.2.1)) (.int ((X11_begin v_typed p1).2.2.2)) u0_12 u0_13 u0_14 u0_15 u0_16 u0_17 u0_18 u0_19 u0_20 u0_21 u0_22 u0_23 u0_24 u0_25 u0_26 u0_27 u0_28 u0_29 u0_30 u0_31 u0_32 u0_33 u0_34 u0_35 u0_36 u0_37 u0_38 u0_39 u0_40]) E frX11_103 hS 0 rfl (Nat.le_of_ble_eq_true rfl) rfl rfl rfl rfl dX11_beginText_15 (fun H locs hS => ?_)
  subst h
  exact rt_v E hQ (.null) hS dX11_beginText_18
set_option maxHeartbeats 4000000 in
set_option maxRecDepth 100000 in
theorem c_X11_here {l : Launch} {D : va_G} {cy : Nat → ClassId} (q0 : Nat) (q1 : Nat) (u0_0 : Value) (u0_1 : Value) (u0_2 : Value) (u0_3 : Value) (u0_4 : Value) (u0_5 : Value) (u0_6 : Value) (u0_11 : Value) (u0_12 : Value) (u0_13 : Value) (u0_14 : Value) (u0_15 : Value) (u0_16 : Value) (u0_17 : Value) (u0_18 : Value) (u0_19 : Value) (u0_20 : Value) (u0_21 : Value) (u0_22 : Value) (u0_23 : Value) (u0_24 : Value) (u0_25 : Value) (u0_26 : Value) (u0_27 : Value) (u0_28 : Value) (u0_29 : Value) (u0_30 : Value) (u0_31 : Value) (u0_32 : Value) (u0_33 : Value) (u0_34 : Value) (u0_35 : Value) (u0_36 : Value) (u0_37 : Value) (u0_38 : Value) (u0_39 : Value) (u0_40 : Value) (v_length : Int32) (v_top : Int32) (v_at : Int32) (nv_read : Nat) (v_read : Nat → Int32) (r : Int32) (h : X11_here v_length v_top v_at nv_read v_read = some r) : Ct l yX11_here cX11_here 1 (some .int) 0 0 D cy [.ref q0] [oX11 q0 u0_0 u0_1 u0_2 u0_3 u0_4 u0_5 u0_6 (.ref q1) (.int v_length) (.int v_top) (.int v_at) u0_11 u0_12 u0_13 u0_14 u0_15 u0_16 u0_17 u0_18 u0_19 u0_20 u0_21 u0_22 u0_23 u0_24 u0_25 u0_26 u0_27 u0_28 u0_29 u0_30 u0_31 u0_32 u0_33 u0_34 u0_35 u0_36 u0_37 u0_38 u0_39 u0_40, aB cy q1 nv_read v_read] (fun _ => [oX11 q0 u0_0 u0_1 u0_2 u0_3 u0_4 u0_5 u0_6 (.ref q1) (.int v_length) (.int v_top) (.int v_at) u0_11 u0_12 u0_13 u0_14 u0_15 u0_16 u0_17 u0_18 u0_19 u0_20 u0_21 u0_22 u0_23 u0_24 u0_25 u0_26 u0_27 u0_28 u0_29 u0_30 u0_31 u0_32 u0_33 u0_34 u0_35 u0_36 u0_37 u0_38 u0_39 u0_40, aB cy q1 nv_read v_read]) (some (.int r)) := by
  refine Ct.mk kX11_here (by decide +kernel) (Nat.le_of_ble_eq_true rfl) ?_
  intro p e s m below meth c A ls args R Q hRf hRl hQ E H locs hS hl
  have hx := E.x
  have hb := E.b
  have hl : lv_has ls 1 [(0, .ref q0)] := hl
  unfold X11_here at h
  refine lv_aload_n hx hb dX11_here_0 rfl (lv_at hl 0 rfl) ?_
  refine r_get E frX11_115 hS 0 rfl rfl dX11_here_1 ?_
  refine lv_aload_n hx hb dX11_here_4 rfl (lv_at hl 0 rfl) ?_
  refine r_get E frX11_109 hS 0 rfl rfl dX11_here_5 ?_
  refine lv_icmp_ge (tgt := 38) hx hb dX11_here_8 (by decide) (fun c1 => ?_) (fun c1 => ?_)
  · have h := it_pos c1 h
    refine lv_iconst (v := -1) hx hb dX11_here_38 (by decide) ?_
    obtain rfl := Option.some.inj h
    exact rt_i E hQ (.null) hS dX11_here_39
  · have h := it_neg c1 h
    refine lv_aload_n hx hb dX11_here_11 rfl (lv_at hl 0 rfl) ?_
    refine r_get E frX11_115 hS 0 rfl rfl dX11_here_12 ?_
    refine lv_aload_n hx hb dX11_here_15 rfl (lv_at hl 0 rfl) ?_
    refine r_get E frX11_112 hS 0 rfl rfl dX11_here_16 ?_
    refine lv_icmp_ge (tgt := 38) hx hb dX11_here_19 (by decide) (fun c2 => ?_) (fun c2 => ?_)
    · have h := it_pos c2 h
      refine lv_iconst (v := -1) hx hb dX11_here_38 (by decide) ?_
      obtain rfl := Option.some.inj h
      exact rt_i E hQ (.null) hS dX11_here_39
    · have h := it_neg c2 h
      refine lv_aload_n hx hb dX11_here_22 rfl (lv_at hl 0 rfl) ?_
      refine r_get E frX11_106 hS 0 rfl rfl dX11_here_23 ?_
      refine lv_aload_n hx hb dX11_here_26 rfl (lv_at hl 0 rfl) ?_
      refine r_get E frX11_115 hS 0 rfl rfl dX11_here_27 ?_
      obtain ⟨g3, h⟩ := gi_some h
      refine r_bald E hS 1 rfl g3 dX11_here_30 ?_
      refine lv_sipush (v := 255) hx hb dX11_here_31 (by decide) ?_
      refine lv_iand hx hb dX11_here_34 ?_
      refine lv_goto (tgt := 39) hx hb dX11_here_35 (by decide) ?_
      obtain rfl := Option.some.inj h
      exact rt_i E hQ (.null) hS dX11_here_39
set_option maxHeartbeats 4000000 in
set_option maxRecDepth 100000 in
theorem c_X11_fine {l : Launch} {D : va_G} {cy : Nat → ClassId} (q0 : Nat) (u0_0 : Value) (u0_1 : Value) (u0_2 : Value) (u0_3 : Value) (u0_4 : Value) (u0_5 : Value) (u0_6 : Value) (u0_7 : Value) (u0_8 : Value) (u0_9 : Value) (u0_10 : Value) (u0_12 : Value) (u0_13 : Value) (u0_14 : Value) (u0_15 : Value) (u0_16 : Value) (u0_17 : Value) (u0_18 : Value) (u0_19 : Value) (u0_20 : Value) (u0_21 : Value) (u0_22 : Value) (u0_23 : Value) (u0_24 : Value) (u0_25 : Value) (u0_26 : Value) (u0_27 : Value) (u0_28 : Value) (u0_29 : Value) (u0_30 : Value) (u0_31 : Value) (u0_32 : Value) (u0_33 : Value) (u0_34 : Value) (u0_35 : Value) (u0_36 : Value) (u0_37 : Value) (u0_38 : Value) (u0_39 : Value) (u0_40 : Value) (v_wrong : Int32) (r : Int32) (h : X11_fine v_wrong = r) : Ct l yX11_fine cX11_fine 1 (some .boolean) 0 0 D cy [.ref q0] [oX11 q0 u0_0 u0_1 u0_2 u0_3 u0_4 u0_5 u0_6 u0_7 u0_8 u0_9 u0_10 (.int v_wrong) u0_12 u0_13 u0_14 u0_15 u0_16 u0_17 u0_18 u0_19 u0_20 u0_21 u0_22 u0_23 u0_24 u0_25 u0_26 u0_27 u0_28 u0_29 u0_30 u0_31 u0_32 u0_33 u0_34 u0_35 u0_36 u0_37 u0_38 u0_39 u0_40] (fun _ => [oX11 q0 u0_0 u0_1 u0_2 u0_3 u0_4 u0_5 u0_6 u0_7 u0_8 u0_9 u0_10 (.int v_wrong) u0_12 u0_13 u0_14 u0_15 u0_16 u0_17 u0_18 u0_19 u0_20 u0_21 u0_22 u0_23 u0_24 u0_25 u0_26 u0_27 u0_28 u0_29 u0_30 u0_31 u0_32 u0_33 u0_34 u0_35 u0_36 u0_37 u0_38 u0_39 u0_40]) (some (.int r)) := by
  refine Ct.mk kX11_fine (by decide +kernel) (Nat.le_of_ble_eq_true rfl) ?_
  intro p e s m below meth c A ls args R Q hRf hRl hQ E H locs hS hl
  have hx := E.x
  have hb := E.b
  have hl : lv_has ls 1 [(0, .ref q0)] := hl
  unfold X11_fine at h
  refine lv_aload_n hx hb dX11_fine_0 rfl (lv_at hl 0 rfl) ?_
  refine r_get E frX11_118 hS 0 rfl rfl dX11_fine_1 ?_
  refine lv_iconst (v := -1) hx hb dX11_fine_4 (by decide) ?_
  have hJ13 : ∀ (s13_0 : Int32) (ls : Array Slot), s13_0 = (if v_wrong = (-1 : Int32) then (1 : Int32) else (0 : Int32)) → lv_has ls 1 [] → W p l e R s m args below meth c H locs 0 0 Q (F0 m 13 ls [.int s13_0]) := by
    intro s13_0 ls es13_0 hl
    subst es13_0
    subst h
    exact rt_n E (by repeat' (first | rfl | split)) hQ (.null) hS dX11_fine_13
  refine lv_icmp_ne (tgt := 12) hx hb dX11_fine_5 (by decide) (fun c1 => ?_) (fun c1 => ?_)
  · refine lv_iconst (v := 0) hx hb dX11_fine_12 (by decide) ?_
    exact hJ13 _ ls ((if_neg c1)).symm (lv_sub hl [] rfl)
  · refine lv_iconst (v := 1) hx hb dX11_fine_8 (by decide) ?_
    refine lv_goto (tgt := 13) hx hb dX11_fine_9 (by decide) ?_
    exact hJ13 _ ls ((if_pos c1)).symm (lv_sub hl [] rfl)
set_option maxHeartbeats 4000000 in
set_option maxRecDepth 100000 in
theorem c_X11_fault {l : Launch} {D : va_G} {cy : Nat → ClassId} (q0 : Nat) (u0_0 : Value) (u0_1 : Value) (u0_2 : Value) (u0_3 : Value) (u0_4 : Value) (u0_5 : Value) (u0_6 : Value) (u0_7 : Value) (u0_8 : Value) (u0_9 : Value) (u0_10 : Value) (u0_12 : Value) (u0_13 : Value) (u0_14 : Value) (u0_15 : Value) (u0_16 : Value) (u0_17 : Value) (u0_18 : Value) (u0_19 : Value) (u0_20 : Value) (u0_21 : Value) (u0_22 : Value) (u0_23 : Value) (u0_24 : Value) (u0_25 : Value) (u0_26 : Value) (u0_27 : Value) (u0_28 : Value) (u0_29 : Value) (u0_30 : Value) (u0_31 : Value) (u0_32 : Value) (u0_33 : Value) (u0_34 : Value) (u0_35 : Value) (u0_36 : Value) (u0_37 : Value) (u0_38 : Value) (u0_39 : Value) (u0_40 : Value) (v_wrong : Int32) (p1 : Int32) (r : Int32) (h : X11_fault v_wrong p1 = r) : Ct l yX11_fault cX11_fault 2 none 1 20 D cy [.ref q0, .int p1] [oX11 q0 u0_0 u0_1 u0_2 u0_3 u0_4 u0_5 u0_6 u0_7 u0_8 u0_9 u0_10 (.int v_wrong) u0_12 u0_13 u0_14 u0_15 u0_16 u0_17 u0_18 u0_19 u0_20 u0_21 u0_22 u0_23 u0_24 u0_25 u0_26 u0_27 u0_28 u0_29 u0_30 u0_31 u0_32 u0_33 u0_34 u0_35 u0_36 u0_37 u0_38 u0_39 u0_40] (fun _ => [oX11 q0 u0_0 u0_1 u0_2 u0_3 u0_4 u0_5 u0_6 u0_7 u0_8 u0_9 u0_10 (.int r) u0_12 u0_13 u0_14 u0_15 u0_16 u0_17 u0_18 u0_19 u0_20 u0_21 u0_22 u0_23 u0_24 u0_25 u0_26 u0_27 u0_28 u0_29 u0_30 u0_31 u0_32 u0_33 u0_34 u0_35 u0_36 u0_37 u0_38 u0_39 u0_40]) (none) := by
  refine Ct.mk kX11_fault (by decide +kernel) (Nat.le_of_ble_eq_true rfl) ?_
  intro p e s m below meth c A ls args R Q hRf hRl hQ E H locs hS hl
  have hx := E.x
  have hb := E.b
  have hl : lv_has ls 2 [(0, .ref q0), (1, .int p1)] := hl
  unfold X11_fault at h
  refine lv_aload_n hx hb dX11_fault_0 rfl (lv_at hl 0 rfl) ?_
  refine ct_V (ws' := fun _ => [oX11 q0 u0_0 u0_1 u0_2 u0_3 u0_4 u0_5 u0_6 u0_7 u0_8 u0_9 u0_10 (.int v_wrong) u0_12 u0_13 u0_14 u0_15 u0_16 u0_17 u0_18 u0_19 u0_20 u0_21 u0_22 u0_23 u0_24 u0_25 u0_26 u0_27 u0_28 u0_29 u0_30 u0_31 u0_32 u0_33 u0_34 u0_35 u0_36 u0_37 u0_38 u0_39 u0_40]) (st' := [.int (X11_fine v_wrong)]) (rest := []) E hS vlX11_125 (c_X11_fine (l := l) (D := D) (cy := cy) (q0 := q0) (u0_0 := u0_0) (u0_1 := u0_1) (u0_2 := u0_2) (u0_3 := u0_3) (u0_4 := u0_4) (u0_5 := u0_5) (u0_6 := u0_6) (u0_7 := u0_7) (u0_8 := u0_8) (u0_9 := u0_9) (u0_10 := u0_10) (u0_12 := u0_12) (u0_13 := u0_13) (u0_14 := u0_14) (u0_15 := u0_15) (u0_16 := u0_16) (u0_17 := u0_17) (u0_18 := u0_18) (u0_19 := u0_19) (u0_20 := u0_20) (u0_21 := u0_21) (u0_22 := u0_22) (u0_23 := u0_23) (u0_24 := u0_24) (u0_25 := u0_25) (u0_26 := u0_26) (u0_27 := u0_27) (u0_28 := u0_28) (u0_29 := u0_29) (u0_30 := u0_30) (u0_31 := u0_31) (u0_32 := u0_32) (u0_33 := u0_33) (u0_34 := u0_34) (u0_35 := u0_35) (u0_36 := u0_36) (u0_37 := u0_37) (u0_38 := u0_38) (u0_39 := u0_39) (u0_40 := u0_40) (v_wrong := v_wrong) (r := (X11_fine v_wrong)) rfl) [0] rfl rfl (fun _ => rfl) (fun _ => rfl) rfl rfl rfl rfl (Nat.le_of_ble_eq_true rfl) hl.1 (by rw [hRf]; exact Nat.le_of_ble_eq_true rfl) (by rw [hRl]; exact Nat.le_of_ble_eq_true rfl) ⟨Nat.zero_le _, Nat.zero_le _⟩ dX11_fault_1 rfl (fun H locs _ hS => ?_)
  refine lv_if_eq (tgt := 12) hx hb dX11_fault_4 (by decide) (fun c1 => ?_) (fun c1 => ?_)
  · have h := it_pos c1 h
    subst h
    exact rt_v E hQ (.null) hS dX11_fault_12
  · have h := it_neg c1 h
    refine lv_aload_n hx hb dX11_fault_7 rfl (lv_at hl 0 rfl) ?_
    refine lv_iload_n hx hb dX11_fault_8 rfl (lv_at hl 1 rfl) ?_
    refine r_put (ws' := [oX11 q0 u0_0 u0_1 u0_2 u0_3 u0_4 u0_5 u0_6 u0_7 u0_8 u0_9 u0_10 (.int p1) u0_12 u0_13 u0_14 u0_15 u0_16 u0_17 u0_18 u0_19 u0_20 u0_21 u0_22 u0_23 u0_24 u0_25 u0_26 u0_27 u0_28 u0_29 u0_30 u0_31 u0_32 u0_33 u0_34 u0_35 u0_36 u0_37 u0_38 u0_39 u0_40]) E frX11_118 hS 0 rfl (Nat.le_of_ble_eq_true rfl) rfl rfl rfl rfl dX11_fault_9 (fun H locs hS => ?_)
    subst h
    exact rt_v E hQ (.null) hS dX11_fault_12
set_option maxHeartbeats 4000000 in
set_option maxRecDepth 100000 in
theorem c_X11_passes {l : Launch} {D : va_G} {cy : Nat → ClassId} (q0 : Nat) (q1 : Nat) (u0_0 : Value) (u0_1 : Value) (u0_2 : Value) (u0_3 : Value) (u0_4 : Value) (u0_5 : Value) (u0_6 : Value) (u0_12 : Value) (u0_13 : Value) (u0_14 : Value) (u0_15 : Value) (u0_16 : Value) (u0_17 : Value) (u0_18 : Value) (u0_19 : Value) (u0_20 : Value) (u0_21 : Value) (u0_22 : Value) (u0_23 : Value) (u0_24 : Value) (u0_25 : Value) (u0_26 : Value) (u0_27 : Value) (u0_28 : Value) (u0_29 : Value) (u0_30 : Value) (u0_31 : Value) (u0_32 : Value) (u0_33 : Value) (u0_34 : Value) (u0_35 : Value) (u0_36 : Value) (u0_37 : Value) (u0_38 : Value) (u0_39 : Value) (u0_40 : Value) (v_length : Int32) (v_top : Int32) (v_at : Int32) (v_wrong : Int32) (nv_read : Nat) (v_read : Nat → Int32) (p1 : Int32) (r : Int32 × Int32) (h : X11_passes v_length v_top v_at v_wrong nv_read v_read p1 = some r) : Ct l yX11_passes cX11_passes 2 (some .boolean) 1 20 D cy [.ref q0, .int p1] [oX11 q0 u0_0 u0_1 u0_2 u0_3 u0_4 u0_5 u0_6 (.ref q1) (.int v_length) (.int v_top) (.int v_at) (.int v_wrong) u0_12 u0_13 u0_14 u0_15 u0_16 u0_17 u0_18 u0_19 u0_20 u0_21 u0_22 u0_23 u0_24 u0_25 u0_26 u0_27 u0_28 u0_29 u0_30 u0_31 u0_32 u0_33 u0_34 u0_35 u0_36 u0_37 u0_38 u0_39 u0_40, aB cy q1 nv_read v_read] (fun _ => [oX11 q0 u0_0 u0_1 u0_2 u0_3 u0_4 u0_5 u0_6 (.ref q1) (.int v_length) (.int v_top) (.int r.2) (.int v_wrong) u0_12 u0_13 u0_14 u0_15 u0_16 u0_17 u0_18 u0_19 u0_20 u0_21 u0_22 u0_23 u0_24 u0_25 u0_26 u0_27 u0_28 u0_29 u0_30 u0_31 u0_32 u0_33 u0_34 u0_35 u0_36 u0_37 u0_38 u0_39 u0_40, aB cy q1 nv_read v_read]) (some (.int r.1)) := by
  refine Ct.mk kX11_passes (by decide +kernel) (Nat.le_of_ble_eq_true rfl) ?_
  intro p e s m below meth c A ls args R Q hRf hRl hQ E H locs hS hl
  have hx := E.x
  have hb := E.b
  have hl : lv_has ls 2 [(0, .ref q0), (1, .int p1)] := hl
  unfold X11_passes at h
  refine lv_aload_n hx hb dX11_passes_0 rfl (lv_at hl 0 rfl) ?_
  refine ct_V (ws' := fun _ => [oX11 q0 u0_0 u0_1 u0_2 u0_3 u0_4 u0_5 u0_6 (.ref q1) (.int v_length) (.int v_top) (.int v_at) (.int v_wrong) u0_12 u0_13 u0_14 u0_15 u0_16 u0_17 u0_18 u0_19 u0_20 u0_21 u0_22 u0_23 u0_24 u0_25 u0_26 u0_27 u0_28 u0_29 u0_30 u0_31 u0_32 u0_33 u0_34 u0_35 u0_36 u0_37 u0_38 u0_39 u0_40, aB cy q1 nv_read v_read]) (st' := [.int (X11_fine v_wrong)]) (rest := []) E hS vlX11_125 (c_X11_fine (l := l) (D := D) (cy := cy) (q0 := q0) (u0_0 := u0_0) (u0_1 := u0_1) (u0_2 := u0_2) (u0_3 := u0_3) (u0_4 := u0_4) (u0_5 := u0_5) (u0_6 := u0_6) (u0_7 := .ref q1) (u0_8 := .int v_length) (u0_9 := .int v_top) (u0_10 := .int v_at) (u0_12 := u0_12) (u0_13 := u0_13) (u0_14 := u0_14) (u0_15 := u0_15) (u0_16 := u0_16) (u0_17 := u0_17) (u0_18 := u0_18) (u0_19 := u0_19) (u0_20 := u0_20) (u0_21 := u0_21) (u0_22 := u0_22) (u0_23 := u0_23) (u0_24 := u0_24) (u0_25 := u0_25) (u0_26 := u0_26) (u0_27 := u0_27) (u0_28 := u0_28) (u0_29 := u0_29) (u0_30 := u0_30) (u0_31 := u0_31) (u0_32 := u0_32) (u0_33 := u0_33) (u0_34 := u0_34) (u0_35 := u0_35) (u0_36 := u0_36) (u0_37 := u0_37) (u0_38 := u0_38) (u0_39 := u0_39) (u0_40 := u0_40) (v_wrong := v_wrong) (r := (X11_fine v_wrong)) rfl) [0] rfl rfl (fun _ => rfl) (fun _ => rfl) rfl rfl rfl rfl (Nat.le_of_ble_eq_true rfl) hl.1 (by rw [hRf]; exact Nat.le_of_ble_eq_true rfl) (by rw [hRl]; exact Nat.le_of_ble_eq_true rfl) ⟨Nat.zero_le _, Nat.zero_le _⟩ dX11_passes_1 rfl (fun H locs _ hS => ?_)
  refine lv_if_eq (tgt := 15) hx hb dX11_passes_4 (by decide) (fun c1 => ?_) (fun c1 => ?_)
  · have h := it_pos c1 h
    refine lv_iconst (v := 0) hx hb dX11_passes_15 (by decide) ?_
    obtain rfl := Option.some.inj h
    exact rt_n E rfl hQ (.null) hS dX11_passes_16
  · have h := it_neg c1 h
    refine lv_aload_n hx hb dX11_passes_7 rfl (lv_at hl 0 rfl) ?_
    obtain ⟨y8, e2, h⟩ := bd_some h
    refine ct_V (ws' := fun _ => [oX11 q0 u0_0 u0_1 u0_2 u0_3 u0_4 u0_5 u0_6 (.ref q1) (.int v_length) (.int v_top) (.int v_at) (.int v_wrong) u0_12 u0_13 u0_14 u0_15 u0_16 u0_17 u0_18 u0_19 u0_20 u0_21 u0_22 u0_23 u0_24 u0_25 u0_26 u0_27 u0_28 u0_29 u0_30 u0_31 u0_32 u0_33 u0_34 u0_35 u0_36 u0_37 u0_38 u0_39 u0_40, aB cy q1 nv_read v_read]) (st' := [.int y8]) (rest := []) E hS vlX11_129 (c_X11_here (l := l) (D := D) (cy := cy) (q0 := q0) (q1 := q1) (u0_0 := u0_0) (u0_1 := u0_1) (u0_2 := u0_2) (u0_3 := u0_3) (u0_4 := u0_4) (u0_5 := u0_5) (u0_6 := u0_6) (u0_11 := .int v_wrong) (u0_12 := u0_12) (u0_13 := u0_13) (u0_14 := u0_14) (u0_15 := u0_15) (u0_16 := u0_16) (u0_17 := u0_17) (u0_18 := u0_18) (u0_19 := u0_19) (u0_20 := u0_20) (u0_21 := u0_21) (u0_22 := u0_22) (u0_23 := u0_23) (u0_24 := u0_24) (u0_25 := u0_25) (u0_26 := u0_26) (u0_27 := u0_27) (u0_28 := u0_28) (u0_29 := u0_29) (u0_30 := u0_30) (u0_31 := u0_31) (u0_32 := u0_32) (u0_33 := u0_33) (u0_34 := u0_34) (u0_35 := u0_35) (u0_36 := u0_36) (u0_37 := u0_37) (u0_38 := u0_38) (u0_39 := u0_39) (u0_40 := u0_40) (v_length := v_length) (v_top := v_top) (v_at := v_at) (nv_read := nv_read) (v_read := v_read) (r := y8) e2) [0, 1] rfl rfl (fun _ => rfl) (fun _ => rfl) rfl rfl rfl rfl (Nat.le_of_ble_eq_true rfl) hl.1 (by rw [hRf]; exact Nat.le_of_ble_eq_true rfl) (by rw [hRl]; exact Nat.le_of_ble_eq_true rfl) ⟨Nat.zero_le _, Nat.zero_le _⟩ dX11_passes_8 rfl (fun H locs _ hS => ?_)
    refine lv_iload_n hx hb dX11_passes_11 rfl (lv_at hl 1 rfl) ?_
    refine lv_icmp_eq (tgt := 17) hx hb dX11_passes_12 (by decide) (fun c3 => ?_) (fun c3 => ?_)
    · have h := it_pos c3 h
      refine lv_aload_n hx hb dX11_passes_17 rfl (lv_at hl 0 rfl) ?_
      refine lv_dup hx hb dX11_passes_18 rfl ?_
      refine r_get E frX11_115 hS 0 rfl rfl dX11_passes_19 ?_
      refine lv_iconst (v := 1) hx hb dX11_passes_22 (by decide) ?_
      refine lv_iadd hx hb dX11_passes_23 ?_
      refine r_put (ws' := [oX11 q0 u0_0 u0_1 u0_2 u0_3 u0_4 u0_5 u0_6 (.ref q1) (.int v_length) (.int v_top) (.int (v_at + (1 : Int32))) (.int v_wrong) u0_12 u0_13 u0_14 u0_15 u0_16 u0_17 u0_18 u0_19 u0_20 u0_21 u0_22 u0_23 u0_24 u0_25 u0_26 u0_27 u0_28 u0_29 u0_30 u0_31 u0_32 u0_33 u0_34 u0_35 u0_36 u0_37 u0_38 u0_39 u0_40, aB cy q1 nv_read v_read]) E frX11_115 hS 0 rfl (Nat.le_of_ble_eq_true rfl) rfl rfl rfl rfl dX11_passes_24 (fun H locs hS => ?_)
      refine lv_iconst (v := 1) hx hb dX11_passes_27 (by decide) ?_
      obtain rfl := Option.some.inj h
      exact rt_n E rfl hQ (.null) hS dX11_passes_28
    · have h := it_neg c3 h
      refine lv_iconst (v := 0) hx hb dX11_passes_15 (by decide) ?_
      obtain rfl := Option.some.inj h
      exact rt_n E rfl hQ (.null) hS dX11_passes_16
set_option maxHeartbeats 4000000 in
set_option maxRecDepth 100000 in
theorem c_X11_need {l : Launch} {D : va_G} {cy : Nat → ClassId} (q0 : Nat) (q1 : Nat) (u0_0 : Value) (u0_1 : Value) (u0_2 : Value) (u0_3 : Value) (u0_4 : Value) (u0_5 : Value) (u0_6 : Value) (u0_12 : Value) (u0_13 : Value) (u0_14 : Value) (u0_15 : Value) (u0_16 : Value) (u0_17 : Value) (u0_18 : Value) (u0_19 : Value) (u0_20 : Value) (u0_21 : Value) (u0_22 : Value) (u0_23 : Value) (u0_24 : Value) (u0_25 : Value) (u0_26 : Value) (u0_27 : Value) (u0_28 : Value) (u0_29 : Value) (u0_30 : Value) (u0_31 : Value) (u0_32 : Value) (u0_33 : Value) (u0_34 : Value) (u0_35 : Value) (u0_36 : Value) (u0_37 : Value) (u0_38 : Value) (u0_39 : Value) (u0_40 : Value) (v_length : Int32) (v_top : Int32) (v_at : Int32) (v_wrong : Int32) (nv_read : Nat) (v_read : Nat → Int32) (p1 : Int32) (r : Int32 × Int32) (h : X11_need v_length v_top v_at v_wrong nv_read v_read p1 = some r) : Ct l yX11_need cX11_need 2 none 2 41 D cy [.ref q0, .int p1] [oX11 q0 u0_0 u0_1 u0_2 u0_3 u0_4 u0_5 u0_6 (.ref q1) (.int v_length) (.int v_top) (.int v_at) (.int v_wrong) u0_12 u0_13 u0_14 u0_15 u0_16 u0_17 u0_18 u0_19 u0_20 u0_21 u0_22 u0_23 u0_24 u0_25 u0_26 u0_27 u0_28 u0_29 u0_30 u0_31 u0_32 u0_33 u0_34 u0_35 u0_36 u0_37 u0_38 u0_39 u0_40, aB cy q1 nv_read v_read] (fun _ => [oX11 q0 u0_0 u0_1 u0_2 u0_3 u0_4 u0_5 u0_6 (.ref q1) (.int v_length) (.int v_top) (.int r.1) (.int r.2) u0_12 u0_13 u0_14 u0_15 u0_16 u0_17 u0_18 u0_19 u0_20 u0_21 u0_22 u0_23 u0_24 u0_25 u0_26 u0_27 u0_28 u0_29 u0_30 u0_31 u0_32 u0_33 u0_34 u0_35 u0_36 u0_37 u0_38 u0_39 u0_40, aB cy q1 nv_read v_read]) (none) := by
  refine Ct.mk kX11_need (by decide +kernel) (Nat.le_of_ble_eq_true rfl) ?_
  intro p e s m below meth c A ls args R Q hRf hRl hQ E H locs hS hl
  have hx := E.x
  have hb := E.b
  have hl : lv_has ls 2 [(0, .ref q0), (1, .int p1)] := hl
  unfold X11_need at h
  refine lv_aload_n hx hb dX11_need_0 rfl (lv_at hl 0 rfl) ?_
  refine lv_iload_n hx hb dX11_need_1 rfl (lv_at hl 1 rfl) ?_
  obtain ⟨y2, e1, h⟩ := bd_some h
  refine ct_V (ws' := fun _ => [oX11 q0 u0_0 u0_1 u0_2 u0_3 u0_4 u0_5 u0_6 (.ref q1) (.int v_length) (.int v_top) (.int y2.2) (.int v_wrong) u0_12 u0_13 u0_14 u0_15 u0_16 u0_17 u0_18 u0_19 u0_20 u0_21 u0_22 u0_23 u0_24 u0_25 u0_26 u0_27 u0_28 u0_29 u0_30 u0_31 u0_32 u0_33 u0_34 u0_35 u0_36 u0_37 u0_38 u0_39 u0_40, aB cy q1 nv_read v_read]) (st' := [.int y2.1]) (rest := []) E hS vlX11_133 (c_X11_passes (l := l) (D := D) (cy := cy) (q0 := q0) (q1 := q1) (u0_0 := u0_0) (u0_1 := u0_1) (u0_2 := u0_2) (u0_3 := u0_3) (u0_4 := u0_4) (u0_5 := u0_5) (u0_6 := u0_6) (u0_12 := u0_12) (u0_13 := u0_13) (u0_14 := u0_14) (u0_15 := u0_15) (u0_16 := u0_16) (u0_17 := u0_17) (u0_18 := u0_18) (u0_19 := u0_19) (u0_20 := u0_20) (u0_21 := u0_21) (u0_22 := u0_22) (u0_23 := u0_23) (u0_24 := u0_24) (u0_25 := u0_25) (u0_26 := u0_26) (u0_27 := u0_27) (u0_28 := u0_28) (u0_29 := u0_29) (u0_30 := u0_30) (u0_31 := u0_31) (u0_32 := u0_32) (u0_33 := u0_33) (u0_34 := u0_34) (u0_35 := u0_35) (u0_36 := u0_36) (u0_37 := u0_37) (u0_38 := u0_38) (u0_39 := u0_39) (u0_40 := u0_40) (v_length := v_length) (v_top := v_top) (v_at := v_at) (v_wrong := v_wrong) (nv_read := nv_read) (v_read := v_read) (p1 := p1) (r := y2) e1) [0, 1] rfl rfl (fun _ => rfl) (fun _ => rfl) rfl rfl rfl rfl (Nat.le_of_ble_eq_true rfl) hl.1 (by rw [hRf]; exact Nat.le_of_ble_eq_true rfl) (by rw [hRl]; exact Nat.le_of_ble_eq_true rfl) ⟨Nat.zero_le _, Nat.zero_le _⟩ dX11_need_2 rfl (fun H locs _ hS => ?_)
  refine lv_if_ne (tgt := 16) hx hb dX11_need_5 (by decide) (fun c2 => ?_) (fun c2 => ?_)
  · have h := it_neg c2 h
    obtain rfl := Option.some.inj h
    exact rt_v E hQ (.null) hS dX11_need_16
  · have h := it_pos c2 h
    refine lv_aload_n hx hb dX11_need_8 rfl (lv_at hl 0 rfl) ?_
    refine lv_aload_n hx hb dX11_need_9 rfl (lv_at hl 0 rfl) ?_
    refine r_get E frX11_115 hS 0 rfl rfl dX11_need_10 ?_
    refine ct_V (ws' := fun _ => [oX11 q0 u0_0 u0_1 u0_2 u0_3 u0_4 u0_5 u0_6 (.ref q1) (.int v_length) (.int v_top) (.int y2.2) (.int (X11_fault v_wrong y2.2)) u0_12 u0_13 u0_14 u0_15 u0_16 u0_17 u0_18 u0_19 u0_20 u0_21 u0_22 u0_23 u0_24 u0_25 u0_26 u0_27 u0_28 u0_29 u0_30 u0_31 u0_32 u0_33 u0_34 u0_35 u0_36 u0_37 u0_38 u0_39 u0_40, aB cy q1 nv_read v_read]) (st' := []) (rest := []) E hS vlX11_137 (c_X11_fault (l := l) (D := D) (cy := cy) (q0 := q0) (u0_0 := u0_0) (u0_1 := u0_1) (u0_2 := u0_2) (u0_3 := u0_3) (u0_4 := u0_4) (u0_5 := u0_5) (u0_6 := u0_6) (u0_7 := .ref q1) (u0_8 := .int v_length) (u0_9 := .int v_top) (u0_10 := .int y2.2) (u0_12 := u0_12) (u0_13 := u0_13) (u0_14 := u0_14) (u0_15 := u0_15) (u0_16 := u0_16) (u0_17 := u0_17) (u0_18 := u0_18) (u0_19 := u0_19) (u0_20 := u0_20) (u0_21 := u0_21) (u0_22 := u0_22) (u0_23 := u0_23) (u0_24 := u0_24) (u0_25 := u0_25) (u0_26 := u0_26) (u0_27 := u0_27) (u0_28 := u0_28) (u0_29 := u0_29) (u0_30 := u0_30) (u0_31 := u0_31) (u0_32 := u0_32) (u0_33 := u0_33) (u0_34 := u0_34) (u0_35 := u0_35) (u0_36 := u0_36) (u0_37 := u0_37) (u0_38 := u0_38) (u0_39 := u0_39) (u0_40 := u0_40) (v_wrong := v_wrong) (p1 := y2.2) (r := (X11_fault v_wrong y2.2)) rfl) [0] rfl rfl (fun _ => rfl) (fun _ => rfl) rfl rfl rfl rfl (Nat.le_of_ble_eq_true rfl) hl.1 (by rw [hRf]; exact Nat.le_of_ble_eq_true rfl) (by rw [hRl]; exact Nat.le_of_ble_eq_true rfl) ⟨Nat.zero_le _, Nat.zero_le _⟩ dX11_need_13 rfl (fun H locs _ hS => ?_)
    obtain rfl := Option.some.inj h
    exact rt_v E hQ (.null) hS dX11_need_16
set_option maxHeartbeats 4000000 in
set_option maxRecDepth 100000 in
theorem c_X11_oneOf {l : Launch} {D : va_G} {cy : Nat → ClassId} (q0 : Nat) (q1 : Nat) (u0_0 : Value) (u0_1 : Value) (u0_2 : Value) (u0_3 : Value) (u0_4 : Value) (u0_5 : Value) (u0_6 : Value) (u0_12 : Value) (u0_13 : Value) (u0_14 : Value) (u0_15 : Value) (u0_16 : Value) (u0_17 : Value) (u0_18 : Value) (u0_19 : Value) (u0_20 : Value) (u0_21 : Value) (u0_22 : Value) (u0_23 : Value) (u0_24 : Value) (u0_25 : Value) (u0_26 : Value) (u0_27 : Value) (u0_28 : Value) (u0_29 : Value) (u0_30 : Value) (u0_31 : Value) (u0_32 : Value) (u0_33 : Value) (u0_34 : Value) (u0_35 : Value) (u0_36 : Value) (u0_37 : Value) (u0_38 : Value) (u0_39 : Value) (u0_40 : Value) (v_length : Int32) (v_top : Int32) (v_at : Int32) (v_wrong : Int32) (nv_read : Nat) (v_read : Nat → Int32) (p1 : Int32) (p2 : Int32) (r : Int32 × Int32 × Int32) (h : X11_oneOf v_length v_top v_at v_wrong nv_read v_read p1 p2 = some r) : Ct l yX11_oneOf cX11_oneOf 3 (some .int) 2 41 D cy [.ref q0, .int p1, .int p2] [oX11 q0 u0_0 u0_1 u0_2 u0_3 u0_4 u0_5 u0_6 (.ref q1) (.int v_length) (.int v_top) (.int v_at) (.int v_wrong) u0_12 u0_13 u0_14 u0_15 u0_16 u0_17 u0_18 u0_19 u0_20 u0_21 u0_22 u0_23 u0_24 u0_25 u0_26 u0_27 u0_28 u0_29 u0_30 u0_31 u0_32 u0_33 u0_34 u0_35 u0_36 u0_37 u0_38 u0_39 u0_40, aB cy q1 nv_read v_read] (fun _ => [oX11 q0 u0_0 u0_1 u0_2 u0_3 u0_4 u0_5 u0_6 (.ref q1) (.int v_length) (.int v_top) (.int r.2.1) (.int r.2.2) u0_12 u0_13 u0_14 u0_15 u0_16 u0_17 u0_18 u0_19 u0_20 u0_21 u0_22 u0_23 u0_24 u0_25 u0_26 u0_27 u0_28 u0_29 u0_30 u0_31 u0_32 u0_33 u0_34 u0_35 u0_36 u0_37 u0_38 u0_39 u0_40, aB cy q1 nv_read v_read]) (some (.int r.1)) := by
  refine Ct.mk kX11_oneOf (by decide +kernel) (Nat.le_of_ble_eq_true rfl) ?_
  intro p e s m below meth c A ls args R Q hRf hRl hQ E H locs hS hl
  have hx := E.x
  have hb := E.b
  have hl : lv_has ls 3 [(0, .ref q0), (1, .int p1), (2, .int p2)] := hl
  unfold X11_oneOf at h
  refine lv_aload_n hx hb dX11_oneOf_0 rfl (lv_at hl 0 rfl) ?_
  refine ct_V (ws' := fun _ => [oX11 q0 u0_0 u0_1 u0_2 u0_3 u0_4 u0_5 u0_6 (.ref q1) (.int v_length) (.int v_top) (.int v_at) (.int v_wrong) u0_12 u0_13 u0_14 u0_15 u0_16 u0_17 u0_18 u0_19 u0_20 u0_21 u0_22 u0_23 u0_24 u0_25 u0_26 u0_27 u0_28 u0_29 u0_30 u0_31 u0_32 u0_33 u0_34 u0_35 u0_36 u0_37 u0_38 u0_39 u0_40, aB cy q1 nv_read v_read]) (st' := [.int (X11_fine v_wrong)]) (rest := []) E hS vlX11_125 (c_X11_fine (l := l) (D := D) (cy := cy) (q0 := q0) (u0_0 := u0_0) (u0_1 := u0_1) (u0_2 := u0_2) (u0_3 := u0_3) (u0_4 := u0_4) (u0_5 := u0_5) (u0_6 := u0_6) (u0_7 := .ref q1) (u0_8 := .int v_length) (u0_9 := .int v_top) (u0_10 := .int v_at) (u0_12 := u0_12) (u0_13 := u0_13) (u0_14 := u0_14) (u0_15 := u0_15) (u0_16 := u0_16) (u0_17 := u0_17) (u0_18 := u0_18) (u0_19 := u0_19) (u0_20 := u0_20) (u0_21 := u0_21) (u0_22 := u0_22) (u0_23 := u0_23) (u0_24 := u0_24) (u0_25 := u0_25) (u0_26 := u0_26) (u0_27 := u0_27) (u0_28 := u0_28) (u0_29 := u0_29) (u0_30 := u0_30) (u0_31 := u0_31) (u0_32 := u0_32) (u0_33 := u0_33) (u0_34 := u0_34) (u0_35 := u0_35) (u0_36 := u0_36) (u0_37 := u0_37) (u0_38 := u0_38) (u0_39 := u0_39) (u0_40 := u0_40) (v_wrong := v_wrong) (r := (X11_fine v_wrong)) rfl) [0] rfl rfl (fun _ => rfl) (fun _ => rfl) rfl rfl rfl rfl (Nat.le_of_ble_eq_true rfl) hl.1 (by rw [hRf]; exact Nat.le_of_ble_eq_true rfl) (by rw [hRl]; exact Nat.le_of_ble_eq_true rfl) ⟨Nat.zero_le _, Nat.zero_le _⟩ dX11_oneOf_1 rfl (fun H locs _ hS => ?_)
  refine lv_if_ne (tgt := 9) hx hb dX11_oneOf_4 (by decide) (fun c1 => ?_) (fun c1 => ?_)
  · have h := it_neg c1 h
    refine lv_aload_n hx hb dX11_oneOf_9 rfl (lv_at hl 0 rfl) ?_
    obtain ⟨y10, e2, h⟩ := bd_some h
    refine ct_V (ws' := fun _ => [oX11 q0 u0_0 u0_1 u0_2 u0_3 u0_4 u0_5 u0_6 (.ref q1) (.int v_length) (.int v_top) (.int v_at) (.int v_wrong) u0_12 u0_13 u0_14 u0_15 u0_16 u0_17 u0_18 u0_19 u0_20 u0_21 u0_22 u0_23 u0_24 u0_25 u0_26 u0_27 u0_28 u0_29 u0_30 u0_31 u0_32 u0_33 u0_34 u0_35 u0_36 u0_37 u0_38 u0_39 u0_40, aB cy q1 nv_read v_read]) (st' := [.int y10]) (rest := []) E hS vlX11_129 (c_X11_here (l := l) (D := D) (cy := cy) (q0 := q0) (q1 := q1) (u0_0 := u0_0) (u0_1 := u0_1) (u0_2 := u0_2) (u0_3 := u0_3) (u0_4 := u0_4) (u0_5 := u0_5) (u0_6 := u0_6) (u0_11 := .int v_wrong) (u0_12 := u0_12) (u0_13 := u0_13) (u0_14 := u0_14) (u0_15 := u0_15) (u0_16 := u0_16) (u0_17 := u0_17) (u0_18 := u0_18) (u0_19 := u0_19) (u0_20 := u0_20) (u0_21 := u0_21) (u0_22 := u0_22) (u0_23 := u0_23) (u0_24 := u0_24) (u0_25 := u0_25) (u0_26 := u0_26) (u0_27 := u0_27) (u0_28 := u0_28) (u0_29 := u0_29) (u0_30 := u0_30) (u0_31 := u0_31) (u0_32 := u0_32) (u0_33 := u0_33) (u0_34 := u0_34) (u0_35 := u0_35) (u0_36 := u0_36) (u0_37 := u0_37) (u0_38 := u0_38) (u0_39 := u0_39) (u0_40 := u0_40) (v_length := v_length) (v_top := v_top) (v_at := v_at) (nv_read := nv_read) (v_read := v_read) (r := y10) e2) [0, 1] rfl rfl (fun _ => rfl) (fun _ => rfl) rfl rfl rfl rfl (Nat.le_of_ble_eq_true rfl) hl.1 (by rw [hRf]; exact Nat.le_of_ble_eq_true rfl) (by rw [hRl]; exact Nat.le_of_ble_eq_true rfl) ⟨Nat.zero_le _, Nat.zero_le _⟩ dX11_oneOf_10 rfl (fun H locs _ hS => ?_)
    refine lv_iload_n hx hb dX11_oneOf_13 rfl (lv_at hl 1 rfl) ?_
    refine lv_iload_n hx hb dX11_oneOf_14 rfl (lv_at hl 1 rfl) ?_
    refine lv_iload_n hx hb dX11_oneOf_15 rfl (lv_at hl 2 rfl) ?_
    refine lv_iadd hx hb dX11_oneOf_16 ?_
    refine lv_iconst (v := 1) hx hb dX11_oneOf_17 (by decide) ?_
    refine lv_isub hx hb dX11_oneOf_18 ?_
    refine ct_S (ws' := fun _ => [oX11 q0 u0_0 u0_1 u0_2 u0_3 u0_4 u0_5 u0_6 (.ref q1) (.int v_length) (.int v_top) (.int v_at) (.int v_wrong) u0_12 u0_13 u0_14 u0_15 u0_16 u0_17 u0_18 u0_19 u0_20 u0_21 u0_22 u0_23 u0_24 u0_25 u0_26 u0_27 u0_28 u0_29 u0_30 u0_31 u0_32 u0_33 u0_34 u0_35 u0_36 u0_37 u0_38 u0_39 u0_40, aB cy q1 nv_read v_read]) (st' := [.int (X11_in y10 p1 ((p1 + p2) - (1 : Int32)))]) (rest := []) E hS slX11_95 (c_X11_in (l := l) (D := D) (cy := cy) (p0 := y10) (p1 := p1) (p2 := ((p1 + p2) - (1 : Int32))) (r := (X11_in y10 p1 ((p1 + p2) - (1 : Int32)))) rfl) [] rfl rfl (fun _ => rfl) (fun _ => rfl) rfl rfl (Nat.le_of_ble_eq_true rfl) hl.1 (by rw [hRf]; exact Nat.le_of_ble_eq_true rfl) (by rw [hRl]; exact Nat.le_of_ble_eq_true rfl) ⟨Nat.zero_le _, Nat.zero_le _⟩ dX11_oneOf_19 rfl (fun H locs _ hS => ?_)
    refine lv_if_ne (tgt := 35) hx hb dX11_oneOf_22 (by decide) (fun c3 => ?_) (fun c3 => ?_)
    · have h := it_neg c3 h
      refine lv_aload_n hx hb dX11_oneOf_35 rfl (lv_at hl 0 rfl) ?_
      refine lv_dup hx hb dX11_oneOf_36 rfl ?_
      refine r_get E frX11_115 hS 0 rfl rfl dX11_oneOf_37 ?_
      refine lv_iconst (v := 1) hx hb dX11_oneOf_40 (by decide) ?_
      refine lv_iadd hx hb dX11_oneOf_41 ?_
      refine r_put (ws' := [oX11 q0 u0_0 u0_1 u0_2 u0_3 u0_4 u0_5 u0_6 (.ref q1) (.int v_length) (.int v_top) (.int (v_at + (1 : Int32))) (.int v_wrong) u0_12 u0_13 u0_14 u0_15 u0_16 u0_17 u0_18 u0_19 u0_20 u0_21 u0_22 u0_23 u0_24 u0_25 u0_26 u0_27 u0_28 u0_29 u0_30 u0_31 u0_32 u0_33 u0_34 u0_35 u0_36 u0_37 u0_38 u0_39 u0_40, aB cy q1 nv_read v_read]) E frX11_115 hS 0 rfl (Nat.le_of_ble_eq_true rfl) rfl rfl rfl rfl dX11_oneOf_42 (fun H locs hS => ?_)
      refine lv_aload_n hx hb dX11_oneOf_45 rfl (lv_at hl 0 rfl) ?_
      refine r_get E frX11_106 hS 0 rfl rfl dX11_oneOf_46 ?_
      refine lv_aload_n hx hb dX11_oneOf_49 rfl (lv_at hl 0 rfl) ?_
      refine r_get E frX11_115 hS 0 rfl rfl dX11_oneOf_50 ?_
      refine lv_iconst (v := 1) hx hb dX11_oneOf_53 (by decide) ?_
      refine lv_isub hx hb dX11_oneOf_54 ?_
      obtain ⟨g4, h⟩ := gi_some h
      refine r_bald E hS 1 rfl g4 dX11_oneOf_55 ?_
      refine lv_iload_n hx hb dX11_oneOf_56 rfl (lv_at hl 1 rfl) ?_
      refine lv_isub hx hb dX11_oneOf_57 ?_
      obtain rfl := Option.some.inj h
      exact rt_i E hQ (.null) hS dX11_oneOf_58
    · have h := it_pos c3 h
      refine lv_aload_n hx hb dX11_oneOf_25 rfl (lv_at hl 0 rfl) ?_
      refine lv_aload_n hx hb dX11_oneOf_26 rfl (lv_at hl 0 rfl) ?_
      refine r_get E frX11_115 hS 0 rfl rfl dX11_oneOf_27 ?_
      refine ct_V (ws' := fun _ => [oX11 q0 u0_0 u0_1 u0_2 u0_3 u0_4 u0_5 u0_6 (.ref q1) (.int v_length) (.int v_top) (.int v_at) (.int (X11_fault v_wrong v_at)) u0_12 u0_13 u0_14 u0_15 u0_16 u0_17 u0_18 u0_19 u0_20 u0_21 u0_22 u0_23 u0_24 u0_25 u0_26 u0_27 u0_28 u0_29 u0_30 u0_31 u0_32 u0_33 u0_34 u0_35 u0_36 u0_37 u0_38 u0_39 u0_40, aB cy q1 nv_read v_read]) (st' := []) (rest := []) E hS vlX11_137 (c_X11_fault (l := l) (D := D) (cy := cy) (q0 := q0) (u0_0 := u0_0) (u0_1 := u0_1) (u0_2 := u0_2) (u0_3 := u0_3) (u0_4 := u0_4) (u0_5 := u0_5) (u0_6 := u0_6) (u0_7 := .ref q1) (u0_8 := .int v_length) (u0_9 := .int v_top) (u0_10 := .int v_at) (u0_12 := u0_12) (u0_13 := u0_13) (u0_14 := u0_14) (u0_15 := u0_15) (u0_16 := u0_16) (u0_17 := u0_17) (u0_18 := u0_18) (u0_19 := u0_19) (u0_20 := u0_20) (u0_21 := u0_21) (u0_22 := u0_22) (u0_23 := u0_23) (u0_24 := u0_24) (u0_25 := u0_25) (u0_26 := u0_26) (u0_27 := u0_27) (u0_28 := u0_28) (u0_29 := u0_29) (u0_30 := u0_30) (u0_31 := u0_31) (u0_32 := u0_32) (u0_33 := u0_33) (u0_34 := u0_34) (u0_35 := u0_35) (u0_36 := u0_36) (u0_37 := u0_37) (u0_38 := u0_38) (u0_39 := u0_39) (u0_40 := u0_40) (v_wrong := v_wrong) (p1 := v_at) (r := (X11_fault v_wrong v_at)) rfl) [0] rfl rfl (fun _ => rfl) (fun _ => rfl) rfl rfl rfl rfl (Nat.le_of_ble_eq_true rfl) hl.1 (by rw [hRf]; exact Nat.le_of_ble_eq_true rfl) (by rw [hRl]; exact Nat.le_of_ble_eq_true rfl) ⟨Nat.zero_le _, Nat.zero_le _⟩ dX11_oneOf_30 rfl (fun H locs _ hS => ?_)
      refine lv_iconst (v := 0) hx hb dX11_oneOf_33 (by decide) ?_
      obtain rfl := Option.some.inj h
      exact rt_i E hQ (.null) hS dX11_oneOf_34
  · have h := it_pos c1 h
    refine lv_iconst (v := 0) hx hb dX11_oneOf_7 (by decide) ?_
    obtain rfl := Option.some.inj h
    exact rt_i E hQ (.null) hS dX11_oneOf_8
set_option maxHeartbeats 4000000 in
set_option maxRecDepth 100000 in
theorem c_X11_number {l : Launch} {D : va_G} {cy : Nat → ClassId} (q0 : Nat) (q1 : Nat) (u0_0 : Value) (u0_1 : Value) (u0_2 : Value) (u0_3 : Value) (u0_4 : Value) (u0_5 : Value) (u0_6 : Value) (u0_12 : Value) (u0_13 : Value) (u0_14 : Value) (u0_15 : Value) (u0_16 : Value) (u0_17 : Value) (u0_18 : Value) (u0_19 : Value) (u0_20 : Value) (u0_21 : Value) (u0_22 : Value) (u0_23 : Value) (u0_24 : Value) (u0_25 : Value) (u0_26 : Value) (u0_27 : Value) (u0_28 : Value) (u0_29 : Value) (u0_30 : Value) (u0_31 : Value) (u0_32 : Value) (u0_33 : Value) (u0_34 : Value) (u0_35 : Value) (u0_36 : Value) (u0_37 : Value) (u0_38 : Value) (u0_39 : Value) (u0_40 : Value) (v_length : Int32) (v_top : Int32) (v_at : Int32) (v_wrong : Int32) (nv_read : Nat) (v_read : Nat → Int32) (p1 : Int32) (r : Int32 × Int32 × Int32) (h : X11_number v_length v_top v_at v_wrong nv_read v_read p1 = some r) : Ct l yX11_number cX11_number 4 (some .int) 3 63 D cy [.ref q0, .int p1] [oX11 q0 u0_0 u0_1 u0_2 u0_3 u0_4 u0_5 u0_6 (.ref q1) (.int v_length) (.int v_top) (.int v_at) (.int v_wrong) u0_12 u0_13 u0_14 u0_15 u0_16 u0_17 u0_18 u0_19 u0_20 u0_21 u0_22 u0_23 u0_24 u0_25 u0_26 u0_27 u0_28 u0_29 u0_30 u0_31 u0_32 u0_33 u0_34 u0_35 u0_36 u0_37 u0_38 u0_39 u0_40, aB cy q1 nv_read v_read] (fun _ => [oX11 q0 u0_0 u0_1 u0_2 u0_3 u0_4 u0_5 u0_6 (.ref q1) (.int v_length) (.int v_top) (.int r.2.1) (.int r.2.2) u0_12 u0_13 u0_14 u0_15 u0_16 u0_17 u0_18 u0_19 u0_20 u0_21 u0_22 u0_23 u0_24 u0_25 u0_26 u0_27 u0_28 u0_29 u0_30 u0_31 u0_32 u0_33 u0_34 u0_35 u0_36 u0_37 u0_38 u0_39 u0_40, aB cy q1 nv_read v_read]) (some (.int r.1)) := by
  refine Ct.mk kX11_number (by decide +kernel) (Nat.le_of_ble_eq_true rfl) ?_
  intro p e s m below meth c A ls args R Q hRf hRl hQ E H locs hS hl
  have hx := E.x
  have hb := E.b
  have hl : lv_has ls 4 [(0, .ref q0), (1, .int p1)] := hl
  unfold X11_number at h
  refine lv_aload_n hx hb dX11_number_0 rfl (lv_at hl 0 rfl) ?_
  refine lv_bipush (v := 48) hx hb dX11_number_1 (by decide) ?_
  refine lv_bipush (v := 10) hx hb dX11_number_3 (by decide) ?_
  obtain ⟨y5, e1, h⟩ := bd_some h
  refine ct_V (ws' := fun _ => [oX11 q0 u0_0 u0_1 u0_2 u0_3 u0_4 u0_5 u0_6 (.ref q1) (.int v_length) (.int v_top) (.int y5.2.1) (.int y5.2.2) u0_12 u0_13 u0_14 u0_15 u0_16 u0_17 u0_18 u0_19 u0_20 u0_21 u0_22 u0_23 u0_24 u0_25 u0_26 u0_27 u0_28 u0_29 u0_30 u0_31 u0_32 u0_33 u0_34 u0_35 u0_36 u0_37 u0_38 u0_39 u0_40, aB cy q1 nv_read v_read]) (st' := [.int y5.1]) (rest := []) E hS vlX11_141 (c_X11_oneOf (l := l) (D := D) (cy := cy) (q0 := q0) (q1 := q1) (u0_0 := u0_0) (u0_1 := u0_1) (u0_2 := u0_2) (u0_3 := u0_3) (u0_4 := u0_4) (u0_5 := u0_5) (u0_6 := u0_6) (u0_12 := u0_12) (u0_13 := u0_13) (u0_14 := u0_14) (u0_15 := u0_15) (u0_16 := u0_16) (u0_17 := u0_17) (u0_18 := u0_18) (u0_19 := u0_19) (u0_20 := u0_20) (u0_21 := u0_21) (u0_22 := u0_22) (u0_23 := u0_23) (u0_24 := u0_24) (u0_25 := u0_25) (u0_26 := u0_26) (u0_27 := u0_27) (u0_28 := u0_28) (u0_29 := u0_29) (u0_30 := u0_30) (u0_31 := u0_31) (u0_32 := u0_32) (u0_33 := u0_33) (u0_34 := u0_34) (u0_35 := u0_35) (u0_36 := u0_36) (u0_37 := u0_37) (u0_38 := u0_38) (u0_39 := u0_39) (u0_40 := u0_40) (v_length := v_length) (v_top := v_top) (v_at := v_at) (v_wrong := v_wrong) (nv_read := nv_read) (v_read := v_read) (p1 := (48 : Int32)) (p2 := (10 : Int32)) (r := y5) e1) [0, 1] rfl rfl (fun _ => rfl) (fun _ => rfl) rfl rfl rfl rfl (Nat.le_of_ble_eq_true rfl) hl.1 (by rw [hRf]; exact Nat.le_of_ble_eq_true rfl) (by rw [hRl]; exact Nat.le_of_ble_eq_true rfl) ⟨Nat.zero_le _, Nat.zero_le _⟩ dX11_number_5 rfl (fun H locs _ hS => ?_)
  refine lv_istore_n (lv' := [(2, .int y5.1), (0, .ref q0), (1, .int p1)]) hx hb dX11_number_8 rfl hl (by decide) rfl (fun ls hl => ?_)
  refine lv_iconst (v := 1) hx hb dX11_number_9 (by decide) ?_
  refine lv_istore_n (lv' := [(3, .int (1 : Int32)), (2, .int y5.1), (0, .ref q0), (1, .int p1)]) hx hb dX11_number_10 rfl hl (by decide) rfl (fun ls hl => ?_)
  have hL11 : ∀ (n : Nat) (x11_0 : Int32) (x11_1 : Int32) (x11_2 : Int32) (x11_3 : Int32) (y11 : Int32 × Int32 × Int32) (H : Heap) (locs : List Loc) (ls : Array Slot), lp (fun x11 => X11_number_s11 v_length v_top nv_read v_read p1 x11.1 x11.2.1 x11.2.2.1 x11.2.2.2) n (x11_0, x11_1, x11_2, x11_3) = some y11 → Sv D A s.heap [oX11 q0 u0_0 u0_1 u0_2 u0_3 u0_4 u0_5 u0_6 (.ref q1) (.int v_length) (.int v_top) (.int x11_2) (.int x11_3) u0_12 u0_13 u0_14 u0_15 u0_16 u0_17 u0_18 u0_19 u0_20 u0_21 u0_22 u0_23 u0_24 u0_25 u0_26 u0_27 u0_28 u0_29 u0_30 u0_31 u0_32 u0_33 u0_34 u0_35 u0_36 u0_37 u0_38 u0_39 u0_40, aB cy q1 nv_read v_read] H locs → lv_has ls 4 [(0, .ref q0), (1, .int p1), (2, .int x11_0), (3, .int x11_1)] → ( ∀ (y11_0 : Int32) (y11_1 : Int32) (y11_2 : Int32), (y11_0, y11_1, y11_2) = y11 → ∀ (H : Heap) (locs : List Loc) (ls : Array Slot), Sv D A s.heap [oX11 q0 u0_0 u0_1 u0_2 u0_3 u0_4 u0_5 u0_6 (.ref q1) (.int v_length) (.int v_top) (.int y11_1) (.int y11_2) u0_12 u0_13 u0_14 u0_15 u0_16 u0_17 u0_18 u0_19 u0_20 u0_21 u0_22 u0_23 u0_24 u0_25 u0_26 u0_27 u0_28 u0_29 u0_30 u0_31 u0_32 u0_33 u0_34 u0_35 u0_36 u0_37 u0_38 u0_39 u0_40, aB cy q1 nv_read v_read] H locs → lv_has ls 4 [(2, .int y11_0)] → W p l e R s m args below meth c H locs 0 0 Q (F0 m 57 ls [])) → W p l e R s m args below meth c H locs 0 0 Q (F0 m 11 ls []) := by
    intro n
    induction n with
    | zero =>
      intro x11_0 x11_1 x11_2 x11_3 y11 H locs ls h
      exact lp_zero h
    | succ n ih11 =>
      intro x11_0 x11_1 x11_2 x11_3 y11 H locs ls h hS hl hk11_0
      obtain ⟨z11, h, hz11a, hz11b⟩ := lp_succ h
      have h : X11_number_s11 v_length v_top nv_read v_read p1 x11_0 x11_1 x11_2 x11_3 = some z11 := h
      unfold X11_number_s11 at h
      refine lv_iload_n hx hb dX11_number_11 rfl (lv_at hl 3 rfl) ?_
      refine lv_iload_n hx hb dX11_number_12 rfl (lv_at hl 1 rfl) ?_
      refine lv_icmp_ge (tgt := 57) hx hb dX11_number_13 (by decide) (fun c2 => ?_) (fun c2 => ?_)
      · have h := it_pos c2 h
        exact hk11_0 x11_0 x11_2 x11_3 (hz11b _ (Option.some.inj h).symm)  H locs ls hS (lv_sub hl [2] rfl)
      · have h := it_neg c2 h
        refine lv_aload_n hx hb dX11_number_16 rfl (lv_at hl 0 rfl) ?_
        refine ct_V (ws' := fun _ => [oX11 q0 u0_0 u0_1 u0_2 u0_3 u0_4 u0_5 u0_6 (.ref q1) (.int v_length) (.int v_top) (.int x11_2) (.int x11_3) u0_12 u0_13 u0_14 u0_15 u0_16 u0_17 u0_18 u0_19 u0_20 u0_21 u0_22 u0_23 u0_24 u0_25 u0_26 u0_27 u0_28 u0_29 u0_30 u0_31 u0_32 u0_33 u0_34 u0_35 u0_36 u0_37 u0_38 u0_39 u0_40, aB cy q1 nv_read v_read]) (st' := [.int (X11_fine x11_3)]) (rest := []) E hS vlX11_125 (c_X11_fine (l := l) (D := D) (cy := cy) (q0 := q0) (u0_0 := u0_0) (u0_1 := u0_1) (u0_2 := u0_2) (u0_3 := u0_3) (u0_4 := u0_4) (u0_5 := u0_5) (u0_6 := u0_6) (u0_7 := .ref q1) (u0_8 := .int v_length) (u0_9 := .int v_top) (u0_10 := .int x11_2) (u0_12 := u0_12) (u0_13 := u0_13) (u0_14 := u0_14) (u0_15 := u0_15) (u0_16 := u0_16) (u0_17 := u0_17) (u0_18 := u0_18) (u0_19 := u0_19) (u0_20 := u0_20) (u0_21 := u0_21) (u0_22 := u0_22) (u0_23 := u0_23) (u0_24 := u0_24) (u0_25 := u0_25) (u0_26 := u0_26) (u0_27 := u0_27) (u0_28 := u0_28) (u0_29 := u0_29) (u0_30 := u0_30) (u0_31 := u0_31) (u0_32 := u0_32) (u0_33 := u0_33) (u0_34 := u0_34) (u0_35 := u0_35) (u0_36 := u0_36) (u0_37 := u0_37) (u0_38 := u0_38) (u0_39 := u0_39) (u0_40 := u0_40) (v_wrong := x11_3) (r := (X11_fine x11_3)) rfl) [0] rfl rfl (fun _ => rfl) (fun _ => rfl) rfl rfl rfl rfl (Nat.le_of_ble_eq_true rfl) hl.1 (by rw [hRf]; exact Nat.le_of_ble_eq_true rfl) (by rw [hRl]; exact Nat.le_of_ble_eq_true rfl) ⟨Nat.zero_le _, Nat.zero_le _⟩ dX11_number_17 rfl (fun H locs _ hS => ?_)
        refine lv_if_eq (tgt := 57) hx hb dX11_number_20 (by decide) (fun c3 => ?_) (fun c3 => ?_)
        · have h := it_pos c3 h
          exact hk11_0 x11_0 x11_2 x11_3 (hz11b _ (Option.some.inj h).symm)  H locs ls hS (lv_sub hl [2] rfl)
        · have h := it_neg c3 h
          refine lv_aload_n hx hb dX11_number_23 rfl (lv_at hl 0 rfl) ?_
          obtain ⟨y24, e4, h⟩ := bd_some h
          refine ct_V (ws' := fun _ => [oX11 q0 u0_0 u0_1 u0_2 u0_3 u0_4 u0_5 u0_6 (.ref q1) (.int v_length) (.int v_top) (.int x11_2) (.int x11_3) u0_12 u0_13 u0_14 u0_15 u0_16 u0_17 u0_18 u0_19 u0_20 u0_21 u0_22 u0_23 u0_24 u0_25 u0_26 u0_27 u0_28 u0_29 u0_30 u0_31 u0_32 u0_33 u0_34 u0_35 u0_36 u0_37 u0_38 u0_39 u0_40, aB cy q1 nv_read v_read]) (st' := [.int y24]) (rest := []) E hS vlX11_129 (c_X11_here (l := l) (D := D) (cy := cy) (q0 := q0) (q1 := q1) (u0_0 := u0_0) (u0_1 := u0_1) (u0_2 := u0_2) (u0_3 := u0_3) (u0_4 := u0_4) (u0_5 := u0_5) (u0_6 := u0_6) (u0_11 := .int x11_3) (u0_12 := u0_12) (u0_13 := u0_13) (u0_14 := u0_14) (u0_15 := u0_15) (u0_16 := u0_16) (u0_17 := u0_17) (u0_18 := u0_18) (u0_19 := u0_19) (u0_20 := u0_20) (u0_21 := u0_21) (u0_22 := u0_22) (u0_23 := u0_23) (u0_24 := u0_24) (u0_25 := u0_25) (u0_26 := u0_26) (u0_27 := u0_27) (u0_28 := u0_28) (u0_29 := u0_29) (u0_30 := u0_30) (u0_31 := u0_31) (u0_32 := u0_32) (u0_33 := u0_33) (u0_34 := u0_34) (u0_35 := u0_35) (u0_36 := u0_36) (u0_37 := u0_37) (u0_38 := u0_38) (u0_39 := u0_39) (u0_40 := u0_40) (v_length := v_length) (v_top := v_top) (v_at := x11_2) (nv_read := nv_read) (v_read := v_read) (r := y24) e4) [0, 1] rfl rfl (fun _ => rfl) (fun _ => rfl) rfl rfl rfl rfl (Nat.le_of_ble_eq_true rfl) hl.1 (by rw [hRf]; exact Nat.le_of_ble_eq_true rfl) (by rw [hRl]; exact Nat.le_of_ble_eq_true rfl) ⟨Nat.zero_le _, Nat.zero_le _⟩ dX11_number_24 rfl (fun H locs _ hS => ?_)
          refine lv_bipush (v := 48) hx hb dX11_number_27 (by decide) ?_
          refine lv_bipush (v := 57) hx hb dX11_number_29 (by decide) ?_
          refine ct_S (ws' := fun _ => [oX11 q0 u0_0 u0_1 u0_2 u0_3 u0_4 u0_5 u0_6 (.ref q1) (.int v_length) (.int v_top) (.int x11_2) (.int x11_3) u0_12 u0_13 u0_14 u0_15 u0_16 u0_17 u0_18 u0_19 u0_20 u0_21 u0_22 u0_23 u0_24 u0_25 u0_26 u0_27 u0_28 u0_29 u0_30 u0_31 u0_32 u0_33 u0_34 u0_35 u0_36 u0_37 u0_38 u0_39 u0_40, aB cy q1 nv_read v_read]) (st' := [.int (X11_in y24 (48 : Int32) (57 : Int32))]) (rest := []) E hS slX11_95 (c_X11_in (l := l) (D := D) (cy := cy) (p0 := y24) (p1 := (48 : Int32)) (p2 := (57 : Int32)) (r := (X11_in y24 (48 : Int32) (57 : Int32))) rfl) [] rfl rfl (fun _ => rfl) (fun _ => rfl) rfl rfl (Nat.le_of_ble_eq_true rfl) hl.1 (by rw [hRf]; exact Nat.le_of_ble_eq_true rfl) (by rw [hRl]; exact Nat.le_of_ble_eq_true rfl) ⟨Nat.zero_le _, Nat.zero_le _⟩ dX11_number_31 rfl (fun H locs _ hS => ?_)
          refine lv_if_eq (tgt := 57) hx hb dX11_number_34 (by decide) (fun c5 => ?_) (fun c5 => ?_)
          · have h := it_pos c5 h
            exact hk11_0 x11_0 x11_2 x11_3 (hz11b _ (Option.some.inj h).symm)  H locs ls hS (lv_sub hl [2] rfl)
          · have h := it_neg c5 h
            refine lv_bipush (v := 10) hx hb dX11_number_37 (by decide) ?_
            refine lv_iload_n hx hb dX11_number_39 rfl (lv_at hl 2 rfl) ?_
            refine lv_imul hx hb dX11_number_40 ?_
            refine lv_aload_n hx hb dX11_number_41 rfl (lv_at hl 0 rfl) ?_
            refine lv_bipush (v := 48) hx hb dX11_number_42 (by decide) ?_
            refine lv_bipush (v := 10) hx hb dX11_number_44 (by decide) ?_
            obtain ⟨y46, e6, h⟩ := bd_some h
            refine ct_V (ws' := fun _ => [oX11 q0 u0_0 u0_1 u0_2 u0_3 u0_4 u0_5 u0_6 (.ref q1) (.int v_length) (.int v_top) (.int y46.2.1) (.int y46.2.2) u0_12 u0_13 u0_14 u0_15 u0_16 u0_17 u0_18 u0_19 u0_20 u0_21 u0_22 u0_23 u0_24 u0_25 u0_26 u0_27 u0_28 u0_29 u0_30 u0_31 u0_32 u0_33 u0_34 u0_35 u0_36 u0_37 u0_38 u0_39 u0_40, aB cy q1 nv_read v_read]) (st' := [.int y46.1, .int ((10 : Int32) * x11_0)]) (rest := [.int ((10 : Int32) * x11_0)]) E hS vlX11_141 (c_X11_oneOf (l := l) (D := D) (cy := cy) (q0 := q0) (q1 := q1) (u0_0 := u0_0) (u0_1 := u0_1) (u0_2 := u0_2) (u0_3 := u0_3) (u0_4 := u0_4) (u0_5 := u0_5) (u0_6 := u0_6) (u0_12 := u0_12) (u0_13 := u0_13) (u0_14 := u0_14) (u0_15 := u0_15) (u0_16 := u0_16) (u0_17 := u0_17) (u0_18 := u0_18) (u0_19 := u0_19) (u0_20 := u0_20) (u0_21 := u0_21) (u0_22 := u0_22) (u0_23 := u0_23) (u0_24 := u0_24) (u0_25 := u0_25) (u0_26 := u0_26) (u0_27 := u0_27) (u0_28 := u0_28) (u0_29 := u0_29) (u0_30 := u0_30) (u0_31 := u0_31) (u0_32 := u0_32) (u0_33 := u0_33) (u0_34 := u0_34) (u0_35 := u0_35) (u0_36 := u0_36) (u0_37 := u0_37) (u0_38 := u0_38) (u0_39 := u0_39) (u0_40 := u0_40) (v_length := v_length) (v_top := v_top) (v_at := x11_2) (v_wrong := x11_3) (nv_read := nv_read) (v_read := v_read) (p1 := (48 : Int32)) (p2 := (10 : Int32)) (r := y46) e6) [0, 1] rfl rfl (fun _ => rfl) (fun _ => rfl) rfl rfl rfl rfl (Nat.le_of_ble_eq_true rfl) hl.1 (by rw [hRf]; exact Nat.le_of_ble_eq_true rfl) (by rw [hRl]; exact Nat.le_of_ble_eq_true rfl) ⟨Nat.zero_le _, Nat.zero_le _⟩ dX11_number_46 rfl (fun H locs _ hS => ?_)
            refine lv_iadd hx hb dX11_number_49 ?_
            refine lv_istore_n (lv' := [(2, .int (((10 : Int32) * x11_0) + y46.1)), (0, .ref q0), (1, .int p1), (3, .int x11_1)]) hx hb dX11_number_50 rfl hl (by decide) rfl (fun ls hl => ?_)
            refine lv_iinc (v := (x11_1 + (1 : Int32))) (lv' := [(3, .int (x11_1 + (1 : Int32))), (2, .int (((10 : Int32) * x11_0) + y46.1)), (0, .ref q0), (1, .int p1)]) hx hb dX11_number_51 hl (k := 3) rfl rfl (by decide) rfl (fun ls hl => ?_)
            refine lv_goto (tgt := 11) hx hb dX11_number_54 (by decide) ?_
            exact ih11 (((10 : Int32) * x11_0) + y46.1) (x11_1 + (1 : Int32)) y46.2.1 y46.2.2 y11  H locs ls (hz11a _ (Option.some.inj h).symm) hS (lv_sub hl [2, 3, 1, 0] rfl) hk11_0
  obtain ⟨y11, e11, h⟩ := bd_some h
  refine hL11 1000 y5.1 (1 : Int32) y5.2.1 y5.2.2 y11  H locs ls e11 hS (lv_sub hl [2, 3, 1, 0] rfl) (fun y11_0 y11_1 y11_2 ey11 H locs ls hS hl => ?_)
  subst ey11
  have h := un_r h
  have h := un_r h
  refine lv_iload_n hx hb dX11_number_57 rfl (lv_at hl 0 rfl) ?_
  obtain rfl := Option.some.inj h
  exact rt_i E hQ (.null) hS dX11_number_58
set_option maxHeartbeats 4000000 in
set_option maxRecDepth 100000 in
theorem c_X11_wasRight {l : Launch} {D : va_G} {cy : Nat → ClassId} (q0 : Nat) (u0_0 : Value) (u0_1 : Value) (u0_2 : Value) (u0_3 : Value) (u0_4 : Value) (u0_5 : Value) (u0_6 : Value) (u0_7 : Value) (u0_9 : Value) (u0_12 : Value) (u0_13 : Value) (u0_14 : Value) (u0_15 : Value) (u0_16 : Value) (u0_17 : Value) (u0_18 : Value) (u0_19 : Value) (u0_20 : Value) (u0_21 : Value) (u0_22 : Value) (u0_23 : Value) (u0_24 : Value) (u0_25 : Value) (u0_26 : Value) (u0_27 : Value) (u0_28 : Value) (u0_29 : Value) (u0_30 : Value) (u0_31 : Value) (u0_32 : Value) (u0_33 : Value) (u0_34 : Value) (u0_35 : Value) (u0_36 : Value) (u0_37 : Value) (u0_38 : Value) (u0_39 : Value) (u0_40 : Value) (v_length : Int32) (v_at : Int32) (v_wrong : Int32) (r : Int32 × Int32) (h : X11_wasRight v_length v_at v_wrong = some r) : Ct l yX11_wasRight cX11_wasRight 1 (some .boolean) 2 41 D cy [.ref q0] [oX11 q0 u0_0 u0_1 u0_2 u0_3 u0_4 u0_5 u0_6 u0_7 (.int v_length) u0_9 (.int v_at) (.int v_wrong) u0_12 u0_13 u0_14 u0_15 u0_16 u0_17 u0_18 u0_19 u0_20 u0_21 u0_22 u0_23 u0_24 u0_25 u0_26 u0_27 u0_28 u0_29 u0_30 u0_31 u0_32 u0_33 u0_34 u0_35 u0_36 u0_37 u0_38 u0_39 u0_40] (fun _ => [oX11 q0 u0_0 u0_1 u0_2 u0_3 u0_4 u0_5 u0_6 u0_7 (.int v_length) u0_9 (.int v_at) (.int r.2) u0_12 u0_13 u0_14 u0_15 u0_16 u0_17 u0_18 u0_19 u0_20 u0_21 u0_22 u0_23 u0_24 u0_25 u0_26 u0_27 u0_28 u0_29 u0_30 u0_31 u0_32 u0_33 u0_34 u0_35 u0_36 u0_37 u0_38 u0_39 u0_40]) (some (.int r.1)) := by
  refine Ct.mk kX11_wasRight (by decide +kernel) (Nat.le_of_ble_eq_true rfl) ?_
  intro p e s m below meth c A ls args R Q hRf hRl hQ E H locs hS hl
  have hx := E.x
  have hb := E.b
  have hl : lv_has ls 1 [(0, .ref q0)] := hl
  unfold X11_wasRight at h
  refine lv_aload_n hx hb dX11_wasRight_0 rfl (lv_at hl 0 rfl) ?_
  refine r_get E frX11_115 hS 0 rfl rfl dX11_wasRight_1 ?_
  refine lv_aload_n hx hb dX11_wasRight_4 rfl (lv_at hl 0 rfl) ?_
  refine r_get E frX11_109 hS 0 rfl rfl dX11_wasRight_5 ?_
  have hJ19 : ∀ (j19_v_wrong : Int32) (H : Heap) (locs : List Loc) (ls : Array Slot), X11_wasRight_k19 j19_v_wrong = some r → Sv D A s.heap [oX11 q0 u0_0 u0_1 u0_2 u0_3 u0_4 u0_5 u0_6 u0_7 (.int v_length) u0_9 (.int v_at) (.int j19_v_wrong) u0_12 u0_13 u0_14 u0_15 u0_16 u0_17 u0_18 u0_19 u0_20 u0_21 u0_22 u0_23 u0_24 u0_25 u0_26 u0_27 u0_28 u0_29 u0_30 u0_31 u0_32 u0_33 u0_34 u0_35 u0_36 u0_37 u0_38 u0_39 u0_40] H locs → lv_has ls 1 [(0, .ref q0)] → W p l e R s m args below meth c H locs 0 0 Q (F0 m 19 ls []) := by
    intro j19_v_wrong H locs ls h hS hl
    unfold X11_wasRight_k19 at h
    refine lv_aload_n hx hb dX11_wasRight_19 rfl (lv_at hl 0 rfl) ?_
    refine ct_V (ws' := fun _ => [oX11 q0 u0_0 u0_1 u0_2 u0_3 u0_4 u0_5 u0_6 u0_7 (.int v_length) u0_9 (.int v_at) (.int j19_v_wrong) u0_12 u0_13 u0_14 u0_15 u0_16 u0_17 u0_18 u0_19 u0_20 u0_21 u0_22 u0_23 u0_24 u0_25 u0_26 u0_27 u0_28 u0_29 u0_30 u0_31 u0_32 u0_33 u0_34 u0_35 u0_36 u0_37 u0_38 u0_39 u0_40]) (st' := [.int (X11_fine j19_v_wrong)]) (rest := []) E hS vlX11_125 (c_X11_fine (l := l) (D := D) (cy := cy) (q0 := q0) (u0_0 := u0_0) (u0_1 := u0_1) (u0_2 := u0_2) (u0_3 := u0_3) (u0_4 := u0_4) (u0_5 := u0_5) (u0_6 := u0_6) (u0_7 := u0_7) (u0_8 := .int v_length) (u0_9 := u0_9) (u0_10 := .int v_at) (u0_12 := u0_12) (u0_13 := u0_13) (u0_14 := u0_14) (u0_15 := u0_15) (u0_16 := u0_16) (u0_17 := u0_17) (u0_18 := u0_18) (u0_19 := u0_19) (u0_20 := u0_20) (u0_21 := u0_21) (u0_22 := u0_22) (u0_23 := u0_23) (u0_24 := u0_24) (u0_25 := u0_25) (u0_26 := u0_26) (u0_27 := u0_27) (u0_28 := u0_28) (u0_29 := u0_29) (u0_30 := u0_30) (u0_31 := u0_31) (u0_32 := u0_32) (u0_33 := u0_33) (u0_34 := u0_34) (u0_35 := u0_35) (u0_36 := u0_36) (u0_37 := u0_37) (u0_38 := u0_38) (u0_39 := u0_39) (u0_40 := u0_40) (v_wrong := j19_v_wrong) (r := (X11_fine j19_v_wrong)) rfl) [0] rfl rfl (fun _ => rfl) (fun _ => rfl) rfl rfl rfl rfl (Nat.le_of_ble_eq_true rfl) hl.1 (by rw [hRf]; exact Nat.le_of_ble_eq_true rfl) (by rw [hRl]; exact Nat.le_of_ble_eq_true rfl) ⟨Nat.zero_le _, Nat.zero_le _⟩ dX11_wasRight_20 rfl (fun H locs _ hS => ?_)
    obtain ⟨g1, h⟩ := gn_some h
    obtain rfl := Option.some.inj h
    exact rt_n E (gn_nar g1) hQ (.null) hS dX11_wasRight_23
  refine lv_icmp_ge (tgt := 19) hx hb dX11_wasRight_8 (by decide) (fun c2 => ?_) (fun c2 => ?_)
  · have h := it_pos c2 h
    exact hJ19 v_wrong  H locs ls h hS (lv_sub hl [0] rfl)
  · have h := it_neg c2 h
    refine lv_aload_n hx hb dX11_wasRight_11 rfl (lv_at hl 0 rfl) ?_
    refine lv_aload_n hx hb dX11_wasRight_12 rfl (lv_at hl 0 rfl) ?_
    refine r_get E frX11_115 hS 0 rfl rfl dX11_wasRight_13 ?_
    refine ct_V (ws' := fun _ => [oX11 q0 u0_0 u0_1 u0_2 u0_3 u0_4 u0_5 u0_6 u0_7 (.int v_length) u0_9 (.int v_at) (.int (X11_fault v_wrong v_at)) u0_12 u0_13 u0_14 u0_15 u0_16 u0_17 u0_18 u0_19 u0_20 u0_21 u0_22 u0_23 u0_24 u0_25 u0_26 u0_27 u0_28 u0_29 u0_30 u0_31 u0_32 u0_33 u0_34 u0_35 u0_36 u0_37 u0_38 u0_39 u0_40]) (st' := []) (rest := []) E hS vlX11_137 (c_X11_fault (l := l) (D := D) (cy := cy) (q0 := q0) (u0_0 := u0_0) (u0_1 := u0_1) (u0_2 := u0_2) (u0_3 := u0_3) (u0_4 := u0_4) (u0_5 := u0_5) (u0_6 := u0_6) (u0_7 := u0_7) (u0_8 := .int v_length) (u0_9 := u0_9) (u0_10 := .int v_at) (u0_12 := u0_12) (u0_13 := u0_13) (u0_14 := u0_14) (u0_15 := u0_15) (u0_16 := u0_16) (u0_17 := u0_17) (u0_18 := u0_18) (u0_19 := u0_19) (u0_20 := u0_20) (u0_21 := u0_21) (u0_22 := u0_22) (u0_23 := u0_23) (u0_24 := u0_24) (u0_25 := u0_25) (u0_26 := u0_26) (u0_27 := u0_27) (u0_28 := u0_28) (u0_29 := u0_29) (u0_30 := u0_30) (u0_31 := u0_31) (u0_32 := u0_32) (u0_33 := u0_33) (u0_34 := u0_34) (u0_35 := u0_35) (u0_36 := u0_36) (u0_37 := u0_37) (u0_38 := u0_38) (u0_39 := u0_39) (u0_40 := u0_40) (v_wrong := v_wrong) (p1 := v_at) (r := (X11_fault v_wrong v_at)) rfl) [0] rfl rfl (fun _ => rfl) (fun _ => rfl) rfl rfl rfl rfl (Nat.le_of_ble_eq_true rfl) hl.1 (by rw [hRf]; exact Nat.le_of_ble_eq_true rfl) (by rw [hRl]; exact Nat.le_of_ble_eq_true rfl) ⟨Nat.zero_le _, Nat.zero_le _⟩ dX11_wasRight_16 rfl (fun H locs _ hS => ?_)
    exact hJ19 (X11_fault v_wrong v_at)  H locs ls h hS (lv_sub hl [0] rfl)
set_option maxHeartbeats 4000000 in
set_option maxRecDepth 100000 in
theorem c_X11_told {l : Launch} {D : va_G} {cy : Nat → ClassId} (q0 : Nat) (u0_0 : Value) (u0_1 : Value) (u0_2 : Value) (u0_3 : Value) (u0_4 : Value) (u0_5 : Value) (u0_6 : Value) (u0_7 : Value) (u0_8 : Value) (u0_9 : Value) (u0_10 : Value) (u0_11 : Value) (u0_12 : Value) (u0_13 : Value) (u0_14 : Value) (u0_15 : Value) (u0_16 : Value) (u0_17 : Value) (u0_18 : Value) (u0_20 : Value) (u0_21 : Value) (u0_22 : Value) (u0_23 : Value) (u0_24 : Value) (u0_25 : Value) (u0_26 : Value) (u0_27 : Value) (u0_28 : Value) (u0_29 : Value) (u0_30 : Value) (u0_31 : Value) (u0_32 : Value) (u0_33 : Value) (u0_34 : Value) (u0_35 : Value) (u0_36 : Value) (u0_38 : Value) (u0_39 : Value) (u0_40 : Value) (v_undoMany : Int32) (v_came : Int32) (r : Int32 × Int32) (h : X11_told v_came = r) : Ct l yX11_told cX11_told 1 none 0 0 D cy [.ref q0] [oX11 q0 u0_0 u0_1 u0_2 u0_3 u0_4 u0_5 u0_6 u0_7 u0_8 u0_9 u0_10 u0_11 u0_12 u0_13 u0_14 u0_15 u0_16 u0_17 u0_18 (.int v_undoMany) u0_20 u0_21 u0_22 u0_23 u0_24 u0_25 u0_26 u0_27 u0_28 u0_29 u0_30 u0_31 u0_32 u0_33 u0_34 u0_35 u0_36 (.int v_came) u0_38 u0_39 u0_40] (fun _ => [oX11 q0 u0_0 u0_1 u0_2 u0_3 u0_4 u0_5 u0_6 u0_7 u0_8 u0_9 u0_10 u0_11 u0_12 u0_13 u0_14 u0_15 u0_16 u0_17 u0_18 (.int r.1) u0_20 u0_21 u0_22 u0_23 u0_24 u0_25 u0_26 u0_27 u0_28 u0_29 u0_30 u0_31 u0_32 u0_33 u0_34 u0_35 u0_36 (.int r.2) u0_38 u0_39 u0_40]) (none) := by
  refine Ct.mk kX11_told (by decide +kernel) (Nat.le_of_ble_eq_true rfl) ?_
  intro p e s m below meth c A ls args R Q hRf hRl hQ E H locs hS hl
  have hx := E.x
  have hb := E.b
  have hl : lv_has ls 1 [(0, .ref q0)] := hl
  unfold X11_told at h
  refine lv_aload_n hx hb dX11_told_0 rfl (lv_at hl 0 rfl) ?_
  refine lv_iconst (v := 0) hx hb dX11_told_1 (by decide) ?_
  refine r_put (ws' := [oX11 q0 u0_0 u0_1 u0_2 u0_3 u0_4 u0_5 u0_6 u0_7 u0_8 u0_9 u0_10 u0_11 u0_12 u0_13 u0_14 u0_15 u0_16 u0_17 u0_18 (.int (0 : Int32)) u0_20 u0_21 u0_22 u0_23 u0_24 u0_25 u0_26 u0_27 u0_28 u0_29 u0_30 u0_31 u0_32 u0_33 u0_34 u0_35 u0_36 (.int v_came) u0_38 u0_39 u0_40]) E frX11_145 hS 0 rfl (Nat.le_of_ble_eq_true rfl) rfl rfl rfl rfl dX11_told_2 (fun H locs hS => ?_)
  refine lv_aload_n hx hb dX11_told_5 rfl (lv_at hl 0 rfl) ?_
  refine lv_dup hx hb dX11_told_6 rfl ?_
  refine r_get E frX11_148 hS 0 rfl rfl dX11_told_7 ?_
  refine lv_iconst (v := 1) hx hb dX11_told_10 (by decide) ?_
  refine lv_iadd hx hb dX11_told_11 ?_
  refine r_put (ws' := [oX11 q0 u0_0 u0_1 u0_2 u0_3 u0_4 u0_5 u0_6 u0_7 u0_8 u0_9 u0_10 u0_11 u0_12 u0_13 u0_14 u0_15 u0_16 u0_17 u0_18 (.int (0 : Int32)) u0_20 u0_21 u0_22 u0_23 u0_24 u0_25 u0_26 u0_27 u0_28 u0_29 u0_30 u0_31 u0_32 u0_33 u0_34 u0_35 u0_36 (.int (v_came + (1 : Int32))) u0_38 u0_39 u0_40]) E frX11_148 hS 0 rfl (Nat.le_of_ble_eq_true rfl) rfl rfl rfl rfl dX11_told_12 (fun H locs hS => ?_)
  subst h
  exact rt_v E hQ (.null) hS dX11_told_15
set_option maxHeartbeats 4000000 in
set_option maxRecDepth 100000 in
theorem c_X11_people {l : Launch} {D : va_G} {cy : Nat → ClassId} (q0 : Nat) (q1 : Nat) (q2 : Nat) (q3 : Nat) (u0_4 : Value) (u0_5 : Value) (u0_7 : Value) (u0_13 : Value) (u0_14 : Value) (u0_15 : Value) (u0_16 : Value) (u0_17 : Value) (u0_18 : Value) (u0_20 : Value) (u0_21 : Value) (u0_22 : Value) (u0_23 : Value) (u0_24 : Value) (u0_25 : Value) (u0_26 : Value) (u0_27 : Value) (u0_28 : Value) (u0_29 : Value) (u0_30 : Value) (u0_31 : Value) (u0_32 : Value) (u0_33 : Value) (u0_34 : Value) (u0_35 : Value) (u0_36 : Value) (u0_38 : Value) (u0_39 : Value) (u0_40 : Value) (v_people : Int32) (v_typed : Int32) (v_thrown : Int32) (v_length : Int32) (v_top : Int32) (v_at : Int32) (v_wrong : Int32) (v_undoMany : Int32) (v_came : Int32) (v_now : Nat → Int32) (v_text : Nat → Int32) (v_comes : Nat → Int32) (r : Int32 × Int32 × Int32 × Int32 × Int32 × Int32 × Int32 × Int32 × Int32 × Int32 × (Nat → Int32) × (Nat → Int32)) (h : X11_people v_people v_typed v_undoMany v_came v_now v_text v_comes = some r) : Ct l yX11_people cX11_people 4 (some .int) 3 63 D cy [.ref q0] [oX11 q0 (.ref q1) (.int v_people) (.ref q2) (.int v_typed) u0_4 u0_5 (.int v_thrown) u0_7 (.int v_length) (.int v_top) (.int v_at) (.int v_wrong) (.ref q3) u0_13 u0_14 u0_15 u0_16 u0_17 u0_18 (.int v_undoMany) u0_20 u0_21 u0_22 u0_23 u0_24 u0_25 u0_26 u0_27 u0_28 u0_29 u0_30 u0_31 u0_32 u0_33 u0_34 u0_35 u0_36 (.int v_came) u0_38 u0_39 u0_40, aI cy q1 37 v_now, aB cy q2 80 v_text, aI cy q3 14 v_comes] (fun _ => [oX11 q0 (.ref q1) (.int r.2.1) (.ref q2) (.int r.2.2.1) u0_4 u0_5 (.int r.2.2.2.1) (.ref q2) (.int r.2.2.2.2.1) (.int r.2.2.2.2.2.1) (.int r.2.2.2.2.2.2.1) (.int r.2.2.2.2.2.2.2.1) (.ref q3) u0_13 u0_14 u0_15 u0_16 u0_17 u0_18 (.int r.2.2.2.2.2.2.2.2.1) u0_20 u0_21 u0_22 u0_23 u0_24 u0_25 u0_26 u0_27 u0_28 u0_29 u0_30 u0_31 u0_32 u0_33 u0_34 u0_35 u0_36 (.int r.2.2.2.2.2.2.2.2.2.1) u0_38 u0_39 u0_40, aI cy q1 37 r.2.2.2.2.2.2.2.2.2.2.1, aB cy q2 80 v_text, aI cy q3 14 r.2.2.2.2.2.2.2.2.2.2.2]) (some (.int r.1)) := by
  refine Ct.mk kX11_people (by decide +kernel) (Nat.le_of_ble_eq_true rfl) ?_
  intro p e s m below meth c A ls args R Q hRf hRl hQ E H locs hS hl
  have hx := E.x
  have hb := E.b
  have hl : lv_has ls 4 [(0, .ref q0)] := hl
  unfold X11_people at h
  refine lv_aload_n hx hb dX11_people_0 rfl (lv_at hl 0 rfl) ?_
  refine lv_iconst (v := 0) hx hb dX11_people_1 (by decide) ?_
  refine r_put (ws' := [oX11 q0 (.ref q1) (.int v_people) (.ref q2) (.int v_typed) u0_4 u0_5 (.int (0 : Int32)) u0_7 (.int v_length) (.int v_top) (.int v_at) (.int v_wrong) (.ref q3) u0_13 u0_14 u0_15 u0_16 u0_17 u0_18 (.int v_undoMany) u0_20 u0_21 u0_22 u0_23 u0_24 u0_25 u0_26 u0_27 u0_28 u0_29 u0_30 u0_31 u0_32 u0_33 u0_34 u0_35 u0_36 (.int v_came) u0_38 u0_39 u0_40, aI cy q1 37 v_now, aB cy q2 80 v_text, aI cy q3 14 v_comes]) E frX11_85 hS 0 rfl (Nat.le_of_ble_eq_true rfl) rfl rfl rfl rfl dX11_people_2 (fun H locs hS => ?_)
  refine lv_aload_n hx hb dX11_people_5 rfl (lv_at hl 0 rfl) ?_
  refine lv_bipush (v := 20) hx hb dX11_people_6 (by decide) ?_
  refine ct_V (ws' := fun _ => [oX11 q0 (.ref q1) (.int v_people) (.ref q2) (.int ((X11_beginText v_typed (20 : Int32)).1)) u0_4 u0_5 (.int (0 : Int32)) (.ref q2) (.int ((X11_beginText v_typed (20 : Int32)).2.1)) (.int ((X11_beginText v_typed (20 : Int32)).2.2.1)) (.int ((X11_beginText v_typed (20 : Int32)).2.2.2.1)) (.int ((X11_beginText v_typed (20 : Int32)).2.2.2.2)) (.ref q3) u0_13 u0_14 u0_15 u0_16 u0_17 u0_18 (.int v_undoMany) u0_20 u0_21 u0_22 u0_23 u0_24 u0_25 u0_26 u0_27 u0_28 u0_29 u0_30 u0_31 u0_32 u0_33 u0_34 u0_35 u0_36 (.int v_came) u0_38 u0_39 u0_40, aI cy q1 37 v_now, aB cy q2 80 v_text, aI cy q3 14 v_comes]) (st' := []) (rest := []) E hS vlX11_151 (c_X11_beginText (l := l) (D := D) (cy := cy) (q0 := q0) (u0_0 := .ref q1) (u0_1 := .int v_people) (z0_2 := q2) (u0_4 := u0_4) (u0_5 := u0_5) (u0_6 := .int (0 : Int32)) (u0_7 := u0_7) (u0_12 := .ref q3) (u0_13 := u0_13) (u0_14 := u0_14) (u0_15 := u0_15) (u0_16 := u0_16) (u0_17 := u0_17) (u0_18 := u0_18) (u0_19 := .int v_undoMany) (u0_20 := u0_20) (u0_21 := u0_21) (u0_22 := u0_22) (u0_23 := u0_23) (u0_24 := u0_24) (u0_25 := u0_25) (u0_26 := u0_26) (u0_27 := u0_27) (u0_28 := u0_28) (u0_29 := u0_29) (u0_30 := u0_30) (u0_31 := u0_31) (u0_32 := u0_32) (u0_33 := u0_33) (u0_34 := u0_34) (u0_35 := u0_35) (u0_36 := u0_36) (u0_37 := .int v_came) (u0_38 := u0_38) (u0_39 := u0_39) (u0_40 := u0_40) (v_typed := v_typed) (v_length := v_length) (v_top := v_top) (v_at := v_at) (v_wrong := v_wrong) (p1 := (20 : Int32)) (r := (X11_beginText v_typed (20 : Int32))) rfl) [0] rfl rfl (fun _ => rfl) (fun _ => rfl) rfl rfl rfl rfl (Nat.le_of_ble_eq_true rfl) hl.1 (by rw [hRf]; exact Nat.le_of_ble_eq_true rfl) (by rw [hRl]; exact Nat.le_of_ble_eq_true rfl) ⟨Nat.zero_le _, Nat.zero_le _⟩ dX11_people_8 rfl (fun H locs _ hS => ?_)
  refine lv_aload_n hx hb dX11_people_11 rfl (lv_at hl 0 rfl) ?_
  refine r_get E frX11_109 hS 0 rfl rfl dX11_people_12 ?_
  refine lv_if_ne (tgt := 20) hx hb dX11_people_15 (by decide) (fun c1 => ?_) (fun c1 => ?_)
  · have h := it_neg c1 h
    refine lv_iconst (v := 0) hx hb dX11_people_20 (by decide) ?_
    refine lv_istore_n (lv' := [(1, .int (0 : Int32)), (0, .ref q0)]) hx hb dX11_people_21 rfl hl (by decide) rfl (fun ls hl => ?_)
    refine lv_iconst (v := 1) hx hb dX11_people_22 (by decide) ?_
    refine lv_istore_n (lv' := [(2, .int (1 : Int32)), (1, .int (0 : Int32)), (0, .ref q0)]) hx hb dX11_people_23 rfl hl (by decide) rfl (fun ls hl => ?_)
    have hL24 : ∀ (n : Nat) (x24_0 : Int32) (x24_1 : Int32) (x24_2 : Int32) (x24_3 : Int32) (x24_4 : Nat → Int32) (y24 : Int32 × Int32 × Int32 × (Nat → Int32)) (H : Heap) (locs : List Loc) (ls : Array Slot), lp (fun x24 => X11_people_s24 v_people v_typed v_text x24.1 x24.2.1 x24.2.2.1 x24.2.2.2.1 x24.2.2.2.2) n (x24_0, x24_1, x24_2, x24_3, x24_4) = some y24 → Sv D A s.heap [oX11 q0 (.ref q1) (.int v_people) (.ref q2) (.int ((X11_beginText v_typed (20 : Int32)).1)) u0_4 u0_5 (.int (0 : Int32)) (.ref q2) (.int ((X11_beginText v_typed (20 : Int32)).2.1)) (.int ((X11_beginText v_typed (20 : Int32)).2.2.1)) (.int x24_2) (.int x24_3) (.ref q3) u0_13 u0_14 u0_15 u0_16 u0_17 u0_18 (.int v_undoMany) u0_20 u0_21 u0_22 u0_23 u0_24 u0_25 u0_26 u0_27 u0_28 u0_29 u0_30 u0_31 u0_32 u0_33 u0_34 u0_35 u0_36 (.int v_came) u0_38 u0_39 u0_40, aI cy q1 37 v_now, aB cy q2 80 v_text, aI cy q3 14 x24_4] H locs → lv_has ls 4 [(0, .ref q0), (1, .int x24_0), (2, .int x24_1)] → ( ∀ (y24_0 : Int32) (y24_1 : Int32) (y24_2 : Int32) (y24_3 : Nat → Int32), (y24_0, y24_1, y24_2, y24_3) = y24 → ∀ (H : Heap) (locs : List Loc) (ls : Array Slot), Sv D A s.heap [oX11 q0 (.ref q1) (.int v_people) (.ref q2) (.int ((X11_beginText v_typed (20 : Int32)).1)) u0_4 u0_5 (.int (0 : Int32)) (.ref q2) (.int ((X11_beginText v_typed (20 : Int32)).2.1)) (.int ((X11_beginText v_typed (20 : Int32)).2.2.1)) (.int y24_1) (.int y24_2) (.ref q3) u0_13 u0_14 u0_15 u0_16 u0_17 u0_18 (.int v_undoMany) u0_20 u0_21 u0_22 u0_23 u0_24 u0_25 u0_26 u0_27 u0_28 u0_29 u0_30 u0_31 u0_32 u0_33 u0_34 u0_35 u0_36 (.int v_came) u0_38 u0_39 u0_40, aI cy q1 37 v_now, aB cy q2 80 v_text, aI cy q3 14 y24_3] H locs → lv_has ls 4 [(0, .ref q0), (1, .int y24_0)] → W p l e R s m args below meth c H locs 0 0 Q (F0 m 104 ls [])) → W p l e R s m args below meth c H locs 0 0 Q (F0 m 24 ls []) := by
      intro n
      induction n with
      | zero =>
        intro x24_0 x24_1 x24_2 x24_3 x24_4 y24 H locs ls h
        exact lp_zero h
      | succ n ih24 =>
        intro x24_0 x24_1 x24_2 x24_3 x24_4 y24 H locs ls h hS hl hk24_0
        obtain ⟨z24, h, hz24a, hz24b⟩ := lp_succ h
        have h : X11_people_s24 v_people v_typed v_text x24_0 x24_1 x24_2 x24_3 x24_4 = some z24 := h
        unfold X11_people_s24 at h
        refine lv_iload_n hx hb dX11_people_24 rfl (lv_at hl 2 rfl) ?_
        refine lv_if_eq (tgt := 104) hx hb dX11_people_25 (by decide) (fun c2 => ?_) (fun c2 => ?_)
        · have h := it_pos c2 h
          exact hk24_0 x24_0 x24_2 x24_3 x24_4 (hz24b _ (Option.some.inj h).symm)  H locs ls hS (lv_sub hl [0, 1] rfl)
        · have h := it_neg c2 h
          refine lv_aload_n hx hb dX11_people_28 rfl (lv_at hl 0 rfl) ?_
          refine ct_V (ws' := fun _ => [oX11 q0 (.ref q1) (.int v_people) (.ref q2) (.int ((X11_beginText v_typed (20 : Int32)).1)) u0_4 u0_5 (.int (0 : Int32)) (.ref q2) (.int ((X11_beginText v_typed (20 : Int32)).2.1)) (.int ((X11_beginText v_typed (20 : Int32)).2.2.1)) (.int x24_2) (.int x24_3) (.ref q3) u0_13 u0_14 u0_15 u0_16 u0_17 u0_18 (.int v_undoMany) u0_20 u0_21 u0_22 u0_23 u0_24 u0_25 u0_26 u0_27 u0_28 u0_29 u0_30 u0_31 u0_32 u0_33 u0_34 u0_35 u0_36 (.int v_came) u0_38 u0_39 u0_40, aI cy q1 37 v_now, aB cy q2 80 v_text, aI cy q3 14 x24_4]) (st' := [.int (X11_fine x24_3)]) (rest := []) E hS vlX11_125 (c_X11_fine (l := l) (D := D) (cy := cy) (q0 := q0) (u0_0 := .ref q1) (u0_1 := .int v_people) (u0_2 := .ref q2) (u0_3 := .int ((X11_beginText v_typed (20 : Int32)).1)) (u0_4 := u0_4) (u0_5 := u0_5) (u0_6 := .int (0 : Int32)) (u0_7 := .ref q2) (u0_8 := .int ((X11_beginText v_typed (20 : Int32)).2.1)) (u0_9 := .int ((X11_beginText v_typed (20 : Int32)).2.2.1)) (u0_10 := .int x24_2) (u0_12 := .ref q3) (u0_13 := u0_13) (u0_14 := u0_14) (u0_15 := u0_15) (u0_16 := u0_16) (u0_17 := u0_17) (u0_18 := u0_18) (u0_19 := .int v_undoMany) (u0_20 := u0_20) (u0_21 := u0_21) (u0_22 := u0_22) (u0_23 := u0_23) (u0_24 := u0_24) (u0_25 := u0_25) (u0_26 := u0_26) (u0_27 := u0_27) (u0_28 := u0_28) (u0_29 := u0_29) (u0_30 := u0_30) (u0_31 := u0_31) (u0_32 := u0_32) (u0_33 := u0_33) (u0_34 := u0_34) (u0_35 := u0_35) (u0_36 := u0_36) (u0_37 := .int v_came) (u0_38 := u0_38) (u0_39 := u0_39) (u0_40 := u0_40) (v_wrong := x24_3) (r := (X11_fine x24_3)) rfl) [0] rfl rfl (fun _ => rfl) (fun _ => rfl) rfl rfl rfl rfl (Nat.le_of_ble_eq_true rfl) hl.1 (by rw [hRf]; exact Nat.le_of_ble_eq_true rfl) (by rw [hRl]; exact Nat.le_of_ble_eq_true rfl) ⟨Nat.zero_le _, Nat.zero_le _⟩ dX11_people_29 rfl (fun H locs _ hS => ?_)
          refine lv_if_eq (tgt := 104) hx hb dX11_people_32 (by decide) (fun c3 => ?_) (fun c3 => ?_)
          · have h := it_pos c3 h
            exact hk24_0 x24_0 x24_2 x24_3 x24_4 (hz24b _ (Option.some.inj h).symm)  H locs ls hS (lv_sub hl [0, 1] rfl)
          · have h := it_neg c3 h
            refine lv_aload_n hx hb dX11_people_35 rfl (lv_at hl 0 rfl) ?_
            refine r_get E frX11_92 hS 0 rfl rfl dX11_people_36 ?_
            refine lv_iload_n hx hb dX11_people_39 rfl (lv_at hl 1 rfl) ?_
            refine lv_iadd hx hb dX11_people_40 ?_
            refine lv_bipush (v := 7) hx hb dX11_people_41 (by decide) ?_
            have hJ91 : ∀ (j91_v_at : Int32) (j91_v_wrong : Int32) (j91_v_comes : Nat → Int32) (H : Heap) (locs : List Loc) (ls : Array Slot), X11_people_k91 v_typed v_text x24_0 j91_v_at j91_v_wrong j91_v_comes = some z24 → Sv D A s.heap [oX11 q0 (.ref q1) (.int v_people) (.ref q2) (.int ((X11_beginText v_typed (20 : Int32)).1)) u0_4 u0_5 (.int (0 : Int32)) (.ref q2) (.int ((X11_beginText v_typed (20 : Int32)).2.1)) (.int ((X11_beginText v_typed (20 : Int32)).2.2.1)) (.int j91_v_at) (.int j91_v_wrong) (.ref q3) u0_13 u0_14 u0_15 u0_16 u0_17 u0_18 (.int v_undoMany) u0_20 u0_21 u0_22 u0_23 u0_24 u0_25 u0_26 u0_27 u0_28 u0_29 u0_30 u0_31 u0_32 u0_33 u0_34 u0_35 u0_36 (.int v_came) u0_38 u0_39 u0_40, aI cy q1 37 v_now, aB cy q2 80 v_text, aI cy q3 14 j91_v_comes] H locs → lv_has ls 4 [(0, .ref q0), (1, .int x24_0)] → W p l e R s m args below meth c H locs 0 0 Q (F0 m 91 ls []) := by
              intro j91_v_at j91_v_wrong j91_v_comes H locs ls h hS hl
              unfold X11_people_k91 at h
              refine lv_iinc (v := (x24_0 + (1 : Int32))) (lv' := [(1, .int (x24_0 + (1 : Int32))), (0, .ref q0)]) hx hb dX11_people_91 hl (k := 1) rfl rfl (by decide) rfl (fun ls hl => ?_)
              refine lv_aload_n hx hb dX11_people_94 rfl (lv_at hl 1 rfl) ?_
              refine lv_bipush (v := 59) hx hb dX11_people_95 (by decide) ?_
              obtain ⟨y97, e4, h⟩ := bd_some h
              refine ct_V (ws' := fun _ => [oX11 q0 (.ref q1) (.int v_people) (.ref q2) (.int ((X11_beginText v_typed (20 : Int32)).1)) u0_4 u0_5 (.int (0 : Int32)) (.ref q2) (.int ((X11_beginText v_typed (20 : Int32)).2.1)) (.int ((X11_beginText v_typed (20 : Int32)).2.2.1)) (.int y97.2) (.int j91_v_wrong) (.ref q3) u0_13 u0_14 u0_15 u0_16 u0_17 u0_18 (.int v_undoMany) u0_20 u0_21 u0_22 u0_23 u0_24 u0_25 u0_26 u0_27 u0_28 u0_29 u0_30 u0_31 u0_32 u0_33 u0_34 u0_35 u0_36 (.int v_came) u0_38 u0_39 u0_40, aI cy q1 37 v_now, aB cy q2 80 v_text, aI cy q3 14 j91_v_comes]) (st' := [.int y97.1]) (rest := []) E hS vlX11_133 (c_X11_passes (l := l) (D := D) (cy := cy) (q0 := q0) (q1 := q2) (u0_0 := .ref q1) (u0_1 := .int v_people) (u0_2 := .ref q2) (u0_3 := .int ((X11_beginText v_typed (20 : Int32)).1)) (u0_4 := u0_4) (u0_5 := u0_5) (u0_6 := .int (0 : Int32)) (u0_12 := .ref q3) (u0_13 := u0_13) (u0_14 := u0_14) (u0_15 := u0_15) (u0_16 := u0_16) (u0_17 := u0_17) (u0_18 := u0_18) (u0_19 := .int v_undoMany) (u0_20 := u0_20) (u0_21 := u0_21) (u0_22 := u0_22) (u0_23 := u0_23) (u0_24 := u0_24) (u0_25 := u0_25) (u0_26 := u0_26) (u0_27 := u0_27) (u0_28 := u0_28) (u0_29 := u0_29) (u0_30 := u0_30) (u0_31 := u0_31) (u0_32 := u0_32) (u0_33 := u0_33) (u0_34 := u0_34) (u0_35 := u0_35) (u0_36 := u0_36) (u0_37 := .int v_came) (u0_38 := u0_38) (u0_39 := u0_39) (u0_40 := u0_40) (v_length := (X11_beginText v_typed (20 : Int32)).2.1) (v_top := (X11_beginText v_typed (20 : Int32)).2.2.1) (v_at := j91_v_at) (v_wrong := j91_v_wrong) (nv_read := 80) (v_read := v_text) (p1 := (59 : Int32)) (r := y97) e4) [0, 2] rfl rfl (fun _ => rfl) (fun _ => rfl) rfl rfl rfl rfl (Nat.le_of_ble_eq_true rfl) hl.1 (by rw [hRf]; exact Nat.le_of_ble_eq_true rfl) (by rw [hRl]; exact Nat.le_of_ble_eq_true rfl) ⟨Nat.zero_le _, Nat.zero_le _⟩ dX11_people_97 rfl (fun H locs _ hS => ?_)
              refine lv_istore_n (lv' := [(2, .int y97.1), (1, .int (x24_0 + (1 : Int32))), (0, .ref q0)]) hx hb dX11_people_100 rfl hl (by decide) rfl (fun ls hl => ?_)
              refine lv_goto (tgt := 24) hx hb dX11_people_101 (by decide) ?_
              exact ih24 (x24_0 + (1 : Int32)) y97.1 y97.2 j91_v_wrong j91_v_comes y24  H locs ls (hz24a _ (Option.some.inj h).symm) hS (lv_sub hl [2, 1, 0] rfl) hk24_0
            refine lv_icmp_ne (tgt := 57) hx hb dX11_people_43 (by decide) (fun c5 => ?_) (fun c5 => ?_)
            · have h := it_neg c5 h
              refine lv_aload_n hx hb dX11_people_57 rfl (lv_at hl 0 rfl) ?_
              refine r_get E frX11_21 hS 0 rfl rfl dX11_people_58 ?_
              refine lv_iconst (v := 2) hx hb dX11_people_61 (by decide) ?_
              refine lv_iload_n hx hb dX11_people_62 rfl (lv_at hl 1 rfl) ?_
              refine lv_imul hx hb dX11_people_63 ?_
              refine lv_aload_n hx hb dX11_people_64 rfl (lv_at hl 0 rfl) ?_
              refine lv_bipush (v := 48) hx hb dX11_people_65 (by decide) ?_
              refine lv_bipush (v := 10) hx hb dX11_people_67 (by decide) ?_
              obtain ⟨y69, e6, h⟩ := bd_some h
              refine ct_V (ws' := fun _ => [oX11 q0 (.ref q1) (.int v_people) (.ref q2) (.int ((X11_beginText v_typed (20 : Int32)).1)) u0_4 u0_5 (.int (0 : Int32)) (.ref q2) (.int ((X11_beginText v_typed (20 : Int32)).2.1)) (.int ((X11_beginText v_typed (20 : Int32)).2.2.1)) (.int y69.2.1) (.int y69.2.2) (.ref q3) u0_13 u0_14 u0_15 u0_16 u0_17 u0_18 (.int v_undoMany) u0_20 u0_21 u0_22 u0_23 u0_24 u0_25 u0_26 u0_27 u0_28 u0_29 u0_30 u0_31 u0_32 u0_33 u0_34 u0_35 u0_36 (.int v_came) u0_38 u0_39 u0_40, aI cy q1 37 v_now, aB cy q2 80 v_text, aI cy q3 14 x24_4]) (st' := [.int y69.1, .int ((2 : Int32) * x24_0), .ref q3]) (rest := [.int ((2 : Int32) * x24_0), .ref q3]) E hS vlX11_141 (c_X11_oneOf (l := l) (D := D) (cy := cy) (q0 := q0) (q1 := q2) (u0_0 := .ref q1) (u0_1 := .int v_people) (u0_2 := .ref q2) (u0_3 := .int ((X11_beginText v_typed (20 : Int32)).1)) (u0_4 := u0_4) (u0_5 := u0_5) (u0_6 := .int (0 : Int32)) (u0_12 := .ref q3) (u0_13 := u0_13) (u0_14 := u0_14) (u0_15 := u0_15) (u0_16 := u0_16) (u0_17 := u0_17) (u0_18 := u0_18) (u0_19 := .int v_undoMany) (u0_20 := u0_20) (u0_21 := u0_21) (u0_22 := u0_22) (u0_23 := u0_23) (u0_24 := u0_24) (u0_25 := u0_25) (u0_26 := u0_26) (u0_27 := u0_27) (u0_28 := u0_28) (u0_29 := u0_29) (u0_30 := u0_30) (u0_31 := u0_31) (u0_32 := u0_32) (u0_33 := u0_33) (u0_34 := u0_34) (u0_35 := u0_35) (u0_36 := u0_36) (u0_37 := .int v_came) (u0_38 := u0_38) (u0_39 := u0_39) (u0_40 := u0_40) (v_length := (X11_beginText v_typed (20 : Int32)).2.1) (v_top := (X11_beginText v_typed (20 : Int32)).2.2.1) (v_at := x24_2) (v_wrong := x24_3) (nv_read := 80) (v_read := v_text) (p1 := (48 : Int32)) (p2 := (10 : Int32)) (r := y69) e6) [0, 2] rfl rfl (fun _ => rfl) (fun _ => rfl) rfl rfl rfl rfl (Nat.le_of_ble_eq_true rfl) hl.1 (by rw [hRf]; exact Nat.le_of_ble_eq_true rfl) (by rw [hRl]; exact Nat.le_of_ble_eq_true rfl) ⟨Nat.zero_le _, Nat.zero_le _⟩ dX11_people_69 rfl (fun H locs _ hS => ?_)
              obtain ⟨g7, h⟩ := gi_some h
              refine r_iast (ws' := [oX11 q0 (.ref q1) (.int v_people) (.ref q2) (.int ((X11_beginText v_typed (20 : Int32)).1)) u0_4 u0_5 (.int (0 : Int32)) (.ref q2) (.int ((X11_beginText v_typed (20 : Int32)).2.1)) (.int ((X11_beginText v_typed (20 : Int32)).2.2.1)) (.int y69.2.1) (.int y69.2.2) (.ref q3) u0_13 u0_14 u0_15 u0_16 u0_17 u0_18 (.int v_undoMany) u0_20 u0_21 u0_22 u0_23 u0_24 u0_25 u0_26 u0_27 u0_28 u0_29 u0_30 u0_31 u0_32 u0_33 u0_34 u0_35 u0_36 (.int v_came) u0_38 u0_39 u0_40, aI cy q1 37 v_now, aB cy q2 80 v_text, aI cy q3 14 (upd x24_4 ((2 : Int32) * x24_0).toNatClampNeg y69.1)]) E hS 3 rfl g7 rfl dX11_people_72 (fun H locs hS => ?_)
              refine lv_aload_n hx hb dX11_people_73 rfl (lv_at hl 0 rfl) ?_
              refine r_get E frX11_21 hS 0 rfl rfl dX11_people_74 ?_
              refine lv_iconst (v := 2) hx hb dX11_people_77 (by decide) ?_
              refine lv_iload_n hx hb dX11_people_78 rfl (lv_at hl 1 rfl) ?_
              refine lv_imul hx hb dX11_people_79 ?_
              refine lv_iconst (v := 1) hx hb dX11_people_80 (by decide) ?_
              refine lv_iadd hx hb dX11_people_81 ?_
              refine lv_aload_n hx hb dX11_people_82 rfl (lv_at hl 0 rfl) ?_
              refine lv_bipush (v := 48) hx hb dX11_people_83 (by decide) ?_
              refine lv_bipush (v := 10) hx hb dX11_people_85 (by decide) ?_
              obtain ⟨y87, e8, h⟩ := bd_some h
              refine ct_V (ws' := fun _ => [oX11 q0 (.ref q1) (.int v_people) (.ref q2) (.int ((X11_beginText v_typed (20 : Int32)).1)) u0_4 u0_5 (.int (0 : Int32)) (.ref q2) (.int ((X11_beginText v_typed (20 : Int32)).2.1)) (.int ((X11_beginText v_typed (20 : Int32)).2.2.1)) (.int y87.2.1) (.int y87.2.2) (.ref q3) u0_13 u0_14 u0_15 u0_16 u0_17 u0_18 (.int v_undoMany) u0_20 u0_21 u0_22 u0_23 u0_24 u0_25 u0_26 u0_27 u0_28 u0_29 u0_30 u0_31 u0_32 u0_33 u0_34 u0_35 u0_36 (.int v_came) u0_38 u0_39 u0_40, aI cy q1 37 v_now, aB cy q2 80 v_text, aI cy q3 14 (upd x24_4 ((2 : Int32) * x24_0).toNatClampNeg y69.1)]) (st' := [.int y87.1, .int (((2 : Int32) * x24_0) + (1 : Int32)), .ref q3]) (rest := [.int (((2 : Int32) * x24_0) + (1 : Int32)), .ref q3]) E hS vlX11_141 (c_X11_oneOf (l := l) (D := D) (cy := cy) (q0 := q0) (q1 := q2) (u0_0 := .ref q1) (u0_1 := .int v_people) (u0_2 := .ref q2) (u0_3 := .int ((X11_beginText v_typed (20 : Int32)).1)) (u0_4 := u0_4) (u0_5 := u0_5) (u0_6 := .int (0 : Int32)) (u0_12 := .ref q3) (u0_13 := u0_13) (u0_14 := u0_14) (u0_15 := u0_15) (u0_16 := u0_16) (u0_17 := u0_17) (u0_18 := u0_18) (u0_19 := .int v_undoMany) (u0_20 := u0_20) (u0_21 := u0_21) (u0_22 := u0_22) (u0_23 := u0_23) (u0_24 := u0_24) (u0_25 := u0_25) (u0_26 := u0_26) (u0_27 := u0_27) (u0_28 := u0_28) (u0_29 := u0_29) (u0_30 := u0_30) (u0_31 := u0_31) (u0_32 := u0_32) (u0_33 := u0_33) (u0_34 := u0_34) (u0_35 := u0_35) (u0_36 := u0_36) (u0_37 := .int v_came) (u0_38 := u0_38) (u0_39 := u0_39) (u0_40 := u0_40) (v_length := (X11_beginText v_typed (20 : Int32)).2.1) (v_top := (X11_beginText v_typed (20 : Int32)).2.2.1) (v_at := y69.2.1) (v_wrong := y69.2.2) (nv_read := 80) (v_read := v_text) (p1 := (48 : Int32)) (p2 := (10 : Int32)) (r := y87) e8) [0, 2] rfl rfl (fun _ => rfl) (fun _ => rfl) rfl rfl rfl rfl (Nat.le_of_ble_eq_true rfl) hl.1 (by rw [hRf]; exact Nat.le_of_ble_eq_true rfl) (by rw [hRl]; exact Nat.le_of_ble_eq_true rfl) ⟨Nat.zero_le _, Nat.zero_le _⟩ dX11_people_87 rfl (fun H locs _ hS => ?_)
              obtain ⟨g9, h⟩ := gi_some h
              refine r_iast (ws' := [oX11 q0 (.ref q1) (.int v_people) (.ref q2) (.int ((X11_beginText v_typed (20 : Int32)).1)) u0_4 u0_5 (.int (0 : Int32)) (.ref q2) (.int ((X11_beginText v_typed (20 : Int32)).2.1)) (.int ((X11_beginText v_typed (20 : Int32)).2.2.1)) (.int y87.2.1) (.int y87.2.2) (.ref q3) u0_13 u0_14 u0_15 u0_16 u0_17 u0_18 (.int v_undoMany) u0_20 u0_21 u0_22 u0_23 u0_24 u0_25 u0_26 u0_27 u0_28 u0_29 u0_30 u0_31 u0_32 u0_33 u0_34 u0_35 u0_36 (.int v_came) u0_38 u0_39 u0_40, aI cy q1 37 v_now, aB cy q2 80 v_text, aI cy q3 14 (upd (upd x24_4 ((2 : Int32) * x24_0).toNatClampNeg y69.1) (((2 : Int32) * x24_0) + (1 : Int32)).toNatClampNeg y87.1)]) E hS 3 rfl g9 rfl dX11_people_90 (fun H locs hS => ?_)
              exact hJ91 y87.2.1 y87.2.2 (upd (upd x24_4 ((2 : Int32) * x24_0).toNatClampNeg y69.1) (((2 : Int32) * x24_0) + (1 : Int32)).toNatClampNeg y87.1)  H locs ls h hS (lv_sub hl [0, 1] rfl)
            · have h := it_pos c5 h
              refine lv_aload_n hx hb dX11_people_46 rfl (lv_at hl 0 rfl) ?_
              refine lv_aload_n hx hb dX11_people_47 rfl (lv_at hl 0 rfl) ?_
              refine r_get E frX11_115 hS 0 rfl rfl dX11_people_48 ?_
              refine ct_V (ws' := fun _ => [oX11 q0 (.ref q1) (.int v_people) (.ref q2) (.int ((X11_beginText v_typed (20 : Int32)).1)) u0_4 u0_5 (.int (0 : Int32)) (.ref q2) (.int ((X11_beginText v_typed (20 : Int32)).2.1)) (.int ((X11_beginText v_typed (20 : Int32)).2.2.1)) (.int x24_2) (.int (X11_fault x24_3 x24_2)) (.ref q3) u0_13 u0_14 u0_15 u0_16 u0_17 u0_18 (.int v_undoMany) u0_20 u0_21 u0_22 u0_23 u0_24 u0_25 u0_26 u0_27 u0_28 u0_29 u0_30 u0_31 u0_32 u0_33 u0_34 u0_35 u0_36 (.int v_came) u0_38 u0_39 u0_40, aI cy q1 37 v_now, aB cy q2 80 v_text, aI cy q3 14 x24_4]) (st' := []) (rest := []) E hS vlX11_137 (c_X11_fault (l := l) (D := D) (cy := cy) (q0 := q0) (u0_0 := .ref q1) (u0_1 := .int v_people) (u0_2 := .ref q2) (u0_3 := .int ((X11_beginText v_typed (20 : Int32)).1)) (u0_4 := u0_4) (u0_5 := u0_5) (u0_6 := .int (0 : Int32)) (u0_7 := .ref q2) (u0_8 := .int ((X11_beginText v_typed (20 : Int32)).2.1)) (u0_9 := .int ((X11_beginText v_typed (20 : Int32)).2.2.1)) (u0_10 := .int x24_2) (u0_12 := .ref q3) (u0_13 := u0_13) (u0_14 := u0_14) (u0_15 := u0_15) (u0_16 := u0_16) (u0_17 := u0_17) (u0_18 := u0_18) (u0_19 := .int v_undoMany) (u0_20 := u0_20) (u0_21 := u0_21) (u0_22 := u0_22) (u0_23 := u0_23) (u0_24 := u0_24) (u0_25 := u0_25) (u0_26 := u0_26) (u0_27 := u0_27) (u0_28 := u0_28) (u0_29 := u0_29) (u0_30 := u0_30) (u0_31 := u0_31) (u0_32 := u0_32) (u0_33 := u0_33) (u0_34 := u0_34) (u0_35 := u0_35) (u0_36 := u0_36) (u0_37 := .int v_came) (u0_38 := u0_38) (u0_39 := u0_39) (u0_40 := u0_40) (v_wrong := x24_3) (p1 := x24_2) (r := (X11_fault x24_3 x24_2)) rfl) [0] rfl rfl (fun _ => rfl) (fun _ => rfl) rfl rfl rfl rfl (Nat.le_of_ble_eq_true rfl) hl.1 (by rw [hRf]; exact Nat.le_of_ble_eq_true rfl) (by rw [hRl]; exact Nat.le_of_ble_eq_true rfl) ⟨Nat.zero_le _, Nat.zero_le _⟩ dX11_people_51 rfl (fun H locs _ hS => ?_)
              refine lv_goto (tgt := 91) hx hb dX11_people_54 (by decide) ?_
              exact hJ91 x24_2 (X11_fault x24_3 x24_2) x24_4  H locs ls h hS (lv_sub hl [0, 1] rfl)
    obtain ⟨y24, e24, h⟩ := bd_some h
    refine hL24 1000 (0 : Int32) (1 : Int32) ((X11_beginText v_typed (20 : Int32)).2.2.2.1) ((X11_beginText v_typed (20 : Int32)).2.2.2.2) v_comes y24  H locs ls e24 hS (lv_sub hl [2, 1, 0] rfl) (fun y24_0 y24_1 y24_2 y24_3 ey24 H locs ls hS hl => ?_)
    subst ey24
    have h := un_r h
    have h := un_r h
    have h := un_r h
    refine lv_aload_n hx hb dX11_people_104 rfl (lv_at hl 0 rfl) ?_
    obtain ⟨y105, e10, h⟩ := bd_some h
    refine ct_V (ws' := fun _ => [oX11 q0 (.ref q1) (.int v_people) (.ref q2) (.int ((X11_beginText v_typed (20 : Int32)).1)) u0_4 u0_5 (.int (0 : Int32)) (.ref q2) (.int ((X11_beginText v_typed (20 : Int32)).2.1)) (.int ((X11_beginText v_typed (20 : Int32)).2.2.1)) (.int y24_1) (.int y105.2) (.ref q3) u0_13 u0_14 u0_15 u0_16 u0_17 u0_18 (.int v_undoMany) u0_20 u0_21 u0_22 u0_23 u0_24 u0_25 u0_26 u0_27 u0_28 u0_29 u0_30 u0_31 u0_32 u0_33 u0_34 u0_35 u0_36 (.int v_came) u0_38 u0_39 u0_40, aI cy q1 37 v_now, aB cy q2 80 v_text, aI cy q3 14 y24_3]) (st' := [.int y105.1]) (rest := []) E hS vlX11_154 (c_X11_wasRight (l := l) (D := D) (cy := cy) (q0 := q0) (u0_0 := .ref q1) (u0_1 := .int v_people) (u0_2 := .ref q2) (u0_3 := .int ((X11_beginText v_typed (20 : Int32)).1)) (u0_4 := u0_4) (u0_5 := u0_5) (u0_6 := .int (0 : Int32)) (u0_7 := .ref q2) (u0_9 := .int ((X11_beginText v_typed (20 : Int32)).2.2.1)) (u0_12 := .ref q3) (u0_13 := u0_13) (u0_14 := u0_14) (u0_15 := u0_15) (u0_16 := u0_16) (u0_17 := u0_17) (u0_18 := u0_18) (u0_19 := .int v_undoMany) (u0_20 := u0_20) (u0_21 := u0_21) (u0_22 := u0_22) (u0_23 := u0_23) (u0_24 := u0_24) (u0_25 := u0_25) (u0_26 := u0_26) (u0_27 := u0_27) (u0_28 := u0_28) (u0_29 := u0_29) (u0_30 := u0_30) (u0_31 := u0_31) (u0_32 := u0_32) (u0_33 := u0_33) (u0_34 := u0_34) (u0_35 := u0_35) (u0_36 := u0_36) (u0_37 := .int v_came) (u0_38 := u0_38) (u0_39 := u0_39) (u0_40 := u0_40) (v_length := (X11_beginText v_typed (20 : Int32)).2.1) (v_at := y24_1) (v_wrong := y24_2) (r := y105) e10) [0] rfl rfl (fun _ => rfl) (fun _ => rfl) rfl rfl rfl rfl (Nat.le_of_ble_eq_true rfl) hl.1 (by rw [hRf]; exact Nat.le_of_ble_eq_true rfl) (by rw [hRl]; exact Nat.le_of_ble_eq_true rfl) ⟨Nat.zero_le _, Nat.zero_le _⟩ dX11_people_105 rfl (fun H locs _ hS => ?_)
    refine lv_if_ne (tgt := 118) hx hb dX11_people_108 (by decide) (fun c11 => ?_) (fun c11 => ?_)
    · have h := it_neg c11 h
      refine lv_iconst (v := 0) hx hb dX11_people_118 (by decide) ?_
      refine lv_istore_n (lv' := [(3, .int (0 : Int32)), (0, .ref q0), (1, .int y24_0)]) hx hb dX11_people_119 rfl hl (by decide) rfl (fun ls hl => ?_)
      have hL120 : ∀ (n : Nat) (x120_0 : Int32) (x120_1 : Int32) (x120_2 : Nat → Int32) (y120 : Int32 × (Nat → Int32)) (H : Heap) (locs : List Loc) (ls : Array Slot), lp (fun x120 => X11_people_s120 y24_0 y24_3 x120.1 x120.2.1 x120.2.2) n (x120_0, x120_1, x120_2) = some y120 → Sv D A s.heap [oX11 q0 (.ref q1) (.int x120_1) (.ref q2) (.int ((X11_beginText v_typed (20 : Int32)).1)) u0_4 u0_5 (.int (0 : Int32)) (.ref q2) (.int ((X11_beginText v_typed (20 : Int32)).2.1)) (.int ((X11_beginText v_typed (20 : Int32)).2.2.1)) (.int y24_1) (.int y105.2) (.ref q3) u0_13 u0_14 u0_15 u0_16 u0_17 u0_18 (.int v_undoMany) u0_20 u0_21 u0_22 u0_23 u0_24 u0_25 u0_26 u0_27 u0_28 u0_29 u0_30 u0_31 u0_32 u0_33 u0_34 u0_35 u0_36 (.int v_came) u0_38 u0_39 u0_40, aI cy q1 37 x120_2, aB cy q2 80 v_text, aI cy q3 14 y24_3] H locs → lv_has ls 4 [(0, .ref q0), (1, .int y24_0), (3, .int x120_0)] → ( ∀ (y120_0 : Int32) (y120_1 : Nat → Int32), (y120_0, y120_1) = y120 → ∀ (H : Heap) (locs : List Loc) (ls : Array Slot), Sv D A s.heap [oX11 q0 (.ref q1) (.int y120_0) (.ref q2) (.int ((X11_beginText v_typed (20 : Int32)).1)) u0_4 u0_5 (.int (0 : Int32)) (.ref q2) (.int ((X11_beginText v_typed (20 : Int32)).2.1)) (.int ((X11_beginText v_typed (20 : Int32)).2.2.1)) (.int y24_1) (.int y105.2) (.ref q3) u0_13 u0_14 u0_15 u0_16 u0_17 u0_18 (.int v_undoMany) u0_20 u0_21 u0_22 u0_23 u0_24 u0_25 u0_26 u0_27 u0_28 u0_29 u0_30 u0_31 u0_32 u0_33 u0_34 u0_35 u0_36 (.int v_came) u0_38 u0_39 u0_40, aI cy q1 37 y120_1, aB cy q2 80 v_text, aI cy q3 14 y24_3] H locs → lv_has ls 4 [(0, .ref q0), (1, .int y24_0)] → W p l e R s m args below meth c H locs 0 0 Q (F0 m 219 ls [])) → W p l e R s m args below meth c H locs 0 0 Q (F0 m 120 ls []) := by
        intro n
        induction n with
        | zero =>
          intro x120_0 x120_1 x120_2 y120 H locs ls h
          exact lp_zero h
        | succ n ih120 =>
          intro x120_0 x120_1 x120_2 y120 H locs ls h hS hl hk120_0
          obtain ⟨z120, h, hz120a, hz120b⟩ := lp_succ h
          have h : X11_people_s120 y24_0 y24_3 x120_0 x120_1 x120_2 = some z120 := h
          unfold X11_people_s120 at h
          refine lv_iload_n hx hb dX11_people_120 rfl (lv_at hl 2 rfl) ?_
          refine lv_iload_n hx hb dX11_people_121 rfl (lv_at hl 1 rfl) ?_
          refine lv_icmp_ge (tgt := 219) hx hb dX11_people_122 (by decide) (fun c12 => ?_) (fun c12 => ?_)
          · have h := it_pos c12 h
            exact hk120_0 x120_1 x120_2 (hz120b _ (Option.some.inj h).symm)  H locs ls hS (lv_sub hl [0, 1] rfl)
          · have h := it_neg c12 h
            refine lv_aload_n hx hb dX11_people_125 rfl (lv_at hl 0 rfl) ?_
            refine r_get E frX11_9 hS 0 rfl rfl dX11_people_126 ?_
            refine lv_aload_n hx hb dX11_people_129 rfl (lv_at hl 0 rfl) ?_
            refine r_get E frX11_92 hS 0 rfl rfl dX11_people_130 ?_
            refine lv_aload_n hx hb dX11_people_133 rfl (lv_at hl 0 rfl) ?_
            refine r_get E frX11_21 hS 0 rfl rfl dX11_people_134 ?_
            refine lv_iconst (v := 2) hx hb dX11_people_137 (by decide) ?_
            refine lv_iload_n hx hb dX11_people_138 rfl (lv_at hl 2 rfl) ?_
            refine lv_imul hx hb dX11_people_139 ?_
            obtain ⟨g13, h⟩ := gi_some h
            refine r_iald E hS 3 rfl g13 dX11_people_140 ?_
            obtain ⟨g14, h⟩ := gi_some h
            refine r_iast (ws' := [oX11 q0 (.ref q1) (.int x120_1) (.ref q2) (.int ((X11_beginText v_typed (20 : Int32)).1)) u0_4 u0_5 (.int (0 : Int32)) (.ref q2) (.int ((X11_beginText v_typed (20 : Int32)).2.1)) (.int ((X11_beginText v_typed (20 : Int32)).2.2.1)) (.int y24_1) (.int y105.2) (.ref q3) u0_13 u0_14 u0_15 u0_16 u0_17 u0_18 (.int v_undoMany) u0_20 u0_21 u0_22 u0_23 u0_24 u0_25 u0_26 u0_27 u0_28 u0_29 u0_30 u0_31 u0_32 u0_33 u0_34 u0_35 u0_36 (.int v_came) u0_38 u0_39 u0_40, aI cy q1 37 (upd x120_2 x120_1.toNatClampNeg (y24_3 ((2 : Int32) * x120_0).toNatClampNeg)), aB cy q2 80 v_text, aI cy q3 14 y24_3]) E hS 1 rfl g14 rfl dX11_people_141 (fun H locs hS => ?_)
            refine lv_aload_n hx hb dX11_people_142 rfl (lv_at hl 0 rfl) ?_
            refine r_get E frX11_9 hS 0 rfl rfl dX11_people_143 ?_
            refine lv_bipush (v := 7) hx hb dX11_people_146 (by decide) ?_
            refine lv_aload_n hx hb dX11_people_148 rfl (lv_at hl 0 rfl) ?_
            refine r_get E frX11_92 hS 0 rfl rfl dX11_people_149 ?_
            refine lv_iadd hx hb dX11_people_152 ?_
            refine lv_aload_n hx hb dX11_people_153 rfl (lv_at hl 0 rfl) ?_
            refine r_get E frX11_21 hS 0 rfl rfl dX11_people_154 ?_
            refine lv_iconst (v := 2) hx hb dX11_people_157 (by decide) ?_
            refine lv_iload_n hx hb dX11_people_158 rfl (lv_at hl 2 rfl) ?_
            refine lv_imul hx hb dX11_people_159 ?_
            refine lv_iconst (v := 1) hx hb dX11_people_160 (by decide) ?_
            refine lv_iadd hx hb dX11_people_161 ?_
            obtain ⟨g15, h⟩ := gi_some h
            refine r_iald E hS 3 rfl g15 dX11_people_162 ?_
            obtain ⟨g16, h⟩ := gi_some h
            refine r_iast (ws' := [oX11 q0 (.ref q1) (.int x120_1) (.ref q2) (.int ((X11_beginText v_typed (20 : Int32)).1)) u0_4 u0_5 (.int (0 : Int32)) (.ref q2) (.int ((X11_beginText v_typed (20 : Int32)).2.1)) (.int ((X11_beginText v_typed (20 : Int32)).2.2.1)) (.int y24_1) (.int y105.2) (.ref q3) u0_13 u0_14 u0_15 u0_16 u0_17 u0_18 (.int v_undoMany) u0_20 u0_21 u0_22 u0_23 u0_24 u0_25 u0_26 u0_27 u0_28 u0_29 u0_30 u0_31 u0_32 u0_33 u0_34 u0_35 u0_36 (.int v_came) u0_38 u0_39 u0_40, aI cy q1 37 (upd (upd x120_2 x120_1.toNatClampNeg (y24_3 ((2 : Int32) * x120_0).toNatClampNeg)) ((7 : Int32) + x120_1).toNatClampNeg (y24_3 (((2 : Int32) * x120_0) + (1 : Int32)).toNatClampNeg)), aB cy q2 80 v_text, aI cy q3 14 y24_3]) E hS 1 rfl g16 rfl dX11_people_163 (fun H locs hS => ?_)
            refine lv_aload_n hx hb dX11_people_164 rfl (lv_at hl 0 rfl) ?_
            refine r_get E frX11_9 hS 0 rfl rfl dX11_people_165 ?_
            refine lv_bipush (v := 14) hx hb dX11_people_168 (by decide) ?_
            refine lv_aload_n hx hb dX11_people_170 rfl (lv_at hl 0 rfl) ?_
            refine r_get E frX11_92 hS 0 rfl rfl dX11_people_171 ?_
            refine lv_iadd hx hb dX11_people_174 ?_
            refine lv_iconst (v := 0) hx hb dX11_people_175 (by decide) ?_
            obtain ⟨g17, h⟩ := gi_some h
            refine r_iast (ws' := [oX11 q0 (.ref q1) (.int x120_1) (.ref q2) (.int ((X11_beginText v_typed (20 : Int32)).1)) u0_4 u0_5 (.int (0 : Int32)) (.ref q2) (.int ((X11_beginText v_typed (20 : Int32)).2.1)) (.int ((X11_beginText v_typed (20 : Int32)).2.2.1)) (.int y24_1) (.int y105.2) (.ref q3) u0_13 u0_14 u0_15 u0_16 u0_17 u0_18 (.int v_undoMany) u0_20 u0_21 u0_22 u0_23 u0_24 u0_25 u0_26 u0_27 u0_28 u0_29 u0_30 u0_31 u0_32 u0_33 u0_34 u0_35 u0_36 (.int v_came) u0_38 u0_39 u0_40, aI cy q1 37 (upd (upd (upd x120_2 x120_1.toNatClampNeg (y24_3 ((2 : Int32) * x120_0).toNatClampNeg)) ((7 : Int32) + x120_1).toNatClampNeg (y24_3 (((2 : Int32) * x120_0) + (1 : Int32)).toNatClampNeg)) ((14 : Int32) + x120_1).toNatClampNeg (0 : Int32)), aB cy q2 80 v_text, aI cy q3 14 y24_3]) E hS 1 rfl g17 rfl dX11_people_176 (fun H locs hS => ?_)
            refine lv_aload_n hx hb dX11_people_177 rfl (lv_at hl 0 rfl) ?_
            refine r_get E frX11_9 hS 0 rfl rfl dX11_people_178 ?_
            refine lv_bipush (v := 21) hx hb dX11_people_181 (by decide) ?_
            refine lv_aload_n hx hb dX11_people_183 rfl (lv_at hl 0 rfl) ?_
            refine r_get E frX11_92 hS 0 rfl rfl dX11_people_184 ?_
            refine lv_iadd hx hb dX11_people_187 ?_
            refine lv_iconst (v := 0) hx hb dX11_people_188 (by decide) ?_
            obtain ⟨g18, h⟩ := gi_some h
            refine r_iast (ws' := [oX11 q0 (.ref q1) (.int x120_1) (.ref q2) (.int ((X11_beginText v_typed (20 : Int32)).1)) u0_4 u0_5 (.int (0 : Int32)) (.ref q2) (.int ((X11_beginText v_typed (20 : Int32)).2.1)) (.int ((X11_beginText v_typed (20 : Int32)).2.2.1)) (.int y24_1) (.int y105.2) (.ref q3) u0_13 u0_14 u0_15 u0_16 u0_17 u0_18 (.int v_undoMany) u0_20 u0_21 u0_22 u0_23 u0_24 u0_25 u0_26 u0_27 u0_28 u0_29 u0_30 u0_31 u0_32 u0_33 u0_34 u0_35 u0_36 (.int v_came) u0_38 u0_39 u0_40, aI cy q1 37 (upd (upd (upd (upd x120_2 x120_1.toNatClampNeg (y24_3 ((2 : Int32) * x120_0).toNatClampNeg)) ((7 : Int32) + x120_1).toNatClampNeg (y24_3 (((2 : Int32) * x120_0) + (1 : Int32)).toNatClampNeg)) ((14 : Int32) + x120_1).toNatClampNeg (0 : Int32)) ((21 : Int32) + x120_1).toNatClampNeg (0 : Int32)), aB cy q2 80 v_text, aI cy q3 14 y24_3]) E hS 1 rfl g18 rfl dX11_people_189 (fun H locs hS => ?_)
            refine lv_aload_n hx hb dX11_people_190 rfl (lv_at hl 0 rfl) ?_
            refine r_get E frX11_9 hS 0 rfl rfl dX11_people_191 ?_
            refine lv_bipush (v := 28) hx hb dX11_people_194 (by decide) ?_
            refine lv_aload_n hx hb dX11_people_196 rfl (lv_at hl 0 rfl) ?_
            refine r_get E frX11_92 hS 0 rfl rfl dX11_people_197 ?_
            refine lv_iadd hx hb dX11_people_200 ?_
            refine lv_iconst (v := 0) hx hb dX11_people_201 (by decide) ?_
            obtain ⟨g19, h⟩ := gi_some h
            refine r_iast (ws' := [oX11 q0 (.ref q1) (.int x120_1) (.ref q2) (.int ((X11_beginText v_typed (20 : Int32)).1)) u0_4 u0_5 (.int (0 : Int32)) (.ref q2) (.int ((X11_beginText v_typed (20 : Int32)).2.1)) (.int ((X11_beginText v_typed (20 : Int32)).2.2.1)) (.int y24_1) (.int y105.2) (.ref q3) u0_13 u0_14 u0_15 u0_16 u0_17 u0_18 (.int v_undoMany) u0_20 u0_21 u0_22 u0_23 u0_24 u0_25 u0_26 u0_27 u0_28 u0_29 u0_30 u0_31 u0_32 u0_33 u0_34 u0_35 u0_36 (.int v_came) u0_38 u0_39 u0_40, aI cy q1 37 (upd (upd (upd (upd (upd x120_2 x120_1.toNatClampNeg (y24_3 ((2 : Int32) * x120_0).toNatClampNeg)) ((7 : Int32) + x120_1).toNatClampNeg (y24_3 (((2 : Int32) * x120_0) + (1 : Int32)).toNatClampNeg)) ((14 : Int32) + x120_1).toNatClampNeg (0 : Int32)) ((21 : Int32) + x120_1).toNatClampNeg (0 : Int32)) ((28 : Int32) + x120_1).toNatClampNeg (0 : Int32)), aB cy q2 80 v_text, aI cy q3 14 y24_3]) E hS 1 rfl g19 rfl dX11_people_202 (fun H locs hS => ?_)
            refine lv_aload_n hx hb dX11_people_203 rfl (lv_at hl 0 rfl) ?_
            refine lv_dup hx hb dX11_people_204 rfl ?_
            refine r_get E frX11_92 hS 0 rfl rfl dX11_people_205 ?_
            refine lv_iconst (v := 1) hx hb dX11_people_208 (by decide) ?_
            refine lv_iadd hx hb dX11_people_209 ?_
            refine r_put (ws' := [oX11 q0 (.ref q1) (.int (x120_1 + (1 : Int32))) (.ref q2) (.int ((X11_beginText v_typed (20 : Int32)).1)) u0_4 u0_5 (.int (0 : Int32)) (.ref q2) (.int ((X11_beginText v_typed (20 : Int32)).2.1)) (.int ((X11_beginText v_typed (20 : Int32)).2.2.1)) (.int y24_1) (.int y105.2) (.ref q3) u0_13 u0_14 u0_15 u0_16 u0_17 u0_18 (.int v_undoMany) u0_20 u0_21 u0_22 u0_23 u0_24 u0_25 u0_26 u0_27 u0_28 u0_29 u0_30 u0_31 u0_32 u0_33 u0_34 u0_35 u0_36 (.int v_came) u0_38 u0_39 u0_40, aI cy q1 37 (upd (upd (upd (upd (upd x120_2 x120_1.toNatClampNeg (y24_3 ((2 : Int32) * x120_0).toNatClampNeg)) ((7 : Int32) + x120_1).toNatClampNeg (y24_3 (((2 : Int32) * x120_0) + (1 : Int32)).toNatClampNeg)) ((14 : Int32) + x120_1).toNatClampNeg (0 : Int32)) ((21 : Int32) + x120_1).toNatClampNeg (0 : Int32)) ((28 : Int32) + x120_1).toNatClampNeg (0 : Int32)), aB cy q2 80 v_text, aI cy q3 14 y24_3]) E frX11_92 hS 0 rfl (Nat.le_of_ble_eq_true rfl) rfl rfl rfl rfl dX11_people_210 (fun H locs hS => ?_)
            refine lv_iinc (v := (x120_0 + (1 : Int32))) (lv' := [(3, .int (x120_0 + (1 : Int32))), (0, .ref q0), (1, .int y24_0)]) hx hb dX11_people_213 hl (k := 2) rfl rfl (by decide) rfl (fun ls hl => ?_)
            refine lv_goto (tgt := 120) hx hb dX11_people_216 (by decide) ?_
            exact ih120 (x120_0 + (1 : Int32)) (x120_1 + (1 : Int32)) (upd (upd (upd (upd (upd x120_2 x120_1.toNatClampNeg (y24_3 ((2 : Int32) * x120_0).toNatClampNeg)) ((7 : Int32) + x120_1).toNatClampNeg (y24_3 (((2 : Int32) * x120_0) + (1 : Int32)).toNatClampNeg)) ((14 : Int32) + x120_1).toNatClampNeg (0 : Int32)) ((21 : Int32) + x120_1).toNatClampNeg (0 : Int32)) ((28 : Int32) + x120_1).toNatClampNeg (0 : Int32)) y120  H locs ls (hz120a _ (Option.some.inj h).symm) hS (lv_sub hl [1, 2, 0] rfl) hk120_0
      obtain ⟨y120, e120, h⟩ := bd_some h
      refine hL120 1000 (0 : Int32) v_people v_now y120  H locs ls e120 hS (lv_sub hl [1, 2, 0] rfl) (fun y120_0 y120_1 ey120 H locs ls hS hl => ?_)
      subst ey120
      have h := un_r h
      refine lv_aload_n hx hb dX11_people_219 rfl (lv_at hl 0 rfl) ?_
      refine ct_V (ws' := fun _ => [oX11 q0 (.ref q1) (.int y120_0) (.ref q2) (.int ((X11_beginText v_typed (20 : Int32)).1)) u0_4 u0_5 (.int (0 : Int32)) (.ref q2) (.int ((X11_beginText v_typed (20 : Int32)).2.1)) (.int ((X11_beginText v_typed (20 : Int32)).2.2.1)) (.int y24_1) (.int y105.2) (.ref q3) u0_13 u0_14 u0_15 u0_16 u0_17 u0_18 (.int ((X11_told v_came).1)) u0_20 u0_21 u0_22 u0_23 u0_24 u0_25 u0_26 u0_27 u0_28 u0_29 u0_30 u0_31 u0_32 u0_33 u0_34 u0_35 u0_36 (.int ((X11_told v_came).2)) u0_38 u0_39 u0_40, aI cy q1 37 y120_1, aB cy q2 80 v_text, aI cy q3 14 y24_3]) (st' := []) (rest := []) E hS vlX11_157 (c_X11_told (l := l) (D := D) (cy := cy) (q0 := q0) (u0_0 := .ref q1) (u0_1 := .int y120_0) (u0_2 := .ref q2) (u0_3 := .int ((X11_beginText v_typed (20 : Int32)).1)) (u0_4 := u0_4) (u0_5 := u0_5) (u0_6 := .int (0 : Int32)) (u0_7 := .ref q2) (u0_8 := .int ((X11_beginText v_typed (20 : Int32)).2.1)) (u0_9 := .int ((X11_beginText v_typed (20 : Int32)).2.2.1)) (u0_10 := .int y24_1) (u0_11 := .int y105.2) (u0_12 := .ref q3) (u0_13 := u0_13) (u0_14 := u0_14) (u0_15 := u0_15) (u0_16 := u0_16) (u0_17 := u0_17) (u0_18 := u0_18) (u0_20 := u0_20) (u0_21 := u0_21) (u0_22 := u0_22) (u0_23 := u0_23) (u0_24 := u0_24) (u0_25 := u0_25) (u0_26 := u0_26) (u0_27 := u0_27) (u0_28 := u0_28) (u0_29 := u0_29) (u0_30 := u0_30) (u0_31 := u0_31) (u0_32 := u0_32) (u0_33 := u0_33) (u0_34 := u0_34) (u0_35 := u0_35) (u0_36 := u0_36) (u0_38 := u0_38) (u0_39 := u0_39) (u0_40 := u0_40) (v_undoMany := v_undoMany) (v_came := v_came) (r := (X11_told v_came)) rfl) [0] rfl rfl (fun _ => rfl) (fun _ => rfl) rfl rfl rfl rfl (Nat.le_of_ble_eq_true rfl) hl.1 (by rw [hRf]; exact Nat.le_of_ble_eq_true rfl) (by rw [hRl]; exact Nat.le_of_ble_eq_true rfl) ⟨Nat.zero_le _, Nat.zero_le _⟩ dX11_people_220 rfl (fun H locs _ hS => ?_)
      refine lv_iload_n hx hb dX11_people_223 rfl (lv_at hl 1 rfl) ?_
      obtain rfl := Option.some.inj h
      exact rt_i E hQ (.null) hS dX11_people_224
    · have h := it_pos c11 h
      refine lv_iconst (v := -1) hx hb dX11_people_111 (by decide) ?_
      refine lv_aload_n hx hb dX11_people_112 rfl (lv_at hl 0 rfl) ?_
      refine r_get E frX11_118 hS 0 rfl rfl dX11_people_113 ?_
      refine lv_isub hx hb dX11_people_116 ?_
      obtain rfl := Option.some.inj h
      exact rt_i E hQ (.null) hS dX11_people_117
  · have h := it_pos c1 h
    refine lv_iconst (v := 0) hx hb dX11_people_18 (by decide) ?_
    obtain rfl := Option.some.inj h
    exact rt_i E hQ (.null) hS dX11_people_19
set_option maxHeartbeats 4000000 in
set_option maxRecDepth 100000 in
theorem c_X11_readWants {l : Launch} {D : va_G} {cy : Nat → ClassId} (q0 : Nat) (q1 : Nat) (q2 : Nat) (u0_0 : Value) (u0_2 : Value) (u0_3 : Value) (u0_4 : Value) (u0_5 : Value) (u0_6 : Value) (u0_13 : Value) (u0_14 : Value) (u0_15 : Value) (u0_16 : Value) (u0_17 : Value) (u0_18 : Value) (u0_19 : Value) (u0_20 : Value) (u0_21 : Value) (u0_22 : Value) (u0_23 : Value) (u0_24 : Value) (u0_25 : Value) (u0_26 : Value) (u0_27 : Value) (u0_28 : Value) (u0_29 : Value) (u0_30 : Value) (u0_31 : Value) (u0_32 : Value) (u0_33 : Value) (u0_34 : Value) (u0_35 : Value) (u0_36 : Value) (u0_37 : Value) (u0_38 : Value) (u0_39 : Value) (u0_40 : Value) (v_people : Int32) (v_length : Int32) (v_top : Int32) (v_at : Int32) (v_wrong : Int32) (nv_read : Nat) (v_read : Nat → Int32) (v_comes : Nat → Int32) (r : Int32 × Int32 × (Nat → Int32)) (h : X11_readWants v_people v_length v_top v_at v_wrong nv_read v_read v_comes = some r) : Ct l yX11_readWants cX11_readWants 6 none 3 63 D cy [.ref q0] [oX11 q0 u0_0 (.int v_people) u0_2 u0_3 u0_4 u0_5 u0_6 (.ref q1) (.int v_length) (.int v_top) (.int v_at) (.int v_wrong) (.ref q2) u0_13 u0_14 u0_15 u0_16 u0_17 u0_18 u0_19 u0_20 u0_21 u0_22 u0_23 u0_24 u0_25 u0_26 u0_27 u0_28 u0_29 u0_30 u0_31 u0_32 u0_33 u0_34 u0_35 u0_36 u0_37 u0_38 u0_39 u0_40, aB cy q1 nv_read v_read, aI cy q2 14 v_comes] (fun _ => [oX11 q0 u0_0 (.int v_people) u0_2 u0_3 u0_4 u0_5 u0_6 (.ref q1) (.int v_length) (.int v_top) (.int r.1) (.int r.2.1) (.ref q2) u0_13 u0_14 u0_15 u0_16 u0_17 u0_18 u0_19 u0_20 u0_21 u0_22 u0_23 u0_24 u0_25 u0_26 u0_27 u0_28 u0_29 u0_30 u0_31 u0_32 u0_33 u0_34 u0_35 u0_36 u0_37 u0_38 u0_39 u0_40, aB cy q1 nv_read v_read, aI cy q2 14 r.2.2]) (none) := by
  refine Ct.mk kX11_readWants (by decide +kernel) (Nat.le_of_ble_eq_true rfl) ?_
  intro p e s m below meth c A ls args R Q hRf hRl hQ E H locs hS hl
  have hx := E.x
  have hb := E.b
  have hl : lv_has ls 6 [(0, .ref q0)] := hl
  unfold X11_readWants at h
  refine lv_aload_n hx hb dX11_readWants_0 rfl (lv_at hl 0 rfl) ?_
  refine lv_bipush (v := 48) hx hb dX11_readWants_1 (by decide) ?_
  refine lv_aload_n hx hb dX11_readWants_3 rfl (lv_at hl 0 rfl) ?_
  refine r_get E frX11_92 hS 0 rfl rfl dX11_readWants_4 ?_
  obtain ⟨y7, e1, h⟩ := bd_some h
  refine ct_V (ws' := fun _ => [oX11 q0 u0_0 (.int v_people) u0_2 u0_3 u0_4 u0_5 u0_6 (.ref q1) (.int v_length) (.int v_top) (.int y7.2.1) (.int y7.2.2) (.ref q2) u0_13 u0_14 u0_15 u0_16 u0_17 u0_18 u0_19 u0_20 u0_21 u0_22 u0_23 u0_24 u0_25 u0_26 u0_27 u0_28 u0_29 u0_30 u0_31 u0_32 u0_33 u0_34 u0_35 u0_36 u0_37 u0_38 u0_39 u0_40, aB cy q1 nv_read v_read, aI cy q2 14 v_comes]) (st' := [.int y7.1]) (rest := []) E hS vlX11_141 (c_X11_oneOf (l := l) (D := D) (cy := cy) (q0 := q0) (q1 := q1) (u0_0 := u0_0) (u0_1 := .int v_people) (u0_2 := u0_2) (u0_3 := u0_3) (u0_4 := u0_4) (u0_5 := u0_5) (u0_6 := u0_6) (u0_12 := .ref q2) (u0_13 := u0_13) (u0_14 := u0_14) (u0_15 := u0_15) (u0_16 := u0_16) (u0_17 := u0_17) (u0_18 := u0_18) (u0_19 := u0_19) (u0_20 := u0_20) (u0_21 := u0_21) (u0_22 := u0_22) (u0_23 := u0_23) (u0_24 := u0_24) (u0_25 := u0_25) (u0_26 := u0_26) (u0_27 := u0_27) (u0_28 := u0_28) (u0_29 := u0_29) (u0_30 := u0_30) (u0_31 := u0_31) (u0_32 := u0_32) (u0_33 := u0_33) (u0_34 := u0_34) (u0_35 := u0_35) (u0_36 := u0_36) (u0_37 := u0_37) (u0_38 := u0_38) (u0_39 := u0_39) (u0_40 := u0_40) (v_length := v_length) (v_top := v_top) (v_at := v_at) (v_wrong := v_wrong) (nv_read := nv_read) (v_read := v_read) (p1 := (48 : Int32)) (p2 := v_people) (r := y7) e1) [0, 1] rfl rfl (fun _ => rfl) (fun _ => rfl) rfl rfl rfl rfl (Nat.le_of_ble_eq_true rfl) hl.1 (by rw [hRf]; exact Nat.le_of_ble_eq_true rfl) (by rw [hRl]; exact Nat.le_of_ble_eq_true rfl) ⟨Nat.zero_le _, Nat.zero_le _⟩ dX11_readWants_7 rfl (fun H locs _ hS => ?_)
  refine lv_istore_n (lv' := [(1, .int y7.1), (0, .ref q0)]) hx hb dX11_readWants_10 rfl hl (by decide) rfl (fun ls hl => ?_)
  refine lv_iconst (v := 0) hx hb dX11_readWants_11 (by decide) ?_
  refine lv_istore_n (lv' := [(2, .int (0 : Int32)), (1, .int y7.1), (0, .ref q0)]) hx hb dX11_readWants_12 rfl hl (by decide) rfl (fun ls hl => ?_)
  refine lv_iconst (v := -1) hx hb dX11_readWants_13 (by decide) ?_
  refine lv_istore_n (lv' := [(3, .int (-1 : Int32)), (2, .int (0 : Int32)), (1, .int y7.1), (0, .ref q0)]) hx hb dX11_readWants_14 rfl hl (by decide) rfl (fun ls hl => ?_)
  refine lv_iconst (v := 1) hx hb dX11_readWants_15 (by decide) ?_
  refine lv_istore (lv' := [(4, .int (1 : Int32)), (3, .int (-1 : Int32)), (2, .int (0 : Int32)), (1, .int y7.1), (0, .ref q0)]) hx hb dX11_readWants_16 hl (by decide) rfl (fun ls hl => ?_)
  have hL18 : ∀ (n : Nat) (x18_0 : Int32) (x18_1 : Int32) (x18_2 : Int32) (x18_3 : Int32) (x18_4 : Int32) (y18 : Int32 × Int32 × Int32) (H : Heap) (locs : List Loc) (ls : Array Slot), lp (fun x18 => X11_readWants_s18 v_people v_length v_top nv_read v_read y7 x18.1 x18.2.1 x18.2.2.1 x18.2.2.2.1 x18.2.2.2.2) n (x18_0, x18_1, x18_2, x18_3, x18_4) = some y18 → Sv D A s.heap [oX11 q0 u0_0 (.int v_people) u0_2 u0_3 u0_4 u0_5 u0_6 (.ref q1) (.int v_length) (.int v_top) (.int x18_3) (.int x18_4) (.ref q2) u0_13 u0_14 u0_15 u0_16 u0_17 u0_18 u0_19 u0_20 u0_21 u0_22 u0_23 u0_24 u0_25 u0_26 u0_27 u0_28 u0_29 u0_30 u0_31 u0_32 u0_33 u0_34 u0_35 u0_36 u0_37 u0_38 u0_39 u0_40, aB cy q1 nv_read v_read, aI cy q2 14 v_comes] H locs → lv_has ls 6 [(0, .ref q0), (1, .int y7.1), (2, .int x18_0), (3, .int x18_1), (4, .int x18_2)] → ( ∀ (y18_0 : Int32) (y18_1 : Int32) (y18_2 : Int32), (y18_0, y18_1, y18_2) = y18 → ∀ (H : Heap) (locs : List Loc) (ls : Array Slot), Sv D A s.heap [oX11 q0 u0_0 (.int v_people) u0_2 u0_3 u0_4 u0_5 u0_6 (.ref q1) (.int v_length) (.int v_top) (.int y18_1) (.int y18_2) (.ref q2) u0_13 u0_14 u0_15 u0_16 u0_17 u0_18 u0_19 u0_20 u0_21 u0_22 u0_23 u0_24 u0_25 u0_26 u0_27 u0_28 u0_29 u0_30 u0_31 u0_32 u0_33 u0_34 u0_35 u0_36 u0_37 u0_38 u0_39 u0_40, aB cy q1 nv_read v_read, aI cy q2 14 v_comes] H locs → lv_has ls 6 [(0, .ref q0), (1, .int y7.1), (2, .int y18_0)] → W p l e R s m args below meth c H locs 0 0 Q (F0 m 120 ls [])) → W p l e R s m args below meth c H locs 0 0 Q (F0 m 18 ls []) := by
    intro n
    induction n with
    | zero =>
      intro x18_0 x18_1 x18_2 x18_3 x18_4 y18 H locs ls h
      exact lp_zero h
    | succ n ih18 =>
      intro x18_0 x18_1 x18_2 x18_3 x18_4 y18 H locs ls h hS hl hk18_0
      obtain ⟨z18, h, hz18a, hz18b⟩ := lp_succ h
      have h : X11_readWants_s18 v_people v_length v_top nv_read v_read y7 x18_0 x18_1 x18_2 x18_3 x18_4 = some z18 := h
      unfold X11_readWants_s18 at h
      refine lv_iload hx hb dX11_readWants_18 (lv_at hl 4 rfl) ?_
      refine lv_if_eq (tgt := 120) hx hb dX11_readWants_20 (by decide) (fun c2 => ?_) (fun c2 => ?_)
      · have h := it_pos c2 h
        exact hk18_0 x18_0 x18_3 x18_4 (hz18b _ (Option.some.inj h).symm)  H locs ls hS (lv_sub hl [0, 1, 2] rfl)
      · have h := it_neg c2 h
        refine lv_aload_n hx hb dX11_readWants_23 rfl (lv_at hl 0 rfl) ?_
        refine ct_V (ws' := fun _ => [oX11 q0 u0_0 (.int v_people) u0_2 u0_3 u0_4 u0_5 u0_6 (.ref q1) (.int v_length) (.int v_top) (.int x18_3) (.int x18_4) (.ref q2) u0_13 u0_14 u0_15 u0_16 u0_17 u0_18 u0_19 u0_20 u0_21 u0_22 u0_23 u0_24 u0_25 u0_26 u0_27 u0_28 u0_29 u0_30 u0_31 u0_32 u0_33 u0_34 u0_35 u0_36 u0_37 u0_38 u0_39 u0_40, aB cy q1 nv_read v_read, aI cy q2 14 v_comes]) (st' := [.int (X11_fine x18_4)]) (rest := []) E hS vlX11_125 (c_X11_fine (l := l) (D := D) (cy := cy) (q0 := q0) (u0_0 := u0_0) (u0_1 := .int v_people) (u0_2 := u0_2) (u0_3 := u0_3) (u0_4 := u0_4) (u0_5 := u0_5) (u0_6 := u0_6) (u0_7 := .ref q1) (u0_8 := .int v_length) (u0_9 := .int v_top) (u0_10 := .int x18_3) (u0_12 := .ref q2) (u0_13 := u0_13) (u0_14 := u0_14) (u0_15 := u0_15) (u0_16 := u0_16) (u0_17 := u0_17) (u0_18 := u0_18) (u0_19 := u0_19) (u0_20 := u0_20) (u0_21 := u0_21) (u0_22 := u0_22) (u0_23 := u0_23) (u0_24 := u0_24) (u0_25 := u0_25) (u0_26 := u0_26) (u0_27 := u0_27) (u0_28 := u0_28) (u0_29 := u0_29) (u0_30 := u0_30) (u0_31 := u0_31) (u0_32 := u0_32) (u0_33 := u0_33) (u0_34 := u0_34) (u0_35 := u0_35) (u0_36 := u0_36) (u0_37 := u0_37) (u0_38 := u0_38) (u0_39 := u0_39) (u0_40 := u0_40) (v_wrong := x18_4) (r := (X11_fine x18_4)) rfl) [0] rfl rfl (fun _ => rfl) (fun _ => rfl) rfl rfl rfl rfl (Nat.le_of_ble_eq_true rfl) hl.1 (by rw [hRf]; exact Nat.le_of_ble_eq_true rfl) (by rw [hRl]; exact Nat.le_of_ble_eq_true rfl) ⟨Nat.zero_le _, Nat.zero_le _⟩ dX11_readWants_24 rfl (fun H locs _ hS => ?_)
        refine lv_if_eq (tgt := 120) hx hb dX11_readWants_27 (by decide) (fun c3 => ?_) (fun c3 => ?_)
        · have h := it_pos c3 h
          exact hk18_0 x18_0 x18_3 x18_4 (hz18b _ (Option.some.inj h).symm)  H locs ls hS (lv_sub hl [0, 1, 2] rfl)
        · have h := it_neg c3 h
          refine lv_aload_n hx hb dX11_readWants_30 rfl (lv_at hl 0 rfl) ?_
          obtain ⟨y31, e4, h⟩ := bd_some h
          refine ct_V (ws' := fun _ => [oX11 q0 u0_0 (.int v_people) u0_2 u0_3 u0_4 u0_5 u0_6 (.ref q1) (.int v_length) (.int v_top) (.int x18_3) (.int x18_4) (.ref q2) u0_13 u0_14 u0_15 u0_16 u0_17 u0_18 u0_19 u0_20 u0_21 u0_22 u0_23 u0_24 u0_25 u0_26 u0_27 u0_28 u0_29 u0_30 u0_31 u0_32 u0_33 u0_34 u0_35 u0_36 u0_37 u0_38 u0_39 u0_40, aB cy q1 nv_read v_read, aI cy q2 14 v_comes]) (st' := [.int y31]) (rest := []) E hS vlX11_129 (c_X11_here (l := l) (D := D) (cy := cy) (q0 := q0) (q1 := q1) (u0_0 := u0_0) (u0_1 := .int v_people) (u0_2 := u0_2) (u0_3 := u0_3) (u0_4 := u0_4) (u0_5 := u0_5) (u0_6 := u0_6) (u0_11 := .int x18_4) (u0_12 := .ref q2) (u0_13 := u0_13) (u0_14 := u0_14) (u0_15 := u0_15) (u0_16 := u0_16) (u0_17 := u0_17) (u0_18 := u0_18) (u0_19 := u0_19) (u0_20 := u0_20) (u0_21 := u0_21) (u0_22 := u0_22) (u0_23 := u0_23) (u0_24 := u0_24) (u0_25 := u0_25) (u0_26 := u0_26) (u0_27 := u0_27) (u0_28 := u0_28) (u0_29 := u0_29) (u0_30 := u0_30) (u0_31 := u0_31) (u0_32 := u0_32) (u0_33 := u0_33) (u0_34 := u0_34) (u0_35 := u0_35) (u0_36 := u0_36) (u0_37 := u0_37) (u0_38 := u0_38) (u0_39 := u0_39) (u0_40 := u0_40) (v_length := v_length) (v_top := v_top) (v_at := x18_3) (nv_read := nv_read) (v_read := v_read) (r := y31) e4) [0, 1] rfl rfl (fun _ => rfl) (fun _ => rfl) rfl rfl rfl rfl (Nat.le_of_ble_eq_true rfl) hl.1 (by rw [hRf]; exact Nat.le_of_ble_eq_true rfl) (by rw [hRl]; exact Nat.le_of_ble_eq_true rfl) ⟨Nat.zero_le _, Nat.zero_le _⟩ dX11_readWants_31 rfl (fun H locs _ hS => ?_)
          refine lv_bipush (v := 97) hx hb dX11_readWants_34 (by decide) ?_
          refine lv_isub hx hb dX11_readWants_36 ?_
          refine lv_istore (lv' := [(5, .int (y31 - (97 : Int32))), (0, .ref q0), (1, .int y7.1), (2, .int x18_0), (3, .int x18_1), (4, .int x18_2)]) hx hb dX11_readWants_37 hl (by decide) rfl (fun ls hl => ?_)
          refine lv_iload hx hb dX11_readWants_39 (lv_at hl 0 rfl) ?_
          refine lv_iload_n hx hb dX11_readWants_41 rfl (lv_at hl 4 rfl) ?_
          refine lv_iconst (v := 1) hx hb dX11_readWants_42 (by decide) ?_
          refine lv_iadd hx hb dX11_readWants_43 ?_
          refine lv_aload_n hx hb dX11_readWants_44 rfl (lv_at hl 1 rfl) ?_
          refine r_get E frX11_92 hS 0 rfl rfl dX11_readWants_45 ?_
          refine lv_iconst (v := 1) hx hb dX11_readWants_48 (by decide) ?_
          refine lv_isub hx hb dX11_readWants_49 ?_
          refine ct_S (ws' := fun _ => [oX11 q0 u0_0 (.int v_people) u0_2 u0_3 u0_4 u0_5 u0_6 (.ref q1) (.int v_length) (.int v_top) (.int x18_3) (.int x18_4) (.ref q2) u0_13 u0_14 u0_15 u0_16 u0_17 u0_18 u0_19 u0_20 u0_21 u0_22 u0_23 u0_24 u0_25 u0_26 u0_27 u0_28 u0_29 u0_30 u0_31 u0_32 u0_33 u0_34 u0_35 u0_36 u0_37 u0_38 u0_39 u0_40, aB cy q1 nv_read v_read, aI cy q2 14 v_comes]) (st' := [.int (X11_in (y31 - (97 : Int32)) (x18_1 + (1 : Int32)) (v_people - (1 : Int32)))]) (rest := []) E hS slX11_95 (c_X11_in (l := l) (D := D) (cy := cy) (p0 := (y31 - (97 : Int32))) (p1 := (x18_1 + (1 : Int32))) (p2 := (v_people - (1 : Int32))) (r := (X11_in (y31 - (97 : Int32)) (x18_1 + (1 : Int32)) (v_people - (1 : Int32)))) rfl) [] rfl rfl (fun _ => rfl) (fun _ => rfl) rfl rfl (Nat.le_of_ble_eq_true rfl) hl.1 (by rw [hRf]; exact Nat.le_of_ble_eq_true rfl) (by rw [hRl]; exact Nat.le_of_ble_eq_true rfl) ⟨Nat.zero_le _, Nat.zero_le _⟩ dX11_readWants_50 rfl (fun H locs _ hS => ?_)
          have hJ93 : ∀ (j93_l2 : Int32) (j93_l3 : Int32) (j93_v_at : Int32) (j93_v_wrong : Int32) (H : Heap) (locs : List Loc) (ls : Array Slot), X11_readWants_k93 v_length v_top nv_read v_read j93_l2 j93_l3 j93_v_at j93_v_wrong = some z18 → Sv D A s.heap [oX11 q0 u0_0 (.int v_people) u0_2 u0_3 u0_4 u0_5 u0_6 (.ref q1) (.int v_length) (.int v_top) (.int j93_v_at) (.int j93_v_wrong) (.ref q2) u0_13 u0_14 u0_15 u0_16 u0_17 u0_18 u0_19 u0_20 u0_21 u0_22 u0_23 u0_24 u0_25 u0_26 u0_27 u0_28 u0_29 u0_30 u0_31 u0_32 u0_33 u0_34 u0_35 u0_36 u0_37 u0_38 u0_39 u0_40, aB cy q1 nv_read v_read, aI cy q2 14 v_comes] H locs → lv_has ls 6 [(0, .ref q0), (1, .int y7.1), (2, .int j93_l2), (3, .int j93_l3)] → W p l e R s m args below meth c H locs 0 0 Q (F0 m 93 ls []) := by
            intro j93_l2 j93_l3 j93_v_at j93_v_wrong H locs ls h hS hl
            unfold X11_readWants_k93 at h
            refine lv_aload_n hx hb dX11_readWants_93 rfl (lv_at hl 0 rfl) ?_
            obtain ⟨y94, e5, h⟩ := bd_some h
            refine ct_V (ws' := fun _ => [oX11 q0 u0_0 (.int v_people) u0_2 u0_3 u0_4 u0_5 u0_6 (.ref q1) (.int v_length) (.int v_top) (.int j93_v_at) (.int j93_v_wrong) (.ref q2) u0_13 u0_14 u0_15 u0_16 u0_17 u0_18 u0_19 u0_20 u0_21 u0_22 u0_23 u0_24 u0_25 u0_26 u0_27 u0_28 u0_29 u0_30 u0_31 u0_32 u0_33 u0_34 u0_35 u0_36 u0_37 u0_38 u0_39 u0_40, aB cy q1 nv_read v_read, aI cy q2 14 v_comes]) (st' := [.int y94]) (rest := []) E hS vlX11_129 (c_X11_here (l := l) (D := D) (cy := cy) (q0 := q0) (q1 := q1) (u0_0 := u0_0) (u0_1 := .int v_people) (u0_2 := u0_2) (u0_3 := u0_3) (u0_4 := u0_4) (u0_5 := u0_5) (u0_6 := u0_6) (u0_11 := .int j93_v_wrong) (u0_12 := .ref q2) (u0_13 := u0_13) (u0_14 := u0_14) (u0_15 := u0_15) (u0_16 := u0_16) (u0_17 := u0_17) (u0_18 := u0_18) (u0_19 := u0_19) (u0_20 := u0_20) (u0_21 := u0_21) (u0_22 := u0_22) (u0_23 := u0_23) (u0_24 := u0_24) (u0_25 := u0_25) (u0_26 := u0_26) (u0_27 := u0_27) (u0_28 := u0_28) (u0_29 := u0_29) (u0_30 := u0_30) (u0_31 := u0_31) (u0_32 := u0_32) (u0_33 := u0_33) (u0_34 := u0_34) (u0_35 := u0_35) (u0_36 := u0_36) (u0_37 := u0_37) (u0_38 := u0_38) (u0_39 := u0_39) (u0_40 := u0_40) (v_length := v_length) (v_top := v_top) (v_at := j93_v_at) (nv_read := nv_read) (v_read := v_read) (r := y94) e5) [0, 1] rfl rfl (fun _ => rfl) (fun _ => rfl) rfl rfl rfl rfl (Nat.le_of_ble_eq_true rfl) hl.1 (by rw [hRf]; exact Nat.le_of_ble_eq_true rfl) (by rw [hRl]; exact Nat.le_of_ble_eq_true rfl) ⟨Nat.zero_le _, Nat.zero_le _⟩ dX11_readWants_94 rfl (fun H locs _ hS => ?_)
            refine lv_iconst (v := -1) hx hb dX11_readWants_97 (by decide) ?_
            refine lv_icmp_eq (tgt := 114) hx hb dX11_readWants_98 (by decide) (fun c6 => ?_) (fun c6 => ?_)
            · have h := it_pos c6 h
              refine lv_iconst (v := 0) hx hb dX11_readWants_114 (by decide) ?_
              refine lv_istore (lv' := [(4, .int (0 : Int32)), (0, .ref q0), (1, .int y7.1), (2, .int j93_l2), (3, .int j93_l3)]) hx hb dX11_readWants_115 hl (by decide) rfl (fun ls hl => ?_)
              refine lv_goto (tgt := 18) hx hb dX11_readWants_117 (by decide) ?_
              exact ih18 j93_l2 j93_l3 (0 : Int32) j93_v_at j93_v_wrong y18  H locs ls (hz18a _ (Option.some.inj h).symm) hS (lv_sub hl [1, 2, 3, 4, 0] rfl) hk18_0
            · have h := it_neg c6 h
              refine lv_aload_n hx hb dX11_readWants_101 rfl (lv_at hl 0 rfl) ?_
              obtain ⟨y102, e7, h⟩ := bd_some h
              refine ct_V (ws' := fun _ => [oX11 q0 u0_0 (.int v_people) u0_2 u0_3 u0_4 u0_5 u0_6 (.ref q1) (.int v_length) (.int v_top) (.int j93_v_at) (.int j93_v_wrong) (.ref q2) u0_13 u0_14 u0_15 u0_16 u0_17 u0_18 u0_19 u0_20 u0_21 u0_22 u0_23 u0_24 u0_25 u0_26 u0_27 u0_28 u0_29 u0_30 u0_31 u0_32 u0_33 u0_34 u0_35 u0_36 u0_37 u0_38 u0_39 u0_40, aB cy q1 nv_read v_read, aI cy q2 14 v_comes]) (st' := [.int y102]) (rest := []) E hS vlX11_129 (c_X11_here (l := l) (D := D) (cy := cy) (q0 := q0) (q1 := q1) (u0_0 := u0_0) (u0_1 := .int v_people) (u0_2 := u0_2) (u0_3 := u0_3) (u0_4 := u0_4) (u0_5 := u0_5) (u0_6 := u0_6) (u0_11 := .int j93_v_wrong) (u0_12 := .ref q2) (u0_13 := u0_13) (u0_14 := u0_14) (u0_15 := u0_15) (u0_16 := u0_16) (u0_17 := u0_17) (u0_18 := u0_18) (u0_19 := u0_19) (u0_20 := u0_20) (u0_21 := u0_21) (u0_22 := u0_22) (u0_23 := u0_23) (u0_24 := u0_24) (u0_25 := u0_25) (u0_26 := u0_26) (u0_27 := u0_27) (u0_28 := u0_28) (u0_29 := u0_29) (u0_30 := u0_30) (u0_31 := u0_31) (u0_32 := u0_32) (u0_33 := u0_33) (u0_34 := u0_34) (u0_35 := u0_35) (u0_36 := u0_36) (u0_37 := u0_37) (u0_38 := u0_38) (u0_39 := u0_39) (u0_40 := u0_40) (v_length := v_length) (v_top := v_top) (v_at := j93_v_at) (nv_read := nv_read) (v_read := v_read) (r := y102) e7) [0, 1] rfl rfl (fun _ => rfl) (fun _ => rfl) rfl rfl rfl rfl (Nat.le_of_ble_eq_true rfl) hl.1 (by rw [hRf]; exact Nat.le_of_ble_eq_true rfl) (by rw [hRl]; exact Nat.le_of_ble_eq_true rfl) ⟨Nat.zero_le _, Nat.zero_le _⟩ dX11_readWants_102 rfl (fun H locs _ hS => ?_)
              refine lv_bipush (v := 59) hx hb dX11_readWants_105 (by decide) ?_
              refine lv_icmp_eq (tgt := 114) hx hb dX11_readWants_107 (by decide) (fun c8 => ?_) (fun c8 => ?_)
              · have h := it_pos c8 h
                refine lv_iconst (v := 0) hx hb dX11_readWants_114 (by decide) ?_
                refine lv_istore (lv' := [(4, .int (0 : Int32)), (0, .ref q0), (1, .int y7.1), (2, .int j93_l2), (3, .int j93_l3)]) hx hb dX11_readWants_115 hl (by decide) rfl (fun ls hl => ?_)
                refine lv_goto (tgt := 18) hx hb dX11_readWants_117 (by decide) ?_
                exact ih18 j93_l2 j93_l3 (0 : Int32) j93_v_at j93_v_wrong y18  H locs ls (hz18a _ (Option.some.inj h).symm) hS (lv_sub hl [1, 2, 3, 4, 0] rfl) hk18_0
              · have h := it_neg c8 h
                refine lv_iconst (v := 1) hx hb dX11_readWants_110 (by decide) ?_
                refine lv_goto (tgt := 115) hx hb dX11_readWants_111 (by decide) ?_
                refine lv_istore (lv' := [(4, .int (1 : Int32)), (0, .ref q0), (1, .int y7.1), (2, .int j93_l2), (3, .int j93_l3)]) hx hb dX11_readWants_115 hl (by decide) rfl (fun ls hl => ?_)
                refine lv_goto (tgt := 18) hx hb dX11_readWants_117 (by decide) ?_
                exact ih18 j93_l2 j93_l3 (1 : Int32) j93_v_at j93_v_wrong y18  H locs ls (hz18a _ (Option.some.inj h).symm) hS (lv_sub hl [1, 2, 3, 4, 0] rfl) hk18_0
          have hJ62 : ∀ (H : Heap) (locs : List Loc) (ls : Array Slot), X11_readWants_k62 v_length v_top nv_read v_read x18_0 x18_1 x18_3 x18_4 = some z18 → Sv D A s.heap [oX11 q0 u0_0 (.int v_people) u0_2 u0_3 u0_4 u0_5 u0_6 (.ref q1) (.int v_length) (.int v_top) (.int x18_3) (.int x18_4) (.ref q2) u0_13 u0_14 u0_15 u0_16 u0_17 u0_18 u0_19 u0_20 u0_21 u0_22 u0_23 u0_24 u0_25 u0_26 u0_27 u0_28 u0_29 u0_30 u0_31 u0_32 u0_33 u0_34 u0_35 u0_36 u0_37 u0_38 u0_39 u0_40, aB cy q1 nv_read v_read, aI cy q2 14 v_comes] H locs → lv_has ls 6 [(0, .ref q0), (1, .int y7.1), (2, .int x18_0), (3, .int x18_1)] → W p l e R s m args below meth c H locs 0 0 Q (F0 m 62 ls []) := by
            intro H locs ls h hS hl
            unfold X11_readWants_k62 at h
            refine lv_aload_n hx hb dX11_readWants_62 rfl (lv_at hl 0 rfl) ?_
            refine lv_aload_n hx hb dX11_readWants_63 rfl (lv_at hl 0 rfl) ?_
            refine r_get E frX11_115 hS 0 rfl rfl dX11_readWants_64 ?_
            refine ct_V (ws' := fun _ => [oX11 q0 u0_0 (.int v_people) u0_2 u0_3 u0_4 u0_5 u0_6 (.ref q1) (.int v_length) (.int v_top) (.int x18_3) (.int (X11_fault x18_4 x18_3)) (.ref q2) u0_13 u0_14 u0_15 u0_16 u0_17 u0_18 u0_19 u0_20 u0_21 u0_22 u0_23 u0_24 u0_25 u0_26 u0_27 u0_28 u0_29 u0_30 u0_31 u0_32 u0_33 u0_34 u0_35 u0_36 u0_37 u0_38 u0_39 u0_40, aB cy q1 nv_read v_read, aI cy q2 14 v_comes]) (st' := []) (rest := []) E hS vlX11_137 (c_X11_fault (l := l) (D := D) (cy := cy) (q0 := q0) (u0_0 := u0_0) (u0_1 := .int v_people) (u0_2 := u0_2) (u0_3 := u0_3) (u0_4 := u0_4) (u0_5 := u0_5) (u0_6 := u0_6) (u0_7 := .ref q1) (u0_8 := .int v_length) (u0_9 := .int v_top) (u0_10 := .int x18_3) (u0_12 := .ref q2) (u0_13 := u0_13) (u0_14 := u0_14) (u0_15 := u0_15) (u0_16 := u0_16) (u0_17 := u0_17) (u0_18 := u0_18) (u0_19 := u0_19) (u0_20 := u0_20) (u0_21 := u0_21) (u0_22 := u0_22) (u0_23 := u0_23) (u0_24 := u0_24) (u0_25 := u0_25) (u0_26 := u0_26) (u0_27 := u0_27) (u0_28 := u0_28) (u0_29 := u0_29) (u0_30 := u0_30) (u0_31 := u0_31) (u0_32 := u0_32) (u0_33 := u0_33) (u0_34 := u0_34) (u0_35 := u0_35) (u0_36 := u0_36) (u0_37 := u0_37) (u0_38 := u0_38) (u0_39 := u0_39) (u0_40 := u0_40) (v_wrong := x18_4) (p1 := x18_3) (r := (X11_fault x18_4 x18_3)) rfl) [0] rfl rfl (fun _ => rfl) (fun _ => rfl) rfl rfl rfl rfl (Nat.le_of_ble_eq_true rfl) hl.1 (by rw [hRf]; exact Nat.le_of_ble_eq_true rfl) (by rw [hRl]; exact Nat.le_of_ble_eq_true rfl) ⟨Nat.zero_le _, Nat.zero_le _⟩ dX11_readWants_67 rfl (fun H locs _ hS => ?_)
            refine lv_goto (tgt := 93) hx hb dX11_readWants_70 (by decide) ?_
            exact hJ93 x18_0 x18_1 x18_3 (X11_fault x18_4 x18_3)  H locs ls h hS (lv_sub hl [0, 1, 2, 3] rfl)
          refine lv_if_eq (tgt := 62) hx hb dX11_readWants_53 (by decide) (fun c9 => ?_) (fun c9 => ?_)
          · have h := it_pos c9 h
            exact hJ62   H locs ls h hS (lv_sub hl [1, 2, 3, 4] rfl)
          · have h := it_neg c9 h
            refine lv_iload hx hb dX11_readWants_56 (lv_at hl 0 rfl) ?_
            refine lv_iload_n hx hb dX11_readWants_58 rfl (lv_at hl 2 rfl) ?_
            refine lv_icmp_ne (tgt := 73) hx hb dX11_readWants_59 (by decide) (fun c10 => ?_) (fun c10 => ?_)
            · have h := it_neg c10 h
              refine lv_iload_n hx hb dX11_readWants_73 rfl (lv_at hl 3 rfl) ?_
              refine lv_iconst (v := 1) hx hb dX11_readWants_74 (by decide) ?_
              refine lv_iload hx hb dX11_readWants_75 (lv_at hl 0 rfl) ?_
              refine lv_ishl hx hb dX11_readWants_77 ?_
              refine lv_ior hx hb dX11_readWants_78 ?_
              refine lv_istore_n (lv' := [(2, .int (x18_0 ||| ((1 : Int32) <<< ((y31 - (97 : Int32)) &&& 31)))), (5, .int (y31 - (97 : Int32))), (0, .ref q0), (1, .int y7.1), (3, .int x18_1), (4, .int x18_2)]) hx hb dX11_readWants_79 rfl hl (by decide) rfl (fun ls hl => ?_)
              refine lv_iload hx hb dX11_readWants_80 (lv_at hl 1 rfl) ?_
              refine lv_istore_n (lv' := [(3, .int (y31 - (97 : Int32))), (2, .int (x18_0 ||| ((1 : Int32) <<< ((y31 - (97 : Int32)) &&& 31)))), (5, .int (y31 - (97 : Int32))), (0, .ref q0), (1, .int y7.1), (4, .int x18_2)]) hx hb dX11_readWants_82 rfl hl (by decide) rfl (fun ls hl => ?_)
              refine lv_aload_n hx hb dX11_readWants_83 rfl (lv_at hl 3 rfl) ?_
              refine lv_dup hx hb dX11_readWants_84 rfl ?_
              refine r_get E frX11_115 hS 0 rfl rfl dX11_readWants_85 ?_
              refine lv_iconst (v := 1) hx hb dX11_readWants_88 (by decide) ?_
              refine lv_iadd hx hb dX11_readWants_89 ?_
              refine r_put (ws' := [oX11 q0 u0_0 (.int v_people) u0_2 u0_3 u0_4 u0_5 u0_6 (.ref q1) (.int v_length) (.int v_top) (.int (x18_3 + (1 : Int32))) (.int x18_4) (.ref q2) u0_13 u0_14 u0_15 u0_16 u0_17 u0_18 u0_19 u0_20 u0_21 u0_22 u0_23 u0_24 u0_25 u0_26 u0_27 u0_28 u0_29 u0_30 u0_31 u0_32 u0_33 u0_34 u0_35 u0_36 u0_37 u0_38 u0_39 u0_40, aB cy q1 nv_read v_read, aI cy q2 14 v_comes]) E frX11_115 hS 0 rfl (Nat.le_of_ble_eq_true rfl) rfl rfl rfl rfl dX11_readWants_90 (fun H locs hS => ?_)
              exact hJ93 (x18_0 ||| ((1 : Int32) <<< ((y31 - (97 : Int32)) &&& 31))) (y31 - (97 : Int32)) (x18_3 + (1 : Int32)) x18_4  H locs ls h hS (lv_sub hl [3, 4, 1, 0] rfl)
            · have h := it_pos c10 h
              exact hJ62   H locs ls h hS (lv_sub hl [1, 2, 3, 4] rfl)
  obtain ⟨y18, e18, h⟩ := bd_some h
  refine hL18 1000 (0 : Int32) (-1 : Int32) (1 : Int32) y7.2.1 y7.2.2 y18  H locs ls e18 hS (lv_sub hl [4, 3, 2, 1, 0] rfl) (fun y18_0 y18_1 y18_2 ey18 H locs ls hS hl => ?_)
  subst ey18
  have h := un_r h
  have h := un_r h
  refine lv_aload_n hx hb dX11_readWants_120 rfl (lv_at hl 0 rfl) ?_
  refine ct_V (ws' := fun _ => [oX11 q0 u0_0 (.int v_people) u0_2 u0_3 u0_4 u0_5 u0_6 (.ref q1) (.int v_length) (.int v_top) (.int y18_1) (.int y18_2) (.ref q2) u0_13 u0_14 u0_15 u0_16 u0_17 u0_18 u0_19 u0_20 u0_21 u0_22 u0_23 u0_24 u0_25 u0_26 u0_27 u0_28 u0_29 u0_30 u0_31 u0_32 u0_33 u0_34 u0_35 u0_36 u0_37 u0_38 u0_39 u0_40, aB cy q1 nv_read v_read, aI cy q2 14 v_comes]) (st' := [.int (X11_fine y18_2)]) (rest := []) E hS vlX11_125 (c_X11_fine (l := l) (D := D) (cy := cy) (q0 := q0) (u0_0 := u0_0) (u0_1 := .int v_people) (u0_2 := u0_2) (u0_3 := u0_3) (u0_4 := u0_4) (u0_5 := u0_5) (u0_6 := u0_6) (u0_7 := .ref q1) (u0_8 := .int v_length) (u0_9 := .int v_top) (u0_10 := .int y18_1) (u0_12 := .ref q2) (u0_13 := u0_13) (u0_14 := u0_14) (u0_15 := u0_15) (u0_16 := u0_16) (u0_17 := u0_17) (u0_18 := u0_18) (u0_19 := u0_19) (u0_20 := u0_20) (u0_21 := u0_21) (u0_22 := u0_22) (u0_23 := u0_23) (u0_24 := u0_24) (u0_25 := u0_25) (u0_26 := u0_26) (u0_27 := u0_27) (u0_28 := u0_28) (u0_29 := u0_29) (u0_30 := u0_30) (u0_31 := u0_31) (u0_32 := u0_32) (u0_33 := u0_33) (u0_34 := u0_34) (u0_35 := u0_35) (u0_36 := u0_36) (u0_37 := u0_37) (u0_38 := u0_38) (u0_39 := u0_39) (u0_40 := u0_40) (v_wrong := y18_2) (r := (X11_fine y18_2)) rfl) [0] rfl rfl (fun _ => rfl) (fun _ => rfl) rfl rfl rfl rfl (Nat.le_of_ble_eq_true rfl) hl.1 (by rw [hRf]; exact Nat.le_of_ble_eq_true rfl) (by rw [hRl]; exact Nat.le_of_ble_eq_true rfl) ⟨Nat.zero_le _, Nat.zero_le _⟩ dX11_readWants_121 rfl (fun H locs _ hS => ?_)
  refine lv_if_eq (tgt := 134) hx hb dX11_readWants_124 (by decide) (fun c11 => ?_) (fun c11 => ?_)
  · have h := it_pos c11 h
    obtain rfl := Option.some.inj h
    exact rt_v E hQ (.null) hS dX11_readWants_134
  · have h := it_neg c11 h
    refine lv_aload_n hx hb dX11_readWants_127 rfl (lv_at hl 0 rfl) ?_
    refine r_get E frX11_21 hS 0 rfl rfl dX11_readWants_128 ?_
    refine lv_iload_n hx hb dX11_readWants_131 rfl (lv_at hl 1 rfl) ?_
    refine lv_iload_n hx hb dX11_readWants_132 rfl (lv_at hl 2 rfl) ?_
    obtain ⟨g12, h⟩ := gi_some h
    refine r_iast (ws' := [oX11 q0 u0_0 (.int v_people) u0_2 u0_3 u0_4 u0_5 u0_6 (.ref q1) (.int v_length) (.int v_top) (.int y18_1) (.int y18_2) (.ref q2) u0_13 u0_14 u0_15 u0_16 u0_17 u0_18 u0_19 u0_20 u0_21 u0_22 u0_23 u0_24 u0_25 u0_26 u0_27 u0_28 u0_29 u0_30 u0_31 u0_32 u0_33 u0_34 u0_35 u0_36 u0_37 u0_38 u0_39 u0_40, aB cy q1 nv_read v_read, aI cy q2 14 (upd v_comes y7.1.toNatClampNeg y18_0)]) E hS 2 rfl g12 rfl dX11_readWants_133 (fun H locs hS => ?_)
    obtain rfl := Option.some.inj h
    exact rt_v E hQ (.null) hS dX11_readWants_134
set_option maxHeartbeats 4000000 in
set_option maxRecDepth 100000 in
theorem c_X11_wants {l : Launch} {D : va_G} {cy : Nat → ClassId} (q0 : Nat) (q1 : Nat) (q2 : Nat) (q3 : Nat) (u0_4 : Value) (u0_5 : Value) (u0_7 : Value) (u0_13 : Value) (u0_14 : Value) (u0_15 : Value) (u0_16 : Value) (u0_17 : Value) (u0_18 : Value) (u0_20 : Value) (u0_21 : Value) (u0_22 : Value) (u0_23 : Value) (u0_24 : Value) (u0_25 : Value) (u0_26 : Value) (u0_27 : Value) (u0_28 : Value) (u0_29 : Value) (u0_30 : Value) (u0_31 : Value) (u0_32 : Value) (u0_33 : Value) (u0_34 : Value) (u0_35 : Value) (u0_36 : Value) (u0_38 : Value) (u0_39 : Value) (u0_40 : Value) (v_people : Int32) (v_typed : Int32) (v_thrown : Int32) (v_length : Int32) (v_top : Int32) (v_at : Int32) (v_wrong : Int32) (v_undoMany : Int32) (v_came : Int32) (v_now : Nat → Int32) (v_text : Nat → Int32) (v_comes : Nat → Int32) (r : Int32 × Int32 × Int32 × Int32 × Int32 × Int32 × Int32 × Int32 × Int32 × (Nat → Int32) × (Nat → Int32)) (h : X11_wants v_people v_typed v_undoMany v_came v_now v_text v_comes = some r) : Ct l yX11_wants cX11_wants 4 (some .int) 4 88 D cy [.ref q0] [oX11 q0 (.ref q1) (.int v_people) (.ref q2) (.int v_typed) u0_4 u0_5 (.int v_thrown) u0_7 (.int v_length) (.int v_top) (.int v_at) (.int v_wrong) (.ref q3) u0_13 u0_14 u0_15 u0_16 u0_17 u0_18 (.int v_undoMany) u0_20 u0_21 u0_22 u0_23 u0_24 u0_25 u0_26 u0_27 u0_28 u0_29 u0_30 u0_31 u0_32 u0_33 u0_34 u0_35 u0_36 (.int v_came) u0_38 u0_39 u0_40, aI cy q1 37 v_now, aB cy q2 80 v_text, aI cy q3 14 v_comes] (fun _ => [oX11 q0 (.ref q1) (.int v_people) (.ref q2) (.int r.2.1) u0_4 u0_5 (.int r.2.2.1) (.ref q2) (.int r.2.2.2.1) (.int r.2.2.2.2.1) (.int r.2.2.2.2.2.1) (.int r.2.2.2.2.2.2.1) (.ref q3) u0_13 u0_14 u0_15 u0_16 u0_17 u0_18 (.int r.2.2.2.2.2.2.2.1) u0_20 u0_21 u0_22 u0_23 u0_24 u0_25 u0_26 u0_27 u0_28 u0_29 u0_30 u0_31 u0_32 u0_33 u0_34 u0_35 u0_36 (.int r.2.2.2.2.2.2.2.2.1) u0_38 u0_39 u0_40, aI cy q1 37 r.2.2.2.2.2.2.2.2.2.1, aB cy q2 80 v_text, aI cy q3 14 r.2.2.2.2.2.2.2.2.2.2]) (some (.int r.1)) := by
  refine Ct.mk kX11_wants (by decide +kernel) (Nat.le_of_ble_eq_true rfl) ?_
  intro p e s m below meth c A ls args R Q hRf hRl hQ E H locs hS hl
  have hx := E.x
  have hb := E.b
  have hl : lv_has ls 4 [(0, .ref q0)] := hl
  unfold X11_wants at h
  refine lv_aload_n hx hb dX11_wants_0 rfl (lv_at hl 0 rfl) ?_
  refine lv_iconst (v := 0) hx hb dX11_wants_1 (by decide) ?_
  refine r_put (ws' := [oX11 q0 (.ref q1) (.int v_people) (.ref q2) (.int v_typed) u0_4 u0_5 (.int (0 : Int32)) u0_7 (.int v_length) (.int v_top) (.int v_at) (.int v_wrong) (.ref q3) u0_13 u0_14 u0_15 u0_16 u0_17 u0_18 (.int v_undoMany) u0_20 u0_21 u0_22 u0_23 u0_24 u0_25 u0_26 u0_27 u0_28 u0_29 u0_30 u0_31 u0_32 u0_33 u0_34 u0_35 u0_36 (.int v_came) u0_38 u0_39 u0_40, aI cy q1 37 v_now, aB cy q2 80 v_text, aI cy q3 14 v_comes]) E frX11_85 hS 0 rfl (Nat.le_of_ble_eq_true rfl) rfl rfl rfl rfl dX11_wants_2 (fun H locs hS => ?_)
  refine lv_aload_n hx hb dX11_wants_5 rfl (lv_at hl 0 rfl) ?_
  refine lv_bipush (v := 60) hx hb dX11_wants_6 (by decide) ?_
  refine ct_V (ws' := fun _ => [oX11 q0 (.ref q1) (.int v_people) (.ref q2) (.int ((X11_beginText v_typed (60 : Int32)).1)) u0_4 u0_5 (.int (0 : Int32)) (.ref q2) (.int ((X11_beginText v_typed (60 : Int32)).2.1)) (.int ((X11_beginText v_typed (60 : Int32)).2.2.1)) (.int ((X11_beginText v_typed (60 : Int32)).2.2.2.1)) (.int ((X11_beginText v_typed (60 : Int32)).2.2.2.2)) (.ref q3) u0_13 u0_14 u0_15 u0_16 u0_17 u0_18 (.int v_undoMany) u0_20 u0_21 u0_22 u0_23 u0_24 u0_25 u0_26 u0_27 u0_28 u0_29 u0_30 u0_31 u0_32 u0_33 u0_34 u0_35 u0_36 (.int v_came) u0_38 u0_39 u0_40, aI cy q1 37 v_now, aB cy q2 80 v_text, aI cy q3 14 v_comes]) (st' := []) (rest := []) E hS vlX11_151 (c_X11_beginText (l := l) (D := D) (cy := cy) (q0 := q0) (u0_0 := .ref q1) (u0_1 := .int v_people) (z0_2 := q2) (u0_4 := u0_4) (u0_5 := u0_5) (u0_6 := .int (0 : Int32)) (u0_7 := u0_7) (u0_12 := .ref q3) (u0_13 := u0_13) (u0_14 := u0_14) (u0_15 := u0_15) (u0_16 := u0_16) (u0_17 := u0_17) (u0_18 := u0_18) (u0_19 := .int v_undoMany) (u0_20 := u0_20) (u0_21 := u0_21) (u0_22 := u0_22) (u0_23 := u0_23) (u0_24 := u0_24) (u0_25 := u0_25) (u0_26 := u0_26) (u0_27 := u0_27) (u0_28 := u0_28) (u0_29 := u0_29) (u0_30 := u0_30) (u0_31 := u0_31) (u0_32 := u0_32) (u0_33 := u0_33) (u0_34 := u0_34) (u0_35 := u0_35) (u0_36 := u0_36) (u0_37 := .int v_came) (u0_38 := u0_38) (u0_39 := u0_39) (u0_40 := u0_40) (v_typed := v_typed) (v_length := v_length) (v_top := v_top) (v_at := v_at) (v_wrong := v_wrong) (p1 := (60 : Int32)) (r := (X11_beginText v_typed (60 : Int32))) rfl) [0] rfl rfl (fun _ => rfl) (fun _ => rfl) rfl rfl rfl rfl (Nat.le_of_ble_eq_true rfl) hl.1 (by rw [hRf]; exact Nat.le_of_ble_eq_true rfl) (by rw [hRl]; exact Nat.le_of_ble_eq_true rfl) ⟨Nat.zero_le _, Nat.zero_le _⟩ dX11_wants_8 rfl (fun H locs _ hS => ?_)
  refine lv_aload_n hx hb dX11_wants_11 rfl (lv_at hl 0 rfl) ?_
  refine r_get E frX11_109 hS 0 rfl rfl dX11_wants_12 ?_
  refine lv_if_ne (tgt := 20) hx hb dX11_wants_15 (by decide) (fun c1 => ?_) (fun c1 => ?_)
  · have h := it_neg c1 h
    refine lv_iconst (v := 0) hx hb dX11_wants_20 (by decide) ?_
    refine lv_istore_n (lv' := [(1, .int (0 : Int32)), (0, .ref q0)]) hx hb dX11_wants_21 rfl hl (by decide) rfl (fun ls hl => ?_)
    have hL22 : ∀ (n : Nat) (x22_0 : Int32) (x22_1 : Nat → Int32) (y22 : (Nat → Int32)) (H : Heap) (locs : List Loc) (ls : Array Slot), lp (fun x22 => X11_wants_s22 v_people v_now x22.1 x22.2) n (x22_0, x22_1) = some y22 → Sv D A s.heap [oX11 q0 (.ref q1) (.int v_people) (.ref q2) (.int ((X11_beginText v_typed (60 : Int32)).1)) u0_4 u0_5 (.int (0 : Int32)) (.ref q2) (.int ((X11_beginText v_typed (60 : Int32)).2.1)) (.int ((X11_beginText v_typed (60 : Int32)).2.2.1)) (.int ((X11_beginText v_typed (60 : Int32)).2.2.2.1)) (.int ((X11_beginText v_typed (60 : Int32)).2.2.2.2)) (.ref q3) u0_13 u0_14 u0_15 u0_16 u0_17 u0_18 (.int v_undoMany) u0_20 u0_21 u0_22 u0_23 u0_24 u0_25 u0_26 u0_27 u0_28 u0_29 u0_30 u0_31 u0_32 u0_33 u0_34 u0_35 u0_36 (.int v_came) u0_38 u0_39 u0_40, aI cy q1 37 v_now, aB cy q2 80 v_text, aI cy q3 14 x22_1] H locs → lv_has ls 4 [(0, .ref q0), (1, .int x22_0)] → ( ∀ (y22_0 : Nat → Int32), y22_0 = y22 → ∀ (H : Heap) (locs : List Loc) (ls : Array Slot), Sv D A s.heap [oX11 q0 (.ref q1) (.int v_people) (.ref q2) (.int ((X11_beginText v_typed (60 : Int32)).1)) u0_4 u0_5 (.int (0 : Int32)) (.ref q2) (.int ((X11_beginText v_typed (60 : Int32)).2.1)) (.int ((X11_beginText v_typed (60 : Int32)).2.2.1)) (.int ((X11_beginText v_typed (60 : Int32)).2.2.2.1)) (.int ((X11_beginText v_typed (60 : Int32)).2.2.2.2)) (.ref q3) u0_13 u0_14 u0_15 u0_16 u0_17 u0_18 (.int v_undoMany) u0_20 u0_21 u0_22 u0_23 u0_24 u0_25 u0_26 u0_27 u0_28 u0_29 u0_30 u0_31 u0_32 u0_33 u0_34 u0_35 u0_36 (.int v_came) u0_38 u0_39 u0_40, aI cy q1 37 v_now, aB cy q2 80 v_text, aI cy q3 14 y22_0] H locs → lv_has ls 4 [(0, .ref q0)] → W p l e R s m args below meth c H locs 0 0 Q (F0 m 51 ls [])) → W p l e R s m args below meth c H locs 0 0 Q (F0 m 22 ls []) := by
      intro n
      induction n with
      | zero =>
        intro x22_0 x22_1 y22 H locs ls h
        exact lp_zero h
      | succ n ih22 =>
        intro x22_0 x22_1 y22 H locs ls h hS hl hk22_0
        obtain ⟨z22, h, hz22a, hz22b⟩ := lp_succ h
        have h : X11_wants_s22 v_people v_now x22_0 x22_1 = some z22 := h
        unfold X11_wants_s22 at h
        refine lv_iload_n hx hb dX11_wants_22 rfl (lv_at hl 1 rfl) ?_
        refine lv_aload_n hx hb dX11_wants_23 rfl (lv_at hl 0 rfl) ?_
        refine r_get E frX11_92 hS 0 rfl rfl dX11_wants_24 ?_
        refine lv_icmp_ge (tgt := 51) hx hb dX11_wants_27 (by decide) (fun c2 => ?_) (fun c2 => ?_)
        · have h := it_pos c2 h
          exact hk22_0 x22_1 (hz22b _ (Option.some.inj h).symm)  H locs ls hS (lv_sub hl [0] rfl)
        · have h := it_neg c2 h
          refine lv_aload_n hx hb dX11_wants_30 rfl (lv_at hl 0 rfl) ?_
          refine r_get E frX11_21 hS 0 rfl rfl dX11_wants_31 ?_
          refine lv_iload_n hx hb dX11_wants_34 rfl (lv_at hl 1 rfl) ?_
          refine lv_aload_n hx hb dX11_wants_35 rfl (lv_at hl 0 rfl) ?_
          refine r_get E frX11_9 hS 0 rfl rfl dX11_wants_36 ?_
          refine lv_bipush (v := 28) hx hb dX11_wants_39 (by decide) ?_
          refine lv_iload_n hx hb dX11_wants_41 rfl (lv_at hl 1 rfl) ?_
          refine lv_iadd hx hb dX11_wants_42 ?_
          obtain ⟨g3, h⟩ := gi_some h
          refine r_iald E hS 1 rfl g3 dX11_wants_43 ?_
          obtain ⟨g4, h⟩ := gi_some h
          refine r_iast (ws' := [oX11 q0 (.ref q1) (.int v_people) (.ref q2) (.int ((X11_beginText v_typed (60 : Int32)).1)) u0_4 u0_5 (.int (0 : Int32)) (.ref q2) (.int ((X11_beginText v_typed (60 : Int32)).2.1)) (.int ((X11_beginText v_typed (60 : Int32)).2.2.1)) (.int ((X11_beginText v_typed (60 : Int32)).2.2.2.1)) (.int ((X11_beginText v_typed (60 : Int32)).2.2.2.2)) (.ref q3) u0_13 u0_14 u0_15 u0_16 u0_17 u0_18 (.int v_undoMany) u0_20 u0_21 u0_22 u0_23 u0_24 u0_25 u0_26 u0_27 u0_28 u0_29 u0_30 u0_31 u0_32 u0_33 u0_34 u0_35 u0_36 (.int v_came) u0_38 u0_39 u0_40, aI cy q1 37 v_now, aB cy q2 80 v_text, aI cy q3 14 (upd x22_1 x22_0.toNatClampNeg (v_now ((28 : Int32) + x22_0).toNatClampNeg))]) E hS 3 rfl g4 rfl dX11_wants_44 (fun H locs hS => ?_)
          refine lv_iinc (v := (x22_0 + (1 : Int32))) (lv' := [(1, .int (x22_0 + (1 : Int32))), (0, .ref q0)]) hx hb dX11_wants_45 hl (k := 1) rfl rfl (by decide) rfl (fun ls hl => ?_)
          refine lv_goto (tgt := 22) hx hb dX11_wants_48 (by decide) ?_
          exact ih22 (x22_0 + (1 : Int32)) (upd x22_1 x22_0.toNatClampNeg (v_now ((28 : Int32) + x22_0).toNatClampNeg)) y22  H locs ls (hz22a _ (Option.some.inj h).symm) hS (lv_sub hl [1, 0] rfl) hk22_0
    obtain ⟨y22, e22, h⟩ := bd_some h
    refine hL22 1000 (0 : Int32) v_comes y22  H locs ls e22 hS (lv_sub hl [1, 0] rfl) (fun y22_0 ey22 H locs ls hS hl => ?_)
    subst ey22
    refine lv_iconst (v := 0) hx hb dX11_wants_51 (by decide) ?_
    refine lv_istore_n (lv' := [(1, .int (0 : Int32)), (0, .ref q0)]) hx hb dX11_wants_52 rfl hl (by decide) rfl (fun ls hl => ?_)
    refine lv_iconst (v := 1) hx hb dX11_wants_53 (by decide) ?_
    refine lv_istore_n (lv' := [(2, .int (1 : Int32)), (1, .int (0 : Int32)), (0, .ref q0)]) hx hb dX11_wants_54 rfl hl (by decide) rfl (fun ls hl => ?_)
    have hL55 : ∀ (n : Nat) (x55_0 : Int32) (x55_1 : Int32) (x55_2 : Int32) (x55_3 : Int32) (x55_4 : Nat → Int32) (y55 : Int32 × Int32 × Int32 × (Nat → Int32)) (H : Heap) (locs : List Loc) (ls : Array Slot), lp (fun x55 => X11_wants_s55 v_people v_typed v_text x55.1 x55.2.1 x55.2.2.1 x55.2.2.2.1 x55.2.2.2.2) n (x55_0, x55_1, x55_2, x55_3, x55_4) = some y55 → Sv D A s.heap [oX11 q0 (.ref q1) (.int v_people) (.ref q2) (.int ((X11_beginText v_typed (60 : Int32)).1)) u0_4 u0_5 (.int (0 : Int32)) (.ref q2) (.int ((X11_beginText v_typed (60 : Int32)).2.1)) (.int ((X11_beginText v_typed (60 : Int32)).2.2.1)) (.int x55_2) (.int x55_3) (.ref q3) u0_13 u0_14 u0_15 u0_16 u0_17 u0_18 (.int v_undoMany) u0_20 u0_21 u0_22 u0_23 u0_24 u0_25 u0_26 u0_27 u0_28 u0_29 u0_30 u0_31 u0_32 u0_33 u0_34 u0_35 u0_36 (.int v_came) u0_38 u0_39 u0_40, aI cy q1 37 v_now, aB cy q2 80 v_text, aI cy q3 14 x55_4] H locs → lv_has ls 4 [(0, .ref q0), (1, .int x55_0), (2, .int x55_1)] → ( ∀ (y55_0 : Int32) (y55_1 : Int32) (y55_2 : Int32) (y55_3 : Nat → Int32), (y55_0, y55_1, y55_2, y55_3) = y55 → ∀ (H : Heap) (locs : List Loc) (ls : Array Slot), Sv D A s.heap [oX11 q0 (.ref q1) (.int v_people) (.ref q2) (.int ((X11_beginText v_typed (60 : Int32)).1)) u0_4 u0_5 (.int (0 : Int32)) (.ref q2) (.int ((X11_beginText v_typed (60 : Int32)).2.1)) (.int ((X11_beginText v_typed (60 : Int32)).2.2.1)) (.int y55_1) (.int y55_2) (.ref q3) u0_13 u0_14 u0_15 u0_16 u0_17 u0_18 (.int v_undoMany) u0_20 u0_21 u0_22 u0_23 u0_24 u0_25 u0_26 u0_27 u0_28 u0_29 u0_30 u0_31 u0_32 u0_33 u0_34 u0_35 u0_36 (.int v_came) u0_38 u0_39 u0_40, aI cy q1 37 v_now, aB cy q2 80 v_text, aI cy q3 14 y55_3] H locs → lv_has ls 4 [(0, .ref q0), (1, .int y55_0)] → W p l e R s m args below meth c H locs 0 0 Q (F0 m 83 ls [])) → W p l e R s m args below meth c H locs 0 0 Q (F0 m 55 ls []) := by
      intro n
      induction n with
      | zero =>
        intro x55_0 x55_1 x55_2 x55_3 x55_4 y55 H locs ls h
        exact lp_zero h
      | succ n ih55 =>
        intro x55_0 x55_1 x55_2 x55_3 x55_4 y55 H locs ls h hS hl hk55_0
        obtain ⟨z55, h, hz55a, hz55b⟩ := lp_succ h
        have h : X11_wants_s55 v_people v_typed v_text x55_0 x55_1 x55_2 x55_3 x55_4 = some z55 := h
        unfold X11_wants_s55 at h
        refine lv_iload_n hx hb dX11_wants_55 rfl (lv_at hl 2 rfl) ?_
        refine lv_if_eq (tgt := 83) hx hb dX11_wants_56 (by decide) (fun c5 => ?_) (fun c5 => ?_)
        · have h := it_pos c5 h
          exact hk55_0 x55_0 x55_2 x55_3 x55_4 (hz55b _ (Option.some.inj h).symm)  H locs ls hS (lv_sub hl [0, 1] rfl)
        · have h := it_neg c5 h
          refine lv_aload_n hx hb dX11_wants_59 rfl (lv_at hl 0 rfl) ?_
          refine ct_V (ws' := fun _ => [oX11 q0 (.ref q1) (.int v_people) (.ref q2) (.int ((X11_beginText v_typed (60 : Int32)).1)) u0_4 u0_5 (.int (0 : Int32)) (.ref q2) (.int ((X11_beginText v_typed (60 : Int32)).2.1)) (.int ((X11_beginText v_typed (60 : Int32)).2.2.1)) (.int x55_2) (.int x55_3) (.ref q3) u0_13 u0_14 u0_15 u0_16 u0_17 u0_18 (.int v_undoMany) u0_20 u0_21 u0_22 u0_23 u0_24 u0_25 u0_26 u0_27 u0_28 u0_29 u0_30 u0_31 u0_32 u0_33 u0_34 u0_35 u0_36 (.int v_came) u0_38 u0_39 u0_40, aI cy q1 37 v_now, aB cy q2 80 v_text, aI cy q3 14 x55_4]) (st' := [.int (X11_fine x55_3)]) (rest := []) E hS vlX11_125 (c_X11_fine (l := l) (D := D) (cy := cy) (q0 := q0) (u0_0 := .ref q1) (u0_1 := .int v_people) (u0_2 := .ref q2) (u0_3 := .int ((X11_beginText v_typed (60 : Int32)).1)) (u0_4 := u0_4) (u0_5 := u0_5) (u0_6 := .int (0 : Int32)) (u0_7 := .ref q2) (u0_8 := .int ((X11_beginText v_typed (60 : Int32)).2.1)) (u0_9 := .int ((X11_beginText v_typed (60 : Int32)).2.2.1)) (u0_10 := .int x55_2) (u0_12 := .ref q3) (u0_13 := u0_13) (u0_14 := u0_14) (u0_15 := u0_15) (u0_16 := u0_16) (u0_17 := u0_17) (u0_18 := u0_18) (u0_19 := .int v_undoMany) (u0_20 := u0_20) (u0_21 := u0_21) (u0_22 := u0_22) (u0_23 := u0_23) (u0_24 := u0_24) (u0_25 := u0_25) (u0_26 := u0_26) (u0_27 := u0_27) (u0_28 := u0_28) (u0_29 := u0_29) (u0_30 := u0_30) (u0_31 := u0_31) (u0_32 := u0_32) (u0_33 := u0_33) (u0_34 := u0_34) (u0_35 := u0_35) (u0_36 := u0_36) (u0_37 := .int v_came) (u0_38 := u0_38) (u0_39 := u0_39) (u0_40 := u0_40) (v_wrong := x55_3) (r := (X11_fine x55_3)) rfl) [0] rfl rfl (fun _ => rfl) (fun _ => rfl) rfl rfl rfl rfl (Nat.le_of_ble_eq_true rfl) hl.1 (by rw [hRf]; exact Nat.le_of_ble_eq_true rfl) (by rw [hRl]; exact Nat.le_of_ble_eq_true rfl) ⟨Nat.zero_le _, Nat.zero_le _⟩ dX11_wants_60 rfl (fun H locs _ hS => ?_)
          refine lv_if_eq (tgt := 83) hx hb dX11_wants_63 (by decide) (fun c6 => ?_) (fun c6 => ?_)
          · have h := it_pos c6 h
            exact hk55_0 x55_0 x55_2 x55_3 x55_4 (hz55b _ (Option.some.inj h).symm)  H locs ls hS (lv_sub hl [0, 1] rfl)
          · have h := it_neg c6 h
            refine lv_aload_n hx hb dX11_wants_66 rfl (lv_at hl 0 rfl) ?_
            obtain ⟨y67, e7, h⟩ := bd_some h
            refine ct_V (ws' := fun _ => [oX11 q0 (.ref q1) (.int v_people) (.ref q2) (.int ((X11_beginText v_typed (60 : Int32)).1)) u0_4 u0_5 (.int (0 : Int32)) (.ref q2) (.int ((X11_beginText v_typed (60 : Int32)).2.1)) (.int ((X11_beginText v_typed (60 : Int32)).2.2.1)) (.int y67.1) (.int y67.2.1) (.ref q3) u0_13 u0_14 u0_15 u0_16 u0_17 u0_18 (.int v_undoMany) u0_20 u0_21 u0_22 u0_23 u0_24 u0_25 u0_26 u0_27 u0_28 u0_29 u0_30 u0_31 u0_32 u0_33 u0_34 u0_35 u0_36 (.int v_came) u0_38 u0_39 u0_40, aI cy q1 37 v_now, aB cy q2 80 v_text, aI cy q3 14 y67.2.2]) (st' := []) (rest := []) E hS vlX11_160 (c_X11_readWants (l := l) (D := D) (cy := cy) (q0 := q0) (q1 := q2) (q2 := q3) (u0_0 := .ref q1) (u0_2 := .ref q2) (u0_3 := .int ((X11_beginText v_typed (60 : Int32)).1)) (u0_4 := u0_4) (u0_5 := u0_5) (u0_6 := .int (0 : Int32)) (u0_13 := u0_13) (u0_14 := u0_14) (u0_15 := u0_15) (u0_16 := u0_16) (u0_17 := u0_17) (u0_18 := u0_18) (u0_19 := .int v_undoMany) (u0_20 := u0_20) (u0_21 := u0_21) (u0_22 := u0_22) (u0_23 := u0_23) (u0_24 := u0_24) (u0_25 := u0_25) (u0_26 := u0_26) (u0_27 := u0_27) (u0_28 := u0_28) (u0_29 := u0_29) (u0_30 := u0_30) (u0_31 := u0_31) (u0_32 := u0_32) (u0_33 := u0_33) (u0_34 := u0_34) (u0_35 := u0_35) (u0_36 := u0_36) (u0_37 := .int v_came) (u0_38 := u0_38) (u0_39 := u0_39) (u0_40 := u0_40) (v_people := v_people) (v_length := (X11_beginText v_typed (60 : Int32)).2.1) (v_top := (X11_beginText v_typed (60 : Int32)).2.2.1) (v_at := x55_2) (v_wrong := x55_3) (nv_read := 80) (v_read := v_text) (v_comes := x55_4) (r := y67) e7) [0, 2, 3] rfl rfl (fun _ => rfl) (fun _ => rfl) rfl rfl rfl rfl (Nat.le_of_ble_eq_true rfl) hl.1 (by rw [hRf]; exact Nat.le_of_ble_eq_true rfl) (by rw [hRl]; exact Nat.le_of_ble_eq_true rfl) ⟨Nat.zero_le _, Nat.zero_le _⟩ dX11_wants_67 rfl (fun H locs _ hS => ?_)
            refine lv_iinc (v := (x55_0 + (1 : Int32))) (lv' := [(1, .int (x55_0 + (1 : Int32))), (0, .ref q0), (2, .int x55_1)]) hx hb dX11_wants_70 hl (k := 1) rfl rfl (by decide) rfl (fun ls hl => ?_)
            refine lv_aload_n hx hb dX11_wants_73 rfl (lv_at hl 1 rfl) ?_
            refine lv_bipush (v := 59) hx hb dX11_wants_74 (by decide) ?_
            obtain ⟨y76, e8, h⟩ := bd_some h
            refine ct_V (ws' := fun _ => [oX11 q0 (.ref q1) (.int v_people) (.ref q2) (.int ((X11_beginText v_typed (60 : Int32)).1)) u0_4 u0_5 (.int (0 : Int32)) (.ref q2) (.int ((X11_beginText v_typed (60 : Int32)).2.1)) (.int ((X11_beginText v_typed (60 : Int32)).2.2.1)) (.int y76.2) (.int y67.2.1) (.ref q3) u0_13 u0_14 u0_15 u0_16 u0_17 u0_18 (.int v_undoMany) u0_20 u0_21 u0_22 u0_23 u0_24 u0_25 u0_26 u0_27 u0_28 u0_29 u0_30 u0_31 u0_32 u0_33 u0_34 u0_35 u0_36 (.int v_came) u0_38 u0_39 u0_40, aI cy q1 37 v_now, aB cy q2 80 v_text, aI cy q3 14 y67.2.2]) (st' := [.int y76.1]) (rest := []) E hS vlX11_133 (c_X11_passes (l := l) (D := D) (cy := cy) (q0 := q0) (q1 := q2) (u0_0 := .ref q1) (u0_1 := .int v_people) (u0_2 := .ref q2) (u0_3 := .int ((X11_beginText v_typed (60 : Int32)).1)) (u0_4 := u0_4) (u0_5 := u0_5) (u0_6 := .int (0 : Int32)) (u0_12 := .ref q3) (u0_13 := u0_13) (u0_14 := u0_14) (u0_15 := u0_15) (u0_16 := u0_16) (u0_17 := u0_17) (u0_18 := u0_18) (u0_19 := .int v_undoMany) (u0_20 := u0_20) (u0_21 := u0_21) (u0_22 := u0_22) (u0_23 := u0_23) (u0_24 := u0_24) (u0_25 := u0_25) (u0_26 := u0_26) (u0_27 := u0_27) (u0_28 := u0_28) (u0_29 := u0_29) (u0_30 := u0_30) (u0_31 := u0_31) (u0_32 := u0_32) (u0_33 := u0_33) (u0_34 := u0_34) (u0_35 := u0_35) (u0_36 := u0_36) (u0_37 := .int v_came) (u0_38 := u0_38) (u0_39 := u0_39) (u0_40 := u0_40) (v_length := (X11_beginText v_typed (60 : Int32)).2.1) (v_top := (X11_beginText v_typed (60 : Int32)).2.2.1) (v_at := y67.1) (v_wrong := y67.2.1) (nv_read := 80) (v_read := v_text) (p1 := (59 : Int32)) (r := y76) e8) [0, 2] rfl rfl (fun _ => rfl) (fun _ => rfl) rfl rfl rfl rfl (Nat.le_of_ble_eq_true rfl) hl.1 (by rw [hRf]; exact Nat.le_of_ble_eq_true rfl) (by rw [hRl]; exact Nat.le_of_ble_eq_true rfl) ⟨Nat.zero_le _, Nat.zero_le _⟩ dX11_wants_76 rfl (fun H locs _ hS => ?_)
            refine lv_istore_n (lv' := [(2, .int y76.1), (1, .int (x55_0 + (1 : Int32))), (0, .ref q0)]) hx hb dX11_wants_79 rfl hl (by decide) rfl (fun ls hl => ?_)
            refine lv_goto (tgt := 55) hx hb dX11_wants_80 (by decide) ?_
            exact ih55 (x55_0 + (1 : Int32)) y76.1 y76.2 y67.2.1 y67.2.2 y55  H locs ls (hz55a _ (Option.some.inj h).symm) hS (lv_sub hl [2, 1, 0] rfl) hk55_0
    obtain ⟨y55, e55, h⟩ := bd_some h
    refine hL55 1000 (0 : Int32) (1 : Int32) ((X11_beginText v_typed (60 : Int32)).2.2.2.1) ((X11_beginText v_typed (60 : Int32)).2.2.2.2) y22_0 y55  H locs ls e55 hS (lv_sub hl [2, 1, 0] rfl) (fun y55_0 y55_1 y55_2 y55_3 ey55 H locs ls hS hl => ?_)
    subst ey55
    have h := un_r h
    have h := un_r h
    have h := un_r h
    refine lv_aload_n hx hb dX11_wants_83 rfl (lv_at hl 0 rfl) ?_
    obtain ⟨y84, e9, h⟩ := bd_some h
    refine ct_V (ws' := fun _ => [oX11 q0 (.ref q1) (.int v_people) (.ref q2) (.int ((X11_beginText v_typed (60 : Int32)).1)) u0_4 u0_5 (.int (0 : Int32)) (.ref q2) (.int ((X11_beginText v_typed (60 : Int32)).2.1)) (.int ((X11_beginText v_typed (60 : Int32)).2.2.1)) (.int y55_1) (.int y84.2) (.ref q3) u0_13 u0_14 u0_15 u0_16 u0_17 u0_18 (.int v_undoMany) u0_20 u0_21 u0_22 u0_23 u0_24 u0_25 u0_26 u0_27 u0_28 u0_29 u0_30 u0_31 u0_32 u0_33 u0_34 u0_35 u0_36 (.int v_came) u0_38 u0_39 u0_40, aI cy q1 37 v_now, aB cy q2 80 v_text, aI cy q3 14 y55_3]) (st' := [.int y84.1]) (rest := []) E hS vlX11_154 (c_X11_wasRight (l := l) (D := D) (cy := cy) (q0 := q0) (u0_0 := .ref q1) (u0_1 := .int v_people) (u0_2 := .ref q2) (u0_3 := .int ((X11_beginText v_typed (60 : Int32)).1)) (u0_4 := u0_4) (u0_5 := u0_5) (u0_6 := .int (0 : Int32)) (u0_7 := .ref q2) (u0_9 := .int ((X11_beginText v_typed (60 : Int32)).2.2.1)) (u0_12 := .ref q3) (u0_13 := u0_13) (u0_14 := u0_14) (u0_15 := u0_15) (u0_16 := u0_16) (u0_17 := u0_17) (u0_18 := u0_18) (u0_19 := .int v_undoMany) (u0_20 := u0_20) (u0_21 := u0_21) (u0_22 := u0_22) (u0_23 := u0_23) (u0_24 := u0_24) (u0_25 := u0_25) (u0_26 := u0_26) (u0_27 := u0_27) (u0_28 := u0_28) (u0_29 := u0_29) (u0_30 := u0_30) (u0_31 := u0_31) (u0_32 := u0_32) (u0_33 := u0_33) (u0_34 := u0_34) (u0_35 := u0_35) (u0_36 := u0_36) (u0_37 := .int v_came) (u0_38 := u0_38) (u0_39 := u0_39) (u0_40 := u0_40) (v_length := (X11_beginText v_typed (60 : Int32)).2.1) (v_at := y55_1) (v_wrong := y55_2) (r := y84) e9) [0] rfl rfl (fun _ => rfl) (fun _ => rfl) rfl rfl rfl rfl (Nat.le_of_ble_eq_true rfl) hl.1 (by rw [hRf]; exact Nat.le_of_ble_eq_true rfl) (by rw [hRl]; exact Nat.le_of_ble_eq_true rfl) ⟨Nat.zero_le _, Nat.zero_le _⟩ dX11_wants_84 rfl (fun H locs _ hS => ?_)
    refine lv_if_ne (tgt := 97) hx hb dX11_wants_87 (by decide) (fun c10 => ?_) (fun c10 => ?_)
    · have h := it_neg c10 h
      refine lv_iconst (v := 0) hx hb dX11_wants_97 (by decide) ?_
      refine lv_istore_n (lv' := [(3, .int (0 : Int32)), (0, .ref q0), (1, .int y55_0)]) hx hb dX11_wants_98 rfl hl (by decide) rfl (fun ls hl => ?_)
      have hL99 : ∀ (n : Nat) (x99_0 : Int32) (x99_1 : Nat → Int32) (y99 : (Nat → Int32)) (H : Heap) (locs : List Loc) (ls : Array Slot), lp (fun x99 => X11_wants_s99 v_people y55_3 x99.1 x99.2) n (x99_0, x99_1) = some y99 → Sv D A s.heap [oX11 q0 (.ref q1) (.int v_people) (.ref q2) (.int ((X11_beginText v_typed (60 : Int32)).1)) u0_4 u0_5 (.int (0 : Int32)) (.ref q2) (.int ((X11_beginText v_typed (60 : Int32)).2.1)) (.int ((X11_beginText v_typed (60 : Int32)).2.2.1)) (.int y55_1) (.int y84.2) (.ref q3) u0_13 u0_14 u0_15 u0_16 u0_17 u0_18 (.int v_undoMany) u0_20 u0_21 u0_22 u0_23 u0_24 u0_25 u0_26 u0_27 u0_28 u0_29 u0_30 u0_31 u0_32 u0_33 u0_34 u0_35 u0_36 (.int v_came) u0_38 u0_39 u0_40, aI cy q1 37 x99_1, aB cy q2 80 v_text, aI cy q3 14 y55_3] H locs → lv_has ls 4 [(0, .ref q0), (1, .int y55_0), (3, .int x99_0)] → ( ∀ (y99_0 : Nat → Int32), y99_0 = y99 → ∀ (H : Heap) (locs : List Loc) (ls : Array Slot), Sv D A s.heap [oX11 q0 (.ref q1) (.int v_people) (.ref q2) (.int ((X11_beginText v_typed (60 : Int32)).1)) u0_4 u0_5 (.int (0 : Int32)) (.ref q2) (.int ((X11_beginText v_typed (60 : Int32)).2.1)) (.int ((X11_beginText v_typed (60 : Int32)).2.2.1)) (.int y55_1) (.int y84.2) (.ref q3) u0_13 u0_14 u0_15 u0_16 u0_17 u0_18 (.int v_undoMany) u0_20 u0_21 u0_22 u0_23 u0_24 u0_25 u0_26 u0_27 u0_28 u0_29 u0_30 u0_31 u0_32 u0_33 u0_34 u0_35 u0_36 (.int v_came) u0_38 u0_39 u0_40, aI cy q1 37 y99_0, aB cy q2 80 v_text, aI cy q3 14 y55_3] H locs → lv_has ls 4 [(0, .ref q0), (1, .int y55_0)] → W p l e R s m args below meth c H locs 0 0 Q (F0 m 128 ls [])) → W p l e R s m args below meth c H locs 0 0 Q (F0 m 99 ls []) := by
        intro n
        induction n with
        | zero =>
          intro x99_0 x99_1 y99 H locs ls h
          exact lp_zero h
        | succ n ih99 =>
          intro x99_0 x99_1 y99 H locs ls h hS hl hk99_0
          obtain ⟨z99, h, hz99a, hz99b⟩ := lp_succ h
          have h : X11_wants_s99 v_people y55_3 x99_0 x99_1 = some z99 := h
          unfold X11_wants_s99 at h
          refine lv_iload_n hx hb dX11_wants_99 rfl (lv_at hl 2 rfl) ?_
          refine lv_aload_n hx hb dX11_wants_100 rfl (lv_at hl 0 rfl) ?_
          refine r_get E frX11_92 hS 0 rfl rfl dX11_wants_101 ?_
          refine lv_icmp_ge (tgt := 128) hx hb dX11_wants_104 (by decide) (fun c11 => ?_) (fun c11 => ?_)
          · have h := it_pos c11 h
            exact hk99_0 x99_1 (hz99b _ (Option.some.inj h).symm)  H locs ls hS (lv_sub hl [0, 1] rfl)
          · have h := it_neg c11 h
            refine lv_aload_n hx hb dX11_wants_107 rfl (lv_at hl 0 rfl) ?_
            refine r_get E frX11_9 hS 0 rfl rfl dX11_wants_108 ?_
            refine lv_bipush (v := 28) hx hb dX11_wants_111 (by decide) ?_
            refine lv_iload_n hx hb dX11_wants_113 rfl (lv_at hl 2 rfl) ?_
            refine lv_iadd hx hb dX11_wants_114 ?_
            refine lv_aload_n hx hb dX11_wants_115 rfl (lv_at hl 0 rfl) ?_
            refine r_get E frX11_21 hS 0 rfl rfl dX11_wants_116 ?_
            refine lv_iload_n hx hb dX11_wants_119 rfl (lv_at hl 2 rfl) ?_
            obtain ⟨g12, h⟩ := gi_some h
            refine r_iald E hS 3 rfl g12 dX11_wants_120 ?_
            obtain ⟨g13, h⟩ := gi_some h
            refine r_iast (ws' := [oX11 q0 (.ref q1) (.int v_people) (.ref q2) (.int ((X11_beginText v_typed (60 : Int32)).1)) u0_4 u0_5 (.int (0 : Int32)) (.ref q2) (.int ((X11_beginText v_typed (60 : Int32)).2.1)) (.int ((X11_beginText v_typed (60 : Int32)).2.2.1)) (.int y55_1) (.int y84.2) (.ref q3) u0_13 u0_14 u0_15 u0_16 u0_17 u0_18 (.int v_undoMany) u0_20 u0_21 u0_22 u0_23 u0_24 u0_25 u0_26 u0_27 u0_28 u0_29 u0_30 u0_31 u0_32 u0_33 u0_34 u0_35 u0_36 (.int v_came) u0_38 u0_39 u0_40, aI cy q1 37 (upd x99_1 ((28 : Int32) + x99_0).toNatClampNeg (y55_3 x99_0.toNatClampNeg)), aB cy q2 80 v_text, aI cy q3 14 y55_3]) E hS 1 rfl g13 rfl dX11_wants_121 (fun H locs hS => ?_)
            refine lv_iinc (v := (x99_0 + (1 : Int32))) (lv' := [(3, .int (x99_0 + (1 : Int32))), (0, .ref q0), (1, .int y55_0)]) hx hb dX11_wants_122 hl (k := 2) rfl rfl (by decide) rfl (fun ls hl => ?_)
            refine lv_goto (tgt := 99) hx hb dX11_wants_125 (by decide) ?_
            exact ih99 (x99_0 + (1 : Int32)) (upd x99_1 ((28 : Int32) + x99_0).toNatClampNeg (y55_3 x99_0.toNatClampNeg)) y99  H locs ls (hz99a _ (Option.some.inj h).symm) hS (lv_sub hl [1, 2, 0] rfl) hk99_0
      obtain ⟨y99, e99, h⟩ := bd_some h
      refine hL99 1000 (0 : Int32) v_now y99  H locs ls e99 hS (lv_sub hl [1, 2, 0] rfl) (fun y99_0 ey99 H locs ls hS hl => ?_)
      subst ey99
      refine lv_aload_n hx hb dX11_wants_128 rfl (lv_at hl 0 rfl) ?_
      refine ct_V (ws' := fun _ => [oX11 q0 (.ref q1) (.int v_people) (.ref q2) (.int ((X11_beginText v_typed (60 : Int32)).1)) u0_4 u0_5 (.int (0 : Int32)) (.ref q2) (.int ((X11_beginText v_typed (60 : Int32)).2.1)) (.int ((X11_beginText v_typed (60 : Int32)).2.2.1)) (.int y55_1) (.int y84.2) (.ref q3) u0_13 u0_14 u0_15 u0_16 u0_17 u0_18 (.int ((X11_told v_came).1)) u0_20 u0_21 u0_22 u0_23 u0_24 u0_25 u0_26 u0_27 u0_28 u0_29 u0_30 u0_31 u0_32 u0_33 u0_34 u0_35 u0_36 (.int ((X11_told v_came).2)) u0_38 u0_39 u0_40, aI cy q1 37 y99_0, aB cy q2 80 v_text, aI cy q3 14 y55_3]) (st' := []) (rest := []) E hS vlX11_157 (c_X11_told (l := l) (D := D) (cy := cy) (q0 := q0) (u0_0 := .ref q1) (u0_1 := .int v_people) (u0_2 := .ref q2) (u0_3 := .int ((X11_beginText v_typed (60 : Int32)).1)) (u0_4 := u0_4) (u0_5 := u0_5) (u0_6 := .int (0 : Int32)) (u0_7 := .ref q2) (u0_8 := .int ((X11_beginText v_typed (60 : Int32)).2.1)) (u0_9 := .int ((X11_beginText v_typed (60 : Int32)).2.2.1)) (u0_10 := .int y55_1) (u0_11 := .int y84.2) (u0_12 := .ref q3) (u0_13 := u0_13) (u0_14 := u0_14) (u0_15 := u0_15) (u0_16 := u0_16) (u0_17 := u0_17) (u0_18 := u0_18) (u0_20 := u0_20) (u0_21 := u0_21) (u0_22 := u0_22) (u0_23 := u0_23) (u0_24 := u0_24) (u0_25 := u0_25) (u0_26 := u0_26) (u0_27 := u0_27) (u0_28 := u0_28) (u0_29 := u0_29) (u0_30 := u0_30) (u0_31 := u0_31) (u0_32 := u0_32) (u0_33 := u0_33) (u0_34 := u0_34) (u0_35 := u0_35) (u0_36 := u0_36) (u0_38 := u0_38) (u0_39 := u0_39) (u0_40 := u0_40) (v_undoMany := v_undoMany) (v_came := v_came) (r := (X11_told v_came)) rfl) [0] rfl rfl (fun _ => rfl) (fun _ => rfl) rfl rfl rfl rfl (Nat.le_of_ble_eq_true rfl) hl.1 (by rw [hRf]; exact Nat.le_of_ble_eq_true rfl) (by rw [hRl]; exact Nat.le_of_ble_eq_true rfl) ⟨Nat.zero_le _, Nat.zero_le _⟩ dX11_wants_129 rfl (fun H locs _ hS => ?_)
      refine lv_iload_n hx hb dX11_wants_132 rfl (lv_at hl 1 rfl) ?_
      obtain rfl := Option.some.inj h
      exact rt_i E hQ (.null) hS dX11_wants_133
    · have h := it_pos c10 h
      refine lv_iconst (v := -1) hx hb dX11_wants_90 (by decide) ?_
      refine lv_aload_n hx hb dX11_wants_91 rfl (lv_at hl 0 rfl) ?_
      refine r_get E frX11_118 hS 0 rfl rfl dX11_wants_92 ?_
      refine lv_isub hx hb dX11_wants_95 ?_
      obtain rfl := Option.some.inj h
      exact rt_i E hQ (.null) hS dX11_wants_96
  · have h := it_pos c1 h
    refine lv_iconst (v := 0) hx hb dX11_wants_18 (by decide) ?_
    obtain rfl := Option.some.inj h
    exact rt_i E hQ (.null) hS dX11_wants_19
set_option maxHeartbeats 4000000 in
set_option maxRecDepth 100000 in
theorem c_X11_letterOf {l : Launch} {D : va_G} {cy : Nat → ClassId} (p0 : Int32) (r : Int32) (h : X11_letterOf p0 = r) : Ct l yX11_letterOf cX11_letterOf 1 (some .int) 0 0 D cy [.int p0] [] (fun _ => []) (some (.int r)) := by
  refine Ct.mk kX11_letterOf (by decide +kernel) (Nat.le_of_ble_eq_true rfl) ?_
  intro p e s m below meth c A ls args R Q hRf hRl hQ E H locs hS hl
  have hx := E.x
  have hb := E.b
  have hl : lv_has ls 1 [(0, .int p0)] := hl
  unfold X11_letterOf at h
  refine lv_iload_n hx hb dX11_letterOf_0 rfl (lv_at hl 0 rfl) ?_
  refine lv_bipush (v := 115) hx hb dX11_letterOf_1 (by decide) ?_
  refine lv_icmp_ne (tgt := 10) hx hb dX11_letterOf_3 (by decide) (fun c1 => ?_) (fun c1 => ?_)
  · have h := it_neg c1 h
    refine lv_iload_n hx hb dX11_letterOf_10 rfl (lv_at hl 0 rfl) ?_
    refine lv_bipush (v := 116) hx hb dX11_letterOf_11 (by decide) ?_
    refine lv_icmp_ne (tgt := 20) hx hb dX11_letterOf_13 (by decide) (fun c2 => ?_) (fun c2 => ?_)
    · have h := it_neg c2 h
      refine lv_iload_n hx hb dX11_letterOf_20 rfl (lv_at hl 0 rfl) ?_
      refine lv_bipush (v := 119) hx hb dX11_letterOf_21 (by decide) ?_
      refine lv_icmp_ne (tgt := 30) hx hb dX11_letterOf_23 (by decide) (fun c3 => ?_) (fun c3 => ?_)
      · have h := it_neg c3 h
        refine lv_iload_n hx hb dX11_letterOf_30 rfl (lv_at hl 0 rfl) ?_
        refine lv_bipush (v := 118) hx hb dX11_letterOf_31 (by decide) ?_
        refine lv_icmp_ne (tgt := 40) hx hb dX11_letterOf_33 (by decide) (fun c4 => ?_) (fun c4 => ?_)
        · have h := it_neg c4 h
          refine lv_iload_n hx hb dX11_letterOf_40 rfl (lv_at hl 0 rfl) ?_
          refine lv_bipush (v := 117) hx hb dX11_letterOf_41 (by decide) ?_
          refine lv_icmp_ne (tgt := 50) hx hb dX11_letterOf_43 (by decide) (fun c5 => ?_) (fun c5 => ?_)
          · have h := it_neg c5 h
            refine lv_iload_n hx hb dX11_letterOf_50 rfl (lv_at hl 0 rfl) ?_
            refine lv_bipush (v := 98) hx hb dX11_letterOf_51 (by decide) ?_
            refine lv_icmp_ne (tgt := 60) hx hb dX11_letterOf_53 (by decide) (fun c6 => ?_) (fun c6 => ?_)
            · have h := it_neg c6 h
              refine lv_iload_n hx hb dX11_letterOf_60 rfl (lv_at hl 0 rfl) ?_
              refine lv_bipush (v := 110) hx hb dX11_letterOf_61 (by decide) ?_
              refine lv_icmp_ne (tgt := 71) hx hb dX11_letterOf_63 (by decide) (fun c7 => ?_) (fun c7 => ?_)
              · have h := it_neg c7 h
                refine lv_iconst (v := -1) hx hb dX11_letterOf_71 (by decide) ?_
                subst h
                exact rt_i E hQ (.null) hS dX11_letterOf_72
              · have h := it_pos c7 h
                refine lv_bipush (v := 6) hx hb dX11_letterOf_66 (by decide) ?_
                refine lv_goto (tgt := 72) hx hb dX11_letterOf_68 (by decide) ?_
                subst h
                exact rt_i E hQ (.null) hS dX11_letterOf_72
            · have h := it_pos c6 h
              refine lv_iconst (v := 5) hx hb dX11_letterOf_56 (by decide) ?_
              refine lv_goto (tgt := 72) hx hb dX11_letterOf_57 (by decide) ?_
              subst h
              exact rt_i E hQ (.null) hS dX11_letterOf_72
          · have h := it_pos c5 h
            refine lv_iconst (v := 4) hx hb dX11_letterOf_46 (by decide) ?_
            refine lv_goto (tgt := 72) hx hb dX11_letterOf_47 (by decide) ?_
            subst h
            exact rt_i E hQ (.null) hS dX11_letterOf_72
        · have h := it_pos c4 h
          refine lv_iconst (v := 3) hx hb dX11_letterOf_36 (by decide) ?_
          refine lv_goto (tgt := 72) hx hb dX11_letterOf_37 (by decide) ?_
          subst h
          exact rt_i E hQ (.null) hS dX11_letterOf_72
      · have h := it_pos c3 h
        refine lv_iconst (v := 2) hx hb dX11_letterOf_26 (by decide) ?_
        refine lv_goto (tgt := 72) hx hb dX11_letterOf_27 (by decide) ?_
        subst h
        exact rt_i E hQ (.null) hS dX11_letterOf_72
    · have h := it_pos c2 h
      refine lv_iconst (v := 1) hx hb dX11_letterOf_16 (by decide) ?_
      refine lv_goto (tgt := 72) hx hb dX11_letterOf_17 (by decide) ?_
      subst h
      exact rt_i E hQ (.null) hS dX11_letterOf_72
  · have h := it_pos c1 h
    refine lv_iconst (v := 0) hx hb dX11_letterOf_6 (by decide) ?_
    refine lv_goto (tgt := 72) hx hb dX11_letterOf_7 (by decide) ?_
    subst h
    exact rt_i E hQ (.null) hS dX11_letterOf_72

