def nwX0 (cy : Nat → ClassId) (q : Nat) (ν : Nat → Nat) : va_W := [oX0 q (.ref (ν 0)) (.ref (ν 1)) (.ref (ν 2)) (.ref (ν 3)) (.ref (ν 4)) (.int 0) (.int 0) (.int 0), aI cy (ν 0) 7 (fun _ => 0), aI cy (ν 1) 7 (fun _ => 0), aI cy (ν 2) 7 (fun _ => 0), aI cy (ν 3) 7 (fun _ => 0), aI cy (ν 4) 7 (fun _ => 0)]
set_option maxHeartbeats 4000000 in
set_option maxRecDepth 100000 in
theorem n_X0_init {l : Launch} {D : va_G} {cy : Nat → ClassId} {g : Gt} (q0 : Nat) : Cn l yX0_init cX0_init 1 1 20 5 35 D cy g q0 [(q0, .inr (0, [.null, .null, .null, .null, .null, .int 0, .int 0, .int 0]))] (fun ν => nwX0 cy q0 ν) := by
  refine Cn.mk kX0_init (by decide +kernel) rfl (Nat.le_of_ble_eq_true rfl) ?_
  intro p e s m below meth c A ls args R Q hRf hRl hRc hRs hQ hG hAO hin E H locs hS hl
  have hx := E.x
  have hb := E.b
  have hl : lv_has ls 1 [(0, .ref q0)] := hl
  refine lv_aload_n hx hb dX0_init_0 rfl (lv_at hl 0 rfl) ?_
  refine r_obj E oi_X0 oi_i oi_c hl.1 (by rw [hRf]; exact Nat.le_of_ble_eq_true rfl) (by rw [hRl]; exact Nat.le_of_ble_eq_true rfl) dX0_init_1 ?_
  refine lv_aload_n hx hb dX0_init_4 rfl (lv_at hl 0 rfl) ?_
  refine lv_bipush (v := 7) hx hb dX0_init_5 (by decide) ?_
  refine r_newI (N := 7) E hS ac_I (by decide) rfl (Nat.le_of_ble_eq_true rfl) (by rw [hRc]; exact Nat.le_of_ble_eq_true rfl) (by rw [hRs]; exact Nat.le_of_ble_eq_true rfl) dX0_init_7 (fun a0 H locs hS => ?_)
  refine r_putF (ws' := [oX0 q0 (.ref a0) .null .null .null .null (.int 0) (.int 0) (.int 0), aI cy a0 7 (fun _ => 0)]) E hin frX0_9 flX0_9 hS 0 rfl (Nat.le_of_ble_eq_true rfl) rfl rfl rfl rfl rfl dX0_init_9 (fun H locs hS => ?_)
  refine lv_aload_n hx hb dX0_init_12 rfl (lv_at hl 0 rfl) ?_
  refine lv_bipush (v := 7) hx hb dX0_init_13 (by decide) ?_
  refine r_newI (N := 7) E hS ac_I (by decide) rfl (Nat.le_of_ble_eq_true rfl) (by rw [hRc]; exact Nat.le_of_ble_eq_true rfl) (by rw [hRs]; exact Nat.le_of_ble_eq_true rfl) dX0_init_15 (fun a1 H locs hS => ?_)
  refine r_putF (ws' := [oX0 q0 (.ref a0) (.ref a1) .null .null .null (.int 0) (.int 0) (.int 0), aI cy a0 7 (fun _ => 0), aI cy a1 7 (fun _ => 0)]) E hin frX0_15 flX0_15 hS 0 rfl (Nat.le_of_ble_eq_true rfl) rfl rfl rfl rfl rfl dX0_init_17 (fun H locs hS => ?_)
  refine lv_aload_n hx hb dX0_init_20 rfl (lv_at hl 0 rfl) ?_
  refine lv_bipush (v := 7) hx hb dX0_init_21 (by decide) ?_
  refine r_newI (N := 7) E hS ac_I (by decide) rfl (Nat.le_of_ble_eq_true rfl) (by rw [hRc]; exact Nat.le_of_ble_eq_true rfl) (by rw [hRs]; exact Nat.le_of_ble_eq_true rfl) dX0_init_23 (fun a2 H locs hS => ?_)
  refine r_putF (ws' := [oX0 q0 (.ref a0) (.ref a1) (.ref a2) .null .null (.int 0) (.int 0) (.int 0), aI cy a0 7 (fun _ => 0), aI cy a1 7 (fun _ => 0), aI cy a2 7 (fun _ => 0)]) E hin frX0_18 flX0_18 hS 0 rfl (Nat.le_of_ble_eq_true rfl) rfl rfl rfl rfl rfl dX0_init_25 (fun H locs hS => ?_)
  refine lv_aload_n hx hb dX0_init_28 rfl (lv_at hl 0 rfl) ?_
  refine lv_bipush (v := 7) hx hb dX0_init_29 (by decide) ?_
  refine r_newI (N := 7) E hS ac_I (by decide) rfl (Nat.le_of_ble_eq_true rfl) (by rw [hRc]; exact Nat.le_of_ble_eq_true rfl) (by rw [hRs]; exact Nat.le_of_ble_eq_true rfl) dX0_init_31 (fun a3 H locs hS => ?_)
  refine r_putF (ws' := [oX0 q0 (.ref a0) (.ref a1) (.ref a2) (.ref a3) .null (.int 0) (.int 0) (.int 0), aI cy a0 7 (fun _ => 0), aI cy a1 7 (fun _ => 0), aI cy a2 7 (fun _ => 0), aI cy a3 7 (fun _ => 0)]) E hin frX0_21 flX0_21 hS 0 rfl (Nat.le_of_ble_eq_true rfl) rfl rfl rfl rfl rfl dX0_init_33 (fun H locs hS => ?_)
  refine lv_aload_n hx hb dX0_init_36 rfl (lv_at hl 0 rfl) ?_
  refine lv_bipush (v := 7) hx hb dX0_init_37 (by decide) ?_
  refine r_newI (N := 7) E hS ac_I (by decide) rfl (Nat.le_of_ble_eq_true rfl) (by rw [hRc]; exact Nat.le_of_ble_eq_true rfl) (by rw [hRs]; exact Nat.le_of_ble_eq_true rfl) dX0_init_39 (fun a4 H locs hS => ?_)
  refine r_putF (ws' := [oX0 q0 (.ref a0) (.ref a1) (.ref a2) (.ref a3) (.ref a4) (.int 0) (.int 0) (.int 0), aI cy a0 7 (fun _ => 0), aI cy a1 7 (fun _ => 0), aI cy a2 7 (fun _ => 0), aI cy a3 7 (fun _ => 0), aI cy a4 7 (fun _ => 0)]) E hin frX0_24 flX0_24 hS 0 rfl (Nat.le_of_ble_eq_true rfl) rfl rfl rfl rfl rfl dX0_init_41 (fun H locs hS => ?_)
  refine lv_aload_n hx hb dX0_init_44 rfl (lv_at hl 0 rfl) ?_
  refine lv_iconst (v := 0) hx hb dX0_init_45 (by decide) ?_
  refine r_put (ws' := [oX0 q0 (.ref a0) (.ref a1) (.ref a2) (.ref a3) (.ref a4) (.int 0) (.int 0) (.int 0), aI cy a0 7 (fun _ => 0), aI cy a1 7 (fun _ => 0), aI cy a2 7 (fun _ => 0), aI cy a3 7 (fun _ => 0), aI cy a4 7 (fun _ => 0)]) E frX0_27 hS 0 rfl (Nat.le_of_ble_eq_true rfl) rfl rfl rfl rfl dX0_init_46 (fun H locs hS => ?_)
  refine lv_aload_n hx hb dX0_init_49 rfl (lv_at hl 0 rfl) ?_
  refine lv_iconst (v := 0) hx hb dX0_init_50 (by decide) ?_
  refine r_put (ws' := [oX0 q0 (.ref a0) (.ref a1) (.ref a2) (.ref a3) (.ref a4) (.int 0) (.int 0) (.int 0), aI cy a0 7 (fun _ => 0), aI cy a1 7 (fun _ => 0), aI cy a2 7 (fun _ => 0), aI cy a3 7 (fun _ => 0), aI cy a4 7 (fun _ => 0)]) E frX0_31 hS 0 rfl (Nat.le_of_ble_eq_true rfl) rfl rfl rfl rfl dX0_init_51 (fun H locs hS => ?_)
  refine lv_aload_n hx hb dX0_init_54 rfl (lv_at hl 0 rfl) ?_
  refine lv_iconst (v := 0) hx hb dX0_init_55 (by decide) ?_
  refine r_put (ws' := [oX0 q0 (.ref a0) (.ref a1) (.ref a2) (.ref a3) (.ref a4) (.int 0) (.int 0) (.int 0), aI cy a0 7 (fun _ => 0), aI cy a1 7 (fun _ => 0), aI cy a2 7 (fun _ => 0), aI cy a3 7 (fun _ => 0), aI cy a4 7 (fun _ => 0)]) E frX0_34 hS 0 rfl (Nat.le_of_ble_eq_true rfl) rfl rfl rfl rfl dX0_init_56 (fun H locs hS => ?_)
  exact rt_c E hQ (fun i => ([a0, a1, a2, a3, a4] : List Nat).getD i 0) hS (Nat.le_of_ble_eq_true rfl) (Nat.le_of_ble_eq_true rfl) dX0_init_59
def nwX1 (cy : Nat → ClassId) (q : Nat) (ν : Nat → Nat) : va_W := [oX1 q (.ref (ν 0)) (.ref (ν 1)) (.int 0), aI cy (ν 0) 12 (fun _ => 0), aI cy (ν 1) 12 (fun _ => 0)]
set_option maxHeartbeats 4000000 in
set_option maxRecDepth 100000 in
theorem n_X1_init {l : Launch} {D : va_G} {cy : Nat → ClassId} {g : Gt} (q0 : Nat) : Cn l yX1_init cX1_init 1 1 20 2 24 D cy g q0 [(q0, .inr (1, [.null, .null, .int 0]))] (fun ν => nwX1 cy q0 ν) := by
  refine Cn.mk kX1_init (by decide +kernel) rfl (Nat.le_of_ble_eq_true rfl) ?_
  intro p e s m below meth c A ls args R Q hRf hRl hRc hRs hQ hG hAO hin E H locs hS hl
  have hx := E.x
  have hb := E.b
  have hl : lv_has ls 1 [(0, .ref q0)] := hl
  refine lv_aload_n hx hb dX1_init_0 rfl (lv_at hl 0 rfl) ?_
  refine r_obj E oi_X1 oi_i oi_c hl.1 (by rw [hRf]; exact Nat.le_of_ble_eq_true rfl) (by rw [hRl]; exact Nat.le_of_ble_eq_true rfl) dX1_init_1 ?_
  refine lv_aload_n hx hb dX1_init_4 rfl (lv_at hl 0 rfl) ?_
  refine lv_bipush (v := 12) hx hb dX1_init_5 (by decide) ?_
  refine r_newI (N := 12) E hS ac_I (by decide) rfl (Nat.le_of_ble_eq_true rfl) (by rw [hRc]; exact Nat.le_of_ble_eq_true rfl) (by rw [hRs]; exact Nat.le_of_ble_eq_true rfl) dX1_init_7 (fun a0 H locs hS => ?_)
  refine r_putF (ws' := [oX1 q0 (.ref a0) .null (.int 0), aI cy a0 12 (fun _ => 0)]) E hin frX1_11 flX1_11 hS 0 rfl (Nat.le_of_ble_eq_true rfl) rfl rfl rfl rfl rfl dX1_init_9 (fun H locs hS => ?_)
  refine lv_aload_n hx hb dX1_init_12 rfl (lv_at hl 0 rfl) ?_
  refine lv_bipush (v := 12) hx hb dX1_init_13 (by decide) ?_
  refine r_newI (N := 12) E hS ac_I (by decide) rfl (Nat.le_of_ble_eq_true rfl) (by rw [hRc]; exact Nat.le_of_ble_eq_true rfl) (by rw [hRs]; exact Nat.le_of_ble_eq_true rfl) dX1_init_15 (fun a1 H locs hS => ?_)
  refine r_putF (ws' := [oX1 q0 (.ref a0) (.ref a1) (.int 0), aI cy a0 12 (fun _ => 0), aI cy a1 12 (fun _ => 0)]) E hin frX1_15 flX1_15 hS 0 rfl (Nat.le_of_ble_eq_true rfl) rfl rfl rfl rfl rfl dX1_init_17 (fun H locs hS => ?_)
  refine lv_aload_n hx hb dX1_init_20 rfl (lv_at hl 0 rfl) ?_
  refine lv_iconst (v := 0) hx hb dX1_init_21 (by decide) ?_
  refine r_put (ws' := [oX1 q0 (.ref a0) (.ref a1) (.int 0), aI cy a0 12 (fun _ => 0), aI cy a1 12 (fun _ => 0)]) E frX1_18 hS 0 rfl (Nat.le_of_ble_eq_true rfl) rfl rfl rfl rfl dX1_init_22 (fun H locs hS => ?_)
  exact rt_c E hQ (fun i => ([a0, a1] : List Nat).getD i 0) hS (Nat.le_of_ble_eq_true rfl) (Nat.le_of_ble_eq_true rfl) dX1_init_25
def nwX2 (cy : Nat → ClassId) (q : Nat) (ν : Nat → Nat) : va_W := [oX2 q (.ref (ν 0)) (.int 0), aJ cy (ν 0) 16 (fun _ => 0)]
set_option maxHeartbeats 4000000 in
set_option maxRecDepth 100000 in
theorem n_X2_init {l : Launch} {D : va_G} {cy : Nat → ClassId} {g : Gt} (q0 : Nat) : Cn l yX2_init cX2_init 1 1 20 1 16 D cy g q0 [(q0, .inr (2, [.null, .int 0]))] (fun ν => nwX2 cy q0 ν) := by
  refine Cn.mk kX2_init (by decide +kernel) rfl (Nat.le_of_ble_eq_true rfl) ?_
  intro p e s m below meth c A ls args R Q hRf hRl hRc hRs hQ hG hAO hin E H locs hS hl
  have hx := E.x
  have hb := E.b
  have hl : lv_has ls 1 [(0, .ref q0)] := hl
  refine lv_aload_n hx hb dX2_init_0 rfl (lv_at hl 0 rfl) ?_
  refine r_obj E oi_X2 oi_i oi_c hl.1 (by rw [hRf]; exact Nat.le_of_ble_eq_true rfl) (by rw [hRl]; exact Nat.le_of_ble_eq_true rfl) dX2_init_1 ?_
  refine lv_aload_n hx hb dX2_init_4 rfl (lv_at hl 0 rfl) ?_
  refine lv_bipush (v := 16) hx hb dX2_init_5 (by decide) ?_
  refine r_newJ (N := 16) E hS ac_J (by decide) rfl (Nat.le_of_ble_eq_true rfl) (by rw [hRc]; exact Nat.le_of_ble_eq_true rfl) (by rw [hRs]; exact Nat.le_of_ble_eq_true rfl) dX2_init_7 (fun a0 H locs hS => ?_)
  refine r_putF (ws' := [oX2 q0 (.ref a0) (.int 0), aJ cy a0 16 (fun _ => 0)]) E hin frX2_7 flX2_7 hS 0 rfl (Nat.le_of_ble_eq_true rfl) rfl rfl rfl rfl rfl dX2_init_9 (fun H locs hS => ?_)
  refine lv_aload_n hx hb dX2_init_12 rfl (lv_at hl 0 rfl) ?_
  refine lv_iconst (v := 0) hx hb dX2_init_13 (by decide) ?_
  refine r_put (ws' := [oX2 q0 (.ref a0) (.int 0), aJ cy a0 16 (fun _ => 0)]) E frX2_13 hS 0 rfl (Nat.le_of_ble_eq_true rfl) rfl rfl rfl rfl dX2_init_14 (fun H locs hS => ?_)
  exact rt_c E hQ (fun i => ([a0] : List Nat).getD i 0) hS (Nat.le_of_ble_eq_true rfl) (Nat.le_of_ble_eq_true rfl) dX2_init_17
def nwX4 (cy : Nat → ClassId) (q : Nat) (ν : Nat → Nat) : va_W := [oX4 q (.ref (ν 0)) (.ref (ν 1)) (.ref (ν 2)) (.int 0), aI cy (ν 0) 7 (fun _ => 0), aI cy (ν 1) 7 (fun _ => 0), aI cy (ν 2) 7 (fun _ => 0)]
set_option maxHeartbeats 4000000 in
set_option maxRecDepth 100000 in
theorem n_X4_init {l : Launch} {D : va_G} {cy : Nat → ClassId} {g : Gt} (q0 : Nat) : Cn l yX4_init cX4_init 1 1 20 3 21 D cy g q0 [(q0, .inr (4, [.null, .null, .null, .int 0]))] (fun ν => nwX4 cy q0 ν) := by
  refine Cn.mk kX4_init (by decide +kernel) rfl (Nat.le_of_ble_eq_true rfl) ?_
  intro p e s m below meth c A ls args R Q hRf hRl hRc hRs hQ hG hAO hin E H locs hS hl
  have hx := E.x
  have hb := E.b
  have hl : lv_has ls 1 [(0, .ref q0)] := hl
  refine lv_aload_n hx hb dX4_init_0 rfl (lv_at hl 0 rfl) ?_
  refine r_obj E oi_X4 oi_i oi_c hl.1 (by rw [hRf]; exact Nat.le_of_ble_eq_true rfl) (by rw [hRl]; exact Nat.le_of_ble_eq_true rfl) dX4_init_1 ?_
  refine lv_aload_n hx hb dX4_init_4 rfl (lv_at hl 0 rfl) ?_
  refine lv_bipush (v := 7) hx hb dX4_init_5 (by decide) ?_
  refine r_newI (N := 7) E hS ac_I (by decide) rfl (Nat.le_of_ble_eq_true rfl) (by rw [hRc]; exact Nat.le_of_ble_eq_true rfl) (by rw [hRs]; exact Nat.le_of_ble_eq_true rfl) dX4_init_7 (fun a0 H locs hS => ?_)
  refine r_putF (ws' := [oX4 q0 (.ref a0) .null .null (.int 0), aI cy a0 7 (fun _ => 0)]) E hin frX4_9 flX4_9 hS 0 rfl (Nat.le_of_ble_eq_true rfl) rfl rfl rfl rfl rfl dX4_init_9 (fun H locs hS => ?_)
  refine lv_aload_n hx hb dX4_init_12 rfl (lv_at hl 0 rfl) ?_
  refine lv_bipush (v := 7) hx hb dX4_init_13 (by decide) ?_
  refine r_newI (N := 7) E hS ac_I (by decide) rfl (Nat.le_of_ble_eq_true rfl) (by rw [hRc]; exact Nat.le_of_ble_eq_true rfl) (by rw [hRs]; exact Nat.le_of_ble_eq_true rfl) dX4_init_15 (fun a1 H locs hS => ?_)
  refine r_putF (ws' := [oX4 q0 (.ref a0) (.ref a1) .null (.int 0), aI cy a0 7 (fun _ => 0), aI cy a1 7 (fun _ => 0)]) E hin frX4_15 flX4_15 hS 0 rfl (Nat.le_of_ble_eq_true rfl) rfl rfl rfl rfl rfl dX4_init_17 (fun H locs hS => ?_)
  refine lv_aload_n hx hb dX4_init_20 rfl (lv_at hl 0 rfl) ?_
  refine lv_bipush (v := 7) hx hb dX4_init_21 (by decide) ?_
  refine r_newI (N := 7) E hS ac_I (by decide) rfl (Nat.le_of_ble_eq_true rfl) (by rw [hRc]; exact Nat.le_of_ble_eq_true rfl) (by rw [hRs]; exact Nat.le_of_ble_eq_true rfl) dX4_init_23 (fun a2 H locs hS => ?_)
  refine r_putF (ws' := [oX4 q0 (.ref a0) (.ref a1) (.ref a2) (.int 0), aI cy a0 7 (fun _ => 0), aI cy a1 7 (fun _ => 0), aI cy a2 7 (fun _ => 0)]) E hin frX4_18 flX4_18 hS 0 rfl (Nat.le_of_ble_eq_true rfl) rfl rfl rfl rfl rfl dX4_init_25 (fun H locs hS => ?_)
  refine lv_aload_n hx hb dX4_init_28 rfl (lv_at hl 0 rfl) ?_
  refine lv_iconst (v := 0) hx hb dX4_init_29 (by decide) ?_
  refine r_put (ws' := [oX4 q0 (.ref a0) (.ref a1) (.ref a2) (.int 0), aI cy a0 7 (fun _ => 0), aI cy a1 7 (fun _ => 0), aI cy a2 7 (fun _ => 0)]) E frX4_21 hS 0 rfl (Nat.le_of_ble_eq_true rfl) rfl rfl rfl rfl dX4_init_30 (fun H locs hS => ?_)
  exact rt_c E hQ (fun i => ([a0, a1, a2] : List Nat).getD i 0) hS (Nat.le_of_ble_eq_true rfl) (Nat.le_of_ble_eq_true rfl) dX4_init_33
def nwX5 (cy : Nat → ClassId) (q : Nat) (ν : Nat → Nat) : va_W := [oX5 q (.ref (ν 0)) (.ref (ν 1)) (.ref (ν 2)) (.int 0), aI cy (ν 0) 40 (fun _ => 0), aI cy (ν 1) 40 (fun _ => 0), aI cy (ν 2) 7 (fun _ => 0)]
set_option maxHeartbeats 4000000 in
set_option maxRecDepth 100000 in
theorem n_X5_init {l : Launch} {D : va_G} {cy : Nat → ClassId} {g : Gt} (q0 : Nat) : Cn l yX5_init cX5_init 1 1 20 3 87 D cy g q0 [(q0, .inr (5, [.null, .null, .null, .int 0]))] (fun ν => nwX5 cy q0 ν) := by
  refine Cn.mk kX5_init (by decide +kernel) rfl (Nat.le_of_ble_eq_true rfl) ?_
  intro p e s m below meth c A ls args R Q hRf hRl hRc hRs hQ hG hAO hin E H locs hS hl
  have hx := E.x
  have hb := E.b
  have hl : lv_has ls 1 [(0, .ref q0)] := hl
  refine lv_aload_n hx hb dX5_init_0 rfl (lv_at hl 0 rfl) ?_
  refine r_obj E oi_X5 oi_i oi_c hl.1 (by rw [hRf]; exact Nat.le_of_ble_eq_true rfl) (by rw [hRl]; exact Nat.le_of_ble_eq_true rfl) dX5_init_1 ?_
  refine lv_aload_n hx hb dX5_init_4 rfl (lv_at hl 0 rfl) ?_
  refine lv_bipush (v := 40) hx hb dX5_init_5 (by decide) ?_
  refine r_newI (N := 40) E hS ac_I (by decide) rfl (Nat.le_of_ble_eq_true rfl) (by rw [hRc]; exact Nat.le_of_ble_eq_true rfl) (by rw [hRs]; exact Nat.le_of_ble_eq_true rfl) dX5_init_7 (fun a0 H locs hS => ?_)
  refine r_putF (ws' := [oX5 q0 (.ref a0) .null .null (.int 0), aI cy a0 40 (fun _ => 0)]) E hin frX5_11 flX5_11 hS 0 rfl (Nat.le_of_ble_eq_true rfl) rfl rfl rfl rfl rfl dX5_init_9 (fun H locs hS => ?_)
  refine lv_aload_n hx hb dX5_init_12 rfl (lv_at hl 0 rfl) ?_
  refine lv_bipush (v := 40) hx hb dX5_init_13 (by decide) ?_
  refine r_newI (N := 40) E hS ac_I (by decide) rfl (Nat.le_of_ble_eq_true rfl) (by rw [hRc]; exact Nat.le_of_ble_eq_true rfl) (by rw [hRs]; exact Nat.le_of_ble_eq_true rfl) dX5_init_15 (fun a1 H locs hS => ?_)
  refine r_putF (ws' := [oX5 q0 (.ref a0) (.ref a1) .null (.int 0), aI cy a0 40 (fun _ => 0), aI cy a1 40 (fun _ => 0)]) E hin frX5_15 flX5_15 hS 0 rfl (Nat.le_of_ble_eq_true rfl) rfl rfl rfl rfl rfl dX5_init_17 (fun H locs hS => ?_)
  refine lv_aload_n hx hb dX5_init_20 rfl (lv_at hl 0 rfl) ?_
  refine lv_bipush (v := 7) hx hb dX5_init_21 (by decide) ?_
  refine r_newI (N := 7) E hS ac_I (by decide) rfl (Nat.le_of_ble_eq_true rfl) (by rw [hRc]; exact Nat.le_of_ble_eq_true rfl) (by rw [hRs]; exact Nat.le_of_ble_eq_true rfl) dX5_init_23 (fun a2 H locs hS => ?_)
  refine r_putF (ws' := [oX5 q0 (.ref a0) (.ref a1) (.ref a2) (.int 0), aI cy a0 40 (fun _ => 0), aI cy a1 40 (fun _ => 0), aI cy a2 7 (fun _ => 0)]) E hin frX5_18 flX5_18 hS 0 rfl (Nat.le_of_ble_eq_true rfl) rfl rfl rfl rfl rfl dX5_init_25 (fun H locs hS => ?_)
  refine lv_aload_n hx hb dX5_init_28 rfl (lv_at hl 0 rfl) ?_
  refine lv_iconst (v := 0) hx hb dX5_init_29 (by decide) ?_
  refine r_put (ws' := [oX5 q0 (.ref a0) (.ref a1) (.ref a2) (.int 0), aI cy a0 40 (fun _ => 0), aI cy a1 40 (fun _ => 0), aI cy a2 7 (fun _ => 0)]) E frX5_21 hS 0 rfl (Nat.le_of_ble_eq_true rfl) rfl rfl rfl rfl dX5_init_30 (fun H locs hS => ?_)
  exact rt_c E hQ (fun i => ([a0, a1, a2] : List Nat).getD i 0) hS (Nat.le_of_ble_eq_true rfl) (Nat.le_of_ble_eq_true rfl) dX5_init_33
def nwX6 (cy : Nat → ClassId) (q : Nat) (ν : Nat → Nat) : va_W := [oX6 q (.ref (ν 0)) (.int 0) (.int 0) (.int 0) (.int 0) (.int 0), aI cy (ν 0) 40 (fun _ => 0)]
set_option maxHeartbeats 4000000 in
set_option maxRecDepth 100000 in
theorem n_X6_init {l : Launch} {D : va_G} {cy : Nat → ClassId} {g : Gt} (q0 : Nat) : Cn l yX6_init cX6_init 1 1 20 1 40 D cy g q0 [(q0, .inr (6, [.null, .int 0, .int 0, .int 0, .int 0, .int 0]))] (fun ν => nwX6 cy q0 ν) := by
  refine Cn.mk kX6_init (by decide +kernel) rfl (Nat.le_of_ble_eq_true rfl) ?_
  intro p e s m below meth c A ls args R Q hRf hRl hRc hRs hQ hG hAO hin E H locs hS hl
  have hx := E.x
  have hb := E.b
  have hl : lv_has ls 1 [(0, .ref q0)] := hl
  refine lv_aload_n hx hb dX6_init_0 rfl (lv_at hl 0 rfl) ?_
  refine r_obj E oi_X6 oi_i oi_c hl.1 (by rw [hRf]; exact Nat.le_of_ble_eq_true rfl) (by rw [hRl]; exact Nat.le_of_ble_eq_true rfl) dX6_init_1 ?_
  refine lv_aload_n hx hb dX6_init_4 rfl (lv_at hl 0 rfl) ?_
  refine lv_bipush (v := 40) hx hb dX6_init_5 (by decide) ?_
  refine r_newI (N := 40) E hS ac_I (by decide) rfl (Nat.le_of_ble_eq_true rfl) (by rw [hRc]; exact Nat.le_of_ble_eq_true rfl) (by rw [hRs]; exact Nat.le_of_ble_eq_true rfl) dX6_init_7 (fun a0 H locs hS => ?_)
  refine r_putF (ws' := [oX6 q0 (.ref a0) (.int 0) (.int 0) (.int 0) (.int 0) (.int 0), aI cy a0 40 (fun _ => 0)]) E hin frX6_9 flX6_9 hS 0 rfl (Nat.le_of_ble_eq_true rfl) rfl rfl rfl rfl rfl dX6_init_9 (fun H locs hS => ?_)
  refine lv_aload_n hx hb dX6_init_12 rfl (lv_at hl 0 rfl) ?_
  refine lv_iconst (v := 0) hx hb dX6_init_13 (by decide) ?_
  refine r_put (ws' := [oX6 q0 (.ref a0) (.int 0) (.int 0) (.int 0) (.int 0) (.int 0), aI cy a0 40 (fun _ => 0)]) E frX6_15 hS 0 rfl (Nat.le_of_ble_eq_true rfl) rfl rfl rfl rfl dX6_init_14 (fun H locs hS => ?_)
  refine lv_aload_n hx hb dX6_init_17 rfl (lv_at hl 0 rfl) ?_
  refine lv_iconst (v := 0) hx hb dX6_init_18 (by decide) ?_
  refine r_put (ws' := [oX6 q0 (.ref a0) (.int 0) (.int 0) (.int 0) (.int 0) (.int 0), aI cy a0 40 (fun _ => 0)]) E frX6_19 hS 0 rfl (Nat.le_of_ble_eq_true rfl) rfl rfl rfl rfl dX6_init_19 (fun H locs hS => ?_)
  refine lv_aload_n hx hb dX6_init_22 rfl (lv_at hl 0 rfl) ?_
  refine lv_iconst (v := 0) hx hb dX6_init_23 (by decide) ?_
  refine r_put (ws' := [oX6 q0 (.ref a0) (.int 0) (.int 0) (.int 0) (.int 0) (.int 0), aI cy a0 40 (fun _ => 0)]) E frX6_22 hS 0 rfl (Nat.le_of_ble_eq_true rfl) rfl rfl rfl rfl dX6_init_24 (fun H locs hS => ?_)
  refine lv_aload_n hx hb dX6_init_27 rfl (lv_at hl 0 rfl) ?_
  refine lv_iconst (v := 0) hx hb dX6_init_28 (by decide) ?_
  refine r_put (ws' := [oX6 q0 (.ref a0) (.int 0) (.int 0) (.int 0) (.int 0) (.int 0), aI cy a0 40 (fun _ => 0)]) E frX6_25 hS 0 rfl (Nat.le_of_ble_eq_true rfl) rfl rfl rfl rfl dX6_init_29 (fun H locs hS => ?_)
  refine lv_aload_n hx hb dX6_init_32 rfl (lv_at hl 0 rfl) ?_
  refine lv_iconst (v := 0) hx hb dX6_init_33 (by decide) ?_
  refine r_put (ws' := [oX6 q0 (.ref a0) (.int 0) (.int 0) (.int 0) (.int 0) (.int 0), aI cy a0 40 (fun _ => 0)]) E frX6_28 hS 0 rfl (Nat.le_of_ble_eq_true rfl) rfl rfl rfl rfl dX6_init_34 (fun H locs hS => ?_)
  exact rt_c E hQ (fun i => ([a0] : List Nat).getD i 0) hS (Nat.le_of_ble_eq_true rfl) (Nat.le_of_ble_eq_true rfl) dX6_init_37
def nwX7 (cy : Nat → ClassId) (q : Nat) (ν : Nat → Nat) : va_W := [oX7 q (.ref (ν 0)), aI cy (ν 0) 1024 (fun _ => 0)]
set_option maxHeartbeats 4000000 in
set_option maxRecDepth 100000 in
theorem n_X7_init {l : Launch} {D : va_G} {cy : Nat → ClassId} {g : Gt} (q0 : Nat) : Cn l yX7_init cX7_init 1 1 20 1 1024 D cy g q0 [(q0, .inr (7, [.null]))] (fun ν => nwX7 cy q0 ν) := by
  refine Cn.mk kX7_init (by decide +kernel) rfl (Nat.le_of_ble_eq_true rfl) ?_
  intro p e s m below meth c A ls args R Q hRf hRl hRc hRs hQ hG hAO hin E H locs hS hl
  have hx := E.x
  have hb := E.b
  have hl : lv_has ls 1 [(0, .ref q0)] := hl
  refine lv_aload_n hx hb dX7_init_0 rfl (lv_at hl 0 rfl) ?_
  refine r_obj E oi_X7 oi_i oi_c hl.1 (by rw [hRf]; exact Nat.le_of_ble_eq_true rfl) (by rw [hRl]; exact Nat.le_of_ble_eq_true rfl) dX7_init_1 ?_
  refine lv_aload_n hx hb dX7_init_4 rfl (lv_at hl 0 rfl) ?_
  refine lv_sipush (v := 1024) hx hb dX7_init_5 (by decide) ?_
  refine r_newI (N := 1024) E hS ac_I (by decide) rfl (Nat.le_of_ble_eq_true rfl) (by rw [hRc]; exact Nat.le_of_ble_eq_true rfl) (by rw [hRs]; exact Nat.le_of_ble_eq_true rfl) dX7_init_8 (fun a0 H locs hS => ?_)
  refine r_putF (ws' := [oX7 q0 (.ref a0), aI cy a0 1024 (fun _ => 0)]) E hin frX7_9 flX7_9 hS 0 rfl (Nat.le_of_ble_eq_true rfl) rfl rfl rfl rfl rfl dX7_init_10 (fun H locs hS => ?_)
  exact rt_c E hQ (fun i => ([a0] : List Nat).getD i 0) hS (Nat.le_of_ble_eq_true rfl) (Nat.le_of_ble_eq_true rfl) dX7_init_13
def nwX8 (cy : Nat → ClassId) (q : Nat) (ν : Nat → Nat) : va_W := [oX8 q (.ref (ν 0)) (.ref (ν 1)) (.ref (ν 2)) (.ref (ν 3)) (.int 0), aI cy (ν 0) 10 (fun _ => 0), aI cy (ν 1) 10 (fun _ => 0), aZ cy (ν 2) 10 (fun _ => 0), aZ cy (ν 3) 160 (fun _ => 0)]
set_option maxHeartbeats 4000000 in
set_option maxRecDepth 100000 in
theorem n_X8_init {l : Launch} {D : va_G} {cy : Nat → ClassId} {g : Gt} (q0 : Nat) : Cn l yX8_init cX8_init 1 1 20 4 190 D cy g q0 [(q0, .inr (8, [.null, .null, .null, .null, .int 0]))] (fun ν => nwX8 cy q0 ν) := by
  refine Cn.mk kX8_init (by decide +kernel) rfl (Nat.le_of_ble_eq_true rfl) ?_
  intro p e s m below meth c A ls args R Q hRf hRl hRc hRs hQ hG hAO hin E H locs hS hl
  have hx := E.x
  have hb := E.b
  have hl : lv_has ls 1 [(0, .ref q0)] := hl
  refine lv_aload_n hx hb dX8_init_0 rfl (lv_at hl 0 rfl) ?_
  refine r_obj E oi_X8 oi_i oi_c hl.1 (by rw [hRf]; exact Nat.le_of_ble_eq_true rfl) (by rw [hRl]; exact Nat.le_of_ble_eq_true rfl) dX8_init_1 ?_
  refine lv_aload_n hx hb dX8_init_4 rfl (lv_at hl 0 rfl) ?_
  refine lv_bipush (v := 10) hx hb dX8_init_5 (by decide) ?_
  refine r_newI (N := 10) E hS ac_I (by decide) rfl (Nat.le_of_ble_eq_true rfl) (by rw [hRc]; exact Nat.le_of_ble_eq_true rfl) (by rw [hRs]; exact Nat.le_of_ble_eq_true rfl) dX8_init_7 (fun a0 H locs hS => ?_)
  refine r_putF (ws' := [oX8 q0 (.ref a0) .null .null .null (.int 0), aI cy a0 10 (fun _ => 0)]) E hin frX8_11 flX8_11 hS 0 rfl (Nat.le_of_ble_eq_true rfl) rfl rfl rfl rfl rfl dX8_init_9 (fun H locs hS => ?_)
  refine lv_aload_n hx hb dX8_init_12 rfl (lv_at hl 0 rfl) ?_
  refine lv_bipush (v := 10) hx hb dX8_init_13 (by decide) ?_
  refine r_newI (N := 10) E hS ac_I (by decide) rfl (Nat.le_of_ble_eq_true rfl) (by rw [hRc]; exact Nat.le_of_ble_eq_true rfl) (by rw [hRs]; exact Nat.le_of_ble_eq_true rfl) dX8_init_15 (fun a1 H locs hS => ?_)
  refine r_putF (ws' := [oX8 q0 (.ref a0) (.ref a1) .null .null (.int 0), aI cy a0 10 (fun _ => 0), aI cy a1 10 (fun _ => 0)]) E hin frX8_15 flX8_15 hS 0 rfl (Nat.le_of_ble_eq_true rfl) rfl rfl rfl rfl rfl dX8_init_17 (fun H locs hS => ?_)
  refine lv_aload_n hx hb dX8_init_20 rfl (lv_at hl 0 rfl) ?_
  refine lv_bipush (v := 10) hx hb dX8_init_21 (by decide) ?_
  refine r_newZ (N := 10) E hS ac_Z (by decide) rfl (Nat.le_of_ble_eq_true rfl) (by rw [hRc]; exact Nat.le_of_ble_eq_true rfl) (by rw [hRs]; exact Nat.le_of_ble_eq_true rfl) dX8_init_23 (fun a2 H locs hS => ?_)
  refine r_putF (ws' := [oX8 q0 (.ref a0) (.ref a1) (.ref a2) .null (.int 0), aI cy a0 10 (fun _ => 0), aI cy a1 10 (fun _ => 0), aZ cy a2 10 (fun _ => 0)]) E hin frX8_18 flX8_18 hS 0 rfl (Nat.le_of_ble_eq_true rfl) rfl rfl rfl rfl rfl dX8_init_25 (fun H locs hS => ?_)
  refine lv_aload_n hx hb dX8_init_28 rfl (lv_at hl 0 rfl) ?_
  refine lv_sipush (v := 160) hx hb dX8_init_29 (by decide) ?_
  refine r_newZ (N := 160) E hS ac_Z (by decide) rfl (Nat.le_of_ble_eq_true rfl) (by rw [hRc]; exact Nat.le_of_ble_eq_true rfl) (by rw [hRs]; exact Nat.le_of_ble_eq_true rfl) dX8_init_32 (fun a3 H locs hS => ?_)
  refine r_putF (ws' := [oX8 q0 (.ref a0) (.ref a1) (.ref a2) (.ref a3) (.int 0), aI cy a0 10 (fun _ => 0), aI cy a1 10 (fun _ => 0), aZ cy a2 10 (fun _ => 0), aZ cy a3 160 (fun _ => 0)]) E hin frX8_22 flX8_22 hS 0 rfl (Nat.le_of_ble_eq_true rfl) rfl rfl rfl rfl rfl dX8_init_34 (fun H locs hS => ?_)
  refine lv_aload_n hx hb dX8_init_37 rfl (lv_at hl 0 rfl) ?_
  refine lv_iconst (v := 0) hx hb dX8_init_38 (by decide) ?_
  refine r_put (ws' := [oX8 q0 (.ref a0) (.ref a1) (.ref a2) (.ref a3) (.int 0), aI cy a0 10 (fun _ => 0), aI cy a1 10 (fun _ => 0), aZ cy a2 10 (fun _ => 0), aZ cy a3 160 (fun _ => 0)]) E frX8_25 hS 0 rfl (Nat.le_of_ble_eq_true rfl) rfl rfl rfl rfl dX8_init_39 (fun H locs hS => ?_)
  exact rt_c E hQ (fun i => ([a0, a1, a2, a3] : List Nat).getD i 0) hS (Nat.le_of_ble_eq_true rfl) (Nat.le_of_ble_eq_true rfl) dX8_init_42
def nwX9 (cy : Nat → ClassId) (q : Nat) (ν : Nat → Nat) : va_W := [oX9 q (.ref (ν 0)) (.int 0), aC cy (ν 0) 80 (fun _ => 0)]
set_option maxHeartbeats 4000000 in
set_option maxRecDepth 100000 in
theorem n_X9_init {l : Launch} {D : va_G} {cy : Nat → ClassId} {g : Gt} (q0 : Nat) : Cn l yX9_init cX9_init 1 1 20 1 80 D cy g q0 [(q0, .inr (9, [.null, .int 0]))] (fun ν => nwX9 cy q0 ν) := by
  refine Cn.mk kX9_init (by decide +kernel) rfl (Nat.le_of_ble_eq_true rfl) ?_
  intro p e s m below meth c A ls args R Q hRf hRl hRc hRs hQ hG hAO hin E H locs hS hl
  have hx := E.x
  have hb := E.b
  have hl : lv_has ls 1 [(0, .ref q0)] := hl
  refine lv_aload_n hx hb dX9_init_0 rfl (lv_at hl 0 rfl) ?_
  refine r_obj E oi_X9 oi_i oi_c hl.1 (by rw [hRf]; exact Nat.le_of_ble_eq_true rfl) (by rw [hRl]; exact Nat.le_of_ble_eq_true rfl) dX9_init_1 ?_
  refine lv_aload_n hx hb dX9_init_4 rfl (lv_at hl 0 rfl) ?_
  refine lv_bipush (v := 80) hx hb dX9_init_5 (by decide) ?_
  refine r_newC (N := 80) E hS ac_C (by decide) rfl (Nat.le_of_ble_eq_true rfl) (by rw [hRc]; exact Nat.le_of_ble_eq_true rfl) (by rw [hRs]; exact Nat.le_of_ble_eq_true rfl) dX9_init_7 (fun a0 H locs hS => ?_)
  refine r_putF (ws' := [oX9 q0 (.ref a0) (.int 0), aC cy a0 80 (fun _ => 0)]) E hin frX9_9 flX9_9 hS 0 rfl (Nat.le_of_ble_eq_true rfl) rfl rfl rfl rfl rfl dX9_init_9 (fun H locs hS => ?_)
  refine lv_aload_n hx hb dX9_init_12 rfl (lv_at hl 0 rfl) ?_
  refine lv_iconst (v := 0) hx hb dX9_init_13 (by decide) ?_
  refine r_put (ws' := [oX9 q0 (.ref a0) (.int 0), aC cy a0 80 (fun _ => 0)]) E frX9_15 hS 0 rfl (Nat.le_of_ble_eq_true rfl) rfl rfl rfl rfl dX9_init_14 (fun H locs hS => ?_)
  exact rt_c E hQ (fun i => ([a0] : List Nat).getD i 0) hS (Nat.le_of_ble_eq_true rfl) (Nat.le_of_ble_eq_true rfl) dX9_init_17
def nwX11 (cy : Nat → ClassId) (q : Nat) (ν : Nat → Nat) : va_W := [oX11 q (.ref (ν 0)) (.int 0) (.ref (ν 1)) (.int 0) (.ref (ν 2)) (.int 0) (.int 0) .null (.int 0) (.int 0) (.int 0) (.int 0) (.ref (ν 3)) (.ref (ν 4)) (.ref (ν 5)) (.int 0) (.int 0) (.ref (ν 6)) (.ref (ν 7)) (.int 0) (.ref (ν 8)) (.ref (ν 9)) (.ref (ν 10)) (.ref (ν 11)) (.ref (ν 12)) (.ref (ν 13)) (.ref (ν 14)) (.int 0) (.ref (ν 15)) (.ref (ν 16)) (.ref (ν 17)) (.int 0) (.ref (ν 18)) (.ref (ν 19)) (.int 0) (.ref (ν 20)) (.int 0) (.int 0) (.ref (ν 21)) (.ref (ν 22)) (.ref (ν 23)), aI cy (ν 0) 37 (fun _ => 0), aB cy (ν 1) 80 (fun _ => 0), aJ cy (ν 2) 16 (fun _ => 0), aI cy (ν 3) 14 (fun _ => 0), aB cy (ν 4) 40 (fun _ => 0), aB cy (ν 5) 40 (fun _ => 0), aI cy (ν 6) 7 (fun _ => 0), aI cy (ν 7) 444 (fun _ => 0), aI cy (ν 8) 37 (fun _ => 0), aI cy (ν 9) 37 (fun _ => 0), aI cy (ν 10) 240 (fun _ => 0), aI cy (ν 11) 7 (fun _ => 0), aI cy (ν 12) 1024 (fun _ => 0), aI cy (ν 13) 7 (fun _ => 0), aI cy (ν 14) 7 (fun _ => 0), aI cy (ν 15) 7 (fun _ => 0), aI cy (ν 16) 12 (fun _ => 0), aI cy (ν 17) 12 (fun _ => 0), aI cy (ν 18) 10 (fun _ => 0), aI cy (ν 19) 10 (fun _ => 0), aZ cy (ν 20) 61 (fun _ => 0), aI cy (ν 21) 74 (fun _ => 0), aZ cy (ν 22) 2 (fun _ => 0), aI cy (ν 23) 2 (fun _ => 0)]
set_option maxHeartbeats 4000000 in
set_option maxRecDepth 100000 in
theorem n_X11_init {l : Launch} {D : va_G} {cy : Nat → ClassId} {g : Gt} (q0 : Nat) : Cn l yX11_init cX11_init 1 1 20 24 2227 D cy g q0 [(q0, .inr (11, [.null, .int 0, .null, .int 0, .null, .int 0, .int 0, .null, .int 0, .int 0, .int 0, .int 0, .null, .null, .null, .int 0, .int 0, .null, .null, .int 0, .null, .null, .null, .null, .null, .null, .null, .int 0, .null, .null, .null, .int 0, .null, .null, .int 0, .null, .int 0, .int 0, .null, .null, .null]))] (fun ν => nwX11 cy q0 ν) := by
  refine Cn.mk kX11_init (by decide +kernel) rfl (Nat.le_of_ble_eq_true rfl) ?_
  intro p e s m below meth c A ls args R Q hRf hRl hRc hRs hQ hG hAO hin E H locs hS hl
  have hx := E.x
  have hb := E.b
  have hl : lv_has ls 1 [(0, .ref q0)] := hl
  refine lv_aload_n hx hb dX11_init_0 rfl (lv_at hl 0 rfl) ?_
  refine r_obj E oi_X11 oi_i oi_c hl.1 (by rw [hRf]; exact Nat.le_of_ble_eq_true rfl) (by rw [hRl]; exact Nat.le_of_ble_eq_true rfl) dX11_init_1 ?_
  refine lv_aload_n hx hb dX11_init_4 rfl (lv_at hl 0 rfl) ?_
  refine lv_bipush (v := 37) hx hb dX11_init_5 (by decide) ?_
  refine r_newI (N := 37) E hS ac_I (by decide) rfl (Nat.le_of_ble_eq_true rfl) (by rw [hRc]; exact Nat.le_of_ble_eq_true rfl) (by rw [hRs]; exact Nat.le_of_ble_eq_true rfl) dX11_init_7 (fun a0 H locs hS => ?_)
  refine r_putF (ws' := [oX11 q0 (.ref a0) (.int 0) .null (.int 0) .null (.int 0) (.int 0) .null (.int 0) (.int 0) (.int 0) (.int 0) .null .null .null (.int 0) (.int 0) .null .null (.int 0) .null .null .null .null .null .null .null (.int 0) .null .null .null (.int 0) .null .null (.int 0) .null (.int 0) (.int 0) .null .null .null, aI cy a0 37 (fun _ => 0)]) E hin frX11_9 flX11_9 hS 0 rfl (Nat.le_of_ble_eq_true rfl) rfl rfl rfl rfl rfl dX11_init_9 (fun H locs hS => ?_)
  refine lv_aload_n hx hb dX11_init_12 rfl (lv_at hl 0 rfl) ?_
  refine lv_bipush (v := 80) hx hb dX11_init_13 (by decide) ?_
  refine r_newB (N := 80) E hS ac_B (by decide) rfl (Nat.le_of_ble_eq_true rfl) (by rw [hRc]; exact Nat.le_of_ble_eq_true rfl) (by rw [hRs]; exact Nat.le_of_ble_eq_true rfl) dX11_init_15 (fun a1 H locs hS => ?_)
  refine r_putF (ws' := [oX11 q0 (.ref a0) (.int 0) (.ref a1) (.int 0) .null (.int 0) (.int 0) .null (.int 0) (.int 0) (.int 0) (.int 0) .null .null .null (.int 0) (.int 0) .null .null (.int 0) .null .null .null .null .null .null .null (.int 0) .null .null .null (.int 0) .null .null (.int 0) .null (.int 0) (.int 0) .null .null .null, aI cy a0 37 (fun _ => 0), aB cy a1 80 (fun _ => 0)]) E hin frX11_13 flX11_13 hS 0 rfl (Nat.le_of_ble_eq_true rfl) rfl rfl rfl rfl rfl dX11_init_17 (fun H locs hS => ?_)
  refine lv_aload_n hx hb dX11_init_20 rfl (lv_at hl 0 rfl) ?_
  refine lv_bipush (v := 16) hx hb dX11_init_21 (by decide) ?_
  refine r_newJ (N := 16) E hS ac_J (by decide) rfl (Nat.le_of_ble_eq_true rfl) (by rw [hRc]; exact Nat.le_of_ble_eq_true rfl) (by rw [hRs]; exact Nat.le_of_ble_eq_true rfl) dX11_init_23 (fun a2 H locs hS => ?_)
  refine r_putF (ws' := [oX11 q0 (.ref a0) (.int 0) (.ref a1) (.int 0) (.ref a2) (.int 0) (.int 0) .null (.int 0) (.int 0) (.int 0) (.int 0) .null .null .null (.int 0) (.int 0) .null .null (.int 0) .null .null .null .null .null .null .null (.int 0) .null .null .null (.int 0) .null .null (.int 0) .null (.int 0) (.int 0) .null .null .null, aI cy a0 37 (fun _ => 0), aB cy a1 80 (fun _ => 0), aJ cy a2 16 (fun _ => 0)]) E hin frX11_17 flX11_17 hS 0 rfl (Nat.le_of_ble_eq_true rfl) rfl rfl rfl rfl rfl dX11_init_25 (fun H locs hS => ?_)
  refine lv_aload_n hx hb dX11_init_28 rfl (lv_at hl 0 rfl) ?_
  refine lv_bipush (v := 14) hx hb dX11_init_29 (by decide) ?_
  refine r_newI (N := 14) E hS ac_I (by decide) rfl (Nat.le_of_ble_eq_true rfl) (by rw [hRc]; exact Nat.le_of_ble_eq_true rfl) (by rw [hRs]; exact Nat.le_of_ble_eq_true rfl) dX11_init_31 (fun a3 H locs hS => ?_)
  refine r_putF (ws' := [oX11 q0 (.ref a0) (.int 0) (.ref a1) (.int 0) (.ref a2) (.int 0) (.int 0) .null (.int 0) (.int 0) (.int 0) (.int 0) (.ref a3) .null .null (.int 0) (.int 0) .null .null (.int 0) .null .null .null .null .null .null .null (.int 0) .null .null .null (.int 0) .null .null (.int 0) .null (.int 0) (.int 0) .null .null .null, aI cy a0 37 (fun _ => 0), aB cy a1 80 (fun _ => 0), aJ cy a2 16 (fun _ => 0), aI cy a3 14 (fun _ => 0)]) E hin frX11_21 flX11_21 hS 0 rfl (Nat.le_of_ble_eq_true rfl) rfl rfl rfl rfl rfl dX11_init_33 (fun H locs hS => ?_)
  refine lv_aload_n hx hb dX11_init_36 rfl (lv_at hl 0 rfl) ?_
  refine lv_bipush (v := 40) hx hb dX11_init_37 (by decide) ?_
  refine r_newB (N := 40) E hS ac_B (by decide) rfl (Nat.le_of_ble_eq_true rfl) (by rw [hRc]; exact Nat.le_of_ble_eq_true rfl) (by rw [hRs]; exact Nat.le_of_ble_eq_true rfl) dX11_init_39 (fun a4 H locs hS => ?_)
  refine r_put (ws' := [oX11 q0 (.ref a0) (.int 0) (.ref a1) (.int 0) (.ref a2) (.int 0) (.int 0) .null (.int 0) (.int 0) (.int 0) (.int 0) (.ref a3) (.ref a4) .null (.int 0) (.int 0) .null .null (.int 0) .null .null .null .null .null .null .null (.int 0) .null .null .null (.int 0) .null .null (.int 0) .null (.int 0) (.int 0) .null .null .null, aI cy a0 37 (fun _ => 0), aB cy a1 80 (fun _ => 0), aJ cy a2 16 (fun _ => 0), aI cy a3 14 (fun _ => 0), aB cy a4 40 (fun _ => 0)]) E frX11_24 hS 0 rfl (Nat.le_of_ble_eq_true rfl) rfl rfl rfl rfl dX11_init_41 (fun H locs hS => ?_)
  refine lv_aload_n hx hb dX11_init_44 rfl (lv_at hl 0 rfl) ?_
  refine lv_bipush (v := 40) hx hb dX11_init_45 (by decide) ?_
  refine r_newB (N := 40) E hS ac_B (by decide) rfl (Nat.le_of_ble_eq_true rfl) (by rw [hRc]; exact Nat.le_of_ble_eq_true rfl) (by rw [hRs]; exact Nat.le_of_ble_eq_true rfl) dX11_init_47 (fun a5 H locs hS => ?_)
  refine r_put (ws' := [oX11 q0 (.ref a0) (.int 0) (.ref a1) (.int 0) (.ref a2) (.int 0) (.int 0) .null (.int 0) (.int 0) (.int 0) (.int 0) (.ref a3) (.ref a4) (.ref a5) (.int 0) (.int 0) .null .null (.int 0) .null .null .null .null .null .null .null (.int 0) .null .null .null (.int 0) .null .null (.int 0) .null (.int 0) (.int 0) .null .null .null, aI cy a0 37 (fun _ => 0), aB cy a1 80 (fun _ => 0), aJ cy a2 16 (fun _ => 0), aI cy a3 14 (fun _ => 0), aB cy a4 40 (fun _ => 0), aB cy a5 40 (fun _ => 0)]) E frX11_27 hS 0 rfl (Nat.le_of_ble_eq_true rfl) rfl rfl rfl rfl dX11_init_49 (fun H locs hS => ?_)
  refine lv_aload_n hx hb dX11_init_52 rfl (lv_at hl 0 rfl) ?_
  refine lv_bipush (v := 7) hx hb dX11_init_53 (by decide) ?_
  refine r_newI (N := 7) E hS ac_I (by decide) rfl (Nat.le_of_ble_eq_true rfl) (by rw [hRc]; exact Nat.le_of_ble_eq_true rfl) (by rw [hRs]; exact Nat.le_of_ble_eq_true rfl) dX11_init_55 (fun a6 H locs hS => ?_)
  refine r_putF (ws' := [oX11 q0 (.ref a0) (.int 0) (.ref a1) (.int 0) (.ref a2) (.int 0) (.int 0) .null (.int 0) (.int 0) (.int 0) (.int 0) (.ref a3) (.ref a4) (.ref a5) (.int 0) (.int 0) (.ref a6) .null (.int 0) .null .null .null .null .null .null .null (.int 0) .null .null .null (.int 0) .null .null (.int 0) .null (.int 0) (.int 0) .null .null .null, aI cy a0 37 (fun _ => 0), aB cy a1 80 (fun _ => 0), aJ cy a2 16 (fun _ => 0), aI cy a3 14 (fun _ => 0), aB cy a4 40 (fun _ => 0), aB cy a5 40 (fun _ => 0), aI cy a6 7 (fun _ => 0)]) E hin frX11_30 flX11_30 hS 0 rfl (Nat.le_of_ble_eq_true rfl) rfl rfl rfl rfl rfl dX11_init_57 (fun H locs hS => ?_)
  refine lv_aload_n hx hb dX11_init_60 rfl (lv_at hl 0 rfl) ?_
  refine lv_sipush (v := 444) hx hb dX11_init_61 (by decide) ?_
  refine r_newI (N := 444) E hS ac_I (by decide) rfl (Nat.le_of_ble_eq_true rfl) (by rw [hRc]; exact Nat.le_of_ble_eq_true rfl) (by rw [hRs]; exact Nat.le_of_ble_eq_true rfl) dX11_init_64 (fun a7 H locs hS => ?_)
  refine r_putF (ws' := [oX11 q0 (.ref a0) (.int 0) (.ref a1) (.int 0) (.ref a2) (.int 0) (.int 0) .null (.int 0) (.int 0) (.int 0) (.int 0) (.ref a3) (.ref a4) (.ref a5) (.int 0) (.int 0) (.ref a6) (.ref a7) (.int 0) .null .null .null .null .null .null .null (.int 0) .null .null .null (.int 0) .null .null (.int 0) .null (.int 0) (.int 0) .null .null .null, aI cy a0 37 (fun _ => 0), aB cy a1 80 (fun _ => 0), aJ cy a2 16 (fun _ => 0), aI cy a3 14 (fun _ => 0), aB cy a4 40 (fun _ => 0), aB cy a5 40 (fun _ => 0), aI cy a6 7 (fun _ => 0), aI cy a7 444 (fun _ => 0)]) E hin frX11_33 flX11_33 hS 0 rfl (Nat.le_of_ble_eq_true rfl) rfl rfl rfl rfl rfl dX11_init_66 (fun H locs hS => ?_)
  refine lv_aload_n hx hb dX11_init_69 rfl (lv_at hl 0 rfl) ?_
  refine lv_bipush (v := 37) hx hb dX11_init_70 (by decide) ?_
  refine r_newI (N := 37) E hS ac_I (by decide) rfl (Nat.le_of_ble_eq_true rfl) (by rw [hRc]; exact Nat.le_of_ble_eq_true rfl) (by rw [hRs]; exact Nat.le_of_ble_eq_true rfl) dX11_init_72 (fun a8 H locs hS => ?_)
  refine r_putF (ws' := [oX11 q0 (.ref a0) (.int 0) (.ref a1) (.int 0) (.ref a2) (.int 0) (.int 0) .null (.int 0) (.int 0) (.int 0) (.int 0) (.ref a3) (.ref a4) (.ref a5) (.int 0) (.int 0) (.ref a6) (.ref a7) (.int 0) (.ref a8) .null .null .null .null .null .null (.int 0) .null .null .null (.int 0) .null .null (.int 0) .null (.int 0) (.int 0) .null .null .null, aI cy a0 37 (fun _ => 0), aB cy a1 80 (fun _ => 0), aJ cy a2 16 (fun _ => 0), aI cy a3 14 (fun _ => 0), aB cy a4 40 (fun _ => 0), aB cy a5 40 (fun _ => 0), aI cy a6 7 (fun _ => 0), aI cy a7 444 (fun _ => 0), aI cy a8 37 (fun _ => 0)]) E hin frX11_36 flX11_36 hS 0 rfl (Nat.le_of_ble_eq_true rfl) rfl rfl rfl rfl rfl dX11_init_74 (fun H locs hS => ?_)
  refine lv_aload_n hx hb dX11_init_77 rfl (lv_at hl 0 rfl) ?_
  refine lv_bipush (v := 37) hx hb dX11_init_78 (by decide) ?_
  refine r_newI (N := 37) E hS ac_I (by decide) rfl (Nat.le_of_ble_eq_true rfl) (by rw [hRc]; exact Nat.le_of_ble_eq_true rfl) (by rw [hRs]; exact Nat.le_of_ble_eq_true rfl) dX11_init_80 (fun a9 H locs hS => ?_)
  refine r_putF (ws' := [oX11 q0 (.ref a0) (.int 0) (.ref a1) (.int 0) (.ref a2) (.int 0) (.int 0) .null (.int 0) (.int 0) (.int 0) (.int 0) (.ref a3) (.ref a4) (.ref a5) (.int 0) (.int 0) (.ref a6) (.ref a7) (.int 0) (.ref a8) (.ref a9) .null .null .null .null .null (.int 0) .null .null .null (.int 0) .null .null (.int 0) .null (.int 0) (.int 0) .null .null .null, aI cy a0 37 (fun _ => 0), aB cy a1 80 (fun _ => 0), aJ cy a2 16 (fun _ => 0), aI cy a3 14 (fun _ => 0), aB cy a4 40 (fun _ => 0), aB cy a5 40 (fun _ => 0), aI cy a6 7 (fun _ => 0), aI cy a7 444 (fun _ => 0), aI cy a8 37 (fun _ => 0), aI cy a9 37 (fun _ => 0)]) E hin frX11_39 flX11_39 hS 0 rfl (Nat.le_of_ble_eq_true rfl) rfl rfl rfl rfl rfl dX11_init_82 (fun H locs hS => ?_)
  refine lv_aload_n hx hb dX11_init_85 rfl (lv_at hl 0 rfl) ?_
  refine lv_sipush (v := 240) hx hb dX11_init_86 (by decide) ?_
  refine r_newI (N := 240) E hS ac_I (by decide) rfl (Nat.le_of_ble_eq_true rfl) (by rw [hRc]; exact Nat.le_of_ble_eq_true rfl) (by rw [hRs]; exact Nat.le_of_ble_eq_true rfl) dX11_init_89 (fun a10 H locs hS => ?_)
  refine r_putF (ws' := [oX11 q0 (.ref a0) (.int 0) (.ref a1) (.int 0) (.ref a2) (.int 0) (.int 0) .null (.int 0) (.int 0) (.int 0) (.int 0) (.ref a3) (.ref a4) (.ref a5) (.int 0) (.int 0) (.ref a6) (.ref a7) (.int 0) (.ref a8) (.ref a9) (.ref a10) .null .null .null .null (.int 0) .null .null .null (.int 0) .null .null (.int 0) .null (.int 0) (.int 0) .null .null .null, aI cy a0 37 (fun _ => 0), aB cy a1 80 (fun _ => 0), aJ cy a2 16 (fun _ => 0), aI cy a3 14 (fun _ => 0), aB cy a4 40 (fun _ => 0), aB cy a5 40 (fun _ => 0), aI cy a6 7 (fun _ => 0), aI cy a7 444 (fun _ => 0), aI cy a8 37 (fun _ => 0), aI cy a9 37 (fun _ => 0), aI cy a10 240 (fun _ => 0)]) E hin frX11_42 flX11_42 hS 0 rfl (Nat.le_of_ble_eq_true rfl) rfl rfl rfl rfl rfl dX11_init_91 (fun H locs hS => ?_)
  refine lv_aload_n hx hb dX11_init_94 rfl (lv_at hl 0 rfl) ?_
  refine lv_bipush (v := 7) hx hb dX11_init_95 (by decide) ?_
  refine r_newI (N := 7) E hS ac_I (by decide) rfl (Nat.le_of_ble_eq_true rfl) (by rw [hRc]; exact Nat.le_of_ble_eq_true rfl) (by rw [hRs]; exact Nat.le_of_ble_eq_true rfl) dX11_init_97 (fun a11 H locs hS => ?_)
  refine r_putF (ws' := [oX11 q0 (.ref a0) (.int 0) (.ref a1) (.int 0) (.ref a2) (.int 0) (.int 0) .null (.int 0) (.int 0) (.int 0) (.int 0) (.ref a3) (.ref a4) (.ref a5) (.int 0) (.int 0) (.ref a6) (.ref a7) (.int 0) (.ref a8) (.ref a9) (.ref a10) (.ref a11) .null .null .null (.int 0) .null .null .null (.int 0) .null .null (.int 0) .null (.int 0) (.int 0) .null .null .null, aI cy a0 37 (fun _ => 0), aB cy a1 80 (fun _ => 0), aJ cy a2 16 (fun _ => 0), aI cy a3 14 (fun _ => 0), aB cy a4 40 (fun _ => 0), aB cy a5 40 (fun _ => 0), aI cy a6 7 (fun _ => 0), aI cy a7 444 (fun _ => 0), aI cy a8 37 (fun _ => 0), aI cy a9 37 (fun _ => 0), aI cy a10 240 (fun _ => 0), aI cy a11 7 (fun _ => 0)]) E hin frX11_45 flX11_45 hS 0 rfl (Nat.le_of_ble_eq_true rfl) rfl rfl rfl rfl rfl dX11_init_99 (fun H locs hS => ?_)
  refine lv_aload_n hx hb dX11_init_102 rfl (lv_at hl 0 rfl) ?_
  refine lv_sipush (v := 1024) hx hb dX11_init_103 (by decide) ?_
  refine r_newI (N := 1024) E hS ac_I (by decide) rfl (Nat.le_of_ble_eq_true rfl) (by rw [hRc]; exact Nat.le_of_ble_eq_true rfl) (by rw [hRs]; exact Nat.le_of_ble_eq_true rfl) dX11_init_106 (fun a12 H locs hS => ?_)
  refine r_putF (ws' := [oX11 q0 (.ref a0) (.int 0) (.ref a1) (.int 0) (.ref a2) (.int 0) (.int 0) .null (.int 0) (.int 0) (.int 0) (.int 0) (.ref a3) (.ref a4) (.ref a5) (.int 0) (.int 0) (.ref a6) (.ref a7) (.int 0) (.ref a8) (.ref a9) (.ref a10) (.ref a11) (.ref a12) .null .null (.int 0) .null .null .null (.int 0) .null .null (.int 0) .null (.int 0) (.int 0) .null .null .null, aI cy a0 37 (fun _ => 0), aB cy a1 80 (fun _ => 0), aJ cy a2 16 (fun _ => 0), aI cy a3 14 (fun _ => 0), aB cy a4 40 (fun _ => 0), aB cy a5 40 (fun _ => 0), aI cy a6 7 (fun _ => 0), aI cy a7 444 (fun _ => 0), aI cy a8 37 (fun _ => 0), aI cy a9 37 (fun _ => 0), aI cy a10 240 (fun _ => 0), aI cy a11 7 (fun _ => 0), aI cy a12 1024 (fun _ => 0)]) E hin frX11_48 flX11_48 hS 0 rfl (Nat.le_of_ble_eq_true rfl) rfl rfl rfl rfl rfl dX11_init_108 (fun H locs hS => ?_)
  refine lv_aload_n hx hb dX11_init_111 rfl (lv_at hl 0 rfl) ?_
  refine lv_bipush (v := 7) hx hb dX11_init_112 (by decide) ?_
  refine r_newI (N := 7) E hS ac_I (by decide) rfl (Nat.le_of_ble_eq_true rfl) (by rw [hRc]; exact Nat.le_of_ble_eq_true rfl) (by rw [hRs]; exact Nat.le_of_ble_eq_true rfl) dX11_init_114 (fun a13 H locs hS => ?_)
  refine r_putF (ws' := [oX11 q0 (.ref a0) (.int 0) (.ref a1) (.int 0) (.ref a2) (.int 0) (.int 0) .null (.int 0) (.int 0) (.int 0) (.int 0) (.ref a3) (.ref a4) (.ref a5) (.int 0) (.int 0) (.ref a6) (.ref a7) (.int 0) (.ref a8) (.ref a9) (.ref a10) (.ref a11) (.ref a12) (.ref a13) .null (.int 0) .null .null .null (.int 0) .null .null (.int 0) .null (.int 0) (.int 0) .null .null .null, aI cy a0 37 (fun _ => 0), aB cy a1 80 (fun _ => 0), aJ cy a2 16 (fun _ => 0), aI cy a3 14 (fun _ => 0), aB cy a4 40 (fun _ => 0), aB cy a5 40 (fun _ => 0), aI cy a6 7 (fun _ => 0), aI cy a7 444 (fun _ => 0), aI cy a8 37 (fun _ => 0), aI cy a9 37 (fun _ => 0), aI cy a10 240 (fun _ => 0), aI cy a11 7 (fun _ => 0), aI cy a12 1024 (fun _ => 0), aI cy a13 7 (fun _ => 0)]) E hin frX11_51 flX11_51 hS 0 rfl (Nat.le_of_ble_eq_true rfl) rfl rfl rfl rfl rfl dX11_init_116 (fun H locs hS => ?_)
  refine lv_aload_n hx hb dX11_init_119 rfl (lv_at hl 0 rfl) ?_
  refine lv_bipush (v := 7) hx hb dX11_init_120 (by decide) ?_
  refine r_newI (N := 7) E hS ac_I (by decide) rfl (Nat.le_of_ble_eq_true rfl) (by rw [hRc]; exact Nat.le_of_ble_eq_true rfl) (by rw [hRs]; exact Nat.le_of_ble_eq_true rfl) dX11_init_122 (fun a14 H locs hS => ?_)
  refine r_putF (ws' := [oX11 q0 (.ref a0) (.int 0) (.ref a1) (.int 0) (.ref a2) (.int 0) (.int 0) .null (.int 0) (.int 0) (.int 0) (.int 0) (.ref a3) (.ref a4) (.ref a5) (.int 0) (.int 0) (.ref a6) (.ref a7) (.int 0) (.ref a8) (.ref a9) (.ref a10) (.ref a11) (.ref a12) (.ref a13) (.ref a14) (.int 0) .null .null .null (.int 0) .null .null (.int 0) .null (.int 0) (.int 0) .null .null .null, aI cy a0 37 (fun _ => 0), aB cy a1 80 (fun _ => 0), aJ cy a2 16 (fun _ => 0), aI cy a3 14 (fun _ => 0), aB cy a4 40 (fun _ => 0), aB cy a5 40 (fun _ => 0), aI cy a6 7 (fun _ => 0), aI cy a7 444 (fun _ => 0), aI cy a8 37 (fun _ => 0), aI cy a9 37 (fun _ => 0), aI cy a10 240 (fun _ => 0), aI cy a11 7 (fun _ => 0), aI cy a12 1024 (fun _ => 0), aI cy a13 7 (fun _ => 0), aI cy a14 7 (fun _ => 0)]) E hin frX11_54 flX11_54 hS 0 rfl (Nat.le_of_ble_eq_true rfl) rfl rfl rfl rfl rfl dX11_init_124 (fun H locs hS => ?_)
  refine lv_aload_n hx hb dX11_init_127 rfl (lv_at hl 0 rfl) ?_
  refine lv_bipush (v := 7) hx hb dX11_init_128 (by decide) ?_
  refine r_newI (N := 7) E hS ac_I (by decide) rfl (Nat.le_of_ble_eq_true rfl) (by rw [hRc]; exact Nat.le_of_ble_eq_true rfl) (by rw [hRs]; exact Nat.le_of_ble_eq_true rfl) dX11_init_130 (fun a15 H locs hS => ?_)
  refine r_putF (ws' := [oX11 q0 (.ref a0) (.int 0) (.ref a1) (.int 0) (.ref a2) (.int 0) (.int 0) .null (.int 0) (.int 0) (.int 0) (.int 0) (.ref a3) (.ref a4) (.ref a5) (.int 0) (.int 0) (.ref a6) (.ref a7) (.int 0) (.ref a8) (.ref a9) (.ref a10) (.ref a11) (.ref a12) (.ref a13) (.ref a14) (.int 0) (.ref a15) .null .null (.int 0) .null .null (.int 0) .null (.int 0) (.int 0) .null .null .null, aI cy a0 37 (fun _ => 0), aB cy a1 80 (fun _ => 0), aJ cy a2 16 (fun _ => 0), aI cy a3 14 (fun _ => 0), aB cy a4 40 (fun _ => 0), aB cy a5 40 (fun _ => 0), aI cy a6 7 (fun _ => 0), aI cy a7 444 (fun _ => 0), aI cy a8 37 (fun _ => 0), aI cy a9 37 (fun _ => 0), aI cy a10 240 (fun _ => 0), aI cy a11 7 (fun _ => 0), aI cy a12 1024 (fun _ => 0), aI cy a13 7 (fun _ => 0), aI cy a14 7 (fun _ => 0), aI cy a15 7 (fun _ => 0)]) E hin frX11_57 flX11_57 hS 0 rfl (Nat.le_of_ble_eq_true rfl) rfl rfl rfl rfl rfl dX11_init_132 (fun H locs hS => ?_)
  refine lv_aload_n hx hb dX11_init_135 rfl (lv_at hl 0 rfl) ?_
  refine lv_bipush (v := 12) hx hb dX11_init_136 (by decide) ?_
  refine r_newI (N := 12) E hS ac_I (by decide) rfl (Nat.le_of_ble_eq_true rfl) (by rw [hRc]; exact Nat.le_of_ble_eq_true rfl) (by rw [hRs]; exact Nat.le_of_ble_eq_true rfl) dX11_init_138 (fun a16 H locs hS => ?_)
  refine r_putF (ws' := [oX11 q0 (.ref a0) (.int 0) (.ref a1) (.int 0) (.ref a2) (.int 0) (.int 0) .null (.int 0) (.int 0) (.int 0) (.int 0) (.ref a3) (.ref a4) (.ref a5) (.int 0) (.int 0) (.ref a6) (.ref a7) (.int 0) (.ref a8) (.ref a9) (.ref a10) (.ref a11) (.ref a12) (.ref a13) (.ref a14) (.int 0) (.ref a15) (.ref a16) .null (.int 0) .null .null (.int 0) .null (.int 0) (.int 0) .null .null .null, aI cy a0 37 (fun _ => 0), aB cy a1 80 (fun _ => 0), aJ cy a2 16 (fun _ => 0), aI cy a3 14 (fun _ => 0), aB cy a4 40 (fun _ => 0), aB cy a5 40 (fun _ => 0), aI cy a6 7 (fun _ => 0), aI cy a7 444 (fun _ => 0), aI cy a8 37 (fun _ => 0), aI cy a9 37 (fun _ => 0), aI cy a10 240 (fun _ => 0), aI cy a11 7 (fun _ => 0), aI cy a12 1024 (fun _ => 0), aI cy a13 7 (fun _ => 0), aI cy a14 7 (fun _ => 0), aI cy a15 7 (fun _ => 0), aI cy a16 12 (fun _ => 0)]) E hin frX11_60 flX11_60 hS 0 rfl (Nat.le_of_ble_eq_true rfl) rfl rfl rfl rfl rfl dX11_init_140 (fun H locs hS => ?_)
  refine lv_aload_n hx hb dX11_init_143 rfl (lv_at hl 0 rfl) ?_
  refine lv_bipush (v := 12) hx hb dX11_init_144 (by decide) ?_
  refine r_newI (N := 12) E hS ac_I (by decide) rfl (Nat.le_of_ble_eq_true rfl) (by rw [hRc]; exact Nat.le_of_ble_eq_true rfl) (by rw [hRs]; exact Nat.le_of_ble_eq_true rfl) dX11_init_146 (fun a17 H locs hS => ?_)
  refine r_putF (ws' := [oX11 q0 (.ref a0) (.int 0) (.ref a1) (.int 0) (.ref a2) (.int 0) (.int 0) .null (.int 0) (.int 0) (.int 0) (.int 0) (.ref a3) (.ref a4) (.ref a5) (.int 0) (.int 0) (.ref a6) (.ref a7) (.int 0) (.ref a8) (.ref a9) (.ref a10) (.ref a11) (.ref a12) (.ref a13) (.ref a14) (.int 0) (.ref a15) (.ref a16) (.ref a17) (.int 0) .null .null (.int 0) .null (.int 0) (.int 0) .null .null .null, aI cy a0 37 (fun _ => 0), aB cy a1 80 (fun _ => 0), aJ cy a2 16 (fun _ => 0), aI cy a3 14 (fun _ => 0), aB cy a4 40 (fun _ => 0), aB cy a5 40 (fun _ => 0), aI cy a6 7 (fun _ => 0), aI cy a7 444 (fun _ => 0), aI cy a8 37 (fun _ => 0), aI cy a9 37 (fun _ => 0), aI cy a10 240 (fun _ => 0), aI cy a11 7 (fun _ => 0), aI cy a12 1024 (fun _ => 0), aI cy a13 7 (fun _ => 0), aI cy a14 7 (fun _ => 0), aI cy a15 7 (fun _ => 0), aI cy a16 12 (fun _ => 0), aI cy a17 12 (fun _ => 0)]) E hin frX11_63 flX11_63 hS 0 rfl (Nat.le_of_ble_eq_true rfl) rfl rfl rfl rfl rfl dX11_init_148 (fun H locs hS => ?_)
  refine lv_aload_n hx hb dX11_init_151 rfl (lv_at hl 0 rfl) ?_
  refine lv_bipush (v := 10) hx hb dX11_init_152 (by decide) ?_
  refine r_newI (N := 10) E hS ac_I (by decide) rfl (Nat.le_of_ble_eq_true rfl) (by rw [hRc]; exact Nat.le_of_ble_eq_true rfl) (by rw [hRs]; exact Nat.le_of_ble_eq_true rfl) dX11_init_154 (fun a18 H locs hS => ?_)
  refine r_putF (ws' := [oX11 q0 (.ref a0) (.int 0) (.ref a1) (.int 0) (.ref a2) (.int 0) (.int 0) .null (.int 0) (.int 0) (.int 0) (.int 0) (.ref a3) (.ref a4) (.ref a5) (.int 0) (.int 0) (.ref a6) (.ref a7) (.int 0) (.ref a8) (.ref a9) (.ref a10) (.ref a11) (.ref a12) (.ref a13) (.ref a14) (.int 0) (.ref a15) (.ref a16) (.ref a17) (.int 0) (.ref a18) .null (.int 0) .null (.int 0) (.int 0) .null .null .null, aI cy a0 37 (fun _ => 0), aB cy a1 80 (fun _ => 0), aJ cy a2 16 (fun _ => 0), aI cy a3 14 (fun _ => 0), aB cy a4 40 (fun _ => 0), aB cy a5 40 (fun _ => 0), aI cy a6 7 (fun _ => 0), aI cy a7 444 (fun _ => 0), aI cy a8 37 (fun _ => 0), aI cy a9 37 (fun _ => 0), aI cy a10 240 (fun _ => 0), aI cy a11 7 (fun _ => 0), aI cy a12 1024 (fun _ => 0), aI cy a13 7 (fun _ => 0), aI cy a14 7 (fun _ => 0), aI cy a15 7 (fun _ => 0), aI cy a16 12 (fun _ => 0), aI cy a17 12 (fun _ => 0), aI cy a18 10 (fun _ => 0)]) E hin frX11_66 flX11_66 hS 0 rfl (Nat.le_of_ble_eq_true rfl) rfl rfl rfl rfl rfl dX11_init_156 (fun H locs hS => ?_)
  refine lv_aload_n hx hb dX11_init_159 rfl (lv_at hl 0 rfl) ?_
  refine lv_bipush (v := 10) hx hb dX11_init_160 (by decide) ?_
  refine r_newI (N := 10) E hS ac_I (by decide) rfl (Nat.le_of_ble_eq_true rfl) (by rw [hRc]; exact Nat.le_of_ble_eq_true rfl) (by rw [hRs]; exact Nat.le_of_ble_eq_true rfl) dX11_init_162 (fun a19 H locs hS => ?_)
  refine r_putF (ws' := [oX11 q0 (.ref a0) (.int 0) (.ref a1) (.int 0) (.ref a2) (.int 0) (.int 0) .null (.int 0) (.int 0) (.int 0) (.int 0) (.ref a3) (.ref a4) (.ref a5) (.int 0) (.int 0) (.ref a6) (.ref a7) (.int 0) (.ref a8) (.ref a9) (.ref a10) (.ref a11) (.ref a12) (.ref a13) (.ref a14) (.int 0) (.ref a15) (.ref a16) (.ref a17) (.int 0) (.ref a18) (.ref a19) (.int 0) .null (.int 0) (.int 0) .null .null .null, aI cy a0 37 (fun _ => 0), aB cy a1 80 (fun _ => 0), aJ cy a2 16 (fun _ => 0), aI cy a3 14 (fun _ => 0), aB cy a4 40 (fun _ => 0), aB cy a5 40 (fun _ => 0), aI cy a6 7 (fun _ => 0), aI cy a7 444 (fun _ => 0), aI cy a8 37 (fun _ => 0), aI cy a9 37 (fun _ => 0), aI cy a10 240 (fun _ => 0), aI cy a11 7 (fun _ => 0), aI cy a12 1024 (fun _ => 0), aI cy a13 7 (fun _ => 0), aI cy a14 7 (fun _ => 0), aI cy a15 7 (fun _ => 0), aI cy a16 12 (fun _ => 0), aI cy a17 12 (fun _ => 0), aI cy a18 10 (fun _ => 0), aI cy a19 10 (fun _ => 0)]) E hin frX11_69 flX11_69 hS 0 rfl (Nat.le_of_ble_eq_true rfl) rfl rfl rfl rfl rfl dX11_init_164 (fun H locs hS => ?_)
  refine lv_aload_n hx hb dX11_init_167 rfl (lv_at hl 0 rfl) ?_
  refine lv_bipush (v := 61) hx hb dX11_init_168 (by decide) ?_
  refine r_newZ (N := 61) E hS ac_Z (by decide) rfl (Nat.le_of_ble_eq_true rfl) (by rw [hRc]; exact Nat.le_of_ble_eq_true rfl) (by rw [hRs]; exact Nat.le_of_ble_eq_true rfl) dX11_init_170 (fun a20 H locs hS => ?_)
  refine r_putF (ws' := [oX11 q0 (.ref a0) (.int 0) (.ref a1) (.int 0) (.ref a2) (.int 0) (.int 0) .null (.int 0) (.int 0) (.int 0) (.int 0) (.ref a3) (.ref a4) (.ref a5) (.int 0) (.int 0) (.ref a6) (.ref a7) (.int 0) (.ref a8) (.ref a9) (.ref a10) (.ref a11) (.ref a12) (.ref a13) (.ref a14) (.int 0) (.ref a15) (.ref a16) (.ref a17) (.int 0) (.ref a18) (.ref a19) (.int 0) (.ref a20) (.int 0) (.int 0) .null .null .null, aI cy a0 37 (fun _ => 0), aB cy a1 80 (fun _ => 0), aJ cy a2 16 (fun _ => 0), aI cy a3 14 (fun _ => 0), aB cy a4 40 (fun _ => 0), aB cy a5 40 (fun _ => 0), aI cy a6 7 (fun _ => 0), aI cy a7 444 (fun _ => 0), aI cy a8 37 (fun _ => 0), aI cy a9 37 (fun _ => 0), aI cy a10 240 (fun _ => 0), aI cy a11 7 (fun _ => 0), aI cy a12 1024 (fun _ => 0), aI cy a13 7 (fun _ => 0), aI cy a14 7 (fun _ => 0), aI cy a15 7 (fun _ => 0), aI cy a16 12 (fun _ => 0), aI cy a17 12 (fun _ => 0), aI cy a18 10 (fun _ => 0), aI cy a19 10 (fun _ => 0), aZ cy a20 61 (fun _ => 0)]) E hin frX11_72 flX11_72 hS 0 rfl (Nat.le_of_ble_eq_true rfl) rfl rfl rfl rfl rfl dX11_init_172 (fun H locs hS => ?_)
  refine lv_aload_n hx hb dX11_init_175 rfl (lv_at hl 0 rfl) ?_
  refine lv_bipush (v := 74) hx hb dX11_init_176 (by decide) ?_
  refine r_newI (N := 74) E hS ac_I (by decide) rfl (Nat.le_of_ble_eq_true rfl) (by rw [hRc]; exact Nat.le_of_ble_eq_true rfl) (by rw [hRs]; exact Nat.le_of_ble_eq_true rfl) dX11_init_178 (fun a21 H locs hS => ?_)
  refine r_putF (ws' := [oX11 q0 (.ref a0) (.int 0) (.ref a1) (.int 0) (.ref a2) (.int 0) (.int 0) .null (.int 0) (.int 0) (.int 0) (.int 0) (.ref a3) (.ref a4) (.ref a5) (.int 0) (.int 0) (.ref a6) (.ref a7) (.int 0) (.ref a8) (.ref a9) (.ref a10) (.ref a11) (.ref a12) (.ref a13) (.ref a14) (.int 0) (.ref a15) (.ref a16) (.ref a17) (.int 0) (.ref a18) (.ref a19) (.int 0) (.ref a20) (.int 0) (.int 0) (.ref a21) .null .null, aI cy a0 37 (fun _ => 0), aB cy a1 80 (fun _ => 0), aJ cy a2 16 (fun _ => 0), aI cy a3 14 (fun _ => 0), aB cy a4 40 (fun _ => 0), aB cy a5 40 (fun _ => 0), aI cy a6 7 (fun _ => 0), aI cy a7 444 (fun _ => 0), aI cy a8 37 (fun _ => 0), aI cy a9 37 (fun _ => 0), aI cy a10 240 (fun _ => 0), aI cy a11 7 (fun _ => 0), aI cy a12 1024 (fun _ => 0), aI cy a13 7 (fun _ => 0), aI cy a14 7 (fun _ => 0), aI cy a15 7 (fun _ => 0), aI cy a16 12 (fun _ => 0), aI cy a17 12 (fun _ => 0), aI cy a18 10 (fun _ => 0), aI cy a19 10 (fun _ => 0), aZ cy a20 61 (fun _ => 0), aI cy a21 74 (fun _ => 0)]) E hin frX11_76 flX11_76 hS 0 rfl (Nat.le_of_ble_eq_true rfl) rfl rfl rfl rfl rfl dX11_init_180 (fun H locs hS => ?_)
  refine lv_aload_n hx hb dX11_init_183 rfl (lv_at hl 0 rfl) ?_
  refine lv_iconst (v := 2) hx hb dX11_init_184 (by decide) ?_
  refine r_newZ (N := 2) E hS ac_Z (by decide) rfl (Nat.le_of_ble_eq_true rfl) (by rw [hRc]; exact Nat.le_of_ble_eq_true rfl) (by rw [hRs]; exact Nat.le_of_ble_eq_true rfl) dX11_init_185 (fun a22 H locs hS => ?_)
  refine r_putF (ws' := [oX11 q0 (.ref a0) (.int 0) (.ref a1) (.int 0) (.ref a2) (.int 0) (.int 0) .null (.int 0) (.int 0) (.int 0) (.int 0) (.ref a3) (.ref a4) (.ref a5) (.int 0) (.int 0) (.ref a6) (.ref a7) (.int 0) (.ref a8) (.ref a9) (.ref a10) (.ref a11) (.ref a12) (.ref a13) (.ref a14) (.int 0) (.ref a15) (.ref a16) (.ref a17) (.int 0) (.ref a18) (.ref a19) (.int 0) (.ref a20) (.int 0) (.int 0) (.ref a21) (.ref a22) .null, aI cy a0 37 (fun _ => 0), aB cy a1 80 (fun _ => 0), aJ cy a2 16 (fun _ => 0), aI cy a3 14 (fun _ => 0), aB cy a4 40 (fun _ => 0), aB cy a5 40 (fun _ => 0), aI cy a6 7 (fun _ => 0), aI cy a7 444 (fun _ => 0), aI cy a8 37 (fun _ => 0), aI cy a9 37 (fun _ => 0), aI cy a10 240 (fun _ => 0), aI cy a11 7 (fun _ => 0), aI cy a12 1024 (fun _ => 0), aI cy a13 7 (fun _ => 0), aI cy a14 7 (fun _ => 0), aI cy a15 7 (fun _ => 0), aI cy a16 12 (fun _ => 0), aI cy a17 12 (fun _ => 0), aI cy a18 10 (fun _ => 0), aI cy a19 10 (fun _ => 0), aZ cy a20 61 (fun _ => 0), aI cy a21 74 (fun _ => 0), aZ cy a22 2 (fun _ => 0)]) E hin frX11_79 flX11_79 hS 0 rfl (Nat.le_of_ble_eq_true rfl) rfl rfl rfl rfl rfl dX11_init_187 (fun H locs hS => ?_)
  refine lv_aload_n hx hb dX11_init_190 rfl (lv_at hl 0 rfl) ?_
  refine lv_iconst (v := 2) hx hb dX11_init_191 (by decide) ?_
  refine r_newI (N := 2) E hS ac_I (by decide) rfl (Nat.le_of_ble_eq_true rfl) (by rw [hRc]; exact Nat.le_of_ble_eq_true rfl) (by rw [hRs]; exact Nat.le_of_ble_eq_true rfl) dX11_init_192 (fun a23 H locs hS => ?_)
  refine r_putF (ws' := [oX11 q0 (.ref a0) (.int 0) (.ref a1) (.int 0) (.ref a2) (.int 0) (.int 0) .null (.int 0) (.int 0) (.int 0) (.int 0) (.ref a3) (.ref a4) (.ref a5) (.int 0) (.int 0) (.ref a6) (.ref a7) (.int 0) (.ref a8) (.ref a9) (.ref a10) (.ref a11) (.ref a12) (.ref a13) (.ref a14) (.int 0) (.ref a15) (.ref a16) (.ref a17) (.int 0) (.ref a18) (.ref a19) (.int 0) (.ref a20) (.int 0) (.int 0) (.ref a21) (.ref a22) (.ref a23), aI cy a0 37 (fun _ => 0), aB cy a1 80 (fun _ => 0), aJ cy a2 16 (fun _ => 0), aI cy a3 14 (fun _ => 0), aB cy a4 40 (fun _ => 0), aB cy a5 40 (fun _ => 0), aI cy a6 7 (fun _ => 0), aI cy a7 444 (fun _ => 0), aI cy a8 37 (fun _ => 0), aI cy a9 37 (fun _ => 0), aI cy a10 240 (fun _ => 0), aI cy a11 7 (fun _ => 0), aI cy a12 1024 (fun _ => 0), aI cy a13 7 (fun _ => 0), aI cy a14 7 (fun _ => 0), aI cy a15 7 (fun _ => 0), aI cy a16 12 (fun _ => 0), aI cy a17 12 (fun _ => 0), aI cy a18 10 (fun _ => 0), aI cy a19 10 (fun _ => 0), aZ cy a20 61 (fun _ => 0), aI cy a21 74 (fun _ => 0), aZ cy a22 2 (fun _ => 0), aI cy a23 2 (fun _ => 0)]) E hin frX11_82 flX11_82 hS 0 rfl (Nat.le_of_ble_eq_true rfl) rfl rfl rfl rfl rfl dX11_init_194 (fun H locs hS => ?_)
  exact rt_c E hQ (fun i => ([a0, a1, a2, a3, a4, a5, a6, a7, a8, a9, a10, a11, a12, a13, a14, a15, a16, a17, a18, a19, a20, a21, a22, a23] : List Nat).getD i 0) hS (Nat.le_of_ble_eq_true rfl) (Nat.le_of_ble_eq_true rfl) dX11_init_197
