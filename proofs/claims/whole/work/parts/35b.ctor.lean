theorem up13 (b0 b1 b2 b3 b4 b5 b6 b7 b8 b9 b10 b11 b12 : Nat) : (va_up (va_up (va_up (va_up (va_up (va_up (va_up (va_up (va_up (va_up (va_up (va_up (va_up (fun _ => none) 0 (some b0)) 1 (some b1)) 2 (some b2)) 3 (some b3)) 4 (some b4)) 5 (some b5)) 6 (some b6)) 7 (some b7)) 8 (some b8)) 9 (some b9)) 10 (some b10)) 11 (some b11)) 12 (some b12)) = (fun k => ([b0, b1, b2, b3, b4, b5, b6, b7, b8, b9, b10, b11, b12] : List Nat)[k]?) := by
  funext k
  match k with
  | 0 => rfl
  | 1 => rfl
  | 2 => rfl
  | 3 => rfl
  | 4 => rfl
  | 5 => rfl
  | 6 => rfl
  | 7 => rfl
  | 8 => rfl
  | 9 => rfl
  | 10 => rfl
  | 11 => rfl
  | 12 => rfl
  | n + 13 => simp [va_up]
theorem up2 (b0 b1 : Nat) : (va_up (va_up (fun _ => none) 0 (some b0)) 1 (some b1)) = (fun k => ([b0, b1] : List Nat)[k]?) := by
  funext k
  match k with
  | 0 => rfl
  | 1 => rfl
  | n + 2 => simp [va_up]
def nwX3 (cy : Nat → ClassId) (q : Nat) (ν : Nat → Nat) : va_W := [oX3 q (.ref (ν 0)) (.ref (ν 1)) (.ref (ν 2)) (.int 0) (.int 0), aF cy (ν 0) 13 (SA (fun i => ν (3 + i))), aF cy (ν 1) 2 (fun k => ([ν 81, ν 87] : List Nat)[k]?), aZ cy (ν 2) 2 (fun _ => 0)] ++ (SB cy (fun i => ν (3 + i)) (fun _ => 0) (fun _ => 0) (fun _ => 0) (fun _ _ => 0) (fun _ _ => 0) (fun _ _ => 0) (fun _ _ => 0) (fun _ _ => 0) ++ [oX0 (ν 81) (.ref (ν 82)) (.ref (ν 83)) (.ref (ν 84)) (.ref (ν 85)) (.ref (ν 86)) (.int 0) (.int 0) (.int 0), aI cy (ν 82) 7 (fun _ => 0), aI cy (ν 83) 7 (fun _ => 0), aI cy (ν 84) 7 (fun _ => 0), aI cy (ν 85) 7 (fun _ => 0), aI cy (ν 86) 7 (fun _ => 0), oX0 (ν 87) (.ref (ν 88)) (.ref (ν 89)) (.ref (ν 90)) (.ref (ν 91)) (.ref (ν 92)) (.int 0) (.int 0) (.int 0), aI cy (ν 88) 7 (fun _ => 0), aI cy (ν 89) 7 (fun _ => 0), aI cy (ν 90) 7 (fun _ => 0), aI cy (ν 91) 7 (fun _ => 0), aI cy (ν 92) 7 (fun _ => 0)])
set_option maxHeartbeats 4000000 in
set_option maxRecDepth 100000 in
theorem n_X3_init {l : Launch} {D : va_G} {cy : Nat → ClassId} {g : Gt} (q0 : Nat) : Cn l yX3_init cX3_init 2 2 60 93 662 D cy g q0 [(q0, .inr (3, [.null, .null, .null, .int 0, .int 0]))] (fun ν => nwX3 cy q0 ν) := by
  refine Cn.mk kX3_init (by decide +kernel) rfl (Nat.le_of_ble_eq_true rfl) ?_
  intro p e s m below meth c A ls args R Q hRf hRl hRc hRs hQ hG hAO hin E H locs hS hl
  have hx := E.x
  have hb := E.b
  have hl : lv_has ls 2 [(0, .ref q0)] := hl
  refine lv_aload_n hx hb dX3_init_0 rfl (lv_at hl 0 rfl) ?_
  refine r_obj E oi_X3 oi_i oi_c hl.1 (by rw [hRf]; exact Nat.le_of_ble_eq_true rfl) (by rw [hRl]; exact Nat.le_of_ble_eq_true rfl) dX3_init_1 ?_
  refine lv_aload_n hx hb dX3_init_4 rfl (lv_at hl 0 rfl) ?_
  refine lv_bipush (v := 13) hx hb dX3_init_5 (by decide) ?_
  refine r_newF (N := 13) E hS clX3_9 hAO (by decide) rfl (Nat.le_of_ble_eq_true rfl) (by rw [hRc]; exact Nat.le_of_ble_eq_true rfl) (by rw [hRs]; exact Nat.le_of_ble_eq_true rfl) dX3_init_7 (fun a0 H locs hS => ?_)
  refine r_putF (ws' := [oX3 q0 (.ref a0) .null .null (.int 0) (.int 0), aF cy a0 13 (fun _ => none)]) E hin frX3_11 flX3_11 hS 0 rfl (Nat.le_of_ble_eq_true rfl) rfl rfl rfl rfl rfl dX3_init_10 (fun H locs hS => ?_)
  refine lv_aload_n hx hb dX3_init_13 rfl (lv_at hl 0 rfl) ?_
  refine lv_iconst (v := 2) hx hb dX3_init_14 (by decide) ?_
  refine r_newF (N := 2) E hS clX3_9 hAO (by decide) rfl (Nat.le_of_ble_eq_true rfl) (by rw [hRc]; exact Nat.le_of_ble_eq_true rfl) (by rw [hRs]; exact Nat.le_of_ble_eq_true rfl) dX3_init_15 (fun a1 H locs hS => ?_)
  refine r_putF (ws' := [oX3 q0 (.ref a0) (.ref a1) .null (.int 0) (.int 0), aF cy a0 13 (fun _ => none), aF cy a1 2 (fun _ => none)]) E hin frX3_15 flX3_15 hS 0 rfl (Nat.le_of_ble_eq_true rfl) rfl rfl rfl rfl rfl dX3_init_18 (fun H locs hS => ?_)
  refine lv_aload_n hx hb dX3_init_21 rfl (lv_at hl 0 rfl) ?_
  refine lv_iconst (v := 2) hx hb dX3_init_22 (by decide) ?_
  refine r_newZ (N := 2) E hS ac_Z (by decide) rfl (Nat.le_of_ble_eq_true rfl) (by rw [hRc]; exact Nat.le_of_ble_eq_true rfl) (by rw [hRs]; exact Nat.le_of_ble_eq_true rfl) dX3_init_23 (fun a2 H locs hS => ?_)
  refine r_putF (ws' := [oX3 q0 (.ref a0) (.ref a1) (.ref a2) (.int 0) (.int 0), aF cy a0 13 (fun _ => none), aF cy a1 2 (fun _ => none), aZ cy a2 2 (fun _ => 0)]) E hin frX3_18 flX3_18 hS 0 rfl (Nat.le_of_ble_eq_true rfl) rfl rfl rfl rfl rfl dX3_init_25 (fun H locs hS => ?_)
  refine lv_aload_n hx hb dX3_init_28 rfl (lv_at hl 0 rfl) ?_
  refine lv_iconst (v := 0) hx hb dX3_init_29 (by decide) ?_
  refine r_put (ws' := [oX3 q0 (.ref a0) (.ref a1) (.ref a2) (.int 0) (.int 0), aF cy a0 13 (fun _ => none), aF cy a1 2 (fun _ => none), aZ cy a2 2 (fun _ => 0)]) E frX3_22 hS 0 rfl (Nat.le_of_ble_eq_true rfl) rfl rfl rfl rfl dX3_init_30 (fun H locs hS => ?_)
  refine lv_aload_n hx hb dX3_init_33 rfl (lv_at hl 0 rfl) ?_
  refine lv_iconst (v := 0) hx hb dX3_init_34 (by decide) ?_
  refine r_put (ws' := [oX3 q0 (.ref a0) (.ref a1) (.ref a2) (.int 0) (.int 0), aF cy a0 13 (fun _ => none), aF cy a1 2 (fun _ => none), aZ cy a2 2 (fun _ => 0)]) E frX3_26 hS 0 rfl (Nat.le_of_ble_eq_true rfl) rfl rfl rfl rfl dX3_init_35 (fun H locs hS => ?_)
  refine lv_iconst (v := 0) hx hb dX3_init_38 (by decide) ?_
  refine lv_istore_n (lv' := [(1, .int 0), (0, .ref q0)]) hx hb dX3_init_39 rfl hl (by decide) rfl (fun ls hl => ?_)
  refine lv_iload_n hx hb dX3_init_40 rfl (lv_at hl 0 rfl) ?_
  refine lv_bipush (v := 13) hx hb dX3_init_41 (by decide) ?_
  refine lv_icmp_ge (tgt := 65) hx hb dX3_init_43 (by decide) (fun hc => ?_) (fun hc => ?_)
  · exact absurd hc (by decide)
  refine lv_aload_n hx hb dX3_init_46 rfl (lv_at hl 1 rfl) ?_
  refine r_get E frX3_11 hS 0 rfl rfl dX3_init_47 ?_
  refine lv_iload_n hx hb dX3_init_50 rfl (lv_at hl 0 rfl) ?_
  refine nw_I (ci := 0) (C := RX0) (T := TX0) (N := 8) (ty0 := tyX0) (fs := [.null, .null, .null, .null, .null, .int 0, .int 0, .int 0]) (w' := fun q ν => nwX0 cy q ν) E hG hAO hS rfl inX0 tyX0_ok clX3_9 inst_X0 ini_X0 dfX0 ilX3_29 rfl (fun q => n_X0_init q) dX3_init_51 dX3_init_54 dX3_init_55 (by rw [hRf]; exact Nat.le_of_ble_eq_true rfl) (by rw [hRl]; exact Nat.le_of_ble_eq_true rfl) (by rw [hRc]; exact Nat.le_of_ble_eq_true rfl) (by rw [hRs]; exact Nat.le_of_ble_eq_true rfl) hl.1 (Nat.le_of_ble_eq_true rfl) (fun b0 ν0 H locs hS => ?_)
  refine r_astF (i := 0) (ws' := ([oX3 q0 (.ref a0) (.ref a1) (.ref a2) (.int 0) (.int 0), aF cy a0 13 (va_up (fun _ => none) 0 (some b0)), aF cy a1 2 (fun _ => none), aZ cy a2 2 (fun _ => 0)] ++ nwX0 cy b0 ν0)) E hS 1 4 rfl rfl (by unfold vp_in; decide) rfl dX3_init_58 (fun H locs hS => ?_)
  refine lv_iinc (v := 1) (lv' := [(1, .int 1), (0, .ref q0)]) hx hb dX3_init_59 hl (k := 0) rfl (by decide) (by decide) rfl (fun ls hl => ?_)
  refine lv_goto (tgt := 40) hx hb dX3_init_62 (by decide) ?_
  refine lv_iload_n hx hb dX3_init_40 rfl (lv_at hl 0 rfl) ?_
  refine lv_bipush (v := 13) hx hb dX3_init_41 (by decide) ?_
  refine lv_icmp_ge (tgt := 65) hx hb dX3_init_43 (by decide) (fun hc => ?_) (fun hc => ?_)
  · exact absurd hc (by decide)
  refine lv_aload_n hx hb dX3_init_46 rfl (lv_at hl 1 rfl) ?_
  refine r_get E frX3_11 hS 0 rfl rfl dX3_init_47 ?_
  refine lv_iload_n hx hb dX3_init_50 rfl (lv_at hl 0 rfl) ?_
  refine nw_I (ci := 0) (C := RX0) (T := TX0) (N := 8) (ty0 := tyX0) (fs := [.null, .null, .null, .null, .null, .int 0, .int 0, .int 0]) (w' := fun q ν => nwX0 cy q ν) E hG hAO hS rfl inX0 tyX0_ok clX3_9 inst_X0 ini_X0 dfX0 ilX3_29 rfl (fun q => n_X0_init q) dX3_init_51 dX3_init_54 dX3_init_55 (by rw [hRf]; exact Nat.le_of_ble_eq_true rfl) (by rw [hRl]; exact Nat.le_of_ble_eq_true rfl) (by rw [hRc]; exact Nat.le_of_ble_eq_true rfl) (by rw [hRs]; exact Nat.le_of_ble_eq_true rfl) hl.1 (Nat.le_of_ble_eq_true rfl) (fun b1 ν1 H locs hS => ?_)
  refine r_astF (i := 1) (ws' := (([oX3 q0 (.ref a0) (.ref a1) (.ref a2) (.int 0) (.int 0), aF cy a0 13 (va_up (va_up (fun _ => none) 0 (some b0)) 1 (some b1)), aF cy a1 2 (fun _ => none), aZ cy a2 2 (fun _ => 0)] ++ nwX0 cy b0 ν0) ++ nwX0 cy b1 ν1)) E hS 1 10 rfl rfl (by unfold vp_in; decide) rfl dX3_init_58 (fun H locs hS => ?_)
  refine lv_iinc (v := 2) (lv' := [(1, .int 2), (0, .ref q0)]) hx hb dX3_init_59 hl (k := 0) rfl (by decide) (by decide) rfl (fun ls hl => ?_)
  refine lv_goto (tgt := 40) hx hb dX3_init_62 (by decide) ?_
  refine lv_iload_n hx hb dX3_init_40 rfl (lv_at hl 0 rfl) ?_
  refine lv_bipush (v := 13) hx hb dX3_init_41 (by decide) ?_
  refine lv_icmp_ge (tgt := 65) hx hb dX3_init_43 (by decide) (fun hc => ?_) (fun hc => ?_)
  · exact absurd hc (by decide)
  refine lv_aload_n hx hb dX3_init_46 rfl (lv_at hl 1 rfl) ?_
  refine r_get E frX3_11 hS 0 rfl rfl dX3_init_47 ?_
  refine lv_iload_n hx hb dX3_init_50 rfl (lv_at hl 0 rfl) ?_
  refine nw_I (ci := 0) (C := RX0) (T := TX0) (N := 8) (ty0 := tyX0) (fs := [.null, .null, .null, .null, .null, .int 0, .int 0, .int 0]) (w' := fun q ν => nwX0 cy q ν) E hG hAO hS rfl inX0 tyX0_ok clX3_9 inst_X0 ini_X0 dfX0 ilX3_29 rfl (fun q => n_X0_init q) dX3_init_51 dX3_init_54 dX3_init_55 (by rw [hRf]; exact Nat.le_of_ble_eq_true rfl) (by rw [hRl]; exact Nat.le_of_ble_eq_true rfl) (by rw [hRc]; exact Nat.le_of_ble_eq_true rfl) (by rw [hRs]; exact Nat.le_of_ble_eq_true rfl) hl.1 (Nat.le_of_ble_eq_true rfl) (fun b2 ν2 H locs hS => ?_)
  refine r_astF (i := 2) (ws' := ((([oX3 q0 (.ref a0) (.ref a1) (.ref a2) (.int 0) (.int 0), aF cy a0 13 (va_up (va_up (va_up (fun _ => none) 0 (some b0)) 1 (some b1)) 2 (some b2)), aF cy a1 2 (fun _ => none), aZ cy a2 2 (fun _ => 0)] ++ nwX0 cy b0 ν0) ++ nwX0 cy b1 ν1) ++ nwX0 cy b2 ν2)) E hS 1 16 rfl rfl (by unfold vp_in; decide) rfl dX3_init_58 (fun H locs hS => ?_)
  refine lv_iinc (v := 3) (lv' := [(1, .int 3), (0, .ref q0)]) hx hb dX3_init_59 hl (k := 0) rfl (by decide) (by decide) rfl (fun ls hl => ?_)
  refine lv_goto (tgt := 40) hx hb dX3_init_62 (by decide) ?_
  refine lv_iload_n hx hb dX3_init_40 rfl (lv_at hl 0 rfl) ?_
  refine lv_bipush (v := 13) hx hb dX3_init_41 (by decide) ?_
  refine lv_icmp_ge (tgt := 65) hx hb dX3_init_43 (by decide) (fun hc => ?_) (fun hc => ?_)
  · exact absurd hc (by decide)
  refine lv_aload_n hx hb dX3_init_46 rfl (lv_at hl 1 rfl) ?_
  refine r_get E frX3_11 hS 0 rfl rfl dX3_init_47 ?_
  refine lv_iload_n hx hb dX3_init_50 rfl (lv_at hl 0 rfl) ?_
  refine nw_I (ci := 0) (C := RX0) (T := TX0) (N := 8) (ty0 := tyX0) (fs := [.null, .null, .null, .null, .null, .int 0, .int 0, .int 0]) (w' := fun q ν => nwX0 cy q ν) E hG hAO hS rfl inX0 tyX0_ok clX3_9 inst_X0 ini_X0 dfX0 ilX3_29 rfl (fun q => n_X0_init q) dX3_init_51 dX3_init_54 dX3_init_55 (by rw [hRf]; exact Nat.le_of_ble_eq_true rfl) (by rw [hRl]; exact Nat.le_of_ble_eq_true rfl) (by rw [hRc]; exact Nat.le_of_ble_eq_true rfl) (by rw [hRs]; exact Nat.le_of_ble_eq_true rfl) hl.1 (Nat.le_of_ble_eq_true rfl) (fun b3 ν3 H locs hS => ?_)
  refine r_astF (i := 3) (ws' := (((([oX3 q0 (.ref a0) (.ref a1) (.ref a2) (.int 0) (.int 0), aF cy a0 13 (va_up (va_up (va_up (va_up (fun _ => none) 0 (some b0)) 1 (some b1)) 2 (some b2)) 3 (some b3)), aF cy a1 2 (fun _ => none), aZ cy a2 2 (fun _ => 0)] ++ nwX0 cy b0 ν0) ++ nwX0 cy b1 ν1) ++ nwX0 cy b2 ν2) ++ nwX0 cy b3 ν3)) E hS 1 22 rfl rfl (by unfold vp_in; decide) rfl dX3_init_58 (fun H locs hS => ?_)
  refine lv_iinc (v := 4) (lv' := [(1, .int 4), (0, .ref q0)]) hx hb dX3_init_59 hl (k := 0) rfl (by decide) (by decide) rfl (fun ls hl => ?_)
  refine lv_goto (tgt := 40) hx hb dX3_init_62 (by decide) ?_
  refine lv_iload_n hx hb dX3_init_40 rfl (lv_at hl 0 rfl) ?_
  refine lv_bipush (v := 13) hx hb dX3_init_41 (by decide) ?_
  refine lv_icmp_ge (tgt := 65) hx hb dX3_init_43 (by decide) (fun hc => ?_) (fun hc => ?_)
  · exact absurd hc (by decide)
  refine lv_aload_n hx hb dX3_init_46 rfl (lv_at hl 1 rfl) ?_
  refine r_get E frX3_11 hS 0 rfl rfl dX3_init_47 ?_
  refine lv_iload_n hx hb dX3_init_50 rfl (lv_at hl 0 rfl) ?_
  refine nw_I (ci := 0) (C := RX0) (T := TX0) (N := 8) (ty0 := tyX0) (fs := [.null, .null, .null, .null, .null, .int 0, .int 0, .int 0]) (w' := fun q ν => nwX0 cy q ν) E hG hAO hS rfl inX0 tyX0_ok clX3_9 inst_X0 ini_X0 dfX0 ilX3_29 rfl (fun q => n_X0_init q) dX3_init_51 dX3_init_54 dX3_init_55 (by rw [hRf]; exact Nat.le_of_ble_eq_true rfl) (by rw [hRl]; exact Nat.le_of_ble_eq_true rfl) (by rw [hRc]; exact Nat.le_of_ble_eq_true rfl) (by rw [hRs]; exact Nat.le_of_ble_eq_true rfl) hl.1 (Nat.le_of_ble_eq_true rfl) (fun b4 ν4 H locs hS => ?_)
  refine r_astF (i := 4) (ws' := ((((([oX3 q0 (.ref a0) (.ref a1) (.ref a2) (.int 0) (.int 0), aF cy a0 13 (va_up (va_up (va_up (va_up (va_up (fun _ => none) 0 (some b0)) 1 (some b1)) 2 (some b2)) 3 (some b3)) 4 (some b4)), aF cy a1 2 (fun _ => none), aZ cy a2 2 (fun _ => 0)] ++ nwX0 cy b0 ν0) ++ nwX0 cy b1 ν1) ++ nwX0 cy b2 ν2) ++ nwX0 cy b3 ν3) ++ nwX0 cy b4 ν4)) E hS 1 28 rfl rfl (by unfold vp_in; decide) rfl dX3_init_58 (fun H locs hS => ?_)
  refine lv_iinc (v := 5) (lv' := [(1, .int 5), (0, .ref q0)]) hx hb dX3_init_59 hl (k := 0) rfl (by decide) (by decide) rfl (fun ls hl => ?_)
  refine lv_goto (tgt := 40) hx hb dX3_init_62 (by decide) ?_
  refine lv_iload_n hx hb dX3_init_40 rfl (lv_at hl 0 rfl) ?_
  refine lv_bipush (v := 13) hx hb dX3_init_41 (by decide) ?_
  refine lv_icmp_ge (tgt := 65) hx hb dX3_init_43 (by decide) (fun hc => ?_) (fun hc => ?_)
  · exact absurd hc (by decide)
  refine lv_aload_n hx hb dX3_init_46 rfl (lv_at hl 1 rfl) ?_
  refine r_get E frX3_11 hS 0 rfl rfl dX3_init_47 ?_
  refine lv_iload_n hx hb dX3_init_50 rfl (lv_at hl 0 rfl) ?_
  refine nw_I (ci := 0) (C := RX0) (T := TX0) (N := 8) (ty0 := tyX0) (fs := [.null, .null, .null, .null, .null, .int 0, .int 0, .int 0]) (w' := fun q ν => nwX0 cy q ν) E hG hAO hS rfl inX0 tyX0_ok clX3_9 inst_X0 ini_X0 dfX0 ilX3_29 rfl (fun q => n_X0_init q) dX3_init_51 dX3_init_54 dX3_init_55 (by rw [hRf]; exact Nat.le_of_ble_eq_true rfl) (by rw [hRl]; exact Nat.le_of_ble_eq_true rfl) (by rw [hRc]; exact Nat.le_of_ble_eq_true rfl) (by rw [hRs]; exact Nat.le_of_ble_eq_true rfl) hl.1 (Nat.le_of_ble_eq_true rfl) (fun b5 ν5 H locs hS => ?_)
  refine r_astF (i := 5) (ws' := (((((([oX3 q0 (.ref a0) (.ref a1) (.ref a2) (.int 0) (.int 0), aF cy a0 13 (va_up (va_up (va_up (va_up (va_up (va_up (fun _ => none) 0 (some b0)) 1 (some b1)) 2 (some b2)) 3 (some b3)) 4 (some b4)) 5 (some b5)), aF cy a1 2 (fun _ => none), aZ cy a2 2 (fun _ => 0)] ++ nwX0 cy b0 ν0) ++ nwX0 cy b1 ν1) ++ nwX0 cy b2 ν2) ++ nwX0 cy b3 ν3) ++ nwX0 cy b4 ν4) ++ nwX0 cy b5 ν5)) E hS 1 34 rfl rfl (by unfold vp_in; decide) rfl dX3_init_58 (fun H locs hS => ?_)
  refine lv_iinc (v := 6) (lv' := [(1, .int 6), (0, .ref q0)]) hx hb dX3_init_59 hl (k := 0) rfl (by decide) (by decide) rfl (fun ls hl => ?_)
  refine lv_goto (tgt := 40) hx hb dX3_init_62 (by decide) ?_
  refine lv_iload_n hx hb dX3_init_40 rfl (lv_at hl 0 rfl) ?_
  refine lv_bipush (v := 13) hx hb dX3_init_41 (by decide) ?_
  refine lv_icmp_ge (tgt := 65) hx hb dX3_init_43 (by decide) (fun hc => ?_) (fun hc => ?_)
  · exact absurd hc (by decide)
  refine lv_aload_n hx hb dX3_init_46 rfl (lv_at hl 1 rfl) ?_
  refine r_get E frX3_11 hS 0 rfl rfl dX3_init_47 ?_
  refine lv_iload_n hx hb dX3_init_50 rfl (lv_at hl 0 rfl) ?_
  refine nw_I (ci := 0) (C := RX0) (T := TX0) (N := 8) (ty0 := tyX0) (fs := [.null, .null, .null, .null, .null, .int 0, .int 0, .int 0]) (w' := fun q ν => nwX0 cy q ν) E hG hAO hS rfl inX0 tyX0_ok clX3_9 inst_X0 ini_X0 dfX0 ilX3_29 rfl (fun q => n_X0_init q) dX3_init_51 dX3_init_54 dX3_init_55 (by rw [hRf]; exact Nat.le_of_ble_eq_true rfl) (by rw [hRl]; exact Nat.le_of_ble_eq_true rfl) (by rw [hRc]; exact Nat.le_of_ble_eq_true rfl) (by rw [hRs]; exact Nat.le_of_ble_eq_true rfl) hl.1 (Nat.le_of_ble_eq_true rfl) (fun b6 ν6 H locs hS => ?_)
  refine r_astF (i := 6) (ws' := ((((((([oX3 q0 (.ref a0) (.ref a1) (.ref a2) (.int 0) (.int 0), aF cy a0 13 (va_up (va_up (va_up (va_up (va_up (va_up (va_up (fun _ => none) 0 (some b0)) 1 (some b1)) 2 (some b2)) 3 (some b3)) 4 (some b4)) 5 (some b5)) 6 (some b6)), aF cy a1 2 (fun _ => none), aZ cy a2 2 (fun _ => 0)] ++ nwX0 cy b0 ν0) ++ nwX0 cy b1 ν1) ++ nwX0 cy b2 ν2) ++ nwX0 cy b3 ν3) ++ nwX0 cy b4 ν4) ++ nwX0 cy b5 ν5) ++ nwX0 cy b6 ν6)) E hS 1 40 rfl rfl (by unfold vp_in; decide) rfl dX3_init_58 (fun H locs hS => ?_)
  refine lv_iinc (v := 7) (lv' := [(1, .int 7), (0, .ref q0)]) hx hb dX3_init_59 hl (k := 0) rfl (by decide) (by decide) rfl (fun ls hl => ?_)
  refine lv_goto (tgt := 40) hx hb dX3_init_62 (by decide) ?_
  refine lv_iload_n hx hb dX3_init_40 rfl (lv_at hl 0 rfl) ?_
  refine lv_bipush (v := 13) hx hb dX3_init_41 (by decide) ?_
  refine lv_icmp_ge (tgt := 65) hx hb dX3_init_43 (by decide) (fun hc => ?_) (fun hc => ?_)
  · exact absurd hc (by decide)
  refine lv_aload_n hx hb dX3_init_46 rfl (lv_at hl 1 rfl) ?_
  refine r_get E frX3_11 hS 0 rfl rfl dX3_init_47 ?_
  refine lv_iload_n hx hb dX3_init_50 rfl (lv_at hl 0 rfl) ?_
  refine nw_I (ci := 0) (C := RX0) (T := TX0) (N := 8) (ty0 := tyX0) (fs := [.null, .null, .null, .null, .null, .int 0, .int 0, .int 0]) (w' := fun q ν => nwX0 cy q ν) E hG hAO hS rfl inX0 tyX0_ok clX3_9 inst_X0 ini_X0 dfX0 ilX3_29 rfl (fun q => n_X0_init q) dX3_init_51 dX3_init_54 dX3_init_55 (by rw [hRf]; exact Nat.le_of_ble_eq_true rfl) (by rw [hRl]; exact Nat.le_of_ble_eq_true rfl) (by rw [hRc]; exact Nat.le_of_ble_eq_true rfl) (by rw [hRs]; exact Nat.le_of_ble_eq_true rfl) hl.1 (Nat.le_of_ble_eq_true rfl) (fun b7 ν7 H locs hS => ?_)
  refine r_astF (i := 7) (ws' := (((((((([oX3 q0 (.ref a0) (.ref a1) (.ref a2) (.int 0) (.int 0), aF cy a0 13 (va_up (va_up (va_up (va_up (va_up (va_up (va_up (va_up (fun _ => none) 0 (some b0)) 1 (some b1)) 2 (some b2)) 3 (some b3)) 4 (some b4)) 5 (some b5)) 6 (some b6)) 7 (some b7)), aF cy a1 2 (fun _ => none), aZ cy a2 2 (fun _ => 0)] ++ nwX0 cy b0 ν0) ++ nwX0 cy b1 ν1) ++ nwX0 cy b2 ν2) ++ nwX0 cy b3 ν3) ++ nwX0 cy b4 ν4) ++ nwX0 cy b5 ν5) ++ nwX0 cy b6 ν6) ++ nwX0 cy b7 ν7)) E hS 1 46 rfl rfl (by unfold vp_in; decide) rfl dX3_init_58 (fun H locs hS => ?_)
  refine lv_iinc (v := 8) (lv' := [(1, .int 8), (0, .ref q0)]) hx hb dX3_init_59 hl (k := 0) rfl (by decide) (by decide) rfl (fun ls hl => ?_)
  refine lv_goto (tgt := 40) hx hb dX3_init_62 (by decide) ?_
  refine lv_iload_n hx hb dX3_init_40 rfl (lv_at hl 0 rfl) ?_
  refine lv_bipush (v := 13) hx hb dX3_init_41 (by decide) ?_
  refine lv_icmp_ge (tgt := 65) hx hb dX3_init_43 (by decide) (fun hc => ?_) (fun hc => ?_)
  · exact absurd hc (by decide)
  refine lv_aload_n hx hb dX3_init_46 rfl (lv_at hl 1 rfl) ?_
  refine r_get E frX3_11 hS 0 rfl rfl dX3_init_47 ?_
  refine lv_iload_n hx hb dX3_init_50 rfl (lv_at hl 0 rfl) ?_
  refine nw_I (ci := 0) (C := RX0) (T := TX0) (N := 8) (ty0 := tyX0) (fs := [.null, .null, .null, .null, .null, .int 0, .int 0, .int 0]) (w' := fun q ν => nwX0 cy q ν) E hG hAO hS rfl inX0 tyX0_ok clX3_9 inst_X0 ini_X0 dfX0 ilX3_29 rfl (fun q => n_X0_init q) dX3_init_51 dX3_init_54 dX3_init_55 (by rw [hRf]; exact Nat.le_of_ble_eq_true rfl) (by rw [hRl]; exact Nat.le_of_ble_eq_true rfl) (by rw [hRc]; exact Nat.le_of_ble_eq_true rfl) (by rw [hRs]; exact Nat.le_of_ble_eq_true rfl) hl.1 (Nat.le_of_ble_eq_true rfl) (fun b8 ν8 H locs hS => ?_)
  refine r_astF (i := 8) (ws' := ((((((((([oX3 q0 (.ref a0) (.ref a1) (.ref a2) (.int 0) (.int 0), aF cy a0 13 (va_up (va_up (va_up (va_up (va_up (va_up (va_up (va_up (va_up (fun _ => none) 0 (some b0)) 1 (some b1)) 2 (some b2)) 3 (some b3)) 4 (some b4)) 5 (some b5)) 6 (some b6)) 7 (some b7)) 8 (some b8)), aF cy a1 2 (fun _ => none), aZ cy a2 2 (fun _ => 0)] ++ nwX0 cy b0 ν0) ++ nwX0 cy b1 ν1) ++ nwX0 cy b2 ν2) ++ nwX0 cy b3 ν3) ++ nwX0 cy b4 ν4) ++ nwX0 cy b5 ν5) ++ nwX0 cy b6 ν6) ++ nwX0 cy b7 ν7) ++ nwX0 cy b8 ν8)) E hS 1 52 rfl rfl (by unfold vp_in; decide) rfl dX3_init_58 (fun H locs hS => ?_)
  refine lv_iinc (v := 9) (lv' := [(1, .int 9), (0, .ref q0)]) hx hb dX3_init_59 hl (k := 0) rfl (by decide) (by decide) rfl (fun ls hl => ?_)
  refine lv_goto (tgt := 40) hx hb dX3_init_62 (by decide) ?_
  refine lv_iload_n hx hb dX3_init_40 rfl (lv_at hl 0 rfl) ?_
  refine lv_bipush (v := 13) hx hb dX3_init_41 (by decide) ?_
  refine lv_icmp_ge (tgt := 65) hx hb dX3_init_43 (by decide) (fun hc => ?_) (fun hc => ?_)
  · exact absurd hc (by decide)
  refine lv_aload_n hx hb dX3_init_46 rfl (lv_at hl 1 rfl) ?_
  refine r_get E frX3_11 hS 0 rfl rfl dX3_init_47 ?_
  refine lv_iload_n hx hb dX3_init_50 rfl (lv_at hl 0 rfl) ?_
  refine nw_I (ci := 0) (C := RX0) (T := TX0) (N := 8) (ty0 := tyX0) (fs := [.null, .null, .null, .null, .null, .int 0, .int 0, .int 0]) (w' := fun q ν => nwX0 cy q ν) E hG hAO hS rfl inX0 tyX0_ok clX3_9 inst_X0 ini_X0 dfX0 ilX3_29 rfl (fun q => n_X0_init q) dX3_init_51 dX3_init_54 dX3_init_55 (by rw [hRf]; exact Nat.le_of_ble_eq_true rfl) (by rw [hRl]; exact Nat.le_of_ble_eq_true rfl) (by rw [hRc]; exact Nat.le_of_ble_eq_true rfl) (by rw [hRs]; exact Nat.le_of_ble_eq_true rfl) hl.1 (Nat.le_of_ble_eq_true rfl) (fun b9 ν9 H locs hS => ?_)
  refine r_astF (i := 9) (ws' := (((((((((([oX3 q0 (.ref a0) (.ref a1) (.ref a2) (.int 0) (.int 0), aF cy a0 13 (va_up (va_up (va_up (va_up (va_up (va_up (va_up (va_up (va_up (va_up (fun _ => none) 0 (some b0)) 1 (some b1)) 2 (some b2)) 3 (some b3)) 4 (some b4)) 5 (some b5)) 6 (some b6)) 7 (some b7)) 8 (some b8)) 9 (some b9)), aF cy a1 2 (fun _ => none), aZ cy a2 2 (fun _ => 0)] ++ nwX0 cy b0 ν0) ++ nwX0 cy b1 ν1) ++ nwX0 cy b2 ν2) ++ nwX0 cy b3 ν3) ++ nwX0 cy b4 ν4) ++ nwX0 cy b5 ν5) ++ nwX0 cy b6 ν6) ++ nwX0 cy b7 ν7) ++ nwX0 cy b8 ν8) ++ nwX0 cy b9 ν9)) E hS 1 58 rfl rfl (by unfold vp_in; decide) rfl dX3_init_58 (fun H locs hS => ?_)
  refine lv_iinc (v := 10) (lv' := [(1, .int 10), (0, .ref q0)]) hx hb dX3_init_59 hl (k := 0) rfl (by decide) (by decide) rfl (fun ls hl => ?_)
  refine lv_goto (tgt := 40) hx hb dX3_init_62 (by decide) ?_
  refine lv_iload_n hx hb dX3_init_40 rfl (lv_at hl 0 rfl) ?_
  refine lv_bipush (v := 13) hx hb dX3_init_41 (by decide) ?_
  refine lv_icmp_ge (tgt := 65) hx hb dX3_init_43 (by decide) (fun hc => ?_) (fun hc => ?_)
  · exact absurd hc (by decide)
  refine lv_aload_n hx hb dX3_init_46 rfl (lv_at hl 1 rfl) ?_
  refine r_get E frX3_11 hS 0 rfl rfl dX3_init_47 ?_
  refine lv_iload_n hx hb dX3_init_50 rfl (lv_at hl 0 rfl) ?_
  refine nw_I (ci := 0) (C := RX0) (T := TX0) (N := 8) (ty0 := tyX0) (fs := [.null, .null, .null, .null, .null, .int 0, .int 0, .int 0]) (w' := fun q ν => nwX0 cy q ν) E hG hAO hS rfl inX0 tyX0_ok clX3_9 inst_X0 ini_X0 dfX0 ilX3_29 rfl (fun q => n_X0_init q) dX3_init_51 dX3_init_54 dX3_init_55 (by rw [hRf]; exact Nat.le_of_ble_eq_true rfl) (by rw [hRl]; exact Nat.le_of_ble_eq_true rfl) (by rw [hRc]; exact Nat.le_of_ble_eq_true rfl) (by rw [hRs]; exact Nat.le_of_ble_eq_true rfl) hl.1 (Nat.le_of_ble_eq_true rfl) (fun b10 ν10 H locs hS => ?_)
  refine r_astF (i := 10) (ws' := ((((((((((([oX3 q0 (.ref a0) (.ref a1) (.ref a2) (.int 0) (.int 0), aF cy a0 13 (va_up (va_up (va_up (va_up (va_up (va_up (va_up (va_up (va_up (va_up (va_up (fun _ => none) 0 (some b0)) 1 (some b1)) 2 (some b2)) 3 (some b3)) 4 (some b4)) 5 (some b5)) 6 (some b6)) 7 (some b7)) 8 (some b8)) 9 (some b9)) 10 (some b10)), aF cy a1 2 (fun _ => none), aZ cy a2 2 (fun _ => 0)] ++ nwX0 cy b0 ν0) ++ nwX0 cy b1 ν1) ++ nwX0 cy b2 ν2) ++ nwX0 cy b3 ν3) ++ nwX0 cy b4 ν4) ++ nwX0 cy b5 ν5) ++ nwX0 cy b6 ν6) ++ nwX0 cy b7 ν7) ++ nwX0 cy b8 ν8) ++ nwX0 cy b9 ν9) ++ nwX0 cy b10 ν10)) E hS 1 64 rfl rfl (by unfold vp_in; decide) rfl dX3_init_58 (fun H locs hS => ?_)
  refine lv_iinc (v := 11) (lv' := [(1, .int 11), (0, .ref q0)]) hx hb dX3_init_59 hl (k := 0) rfl (by decide) (by decide) rfl (fun ls hl => ?_)
  refine lv_goto (tgt := 40) hx hb dX3_init_62 (by decide) ?_
  refine lv_iload_n hx hb dX3_init_40 rfl (lv_at hl 0 rfl) ?_
  refine lv_bipush (v := 13) hx hb dX3_init_41 (by decide) ?_
  refine lv_icmp_ge (tgt := 65) hx hb dX3_init_43 (by decide) (fun hc => ?_) (fun hc => ?_)
  · exact absurd hc (by decide)
  refine lv_aload_n hx hb dX3_init_46 rfl (lv_at hl 1 rfl) ?_
  refine r_get E frX3_11 hS 0 rfl rfl dX3_init_47 ?_
  refine lv_iload_n hx hb dX3_init_50 rfl (lv_at hl 0 rfl) ?_
  refine nw_I (ci := 0) (C := RX0) (T := TX0) (N := 8) (ty0 := tyX0) (fs := [.null, .null, .null, .null, .null, .int 0, .int 0, .int 0]) (w' := fun q ν => nwX0 cy q ν) E hG hAO hS rfl inX0 tyX0_ok clX3_9 inst_X0 ini_X0 dfX0 ilX3_29 rfl (fun q => n_X0_init q) dX3_init_51 dX3_init_54 dX3_init_55 (by rw [hRf]; exact Nat.le_of_ble_eq_true rfl) (by rw [hRl]; exact Nat.le_of_ble_eq_true rfl) (by rw [hRc]; exact Nat.le_of_ble_eq_true rfl) (by rw [hRs]; exact Nat.le_of_ble_eq_true rfl) hl.1 (Nat.le_of_ble_eq_true rfl) (fun b11 ν11 H locs hS => ?_)
  refine r_astF (i := 11) (ws' := (((((((((((([oX3 q0 (.ref a0) (.ref a1) (.ref a2) (.int 0) (.int 0), aF cy a0 13 (va_up (va_up (va_up (va_up (va_up (va_up (va_up (va_up (va_up (va_up (va_up (va_up (fun _ => none) 0 (some b0)) 1 (some b1)) 2 (some b2)) 3 (some b3)) 4 (some b4)) 5 (some b5)) 6 (some b6)) 7 (some b7)) 8 (some b8)) 9 (some b9)) 10 (some b10)) 11 (some b11)), aF cy a1 2 (fun _ => none), aZ cy a2 2 (fun _ => 0)] ++ nwX0 cy b0 ν0) ++ nwX0 cy b1 ν1) ++ nwX0 cy b2 ν2) ++ nwX0 cy b3 ν3) ++ nwX0 cy b4 ν4) ++ nwX0 cy b5 ν5) ++ nwX0 cy b6 ν6) ++ nwX0 cy b7 ν7) ++ nwX0 cy b8 ν8) ++ nwX0 cy b9 ν9) ++ nwX0 cy b10 ν10) ++ nwX0 cy b11 ν11)) E hS 1 70 rfl rfl (by unfold vp_in; decide) rfl dX3_init_58 (fun H locs hS => ?_)
  refine lv_iinc (v := 12) (lv' := [(1, .int 12), (0, .ref q0)]) hx hb dX3_init_59 hl (k := 0) rfl (by decide) (by decide) rfl (fun ls hl => ?_)
  refine lv_goto (tgt := 40) hx hb dX3_init_62 (by decide) ?_
  refine lv_iload_n hx hb dX3_init_40 rfl (lv_at hl 0 rfl) ?_
  refine lv_bipush (v := 13) hx hb dX3_init_41 (by decide) ?_
  refine lv_icmp_ge (tgt := 65) hx hb dX3_init_43 (by decide) (fun hc => ?_) (fun hc => ?_)
  · exact absurd hc (by decide)
  refine lv_aload_n hx hb dX3_init_46 rfl (lv_at hl 1 rfl) ?_
  refine r_get E frX3_11 hS 0 rfl rfl dX3_init_47 ?_
  refine lv_iload_n hx hb dX3_init_50 rfl (lv_at hl 0 rfl) ?_
  refine nw_I (ci := 0) (C := RX0) (T := TX0) (N := 8) (ty0 := tyX0) (fs := [.null, .null, .null, .null, .null, .int 0, .int 0, .int 0]) (w' := fun q ν => nwX0 cy q ν) E hG hAO hS rfl inX0 tyX0_ok clX3_9 inst_X0 ini_X0 dfX0 ilX3_29 rfl (fun q => n_X0_init q) dX3_init_51 dX3_init_54 dX3_init_55 (by rw [hRf]; exact Nat.le_of_ble_eq_true rfl) (by rw [hRl]; exact Nat.le_of_ble_eq_true rfl) (by rw [hRc]; exact Nat.le_of_ble_eq_true rfl) (by rw [hRs]; exact Nat.le_of_ble_eq_true rfl) hl.1 (Nat.le_of_ble_eq_true rfl) (fun b12 ν12 H locs hS => ?_)
  refine r_astF (i := 12) (ws' := ((((((((((((([oX3 q0 (.ref a0) (.ref a1) (.ref a2) (.int 0) (.int 0), aF cy a0 13 (va_up (va_up (va_up (va_up (va_up (va_up (va_up (va_up (va_up (va_up (va_up (va_up (va_up (fun _ => none) 0 (some b0)) 1 (some b1)) 2 (some b2)) 3 (some b3)) 4 (some b4)) 5 (some b5)) 6 (some b6)) 7 (some b7)) 8 (some b8)) 9 (some b9)) 10 (some b10)) 11 (some b11)) 12 (some b12)), aF cy a1 2 (fun _ => none), aZ cy a2 2 (fun _ => 0)] ++ nwX0 cy b0 ν0) ++ nwX0 cy b1 ν1) ++ nwX0 cy b2 ν2) ++ nwX0 cy b3 ν3) ++ nwX0 cy b4 ν4) ++ nwX0 cy b5 ν5) ++ nwX0 cy b6 ν6) ++ nwX0 cy b7 ν7) ++ nwX0 cy b8 ν8) ++ nwX0 cy b9 ν9) ++ nwX0 cy b10 ν10) ++ nwX0 cy b11 ν11) ++ nwX0 cy b12 ν12)) E hS 1 76 rfl rfl (by unfold vp_in; decide) rfl dX3_init_58 (fun H locs hS => ?_)
  refine lv_iinc (v := 13) (lv' := [(1, .int 13), (0, .ref q0)]) hx hb dX3_init_59 hl (k := 0) rfl (by decide) (by decide) rfl (fun ls hl => ?_)
  refine lv_goto (tgt := 40) hx hb dX3_init_62 (by decide) ?_
  refine lv_iload_n hx hb dX3_init_40 rfl (lv_at hl 0 rfl) ?_
  refine lv_bipush (v := 13) hx hb dX3_init_41 (by decide) ?_
  refine lv_icmp_ge (tgt := 65) hx hb dX3_init_43 (by decide) (fun hc => ?_) (fun hc => ?_)
  rotate_left
  · exact absurd (show (13 : Int32) ≤ 13 by decide) hc
  refine lv_iconst (v := 0) hx hb dX3_init_65 (by decide) ?_
  refine lv_istore_n (lv' := [(1, .int 0), (0, .ref q0)]) hx hb dX3_init_66 rfl hl (by decide) rfl (fun ls hl => ?_)
  refine lv_iload_n hx hb dX3_init_67 rfl (lv_at hl 0 rfl) ?_
  refine lv_iconst (v := 2) hx hb dX3_init_68 (by decide) ?_
  refine lv_icmp_ge (tgt := 91) hx hb dX3_init_69 (by decide) (fun hc => ?_) (fun hc => ?_)
  · exact absurd hc (by decide)
  refine lv_aload_n hx hb dX3_init_72 rfl (lv_at hl 1 rfl) ?_
  refine r_get E frX3_15 hS 0 rfl rfl dX3_init_73 ?_
  refine lv_iload_n hx hb dX3_init_76 rfl (lv_at hl 0 rfl) ?_
  refine nw_I (ci := 0) (C := RX0) (T := TX0) (N := 8) (ty0 := tyX0) (fs := [.null, .null, .null, .null, .null, .int 0, .int 0, .int 0]) (w' := fun q ν => nwX0 cy q ν) E hG hAO hS rfl inX0 tyX0_ok clX3_9 inst_X0 ini_X0 dfX0 ilX3_29 rfl (fun q => n_X0_init q) dX3_init_77 dX3_init_80 dX3_init_81 (by rw [hRf]; exact Nat.le_of_ble_eq_true rfl) (by rw [hRl]; exact Nat.le_of_ble_eq_true rfl) (by rw [hRc]; exact Nat.le_of_ble_eq_true rfl) (by rw [hRs]; exact Nat.le_of_ble_eq_true rfl) hl.1 (Nat.le_of_ble_eq_true rfl) (fun b13 ν13 H locs hS => ?_)
  refine r_astF (i := 0) (ws' := (((((((((((((([oX3 q0 (.ref a0) (.ref a1) (.ref a2) (.int 0) (.int 0), aF cy a0 13 (va_up (va_up (va_up (va_up (va_up (va_up (va_up (va_up (va_up (va_up (va_up (va_up (va_up (fun _ => none) 0 (some b0)) 1 (some b1)) 2 (some b2)) 3 (some b3)) 4 (some b4)) 5 (some b5)) 6 (some b6)) 7 (some b7)) 8 (some b8)) 9 (some b9)) 10 (some b10)) 11 (some b11)) 12 (some b12)), aF cy a1 2 (va_up (fun _ => none) 0 (some b13)), aZ cy a2 2 (fun _ => 0)] ++ nwX0 cy b0 ν0) ++ nwX0 cy b1 ν1) ++ nwX0 cy b2 ν2) ++ nwX0 cy b3 ν3) ++ nwX0 cy b4 ν4) ++ nwX0 cy b5 ν5) ++ nwX0 cy b6 ν6) ++ nwX0 cy b7 ν7) ++ nwX0 cy b8 ν8) ++ nwX0 cy b9 ν9) ++ nwX0 cy b10 ν10) ++ nwX0 cy b11 ν11) ++ nwX0 cy b12 ν12) ++ nwX0 cy b13 ν13)) E hS 2 82 rfl rfl (by unfold vp_in; decide) rfl dX3_init_84 (fun H locs hS => ?_)
  refine lv_iinc (v := 1) (lv' := [(1, .int 1), (0, .ref q0)]) hx hb dX3_init_85 hl (k := 0) rfl (by decide) (by decide) rfl (fun ls hl => ?_)
  refine lv_goto (tgt := 67) hx hb dX3_init_88 (by decide) ?_
  refine lv_iload_n hx hb dX3_init_67 rfl (lv_at hl 0 rfl) ?_
  refine lv_iconst (v := 2) hx hb dX3_init_68 (by decide) ?_
  refine lv_icmp_ge (tgt := 91) hx hb dX3_init_69 (by decide) (fun hc => ?_) (fun hc => ?_)
  · exact absurd hc (by decide)
  refine lv_aload_n hx hb dX3_init_72 rfl (lv_at hl 1 rfl) ?_
  refine r_get E frX3_15 hS 0 rfl rfl dX3_init_73 ?_
  refine lv_iload_n hx hb dX3_init_76 rfl (lv_at hl 0 rfl) ?_
  refine nw_I (ci := 0) (C := RX0) (T := TX0) (N := 8) (ty0 := tyX0) (fs := [.null, .null, .null, .null, .null, .int 0, .int 0, .int 0]) (w' := fun q ν => nwX0 cy q ν) E hG hAO hS rfl inX0 tyX0_ok clX3_9 inst_X0 ini_X0 dfX0 ilX3_29 rfl (fun q => n_X0_init q) dX3_init_77 dX3_init_80 dX3_init_81 (by rw [hRf]; exact Nat.le_of_ble_eq_true rfl) (by rw [hRl]; exact Nat.le_of_ble_eq_true rfl) (by rw [hRc]; exact Nat.le_of_ble_eq_true rfl) (by rw [hRs]; exact Nat.le_of_ble_eq_true rfl) hl.1 (Nat.le_of_ble_eq_true rfl) (fun b14 ν14 H locs hS => ?_)
  refine r_astF (i := 1) (ws' := ((((((((((((((([oX3 q0 (.ref a0) (.ref a1) (.ref a2) (.int 0) (.int 0), aF cy a0 13 (va_up (va_up (va_up (va_up (va_up (va_up (va_up (va_up (va_up (va_up (va_up (va_up (va_up (fun _ => none) 0 (some b0)) 1 (some b1)) 2 (some b2)) 3 (some b3)) 4 (some b4)) 5 (some b5)) 6 (some b6)) 7 (some b7)) 8 (some b8)) 9 (some b9)) 10 (some b10)) 11 (some b11)) 12 (some b12)), aF cy a1 2 (va_up (va_up (fun _ => none) 0 (some b13)) 1 (some b14)), aZ cy a2 2 (fun _ => 0)] ++ nwX0 cy b0 ν0) ++ nwX0 cy b1 ν1) ++ nwX0 cy b2 ν2) ++ nwX0 cy b3 ν3) ++ nwX0 cy b4 ν4) ++ nwX0 cy b5 ν5) ++ nwX0 cy b6 ν6) ++ nwX0 cy b7 ν7) ++ nwX0 cy b8 ν8) ++ nwX0 cy b9 ν9) ++ nwX0 cy b10 ν10) ++ nwX0 cy b11 ν11) ++ nwX0 cy b12 ν12) ++ nwX0 cy b13 ν13) ++ nwX0 cy b14 ν14)) E hS 2 88 rfl rfl (by unfold vp_in; decide) rfl dX3_init_84 (fun H locs hS => ?_)
  refine lv_iinc (v := 2) (lv' := [(1, .int 2), (0, .ref q0)]) hx hb dX3_init_85 hl (k := 0) rfl (by decide) (by decide) rfl (fun ls hl => ?_)
  refine lv_goto (tgt := 67) hx hb dX3_init_88 (by decide) ?_
  refine lv_iload_n hx hb dX3_init_67 rfl (lv_at hl 0 rfl) ?_
  refine lv_iconst (v := 2) hx hb dX3_init_68 (by decide) ?_
  refine lv_icmp_ge (tgt := 91) hx hb dX3_init_69 (by decide) (fun hc => ?_) (fun hc => ?_)
  rotate_left
  · exact absurd (show (2 : Int32) ≤ 2 by decide) hc
  have e13 : (va_up (va_up (va_up (va_up (va_up (va_up (va_up (va_up (va_up (va_up (va_up (va_up (va_up (fun _ => none) 0 (some b0)) 1 (some b1)) 2 (some b2)) 3 (some b3)) 4 (some b4)) 5 (some b5)) 6 (some b6)) 7 (some b7)) 8 (some b8)) 9 (some b9)) 10 (some b10)) 11 (some b11)) 12 (some b12)) = SA (fun i => (fun i => ([a0, a1, a2, b0, (ν0 0), (ν0 1), (ν0 2), (ν0 3), (ν0 4), b1, (ν1 0), (ν1 1), (ν1 2), (ν1 3), (ν1 4), b2, (ν2 0), (ν2 1), (ν2 2), (ν2 3), (ν2 4), b3, (ν3 0), (ν3 1), (ν3 2), (ν3 3), (ν3 4), b4, (ν4 0), (ν4 1), (ν4 2), (ν4 3), (ν4 4), b5, (ν5 0), (ν5 1), (ν5 2), (ν5 3), (ν5 4), b6, (ν6 0), (ν6 1), (ν6 2), (ν6 3), (ν6 4), b7, (ν7 0), (ν7 1), (ν7 2), (ν7 3), (ν7 4), b8, (ν8 0), (ν8 1), (ν8 2), (ν8 3), (ν8 4), b9, (ν9 0), (ν9 1), (ν9 2), (ν9 3), (ν9 4), b10, (ν10 0), (ν10 1), (ν10 2), (ν10 3), (ν10 4), b11, (ν11 0), (ν11 1), (ν11 2), (ν11 3), (ν11 4), b12, (ν12 0), (ν12 1), (ν12 2), (ν12 3), (ν12 4), b13, (ν13 0), (ν13 1), (ν13 2), (ν13 3), (ν13 4), b14, (ν14 0), (ν14 1), (ν14 2), (ν14 3), (ν14 4)] : List Nat).getD i 0) (3 + i)) := up13 b0 b1 b2 b3 b4 b5 b6 b7 b8 b9 b10 b11 b12
  have e2 : (va_up (va_up (fun _ => none) 0 (some b13)) 1 (some b14)) = (fun k => ([b13, b14] : List Nat)[k]?) := up2 b13 b14
  rw [e13, e2] at hS
  exact rt_c E hQ (fun i => ([a0, a1, a2, b0, (ν0 0), (ν0 1), (ν0 2), (ν0 3), (ν0 4), b1, (ν1 0), (ν1 1), (ν1 2), (ν1 3), (ν1 4), b2, (ν2 0), (ν2 1), (ν2 2), (ν2 3), (ν2 4), b3, (ν3 0), (ν3 1), (ν3 2), (ν3 3), (ν3 4), b4, (ν4 0), (ν4 1), (ν4 2), (ν4 3), (ν4 4), b5, (ν5 0), (ν5 1), (ν5 2), (ν5 3), (ν5 4), b6, (ν6 0), (ν6 1), (ν6 2), (ν6 3), (ν6 4), b7, (ν7 0), (ν7 1), (ν7 2), (ν7 3), (ν7 4), b8, (ν8 0), (ν8 1), (ν8 2), (ν8 3), (ν8 4), b9, (ν9 0), (ν9 1), (ν9 2), (ν9 3), (ν9 4), b10, (ν10 0), (ν10 1), (ν10 2), (ν10 3), (ν10 4), b11, (ν11 0), (ν11 1), (ν11 2), (ν11 3), (ν11 4), b12, (ν12 0), (ν12 1), (ν12 2), (ν12 3), (ν12 4), b13, (ν13 0), (ν13 1), (ν13 2), (ν13 3), (ν13 4), b14, (ν14 0), (ν14 1), (ν14 2), (ν14 3), (ν14 4)] : List Nat).getD i 0) hS (Nat.le_of_ble_eq_true rfl) (Nat.le_of_ble_eq_true rfl) dX3_init_91
