set_option maxHeartbeats 4000000 in
set_option maxRecDepth 100000 in
theorem x_X10_row {l : Launch} (hfl : l.stackTraces = false) {D : va_G} {cy : Nat → ClassId} (q0 q1 : Nat) (u0_0 : Value) (u0_2 : Value) (u0_3 : Value) (u0_4 : Value) (u0_5 : Value) (u0_6 : Value) (u0_7 : Value) (u0_8 : Value) (u0_9 : Value) (u0_10 : Value) (u0_11 : Value) (u0_12 : Value) (u1_0 : Value) (v_told_size p1 : Int32) (h : p1 < 0 ∨ ¬ p1 < v_told_size) : Cx l yX10_row cX10_row 2 (some .long) 6 90 D cy [.ref q0, .int p1] [oX10 q0 u0_0 (.ref q1) u0_2 u0_3 u0_4 u0_5 u0_6 u0_7 u0_8 u0_9 u0_10 u0_11 u0_12, oX2 q1 u1_0 (.int v_told_size)] := by
  refine Cx.mk kX10_row (by decide +kernel) (Nat.le_of_ble_eq_true rfl) ?_
  intro p e s m below meth c A ls args R Q hRf hRl hRc hRs hQ hT hx0 E H locs hS hl
  have hx := E.x
  have hb := E.b
  have hl : lv_has ls 2 [(0, .ref q0), (1, .int p1)] := hl
  refine lv_iload_n hx hb dX10_row_0 rfl (lv_at hl 1 rfl) ?_
  refine lv_if_lt (tgt := 15) hx hb dX10_row_1 (by decide) (fun c1 => ?_) (fun c1 => ?_)
  · exact th_0 E hfl hQ hT hx0 hS hl.1 dX10_row_15 dX10_row_18 dX10_row_19 dX10_row_22 (by rw [hRf]; exact Nat.le_of_ble_eq_true rfl) (by rw [hRl]; exact Nat.le_of_ble_eq_true rfl) (by rw [hRc]; exact Nat.le_of_ble_eq_true rfl) (by rw [hRs]; exact Nat.le_of_ble_eq_true rfl)
  · refine lv_iload_n hx hb dX10_row_4 rfl (lv_at hl 1 rfl) ?_
    refine lv_aload_n hx hb dX10_row_5 rfl (lv_at hl 0 rfl) ?_
    refine r_get E frX10_19 hS 0 rfl rfl dX10_row_6 ?_
    refine r_get E frX10_383 hS 1 rfl rfl dX10_row_9 ?_
    refine lv_icmp_lt (tgt := 23) hx hb dX10_row_12 (by decide) (fun c2 => ?_) (fun c2 => ?_)
    · rcases h with h | h
      · exact absurd h c1
      · exact absurd c2 h
    · exact th_0 E hfl hQ hT hx0 hS hl.1 dX10_row_15 dX10_row_18 dX10_row_19 dX10_row_22 (by rw [hRf]; exact Nat.le_of_ble_eq_true rfl) (by rw [hRl]; exact Nat.le_of_ble_eq_true rfl) (by rw [hRc]; exact Nat.le_of_ble_eq_true rfl) (by rw [hRs]; exact Nat.le_of_ble_eq_true rfl)
set_option maxHeartbeats 4000000 in
set_option maxRecDepth 100000 in
theorem x_X10_one {l : Launch} (hfl : l.stackTraces = false) {D : va_G} {cy : Nat → ClassId} (q0 q1 : Nat) (u0_0 : Value) (u0_1 : Value) (u0_3 : Value) (u0_4 : Value) (u0_5 : Value) (u0_6 : Value) (u0_7 : Value) (u0_8 : Value) (u0_9 : Value) (u0_10 : Value) (u0_11 : Value) (u0_12 : Value) (u1_0 : Value) (u1_1 : Value) (u1_2 : Value) (u1_3 : Value) (u1_4 : Value) (u1_6 : Value) (u1_7 : Value) (v_folk_number p1 p2 : Int32) (h : X0_has v_folk_number p1 = 0 ∨ p2 < 0 ∨ ¬ p2 ≤ 6) : Cx l yX10_one cX10_one 3 (some .int) 6 90 D cy [.ref q0, .int p1, .int p2] [oX10 q0 u0_0 u0_1 (.ref q1) u0_3 u0_4 u0_5 u0_6 u0_7 u0_8 u0_9 u0_10 u0_11 u0_12, oX0 q1 u1_0 u1_1 u1_2 u1_3 u1_4 (.int v_folk_number) u1_6 u1_7] := by
  refine Cx.mk kX10_one (by decide +kernel) (Nat.le_of_ble_eq_true rfl) ?_
  intro p e s m below meth c A ls args R Q hRf hRl hRc hRs hQ hT hx0 E H locs hS hl
  have hx := E.x
  have hb := E.b
  have hl : lv_has ls 3 [(0, .ref q0), (1, .int p1), (2, .int p2)] := hl
  refine lv_aload_n hx hb dX10_one_0 rfl (lv_at hl 0 rfl) ?_
  refine r_get E frX10_26 hS 0 rfl rfl dX10_one_1 ?_
  refine lv_iload_n hx hb dX10_one_4 rfl (lv_at hl 1 rfl) ?_
  refine ct_V (ws' := fun _ => [oX10 q0 u0_0 u0_1 (.ref q1) u0_3 u0_4 u0_5 u0_6 u0_7 u0_8 u0_9 u0_10 u0_11 u0_12, oX0 q1 u1_0 u1_1 u1_2 u1_3 u1_4 (.int v_folk_number) u1_6 u1_7]) (st' := [.int (X0_has v_folk_number p1)]) (rest := []) E hS vlX10_148 (c_X0_has (l := l) (D := D) (cy := cy) (q0 := q1) (u0_0 := u1_0) (u0_1 := u1_1) (u0_2 := u1_2) (u0_3 := u1_3) (u0_4 := u1_4) (u0_6 := u1_6) (u0_7 := u1_7) (v_number := v_folk_number) (p1 := p1) (r := (X0_has v_folk_number p1)) rfl) [1] rfl rfl (fun _ => rfl) (fun _ => rfl) rfl rfl rfl rfl (Nat.le_of_ble_eq_true rfl) hl.1 (by rw [hRf]; exact Nat.le_of_ble_eq_true rfl) (by rw [hRl]; exact Nat.le_of_ble_eq_true rfl) ⟨Nat.zero_le _, Nat.zero_le _⟩ dX10_one_5 rfl (fun H locs _ hS => ?_)
  refine lv_if_eq (tgt := 21) hx hb dX10_one_8 (by decide) (fun c1 => ?_) (fun c1 => ?_)
  · exact th_0 E hfl hQ hT hx0 hS hl.1 dX10_one_21 dX10_one_24 dX10_one_25 dX10_one_28 (by rw [hRf]; exact Nat.le_of_ble_eq_true rfl) (by rw [hRl]; exact Nat.le_of_ble_eq_true rfl) (by rw [hRc]; exact Nat.le_of_ble_eq_true rfl) (by rw [hRs]; exact Nat.le_of_ble_eq_true rfl)
  · refine lv_iload_n hx hb dX10_one_11 rfl (lv_at hl 2 rfl) ?_
    refine lv_if_lt (tgt := 21) hx hb dX10_one_12 (by decide) (fun c2 => ?_) (fun c2 => ?_)
    · exact th_0 E hfl hQ hT hx0 hS hl.1 dX10_one_21 dX10_one_24 dX10_one_25 dX10_one_28 (by rw [hRf]; exact Nat.le_of_ble_eq_true rfl) (by rw [hRl]; exact Nat.le_of_ble_eq_true rfl) (by rw [hRc]; exact Nat.le_of_ble_eq_true rfl) (by rw [hRs]; exact Nat.le_of_ble_eq_true rfl)
    · refine lv_iload_n hx hb dX10_one_15 rfl (lv_at hl 2 rfl) ?_
      refine lv_bipush (v := 6) hx hb dX10_one_16 (by decide) ?_
      refine lv_icmp_le (tgt := 29) hx hb dX10_one_18 (by decide) (fun c3 => ?_) (fun c3 => ?_)
      · rcases h with h | h | h
        · exact absurd h c1
        · exact absurd h c2
        · exact absurd c3 h
      · exact th_0 E hfl hQ hT hx0 hS hl.1 dX10_one_21 dX10_one_24 dX10_one_25 dX10_one_28 (by rw [hRf]; exact Nat.le_of_ble_eq_true rfl) (by rw [hRl]; exact Nat.le_of_ble_eq_true rfl) (by rw [hRc]; exact Nat.le_of_ble_eq_true rfl) (by rw [hRs]; exact Nat.le_of_ble_eq_true rfl)
theorem mlL_7 : Cond.methodLink RL 7 yX10_one ∈ lw_g := mgT 1002 (by decide +kernel) rfl
theorem mlL_15 : Cond.methodLink RL 15 yX10_row ∈ lw_g := mgT 1070 (by decide +kernel) rfl
theorem mlL_46 : Cond.methodLink RL 46 yL_one ∈ lw_g := mgT 998 (by decide +kernel) rfl
theorem mlL_225 : Cond.methodLink RL 225 yL_row ∈ lw_g := mgT 1067 (by decide +kernel) rfl
theorem stL_one : Cond.static yL_one ∈ lw_g := mgT 999 (by decide +kernel) rfl
theorem stL_row : Cond.static yL_row ∈ lw_g := mgT 1068 (by decide +kernel) rfl
set_option maxHeartbeats 4000000 in
set_option maxRecDepth 100000 in
theorem cL_row_x {l : Launch} (hfl : l.stackTraces = false) {D : va_G} {cy : Nat → ClassId} (q0 q1 qo : Nat) (u0_0 : Value) (u0_2 : Value) (u0_3 : Value) (u0_4 : Value) (u0_5 : Value) (u0_6 : Value) (u0_7 : Value) (u0_8 : Value) (u0_9 : Value) (u0_10 : Value) (u0_11 : Value) (u0_12 : Value) (u1_0 : Value) (v_told_size p1 : Int32) (h : p1 < 0 ∨ ¬ p1 < v_told_size) : Cw l yL_row cL_row 4 [(0, 8, 11, 13)] 7 120 1 6 D cy [.ref q0, .int p1, .ref qo] [oX10 q0 u0_0 (.ref q1) u0_2 u0_3 u0_4 u0_5 u0_6 u0_7 u0_8 u0_9 u0_10 u0_11 u0_12, oX2 q1 u1_0 (.int v_told_size)] (fun _ => [oX10 q0 u0_0 (.ref q1) u0_2 u0_3 u0_4 u0_5 u0_6 u0_7 u0_8 u0_9 u0_10 u0_11 u0_12, oX2 q1 u1_0 (.int v_told_size)]) (some (.int 1)) := by
  refine Cw.mk kL_row (by decide +kernel) (Nat.le_of_ble_eq_true rfl) ?_
  intro p e s m below meth c A ls args R Q hRf hRl hRc hRs hQ hT hx0 E H locs hS hl
  have hx := E.x
  have hb := E.b
  have hl : lv_has ls 4 [(0, .ref q0), (1, .int p1), (2, .ref qo)] := hl
  refine lv_aload_n hx hb dL_row_0 rfl (lv_at hl 2 rfl) ?_
  refine lv_iconst (v := 0) hx hb dL_row_1 (by decide) ?_
  refine lv_aload_n hx hb dL_row_2 rfl (lv_at hl 0 rfl) ?_
  refine lv_iload_n hx hb dL_row_3 rfl (lv_at hl 1 rfl) ?_
  refine xt_V (rest := [.int 0, .ref qo]) E hT hS vlL_15 mlL_15 (x_X10_row hfl q0 q1 u0_0 u0_2 u0_3 u0_4 u0_5 u0_6 u0_7 u0_8 u0_9 u0_10 u0_11 u0_12 u1_0 v_told_size p1 h) [0, 1] rfl rfl rfl rfl rfl rfl rfl (Nat.le_of_ble_eq_true rfl) hl.1 (by rw [hRf]; exact Nat.le_of_ble_eq_true rfl) (by rw [hRl]; exact Nat.le_of_ble_eq_true rfl) ⟨(by rw [hRc]; exact Nat.le_of_ble_eq_true rfl), (by rw [hRs]; exact Nat.le_of_ble_eq_true rfl)⟩ dL_row_4 (fun ce q9 H locs hS h1 h2 h3 => ?_)
  refine vx_catch (own := RL) (name := NSE) (E := NSE) E.ow [] ⟨0, 8, 11, 13⟩ [] hx0 (fun z hz => by cases hz) (by decide) (by decide) (E.ts _ xlcl) (hT.bf _ _ xcs) h1 h2 h3 ?_
  refine lv_astore_n (lv' := [(3, .ref q9), (0, .ref q0), (1, .int p1), (2, .ref qo)]) hx hb dL_row_11 rfl hl (by decide) rfl (fun ls hl => ?_)
  refine lv_iconst (v := 1) hx hb dL_row_12 (by decide) ?_
  exact rt_iw E hQ (.null) hS (Nat.le_of_ble_eq_true rfl) (Nat.le_of_ble_eq_true rfl) dL_row_13
set_option maxHeartbeats 4000000 in
set_option maxRecDepth 100000 in
theorem cL_one_x {l : Launch} (hfl : l.stackTraces = false) {D : va_G} {cy : Nat → ClassId} (q0 q1 qo : Nat) (u0_0 : Value) (u0_1 : Value) (u0_3 : Value) (u0_4 : Value) (u0_5 : Value) (u0_6 : Value) (u0_7 : Value) (u0_8 : Value) (u0_9 : Value) (u0_10 : Value) (u0_11 : Value) (u0_12 : Value) (u1_0 : Value) (u1_1 : Value) (u1_2 : Value) (u1_3 : Value) (u1_4 : Value) (u1_6 : Value) (u1_7 : Value) (v_folk_number p1 p2 : Int32) (h : X0_has v_folk_number p1 = 0 ∨ p2 < 0 ∨ ¬ p2 ≤ 6) : Cw l yL_one cL_one 5 [(0, 10, 13, 13)] 7 120 1 6 D cy [.ref q0, .int p1, .int p2, .ref qo] [oX10 q0 u0_0 u0_1 (.ref q1) u0_3 u0_4 u0_5 u0_6 u0_7 u0_8 u0_9 u0_10 u0_11 u0_12, oX0 q1 u1_0 u1_1 u1_2 u1_3 u1_4 (.int v_folk_number) u1_6 u1_7] (fun _ => [oX10 q0 u0_0 u0_1 (.ref q1) u0_3 u0_4 u0_5 u0_6 u0_7 u0_8 u0_9 u0_10 u0_11 u0_12, oX0 q1 u1_0 u1_1 u1_2 u1_3 u1_4 (.int v_folk_number) u1_6 u1_7]) (some (.int 1)) := by
  refine Cw.mk kL_one (by decide +kernel) (Nat.le_of_ble_eq_true rfl) ?_
  intro p e s m below meth c A ls args R Q hRf hRl hRc hRs hQ hT hx0 E H locs hS hl
  have hx := E.x
  have hb := E.b
  have hl : lv_has ls 5 [(0, .ref q0), (1, .int p1), (2, .int p2), (3, .ref qo)] := hl
  refine lv_aload_n hx hb dL_one_0 rfl (lv_at hl 3 rfl) ?_
  refine lv_iconst (v := 0) hx hb dL_one_1 (by decide) ?_
  refine lv_aload_n hx hb dL_one_2 rfl (lv_at hl 0 rfl) ?_
  refine lv_iload_n hx hb dL_one_3 rfl (lv_at hl 1 rfl) ?_
  refine lv_iload_n hx hb dL_one_4 rfl (lv_at hl 2 rfl) ?_
  refine xt_V (rest := [.int 0, .ref qo]) E hT hS vlL_7 mlL_7 (x_X10_one hfl q0 q1 u0_0 u0_1 u0_3 u0_4 u0_5 u0_6 u0_7 u0_8 u0_9 u0_10 u0_11 u0_12 u1_0 u1_1 u1_2 u1_3 u1_4 u1_6 u1_7 v_folk_number p1 p2 h) [0, 1] rfl rfl rfl rfl rfl rfl rfl (Nat.le_of_ble_eq_true rfl) hl.1 (by rw [hRf]; exact Nat.le_of_ble_eq_true rfl) (by rw [hRl]; exact Nat.le_of_ble_eq_true rfl) ⟨(by rw [hRc]; exact Nat.le_of_ble_eq_true rfl), (by rw [hRs]; exact Nat.le_of_ble_eq_true rfl)⟩ dL_one_5 (fun ce q9 H locs hS h1 h2 h3 => ?_)
  refine vx_catch (own := RL) (name := NSE) (E := NSE) E.ow [] ⟨0, 10, 13, 13⟩ [] hx0 (fun z hz => by cases hz) (by decide) (by decide) (E.ts _ xlcl) (hT.bf _ _ xcs) h1 h2 h3 ?_
  refine lv_astore (lv' := [(4, .ref q9), (0, .ref q0), (1, .int p1), (2, .int p2), (3, .ref qo)]) hx hb dL_one_13 hl (by decide) rfl (fun ls hl => ?_)
  refine lv_iconst (v := 1) hx hb dL_one_15 (by decide) ?_
  exact rt_iw E hQ (.null) hS (Nat.le_of_ble_eq_true rfl) (Nat.le_of_ble_eq_true rfl) dL_one_16
