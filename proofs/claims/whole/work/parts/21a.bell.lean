set_option maxHeartbeats 4000000 in
set_option maxRecDepth 100000 in
theorem c_X10_sign {l : Launch} {D : va_G} {cy : Nat → ClassId} (q0 : Nat) (q1 : Nat) (q2 : Nat) (u0_1 : Value) (u0_2 : Value) (u0_3 : Value) (u0_4 : Value) (u0_5 : Value) (u0_6 : Value) (u0_7 : Value) (u0_8 : Value) (u0_9 : Value) (u0_10 : Value) (u0_11 : Value) (u0_12 : Value) (v_text_size : Int32) (v_text_signs : Nat → Int32) (p1 : Int32) (r : Int32 × Int32 × (Nat → Int32)) (h : X10_sign v_text_size v_text_signs p1 = some r) : Ct l yX10_sign cX10_sign 2 (some .int) 1 22 D cy [.ref q0, .int p1] [oX10 q0 (.ref q1) u0_1 u0_2 u0_3 u0_4 u0_5 u0_6 u0_7 u0_8 u0_9 u0_10 u0_11 u0_12, oX9 q1 (.ref q2) (.int v_text_size), aC cy q2 80 v_text_signs] (fun _ => [oX10 q0 (.ref q1) u0_1 u0_2 u0_3 u0_4 u0_5 u0_6 u0_7 u0_8 u0_9 u0_10 u0_11 u0_12, oX9 q1 (.ref q2) (.int r.2.1), aC cy q2 80 r.2.2]) (some (.int r.1)) := by
  refine Ct.mk kX10_sign (by decide +kernel) (Nat.le_of_ble_eq_true rfl) ?_
  intro p e s m below meth c A ls args R Q hRf hRl hQ E H locs hS hl
  have hx := E.x
  have hb := E.b
  have hl : lv_has ls 2 [(0, .ref q0), (1, .int p1)] := hl
  unfold X10_sign at h
  refine lv_aload_n hx hb dX10_sign_0 rfl (lv_at hl 0 rfl) ?_
  refine r_get E frX10_12 hS 0 rfl rfl dX10_sign_1 ?_
  refine lv_iload_n hx hb dX10_sign_4 rfl (lv_at hl 1 rfl) ?_
  obtain ⟨y5, e1, h⟩ := bd_some h
  refine ct_V (ws' := fun _ => [oX10 q0 (.ref q1) u0_1 u0_2 u0_3 u0_4 u0_5 u0_6 u0_7 u0_8 u0_9 u0_10 u0_11 u0_12, oX9 q1 (.ref q2) (.int y5.2.1), aC cy q2 80 y5.2.2]) (st' := [.int y5.1]) (rest := []) E hS vlX10_97 (c_X9_takes (l := l) (D := D) (cy := cy) (q0 := q1) (q1 := q2) (v_size := v_text_size) (v_signs := v_text_signs) (p1 := p1) (r := y5) e1) [1, 2] rfl rfl (fun _ => rfl) (fun _ => rfl) rfl rfl rfl rfl (Nat.le_of_ble_eq_true rfl) hl.1 (by rw [hRf]; exact Nat.le_of_ble_eq_true rfl) (by rw [hRl]; exact Nat.le_of_ble_eq_true rfl) ⟨Nat.zero_le _, Nat.zero_le _⟩ dX10_sign_5 rfl (fun H locs _ hS => ?_)
  have hJ22 : ∀ (s22_0 : Int32) (ls : Array Slot), s22_0 = (if y5.1 = 0 then (-1 : Int32) else y5.2.1) → lv_has ls 2 [] → W p l e R s m args below meth c H locs 0 0 Q (F0 m 22 ls [.int s22_0]) := by
    intro s22_0 ls es22_0 hl
    subst es22_0
    obtain rfl := Option.some.inj h
    exact rt_i E hQ (.null) hS dX10_sign_22
  refine lv_if_eq (tgt := 21) hx hb dX10_sign_8 (by decide) (fun c2 => ?_) (fun c2 => ?_)
  · refine lv_iconst (v := -1) hx hb dX10_sign_21 (by decide) ?_
    exact hJ22 _ ls ((if_pos c2)).symm (lv_sub hl [] rfl)
  · refine lv_aload_n hx hb dX10_sign_11 rfl (lv_at hl 0 rfl) ?_
    refine r_get E frX10_12 hS 0 rfl rfl dX10_sign_12 ?_
    refine r_get E frX10_101 hS 1 rfl rfl dX10_sign_15 ?_
    refine lv_goto (tgt := 22) hx hb dX10_sign_18 (by decide) ?_
    exact hJ22 _ ls ((if_neg c2)).symm (lv_sub hl [] rfl)
set_option maxHeartbeats 4000000 in
set_option maxRecDepth 100000 in
theorem c_X10_end {l : Launch} {D : va_G} {cy : Nat → ClassId} (q0 : Nat) (q1 : Nat) (u0_1 : Value) (u0_2 : Value) (u0_3 : Value) (u0_4 : Value) (u0_5 : Value) (u0_6 : Value) (u0_7 : Value) (u0_8 : Value) (u0_9 : Value) (u0_10 : Value) (u0_11 : Value) (u0_12 : Value) (u1_0 : Value) (v_text_size : Int32) (p1 : Int32) (r : Int32 × Int32) (h : X10_end v_text_size p1 = some r) : Ct l yX10_end cX10_end 2 (some .boolean) 1 21 D cy [.ref q0, .int p1] [oX10 q0 (.ref q1) u0_1 u0_2 u0_3 u0_4 u0_5 u0_6 u0_7 u0_8 u0_9 u0_10 u0_11 u0_12, oX9 q1 u1_0 (.int v_text_size)] (fun _ => [oX10 q0 (.ref q1) u0_1 u0_2 u0_3 u0_4 u0_5 u0_6 u0_7 u0_8 u0_9 u0_10 u0_11 u0_12, oX9 q1 u1_0 (.int r.2)]) (some (.int r.1)) := by
  refine Ct.mk kX10_end (by decide +kernel) (Nat.le_of_ble_eq_true rfl) ?_
  intro p e s m below meth c A ls args R Q hRf hRl hQ E H locs hS hl
  have hx := E.x
  have hb := E.b
  have hl : lv_has ls 2 [(0, .ref q0), (1, .int p1)] := hl
  unfold X10_end at h
  refine lv_aload_n hx hb dX10_end_0 rfl (lv_at hl 0 rfl) ?_
  refine r_get E frX10_12 hS 0 rfl rfl dX10_end_1 ?_
  refine lv_iload_n hx hb dX10_end_4 rfl (lv_at hl 1 rfl) ?_
  refine ct_V (ws' := fun _ => [oX10 q0 (.ref q1) u0_1 u0_2 u0_3 u0_4 u0_5 u0_6 u0_7 u0_8 u0_9 u0_10 u0_11 u0_12, oX9 q1 u1_0 (.int ((X9_cutsTo v_text_size p1).2))]) (st' := [.int (X9_cutsTo v_text_size p1).1]) (rest := []) E hS vlX10_104 (c_X9_cutsTo (l := l) (D := D) (cy := cy) (q0 := q1) (u0_0 := u1_0) (v_size := v_text_size) (p1 := p1) (r := (X9_cutsTo v_text_size p1)) rfl) [1] rfl rfl (fun _ => rfl) (fun _ => rfl) rfl rfl rfl rfl (Nat.le_of_ble_eq_true rfl) hl.1 (by rw [hRf]; exact Nat.le_of_ble_eq_true rfl) (by rw [hRl]; exact Nat.le_of_ble_eq_true rfl) ⟨Nat.zero_le _, Nat.zero_le _⟩ dX10_end_5 rfl (fun H locs _ hS => ?_)
  obtain ⟨g1, h⟩ := gn_some h
  obtain rfl := Option.some.inj h
  exact rt_n E (gn_nar g1) hQ (.null) hS dX10_end_8
set_option maxHeartbeats 4000000 in
set_option maxRecDepth 100000 in
theorem c_X10_sheet {l : Launch} {D : va_G} {cy : Nat → ClassId} (q0 : Nat) (q1 : Nat) (q2 : Nat) (u0_0 : Value) (u0_1 : Value) (u0_3 : Value) (u0_4 : Value) (u0_5 : Value) (u0_6 : Value) (u0_7 : Value) (u0_8 : Value) (u0_9 : Value) (u0_10 : Value) (u0_11 : Value) (u0_12 : Value) (u1_1 : Value) (u1_2 : Value) (u1_3 : Value) (u1_4 : Value) (u1_6 : Value) (u1_7 : Value) (v_folk_number : Int32) (v_folk_skill : Nat → Int32) (p1 : Int32) (p2 : Int32) (p3 : Int32) (p4 : Int32) (r : Int32 × (Nat → Int32)) (h : X10_sheet v_folk_number v_folk_skill p1 p2 p3 p4 = some r) : Ct l yX10_sheet cX10_sheet 5 (some .int) 2 48 D cy [.ref q0, .int p1, .int p2, .int p3, .int p4] [oX10 q0 u0_0 u0_1 (.ref q1) u0_3 u0_4 u0_5 u0_6 u0_7 u0_8 u0_9 u0_10 u0_11 u0_12, oX0 q1 (.ref q2) u1_1 u1_2 u1_3 u1_4 (.int v_folk_number) u1_6 u1_7, aI cy q2 7 v_folk_skill] (fun _ => [oX10 q0 u0_0 u0_1 (.ref q1) u0_3 u0_4 u0_5 u0_6 u0_7 u0_8 u0_9 u0_10 u0_11 u0_12, oX0 q1 (.ref q2) u1_1 u1_2 u1_3 u1_4 (.int v_folk_number) u1_6 u1_7, aI cy q2 7 r.2]) (some (.int r.1)) := by
  refine Ct.mk kX10_sheet (by decide +kernel) (Nat.le_of_ble_eq_true rfl) ?_
  intro p e s m below meth c A ls args R Q hRf hRl hQ E H locs hS hl
  have hx := E.x
  have hb := E.b
  have hl : lv_has ls 5 [(0, .ref q0), (1, .int p1), (2, .int p2), (3, .int p3), (4, .int p4)] := hl
  unfold X10_sheet at h
  refine lv_iload_n hx hb dX10_sheet_0 rfl (lv_at hl 1 rfl) ?_
  refine lv_if_lt (tgt := 15) hx hb dX10_sheet_1 (by decide) (fun c1 => ?_) (fun c1 => ?_)
  · have h := it_pos c1 h
    refine lv_iconst (v := -1) hx hb dX10_sheet_15 (by decide) ?_
    obtain rfl := Option.some.inj h
    exact rt_i E hQ (.null) hS dX10_sheet_16
  · have h := it_neg c1 h
    refine lv_iload_n hx hb dX10_sheet_4 rfl (lv_at hl 1 rfl) ?_
    refine lv_iconst (v := 3) hx hb dX10_sheet_5 (by decide) ?_
    refine lv_icmp_gt (tgt := 15) hx hb dX10_sheet_6 (by decide) (fun c2 => ?_) (fun c2 => ?_)
    · have h := it_pos c2 h
      refine lv_iconst (v := -1) hx hb dX10_sheet_15 (by decide) ?_
      obtain rfl := Option.some.inj h
      exact rt_i E hQ (.null) hS dX10_sheet_16
    · have h := it_neg c2 h
      refine lv_iload_n hx hb dX10_sheet_9 rfl (lv_at hl 2 rfl) ?_
      refine lv_bipush (v := 7) hx hb dX10_sheet_10 (by decide) ?_
      refine lv_icmp_le (tgt := 17) hx hb dX10_sheet_12 (by decide) (fun c3 => ?_) (fun c3 => ?_)
      · have h := it_pos c3 h
        refine lv_iload_n hx hb dX10_sheet_17 rfl (lv_at hl 1 rfl) ?_
        refine lv_iconst (v := 3) hx hb dX10_sheet_18 (by decide) ?_
        refine lv_icmp_ne (tgt := 36) hx hb dX10_sheet_19 (by decide) (fun c4 => ?_) (fun c4 => ?_)
        · have h := it_neg c4 h
          refine lv_iload_n hx hb dX10_sheet_36 rfl (lv_at hl 2 rfl) ?_
          refine lv_if_ge (tgt := 43) hx hb dX10_sheet_37 (by decide) (fun c5 => ?_) (fun c5 => ?_)
          · have h := it_pos c5 h
            refine lv_aload_n hx hb dX10_sheet_43 rfl (lv_at hl 0 rfl) ?_
            refine r_get E frX10_26 hS 0 rfl rfl dX10_sheet_44 ?_
            refine lv_iload_n hx hb dX10_sheet_47 rfl (lv_at hl 1 rfl) ?_
            refine lv_iload_n hx hb dX10_sheet_48 rfl (lv_at hl 2 rfl) ?_
            refine lv_iload_n hx hb dX10_sheet_49 rfl (lv_at hl 3 rfl) ?_
            refine lv_iload hx hb dX10_sheet_50 (lv_at hl 4 rfl) ?_
            obtain ⟨y52, e6, h⟩ := bd_some h
            refine ct_V (ws' := fun _ => [oX10 q0 u0_0 u0_1 (.ref q1) u0_3 u0_4 u0_5 u0_6 u0_7 u0_8 u0_9 u0_10 u0_11 u0_12, oX0 q1 (.ref q2) u1_1 u1_2 u1_3 u1_4 (.int v_folk_number) u1_6 u1_7, aI cy q2 7 y52]) (st' := []) (rest := []) E hS vlX10_177 (c_X0_skillsFrom (l := l) (D := D) (cy := cy) (q0 := q1) (q1 := q2) (u0_1 := u1_1) (u0_2 := u1_2) (u0_3 := u1_3) (u0_4 := u1_4) (u0_6 := u1_6) (u0_7 := u1_7) (v_number := v_folk_number) (v_skill := v_folk_skill) (p1 := p1) (p2 := p2) (p3 := p3) (p4 := p4) (r := y52) e6) [1, 2] rfl rfl (fun _ => rfl) (fun _ => rfl) rfl rfl rfl rfl (Nat.le_of_ble_eq_true rfl) hl.1 (by rw [hRf]; exact Nat.le_of_ble_eq_true rfl) (by rw [hRl]; exact Nat.le_of_ble_eq_true rfl) ⟨Nat.zero_le _, Nat.zero_le _⟩ dX10_sheet_52 rfl (fun H locs _ hS => ?_)
            refine lv_aload_n hx hb dX10_sheet_55 rfl (lv_at hl 0 rfl) ?_
            refine r_get E frX10_26 hS 0 rfl rfl dX10_sheet_56 ?_
            refine lv_aload_n hx hb dX10_sheet_59 rfl (lv_at hl 0 rfl) ?_
            refine r_get E frX10_26 hS 0 rfl rfl dX10_sheet_60 ?_
            refine r_get E frX10_154 hS 1 rfl rfl dX10_sheet_63 ?_
            obtain ⟨y66, e7, h⟩ := bd_some h
            refine ct_V (ws' := fun _ => [oX10 q0 u0_0 u0_1 (.ref q1) u0_3 u0_4 u0_5 u0_6 u0_7 u0_8 u0_9 u0_10 u0_11 u0_12, oX0 q1 (.ref q2) u1_1 u1_2 u1_3 u1_4 (.int v_folk_number) u1_6 u1_7, aI cy q2 7 y52]) (st' := [.int y66]) (rest := []) E hS vlX10_181 (c_X0_sum (l := l) (D := D) (cy := cy) (q0 := q1) (q1 := q2) (u0_0 := .ref q2) (u0_1 := u1_1) (u0_2 := u1_2) (u0_3 := u1_3) (u0_4 := u1_4) (u0_6 := u1_6) (u0_7 := u1_7) (v_number := v_folk_number) (nw1_ := 7) (w1_ := y52) (r := y66) e7) [1, 2] rfl rfl (fun _ => rfl) (fun _ => rfl) rfl rfl rfl rfl (Nat.le_of_ble_eq_true rfl) hl.1 (by rw [hRf]; exact Nat.le_of_ble_eq_true rfl) (by rw [hRl]; exact Nat.le_of_ble_eq_true rfl) ⟨Nat.zero_le _, Nat.zero_le _⟩ dX10_sheet_66 rfl (fun H locs _ hS => ?_)
            obtain rfl := Option.some.inj h
            exact rt_i E hQ (.null) hS dX10_sheet_69
          · have h := it_neg c5 h
            refine lv_bipush (v := -2) hx hb dX10_sheet_40 (by decide) ?_
            obtain rfl := Option.some.inj h
            exact rt_i E hQ (.null) hS dX10_sheet_42
        · have h := it_pos c4 h
          refine lv_aload_n hx hb dX10_sheet_22 rfl (lv_at hl 0 rfl) ?_
          refine r_get E frX10_26 hS 0 rfl rfl dX10_sheet_23 ?_
          refine lv_iconst (v := 3) hx hb dX10_sheet_26 (by decide) ?_
          refine lv_iconst (v := 0) hx hb dX10_sheet_27 (by decide) ?_
          refine lv_iconst (v := 0) hx hb dX10_sheet_28 (by decide) ?_
          refine lv_iconst (v := 0) hx hb dX10_sheet_29 (by decide) ?_
          obtain ⟨y30, e8, h⟩ := bd_some h
          refine ct_V (ws' := fun _ => [oX10 q0 u0_0 u0_1 (.ref q1) u0_3 u0_4 u0_5 u0_6 u0_7 u0_8 u0_9 u0_10 u0_11 u0_12, oX0 q1 (.ref q2) u1_1 u1_2 u1_3 u1_4 (.int v_folk_number) u1_6 u1_7, aI cy q2 7 y30]) (st' := []) (rest := []) E hS vlX10_177 (c_X0_skillsFrom (l := l) (D := D) (cy := cy) (q0 := q1) (q1 := q2) (u0_1 := u1_1) (u0_2 := u1_2) (u0_3 := u1_3) (u0_4 := u1_4) (u0_6 := u1_6) (u0_7 := u1_7) (v_number := v_folk_number) (v_skill := v_folk_skill) (p1 := (3 : Int32)) (p2 := (0 : Int32)) (p3 := (0 : Int32)) (p4 := (0 : Int32)) (r := y30) e8) [1, 2] rfl rfl (fun _ => rfl) (fun _ => rfl) rfl rfl rfl rfl (Nat.le_of_ble_eq_true rfl) hl.1 (by rw [hRf]; exact Nat.le_of_ble_eq_true rfl) (by rw [hRl]; exact Nat.le_of_ble_eq_true rfl) ⟨Nat.zero_le _, Nat.zero_le _⟩ dX10_sheet_30 rfl (fun H locs _ hS => ?_)
          refine lv_bipush (v := -3) hx hb dX10_sheet_33 (by decide) ?_
          obtain rfl := Option.some.inj h
          exact rt_i E hQ (.null) hS dX10_sheet_35
      · have h := it_neg c3 h
        refine lv_iconst (v := -1) hx hb dX10_sheet_15 (by decide) ?_
        obtain rfl := Option.some.inj h
        exact rt_i E hQ (.null) hS dX10_sheet_16
set_option maxHeartbeats 4000000 in
set_option maxRecDepth 100000 in
theorem c_X10_goBy {l : Launch} {D : va_G} {cy : Nat → ClassId} (q0 : Nat) (q1 : Nat) (q2 : Nat) (q3 : Nat) (q4 : Nat) (q5 : Nat) (q6 : Nat) (q7 : Nat) (q8 : Nat) (q9 : Nat) (q10 : Nat) (u0_0 : Value) (u0_1 : Value) (u0_2 : Value) (u0_3 : Value) (u0_4 : Value) (u0_5 : Value) (u0_7 : Value) (u0_8 : Value) (u0_9 : Value) (u0_10 : Value) (u0_11 : Value) (u0_12 : Value) (v_inForce_size : Int32) (v_inForce_code : Nat → Int32) (v_inForce_stack : Nat → Int32) (v_inForce_thing : Nat → Int32) (w1_number : Int32) (w1_day : Int32) (w1_unmet : Int32) (w1_skill : Nat → Int32) (w1_pills : Nat → Int32) (w1_slept : Nat → Int32) (w1_woken : Nat → Int32) (w1_wanted : Nat → Int32) (p2 : Int32) (r : Int32 × (Nat → Int32) × (Nat → Int32) × Int32 × Int32 × (Nat → Int32) × (Nat → Int32) × (Nat → Int32)) (h : X10_goBy v_inForce_size v_inForce_code v_inForce_stack v_inForce_thing w1_number w1_day w1_unmet w1_skill w1_pills w1_slept w1_woken w1_wanted p2 = some r) : Ct l yX10_goBy cX10_goBy 5 (some .int) 4 94 D cy [.ref q0, .ref q5, .int p2] [oX10 q0 u0_0 u0_1 u0_2 u0_3 u0_4 u0_5 (.ref q1) u0_7 u0_8 u0_9 u0_10 u0_11 u0_12, oX5 q1 (.ref q2) (.ref q3) (.ref q4) (.int v_inForce_size), aI cy q2 40 v_inForce_code, aI cy q3 40 v_inForce_stack, aI cy q4 7 v_inForce_thing, oX0 q5 (.ref q6) (.ref q7) (.ref q8) (.ref q9) (.ref q10) (.int w1_number) (.int w1_day) (.int w1_unmet), aI cy q6 7 w1_skill, aI cy q7 7 w1_pills, aI cy q8 7 w1_slept, aI cy q9 7 w1_woken, aI cy q10 7 w1_wanted] (fun _ => [oX10 q0 u0_0 u0_1 u0_2 u0_3 u0_4 u0_5 (.ref q1) u0_7 u0_8 u0_9 u0_10 u0_11 u0_12, oX5 q1 (.ref q2) (.ref q3) (.ref q4) (.int v_inForce_size), aI cy q2 40 v_inForce_code, aI cy q3 40 r.2.1, aI cy q4 7 r.2.2.1, oX0 q5 (.ref q6) (.ref q7) (.ref q8) (.ref q9) (.ref q10) (.int w1_number) (.int r.2.2.2.1) (.int r.2.2.2.2.1), aI cy q6 7 w1_skill, aI cy q7 7 r.2.2.2.2.2.1, aI cy q8 7 r.2.2.2.2.2.2.1, aI cy q9 7 r.2.2.2.2.2.2.2, aI cy q10 7 w1_wanted]) (some (.int r.1)) := by
  refine Ct.mk kX10_goBy (by decide +kernel) (Nat.le_of_ble_eq_true rfl) ?_
  intro p e s m below meth c A ls args R Q hRf hRl hQ E H locs hS hl
  have hx := E.x
  have hb := E.b
  have hl : lv_has ls 5 [(0, .ref q0), (1, .ref q5), (2, .int p2)] := hl
  unfold X10_goBy at h
  refine lv_iconst (v := 0) hx hb dX10_goBy_0 (by decide) ?_
  refine lv_istore_n (lv' := [(3, .int (0 : Int32)), (0, .ref q0), (1, .ref q5), (2, .int p2)]) hx hb dX10_goBy_1 rfl hl (by decide) rfl (fun ls hl => ?_)
  refine lv_iconst (v := 0) hx hb dX10_goBy_2 (by decide) ?_
  refine lv_istore (lv' := [(4, .int (0 : Int32)), (3, .int (0 : Int32)), (0, .ref q0), (1, .ref q5), (2, .int p2)]) hx hb dX10_goBy_3 hl (by decide) rfl (fun ls hl => ?_)
  have hL5 : ∀ (n : Nat) (x5_0 : Int32) (x5_1 : Int32) (x5_2 : Nat → Int32) (x5_3 : Nat → Int32) (x5_4 : Int32) (x5_5 : Int32) (x5_6 : Nat → Int32) (x5_7 : Nat → Int32) (x5_8 : Nat → Int32) (y5 : Int32 × (Nat → Int32) × (Nat → Int32) × Int32 × Int32 × (Nat → Int32) × (Nat → Int32) × (Nat → Int32)) (H : Heap) (locs : List Loc) (ls : Array Slot), lp (fun x5 => X10_goBy_s5 v_inForce_size v_inForce_code w1_number w1_skill w1_wanted p2 x5.1 x5.2.1 x5.2.2.1 x5.2.2.2.1 x5.2.2.2.2.1 x5.2.2.2.2.2.1 x5.2.2.2.2.2.2.1 x5.2.2.2.2.2.2.2.1 x5.2.2.2.2.2.2.2.2) n (x5_0, x5_1, x5_2, x5_3, x5_4, x5_5, x5_6, x5_7, x5_8) = some y5 → Sv D A s.heap [oX10 q0 u0_0 u0_1 u0_2 u0_3 u0_4 u0_5 (.ref q1) u0_7 u0_8 u0_9 u0_10 u0_11 u0_12, oX5 q1 (.ref q2) (.ref q3) (.ref q4) (.int v_inForce_size), aI cy q2 40 v_inForce_code, aI cy q3 40 x5_2, aI cy q4 7 x5_3, oX0 q5 (.ref q6) (.ref q7) (.ref q8) (.ref q9) (.ref q10) (.int w1_number) (.int x5_4) (.int x5_5), aI cy q6 7 w1_skill, aI cy q7 7 x5_6, aI cy q8 7 x5_7, aI cy q9 7 x5_8, aI cy q10 7 w1_wanted] H locs → lv_has ls 5 [(0, .ref q0), (1, .ref q5), (2, .int p2), (3, .int x5_0), (4, .int x5_1)] → ( ∀ (y5_0 : Int32) (y5_1 : Nat → Int32) (y5_2 : Nat → Int32) (y5_3 : Int32) (y5_4 : Int32) (y5_5 : Nat → Int32) (y5_6 : Nat → Int32) (y5_7 : Nat → Int32), (y5_0, y5_1, y5_2, y5_3, y5_4, y5_5, y5_6, y5_7) = y5 → ∀ (H : Heap) (locs : List Loc) (ls : Array Slot), Sv D A s.heap [oX10 q0 u0_0 u0_1 u0_2 u0_3 u0_4 u0_5 (.ref q1) u0_7 u0_8 u0_9 u0_10 u0_11 u0_12, oX5 q1 (.ref q2) (.ref q3) (.ref q4) (.int v_inForce_size), aI cy q2 40 v_inForce_code, aI cy q3 40 y5_1, aI cy q4 7 y5_2, oX0 q5 (.ref q6) (.ref q7) (.ref q8) (.ref q9) (.ref q10) (.int w1_number) (.int y5_3) (.int y5_4), aI cy q6 7 w1_skill, aI cy q7 7 y5_5, aI cy q8 7 y5_6, aI cy q9 7 y5_7, aI cy q10 7 w1_wanted] H locs → lv_has ls 5 [(3, .int y5_0)] → W p l e R s m args below meth c H locs 0 0 Q (F0 m 31 ls [])) → W p l e R s m args below meth c H locs 0 0 Q (F0 m 5 ls []) := by
    intro n
    induction n with
    | zero =>
      intro x5_0 x5_1 x5_2 x5_3 x5_4 x5_5 x5_6 x5_7 x5_8 y5 H locs ls h
      exact lp_zero h
    | succ n ih5 =>
      intro x5_0 x5_1 x5_2 x5_3 x5_4 x5_5 x5_6 x5_7 x5_8 y5 H locs ls h hS hl hk5_0
      obtain ⟨z5, h, hz5a, hz5b⟩ := lp_succ h
      have h : X10_goBy_s5 v_inForce_size v_inForce_code w1_number w1_skill w1_wanted p2 x5_0 x5_1 x5_2 x5_3 x5_4 x5_5 x5_6 x5_7 x5_8 = some z5 := h
      unfold X10_goBy_s5 at h
      refine lv_iload hx hb dX10_goBy_5 (lv_at hl 4 rfl) ?_
      refine lv_iload_n hx hb dX10_goBy_7 rfl (lv_at hl 2 rfl) ?_
      refine lv_icmp_ge (tgt := 31) hx hb dX10_goBy_8 (by decide) (fun c1 => ?_) (fun c1 => ?_)
      · have h := it_pos c1 h
        exact hk5_0 x5_0 x5_2 x5_3 x5_4 x5_5 x5_6 x5_7 x5_8 (hz5b _ (Option.some.inj h).symm)  H locs ls hS (lv_sub hl [3] rfl)
      · have h := it_neg c1 h
        refine lv_aload_n hx hb dX10_goBy_11 rfl (lv_at hl 0 rfl) ?_
        refine r_get E frX10_50 hS 0 rfl rfl dX10_goBy_12 ?_
        refine lv_aload_n hx hb dX10_goBy_15 rfl (lv_at hl 1 rfl) ?_
        obtain ⟨y16, e2, h⟩ := bd_some h
        refine ct_V (ws' := fun _ => [oX10 q0 u0_0 u0_1 u0_2 u0_3 u0_4 u0_5 (.ref q1) u0_7 u0_8 u0_9 u0_10 u0_11 u0_12, oX5 q1 (.ref q2) (.ref q3) (.ref q4) (.int v_inForce_size), aI cy q2 40 v_inForce_code, aI cy q3 40 y16.2.1, aI cy q4 7 y16.2.2, oX0 q5 (.ref q6) (.ref q7) (.ref q8) (.ref q9) (.ref q10) (.int w1_number) (.int x5_4) (.int x5_5), aI cy q6 7 w1_skill, aI cy q7 7 x5_6, aI cy q8 7 x5_7, aI cy q9 7 x5_8, aI cy q10 7 w1_wanted]) (st' := [.int y16.1]) (rest := []) E hS vlX10_234 (c_X5_wakers (l := l) (D := D) (cy := cy) (q0 := q1) (q1 := q2) (q2 := q3) (q3 := q4) (q4 := q5) (q5 := q6) (q6 := q7) (q7 := q8) (q8 := q10) (u4_3 := .ref q9) (u4_7 := .int x5_5) (v_size := v_inForce_size) (v_code := v_inForce_code) (v_stack := x5_2) (v_thing := x5_3) (w1_number := w1_number) (w1_day := x5_4) (w1_skill := w1_skill) (w1_pills := x5_6) (w1_slept := x5_7) (w1_wanted := w1_wanted) (r := y16) e2) [1, 2, 3, 4, 5, 6, 7, 8, 10] rfl rfl (fun _ => rfl) (fun _ => rfl) rfl rfl rfl rfl (Nat.le_of_ble_eq_true rfl) hl.1 (by rw [hRf]; exact Nat.le_of_ble_eq_true rfl) (by rw [hRl]; exact Nat.le_of_ble_eq_true rfl) ⟨Nat.zero_le _, Nat.zero_le _⟩ dX10_goBy_16 rfl (fun H locs _ hS => ?_)
        refine lv_istore_n (lv' := [(3, .int y16.1), (0, .ref q0), (1, .ref q5), (2, .int p2), (4, .int x5_1)]) hx hb dX10_goBy_19 rfl hl (by decide) rfl (fun ls hl => ?_)
        refine lv_aload_n hx hb dX10_goBy_20 rfl (lv_at hl 2 rfl) ?_
        refine lv_iload_n hx hb dX10_goBy_21 rfl (lv_at hl 0 rfl) ?_
        obtain ⟨y22, e3, h⟩ := bd_some h
        refine ct_V (ws' := fun _ => [oX10 q0 u0_0 u0_1 u0_2 u0_3 u0_4 u0_5 (.ref q1) u0_7 u0_8 u0_9 u0_10 u0_11 u0_12, oX5 q1 (.ref q2) (.ref q3) (.ref q4) (.int v_inForce_size), aI cy q2 40 v_inForce_code, aI cy q3 40 y16.2.1, aI cy q4 7 y16.2.2, oX0 q5 (.ref q6) (.ref q7) (.ref q8) (.ref q9) (.ref q10) (.int w1_number) (.int y22.1) (.int y22.2.1), aI cy q6 7 w1_skill, aI cy q7 7 y22.2.2.1, aI cy q8 7 y22.2.2.2.1, aI cy q9 7 y22.2.2.2.2, aI cy q10 7 w1_wanted]) (st' := []) (rest := []) E hS vlX10_238 (c_X0_passMorning (l := l) (D := D) (cy := cy) (q0 := q5) (q1 := q7) (q2 := q8) (q3 := q9) (q4 := q10) (u0_0 := .ref q6) (v_number := w1_number) (v_day := x5_4) (v_unmet := x5_5) (v_pills := x5_6) (v_slept := x5_7) (v_woken := x5_8) (v_wanted := w1_wanted) (p1 := y16.1) (r := y22) e3) [5, 7, 8, 9, 10] rfl rfl (fun _ => rfl) (fun _ => rfl) rfl rfl rfl rfl (Nat.le_of_ble_eq_true rfl) hl.1 (by rw [hRf]; exact Nat.le_of_ble_eq_true rfl) (by rw [hRl]; exact Nat.le_of_ble_eq_true rfl) ⟨Nat.zero_le _, Nat.zero_le _⟩ dX10_goBy_22 rfl (fun H locs _ hS => ?_)
        refine lv_iinc (v := (x5_1 + (1 : Int32))) (lv' := [(4, .int (x5_1 + (1 : Int32))), (3, .int y16.1), (0, .ref q0), (1, .ref q5), (2, .int p2)]) hx hb dX10_goBy_25 hl (k := 4) rfl rfl (by decide) rfl (fun ls hl => ?_)
        refine lv_goto (tgt := 5) hx hb dX10_goBy_28 (by decide) ?_
        exact ih5 y16.1 (x5_1 + (1 : Int32)) y16.2.1 y16.2.2 y22.1 y22.2.1 y22.2.2.1 y22.2.2.2.1 y22.2.2.2.2 y5  H locs ls (hz5a _ (Option.some.inj h).symm) hS (lv_sub hl [2, 3, 4, 1, 0] rfl) hk5_0
  obtain ⟨y5, e5, h⟩ := bd_some h
  refine hL5 1000 (0 : Int32) (0 : Int32) v_inForce_stack v_inForce_thing w1_day w1_unmet w1_pills w1_slept w1_woken y5  H locs ls e5 hS (lv_sub hl [2, 3, 4, 1, 0] rfl) (fun y5_0 y5_1 y5_2 y5_3 y5_4 y5_5 y5_6 y5_7 ey5 H locs ls hS hl => ?_)
  subst ey5
  have h := un_r h
  have h := un_r h
  have h := un_r h
  have h := un_r h
  have h := un_r h
  have h := un_r h
  have h := un_r h
  refine lv_iload_n hx hb dX10_goBy_31 rfl (lv_at hl 0 rfl) ?_
  obtain rfl := Option.some.inj h
  exact rt_i E hQ (.null) hS dX10_goBy_32
set_option maxHeartbeats 4000000 in
set_option maxRecDepth 100000 in
theorem c_X10_act {l : Launch} {D : va_G} {cy : Nat → ClassId} (q0 : Nat) (q1 : Nat) (q2 : Nat) (q3 : Nat) (q4 : Nat) (q5 : Nat) (q6 : Nat) (q7 : Nat) (q8 : Nat) (q9 : Nat) (q10 : Nat) (q11 : Nat) (q12 : Nat) (u0_1 : Value) (u0_3 : Value) (u0_4 : Value) (u0_5 : Value) (u0_7 : Value) (u0_8 : Value) (u0_9 : Value) (u0_10 : Value) (u0_11 : Value) (u0_12 : Value) (v_text_size : Int32) (v_text_signs : Nat → Int32) (v_folk_number : Int32) (v_folk_day : Int32) (v_folk_unmet : Int32) (v_folk_skill : Nat → Int32) (v_folk_pills : Nat → Int32) (v_folk_slept : Nat → Int32) (v_folk_woken : Nat → Int32) (v_folk_wanted : Nat → Int32) (v_inForce_size : Int32) (v_inForce_code : Nat → Int32) (v_inForce_stack : Nat → Int32) (v_inForce_thing : Nat → Int32) (p1 : Int32) (r : Int32 × Int32 × Int32 × (Nat → Int32) × (Nat → Int32) × (Nat → Int32) × (Nat → Int32) × (Nat → Int32) × (Nat → Int32) × (Nat → Int32)) (h : X10_act v_text_size v_text_signs v_folk_number v_folk_day v_folk_unmet v_folk_skill v_folk_pills v_folk_slept v_folk_woken v_folk_wanted v_inForce_size v_inForce_code v_inForce_stack v_inForce_thing p1 = some r) : Ct l yX10_act cX10_act 4 (some .int) 5 118 D cy [.ref q0, .int p1] [oX10 q0 (.ref q1) u0_1 (.ref q3) u0_3 u0_4 u0_5 (.ref q9) u0_7 u0_8 u0_9 u0_10 u0_11 u0_12, oX9 q1 (.ref q2) (.int v_text_size), aC cy q2 80 v_text_signs, oX0 q3 (.ref q4) (.ref q5) (.ref q6) (.ref q7) (.ref q8) (.int v_folk_number) (.int v_folk_day) (.int v_folk_unmet), aI cy q4 7 v_folk_skill, aI cy q5 7 v_folk_pills, aI cy q6 7 v_folk_slept, aI cy q7 7 v_folk_woken, aI cy q8 7 v_folk_wanted, oX5 q9 (.ref q10) (.ref q11) (.ref q12) (.int v_inForce_size), aI cy q10 40 v_inForce_code, aI cy q11 40 v_inForce_stack, aI cy q12 7 v_inForce_thing] (fun _ => [oX10 q0 (.ref q1) u0_1 (.ref q3) u0_3 u0_4 u0_5 (.ref q9) u0_7 u0_8 u0_9 u0_10 u0_11 u0_12, oX9 q1 (.ref q2) (.int v_text_size), aC cy q2 80 v_text_signs, oX0 q3 (.ref q4) (.ref q5) (.ref q6) (.ref q7) (.ref q8) (.int v_folk_number) (.int r.2.1) (.int r.2.2.1), aI cy q4 7 r.2.2.2.1, aI cy q5 7 r.2.2.2.2.1, aI cy q6 7 r.2.2.2.2.2.1, aI cy q7 7 r.2.2.2.2.2.2.1, aI cy q8 7 r.2.2.2.2.2.2.2.1, oX5 q9 (.ref q10) (.ref q11) (.ref q12) (.int v_inForce_size), aI cy q10 40 v_inForce_code, aI cy q11 40 r.2.2.2.2.2.2.2.2.1, aI cy q12 7 r.2.2.2.2.2.2.2.2.2]) (some (.int r.1)) := by
  refine Ct.mk kX10_act (by decide +kernel) (Nat.le_of_ble_eq_true rfl) ?_
  intro p e s m below meth c A ls args R Q hRf hRl hQ E H locs hS hl
  have hx := E.x
  have hb := E.b
  have hl : lv_has ls 4 [(0, .ref q0), (1, .int p1)] := hl
  unfold X10_act at h
  refine lv_aload_n hx hb dX10_act_0 rfl (lv_at hl 0 rfl) ?_
  refine r_get E frX10_12 hS 0 rfl rfl dX10_act_1 ?_
  refine lv_iload_n hx hb dX10_act_4 rfl (lv_at hl 1 rfl) ?_
  refine lv_iconst (v := 1) hx hb dX10_act_5 (by decide) ?_
  refine lv_iadd hx hb dX10_act_6 ?_
  obtain ⟨y7, e1, h⟩ := bd_some h
  refine ct_V (ws' := fun _ => [oX10 q0 (.ref q1) u0_1 (.ref q3) u0_3 u0_4 u0_5 (.ref q9) u0_7 u0_8 u0_9 u0_10 u0_11 u0_12, oX9 q1 (.ref q2) (.int v_text_size), aC cy q2 80 v_text_signs, oX0 q3 (.ref q4) (.ref q5) (.ref q6) (.ref q7) (.ref q8) (.int v_folk_number) (.int v_folk_day) (.int v_folk_unmet), aI cy q4 7 v_folk_skill, aI cy q5 7 v_folk_pills, aI cy q6 7 v_folk_slept, aI cy q7 7 v_folk_woken, aI cy q8 7 v_folk_wanted, oX5 q9 (.ref q10) (.ref q11) (.ref q12) (.int v_inForce_size), aI cy q10 40 v_inForce_code, aI cy q11 40 v_inForce_stack, aI cy q12 7 v_inForce_thing]) (st' := [.int y7]) (rest := []) E hS vlX10_117 (c_X9_digitAt (l := l) (D := D) (cy := cy) (q0 := q1) (q1 := q2) (v_size := v_text_size) (v_signs := v_text_signs) (p1 := (p1 + (1 : Int32))) (r := y7) e1) [1, 2] rfl rfl (fun _ => rfl) (fun _ => rfl) rfl rfl rfl rfl (Nat.le_of_ble_eq_true rfl) hl.1 (by rw [hRf]; exact Nat.le_of_ble_eq_true rfl) (by rw [hRl]; exact Nat.le_of_ble_eq_true rfl) ⟨Nat.zero_le _, Nat.zero_le _⟩ dX10_act_7 rfl (fun H locs _ hS => ?_)
  refine lv_istore_n (lv' := [(2, .int y7), (0, .ref q0), (1, .int p1)]) hx hb dX10_act_10 rfl hl (by decide) rfl (fun ls hl => ?_)
  refine lv_aload_n hx hb dX10_act_11 rfl (lv_at hl 1 rfl) ?_
  refine r_get E frX10_12 hS 0 rfl rfl dX10_act_12 ?_
  refine lv_iload_n hx hb dX10_act_15 rfl (lv_at hl 2 rfl) ?_
  refine lv_iconst (v := 2) hx hb dX10_act_16 (by decide) ?_
  refine lv_iadd hx hb dX10_act_17 ?_
  obtain ⟨y18, e2, h⟩ := bd_some h
  refine ct_V (ws' := fun _ => [oX10 q0 (.ref q1) u0_1 (.ref q3) u0_3 u0_4 u0_5 (.ref q9) u0_7 u0_8 u0_9 u0_10 u0_11 u0_12, oX9 q1 (.ref q2) (.int v_text_size), aC cy q2 80 v_text_signs, oX0 q3 (.ref q4) (.ref q5) (.ref q6) (.ref q7) (.ref q8) (.int v_folk_number) (.int v_folk_day) (.int v_folk_unmet), aI cy q4 7 v_folk_skill, aI cy q5 7 v_folk_pills, aI cy q6 7 v_folk_slept, aI cy q7 7 v_folk_woken, aI cy q8 7 v_folk_wanted, oX5 q9 (.ref q10) (.ref q11) (.ref q12) (.int v_inForce_size), aI cy q10 40 v_inForce_code, aI cy q11 40 v_inForce_stack, aI cy q12 7 v_inForce_thing]) (st' := [.int y18]) (rest := []) E hS vlX10_117 (c_X9_digitAt (l := l) (D := D) (cy := cy) (q0 := q1) (q1 := q2) (v_size := v_text_size) (v_signs := v_text_signs) (p1 := (p1 + (2 : Int32))) (r := y18) e2) [1, 2] rfl rfl (fun _ => rfl) (fun _ => rfl) rfl rfl rfl rfl (Nat.le_of_ble_eq_true rfl) hl.1 (by rw [hRf]; exact Nat.le_of_ble_eq_true rfl) (by rw [hRl]; exact Nat.le_of_ble_eq_true rfl) ⟨Nat.zero_le _, Nat.zero_le _⟩ dX10_act_18 rfl (fun H locs _ hS => ?_)
  refine lv_istore_n (lv' := [(3, .int y18), (2, .int y7), (0, .ref q0), (1, .int p1)]) hx hb dX10_act_21 rfl hl (by decide) rfl (fun ls hl => ?_)
  refine lv_aload_n hx hb dX10_act_22 rfl (lv_at hl 2 rfl) ?_
  refine r_get E frX10_12 hS 0 rfl rfl dX10_act_23 ?_
  refine lv_iload_n hx hb dX10_act_26 rfl (lv_at hl 3 rfl) ?_
  obtain ⟨y27, e3, h⟩ := bd_some h
  refine ct_V (ws' := fun _ => [oX10 q0 (.ref q1) u0_1 (.ref q3) u0_3 u0_4 u0_5 (.ref q9) u0_7 u0_8 u0_9 u0_10 u0_11 u0_12, oX9 q1 (.ref q2) (.int v_text_size), aC cy q2 80 v_text_signs, oX0 q3 (.ref q4) (.ref q5) (.ref q6) (.ref q7) (.ref q8) (.int v_folk_number) (.int v_folk_day) (.int v_folk_unmet), aI cy q4 7 v_folk_skill, aI cy q5 7 v_folk_pills, aI cy q6 7 v_folk_slept, aI cy q7 7 v_folk_woken, aI cy q8 7 v_folk_wanted, oX5 q9 (.ref q10) (.ref q11) (.ref q12) (.int v_inForce_size), aI cy q10 40 v_inForce_code, aI cy q11 40 v_inForce_stack, aI cy q12 7 v_inForce_thing]) (st' := [.int y27]) (rest := []) E hS vlX10_134 (c_X9_at (l := l) (D := D) (cy := cy) (q0 := q1) (q1 := q2) (v_size := v_text_size) (v_signs := v_text_signs) (p1 := p1) (r := y27) e3) [1, 2] rfl rfl (fun _ => rfl) (fun _ => rfl) rfl rfl rfl rfl (Nat.le_of_ble_eq_true rfl) hl.1 (by rw [hRf]; exact Nat.le_of_ble_eq_true rfl) (by rw [hRl]; exact Nat.le_of_ble_eq_true rfl) ⟨Nat.zero_le _, Nat.zero_le _⟩ dX10_act_27 rfl (fun H locs _ hS => ?_)
  rcases Decidable.em (y27 = 110) with c4 | c4
  · have h := it_pos c4 h
    refine lv_tableIn (off := 42) (tgt := 72) hx hb dX10_act_30 (by rw [c4]; decide) (by rw [c4]; decide) (by rw [c4]; rfl) (by decide) ?_
    refine lv_aload_n hx hb dX10_act_72 rfl (lv_at hl 2 rfl) ?_
    refine lv_aload_n hx hb dX10_act_73 rfl (lv_at hl 2 rfl) ?_
    refine r_get E frX10_26 hS 0 rfl rfl dX10_act_74 ?_
    refine lv_iload_n hx hb dX10_act_77 rfl (lv_at hl 1 rfl) ?_
    obtain ⟨y78, e5, h⟩ := bd_some h
    refine ct_V (ws' := fun _ => [oX10 q0 (.ref q1) u0_1 (.ref q3) u0_3 u0_4 u0_5 (.ref q9) u0_7 u0_8 u0_9 u0_10 u0_11 u0_12, oX9 q1 (.ref q2) (.int v_text_size), aC cy q2 80 v_text_signs, oX0 q3 (.ref q4) (.ref q5) (.ref q6) (.ref q7) (.ref q8) (.int v_folk_number) (.int y78.2.2.2.1) (.int y78.2.2.2.2.1), aI cy q4 7 v_folk_skill, aI cy q5 7 y78.2.2.2.2.2.1, aI cy q6 7 y78.2.2.2.2.2.2.1, aI cy q7 7 y78.2.2.2.2.2.2.2, aI cy q8 7 v_folk_wanted, oX5 q9 (.ref q10) (.ref q11) (.ref q12) (.int v_inForce_size), aI cy q10 40 v_inForce_code, aI cy q11 40 y78.2.1, aI cy q12 7 y78.2.2.1]) (st' := [.int y78.1]) (rest := []) E hS vlX10_192 (c_X10_goBy (l := l) (D := D) (cy := cy) (q0 := q0) (q1 := q9) (q2 := q10) (q3 := q11) (q4 := q12) (q5 := q3) (q6 := q4) (q7 := q5) (q8 := q6) (q9 := q7) (q10 := q8) (u0_0 := .ref q1) (u0_1 := u0_1) (u0_2 := .ref q3) (u0_3 := u0_3) (u0_4 := u0_4) (u0_5 := u0_5) (u0_7 := u0_7) (u0_8 := u0_8) (u0_9 := u0_9) (u0_10 := u0_10) (u0_11 := u0_11) (u0_12 := u0_12) (v_inForce_size := v_inForce_size) (v_inForce_code := v_inForce_code) (v_inForce_stack := v_inForce_stack) (v_inForce_thing := v_inForce_thing) (w1_number := v_folk_number) (w1_day := v_folk_day) (w1_unmet := v_folk_unmet) (w1_skill := v_folk_skill) (w1_pills := v_folk_pills) (w1_slept := v_folk_slept) (w1_woken := v_folk_woken) (w1_wanted := v_folk_wanted) (p2 := y7) (r := y78) e5) [0, 9, 10, 11, 12, 3, 4, 5, 6, 7, 8] rfl rfl (fun _ => rfl) (fun _ => rfl) rfl rfl rfl rfl (Nat.le_of_ble_eq_true rfl) hl.1 (by rw [hRf]; exact Nat.le_of_ble_eq_true rfl) (by rw [hRl]; exact Nat.le_of_ble_eq_true rfl) ⟨Nat.zero_le _, Nat.zero_le _⟩ dX10_act_78 rfl (fun H locs _ hS => ?_)
    obtain rfl := Option.some.inj h
    exact rt_i E hQ (.null) hS dX10_act_81
  · have h := it_neg c4 h
    rcases Decidable.em (y27 = 111) with c6 | c6
    · have h := it_pos c6 h
      refine lv_tableIn (off := 82) (tgt := 112) hx hb dX10_act_30 (by rw [c6]; decide) (by rw [c6]; decide) (by rw [c6]; rfl) (by decide) ?_
      refine lv_aload_n hx hb dX10_act_112 rfl (lv_at hl 2 rfl) ?_
      refine r_get E frX10_26 hS 0 rfl rfl dX10_act_113 ?_
      refine lv_iload_n hx hb dX10_act_116 rfl (lv_at hl 1 rfl) ?_
      obtain ⟨y117, e7, h⟩ := bd_some h
      refine ct_V (ws' := fun _ => [oX10 q0 (.ref q1) u0_1 (.ref q3) u0_3 u0_4 u0_5 (.ref q9) u0_7 u0_8 u0_9 u0_10 u0_11 u0_12, oX9 q1 (.ref q2) (.int v_text_size), aC cy q2 80 v_text_signs, oX0 q3 (.ref q4) (.ref q5) (.ref q6) (.ref q7) (.ref q8) (.int v_folk_number) (.int v_folk_day) (.int v_folk_unmet), aI cy q4 7 v_folk_skill, aI cy q5 7 v_folk_pills, aI cy q6 7 v_folk_slept, aI cy q7 7 v_folk_woken, aI cy q8 7 y117.2, oX5 q9 (.ref q10) (.ref q11) (.ref q12) (.int v_inForce_size), aI cy q10 40 v_inForce_code, aI cy q11 40 v_inForce_stack, aI cy q12 7 v_inForce_thing]) (st' := [.int y117.1]) (rest := []) E hS vlX10_216 (c_X0_isRidOf (l := l) (D := D) (cy := cy) (q0 := q3) (q1 := q8) (u0_0 := .ref q4) (u0_1 := .ref q5) (u0_2 := .ref q6) (u0_3 := .ref q7) (u0_6 := .int v_folk_day) (u0_7 := .int v_folk_unmet) (v_number := v_folk_number) (v_wanted := v_folk_wanted) (p1 := y7) (r := y117) e7) [3, 8] rfl rfl (fun _ => rfl) (fun _ => rfl) rfl rfl rfl rfl (Nat.le_of_ble_eq_true rfl) hl.1 (by rw [hRf]; exact Nat.le_of_ble_eq_true rfl) (by rw [hRl]; exact Nat.le_of_ble_eq_true rfl) ⟨Nat.zero_le _, Nat.zero_le _⟩ dX10_act_117 rfl (fun H locs _ hS => ?_)
      obtain rfl := Option.some.inj h
      exact rt_i E hQ (.null) hS dX10_act_120
    · have h := it_neg c6 h
      rcases Decidable.em (y27 = 112) with c8 | c8
      · have h := it_pos c8 h
        refine lv_tableIn (off := 62) (tgt := 92) hx hb dX10_act_30 (by rw [c8]; decide) (by rw [c8]; decide) (by rw [c8]; rfl) (by decide) ?_
        refine lv_aload_n hx hb dX10_act_92 rfl (lv_at hl 2 rfl) ?_
        refine r_get E frX10_26 hS 0 rfl rfl dX10_act_93 ?_
        refine lv_iload_n hx hb dX10_act_96 rfl (lv_at hl 1 rfl) ?_
        refine lv_iload_n hx hb dX10_act_97 rfl (lv_at hl 0 rfl) ?_
        obtain ⟨y98, e9, h⟩ := bd_some h
        refine ct_V (ws' := fun _ => [oX10 q0 (.ref q1) u0_1 (.ref q3) u0_3 u0_4 u0_5 (.ref q9) u0_7 u0_8 u0_9 u0_10 u0_11 u0_12, oX9 q1 (.ref q2) (.int v_text_size), aC cy q2 80 v_text_signs, oX0 q3 (.ref q4) (.ref q5) (.ref q6) (.ref q7) (.ref q8) (.int v_folk_number) (.int v_folk_day) (.int v_folk_unmet), aI cy q4 7 v_folk_skill, aI cy q5 7 y98.2, aI cy q6 7 v_folk_slept, aI cy q7 7 v_folk_woken, aI cy q8 7 v_folk_wanted, oX5 q9 (.ref q10) (.ref q11) (.ref q12) (.int v_inForce_size), aI cy q10 40 v_inForce_code, aI cy q11 40 v_inForce_stack, aI cy q12 7 v_inForce_thing]) (st' := [.int y98.1]) (rest := []) E hS vlX10_210 (c_X0_takesPills (l := l) (D := D) (cy := cy) (q0 := q3) (q1 := q5) (u0_0 := .ref q4) (u0_2 := .ref q6) (u0_3 := .ref q7) (u0_4 := .ref q8) (u0_6 := .int v_folk_day) (u0_7 := .int v_folk_unmet) (v_number := v_folk_number) (v_pills := v_folk_pills) (p1 := y7) (p2 := y18) (r := y98) e9) [3, 5] rfl rfl (fun _ => rfl) (fun _ => rfl) rfl rfl rfl rfl (Nat.le_of_ble_eq_true rfl) hl.1 (by rw [hRf]; exact Nat.le_of_ble_eq_true rfl) (by rw [hRl]; exact Nat.le_of_ble_eq_true rfl) ⟨Nat.zero_le _, Nat.zero_le _⟩ dX10_act_98 rfl (fun H locs _ hS => ?_)
        obtain rfl := Option.some.inj h
        exact rt_i E hQ (.null) hS dX10_act_101
      · have h := it_neg c8 h
        rcases Decidable.em (y27 = 113) with c10 | c10
        · have h := it_pos c10 h
          refine lv_tableIn (off := 82) (tgt := 112) hx hb dX10_act_30 (by rw [c10]; decide) (by rw [c10]; decide) (by rw [c10]; rfl) (by decide) ?_
          refine lv_aload_n hx hb dX10_act_112 rfl (lv_at hl 2 rfl) ?_
          refine r_get E frX10_26 hS 0 rfl rfl dX10_act_113 ?_
          refine lv_iload_n hx hb dX10_act_116 rfl (lv_at hl 1 rfl) ?_
          obtain ⟨y117, e11, h⟩ := bd_some h
          refine ct_V (ws' := fun _ => [oX10 q0 (.ref q1) u0_1 (.ref q3) u0_3 u0_4 u0_5 (.ref q9) u0_7 u0_8 u0_9 u0_10 u0_11 u0_12, oX9 q1 (.ref q2) (.int v_text_size), aC cy q2 80 v_text_signs, oX0 q3 (.ref q4) (.ref q5) (.ref q6) (.ref q7) (.ref q8) (.int v_folk_number) (.int v_folk_day) (.int v_folk_unmet), aI cy q4 7 v_folk_skill, aI cy q5 7 v_folk_pills, aI cy q6 7 v_folk_slept, aI cy q7 7 v_folk_woken, aI cy q8 7 y117.2, oX5 q9 (.ref q10) (.ref q11) (.ref q12) (.int v_inForce_size), aI cy q10 40 v_inForce_code, aI cy q11 40 v_inForce_stack, aI cy q12 7 v_inForce_thing]) (st' := [.int y117.1]) (rest := []) E hS vlX10_216 (c_X0_isRidOf (l := l) (D := D) (cy := cy) (q0 := q3) (q1 := q8) (u0_0 := .ref q4) (u0_1 := .ref q5) (u0_2 := .ref q6) (u0_3 := .ref q7) (u0_6 := .int v_folk_day) (u0_7 := .int v_folk_unmet) (v_number := v_folk_number) (v_wanted := v_folk_wanted) (p1 := y7) (r := y117) e11) [3, 8] rfl rfl (fun _ => rfl) (fun _ => rfl) rfl rfl rfl rfl (Nat.le_of_ble_eq_true rfl) hl.1 (by rw [hRf]; exact Nat.le_of_ble_eq_true rfl) (by rw [hRl]; exact Nat.le_of_ble_eq_true rfl) ⟨Nat.zero_le _, Nat.zero_le _⟩ dX10_act_117 rfl (fun H locs _ hS => ?_)
          obtain rfl := Option.some.inj h
          exact rt_i E hQ (.null) hS dX10_act_120
        · have h := it_neg c10 h
          rcases Decidable.em (y27 = 114) with c12 | c12
          · have h := it_pos c12 h
            refine lv_tableIn (off := 82) (tgt := 112) hx hb dX10_act_30 (by rw [c12]; decide) (by rw [c12]; decide) (by rw [c12]; rfl) (by decide) ?_
            refine lv_aload_n hx hb dX10_act_112 rfl (lv_at hl 2 rfl) ?_
            refine r_get E frX10_26 hS 0 rfl rfl dX10_act_113 ?_
            refine lv_iload_n hx hb dX10_act_116 rfl (lv_at hl 1 rfl) ?_
            obtain ⟨y117, e13, h⟩ := bd_some h
            refine ct_V (ws' := fun _ => [oX10 q0 (.ref q1) u0_1 (.ref q3) u0_3 u0_4 u0_5 (.ref q9) u0_7 u0_8 u0_9 u0_10 u0_11 u0_12, oX9 q1 (.ref q2) (.int v_text_size), aC cy q2 80 v_text_signs, oX0 q3 (.ref q4) (.ref q5) (.ref q6) (.ref q7) (.ref q8) (.int v_folk_number) (.int v_folk_day) (.int v_folk_unmet), aI cy q4 7 v_folk_skill, aI cy q5 7 v_folk_pills, aI cy q6 7 v_folk_slept, aI cy q7 7 v_folk_woken, aI cy q8 7 y117.2, oX5 q9 (.ref q10) (.ref q11) (.ref q12) (.int v_inForce_size), aI cy q10 40 v_inForce_code, aI cy q11 40 v_inForce_stack, aI cy q12 7 v_inForce_thing]) (st' := [.int y117.1]) (rest := []) E hS vlX10_216 (c_X0_isRidOf (l := l) (D := D) (cy := cy) (q0 := q3) (q1 := q8) (u0_0 := .ref q4) (u0_1 := .ref q5) (u0_2 := .ref q6) (u0_3 := .ref q7) (u0_6 := .int v_folk_day) (u0_7 := .int v_folk_unmet) (v_number := v_folk_number) (v_wanted := v_folk_wanted) (p1 := y7) (r := y117) e13) [3, 8] rfl rfl (fun _ => rfl) (fun _ => rfl) rfl rfl rfl rfl (Nat.le_of_ble_eq_true rfl) hl.1 (by rw [hRf]; exact Nat.le_of_ble_eq_true rfl) (by rw [hRl]; exact Nat.le_of_ble_eq_true rfl) ⟨Nat.zero_le _, Nat.zero_le _⟩ dX10_act_117 rfl (fun H locs _ hS => ?_)
            obtain rfl := Option.some.inj h
            exact rt_i E hQ (.null) hS dX10_act_120
          · have h := it_neg c12 h
            rcases Decidable.em (y27 = 115) with c14 | c14
            · have h := it_pos c14 h
              refine lv_tableIn (off := 72) (tgt := 102) hx hb dX10_act_30 (by rw [c14]; decide) (by rw [c14]; decide) (by rw [c14]; rfl) (by decide) ?_
              refine lv_aload_n hx hb dX10_act_102 rfl (lv_at hl 2 rfl) ?_
              refine r_get E frX10_26 hS 0 rfl rfl dX10_act_103 ?_
              refine lv_iload_n hx hb dX10_act_106 rfl (lv_at hl 1 rfl) ?_
              refine lv_iload_n hx hb dX10_act_107 rfl (lv_at hl 0 rfl) ?_
              obtain ⟨y108, e15, h⟩ := bd_some h
              refine ct_V (ws' := fun _ => [oX10 q0 (.ref q1) u0_1 (.ref q3) u0_3 u0_4 u0_5 (.ref q9) u0_7 u0_8 u0_9 u0_10 u0_11 u0_12, oX9 q1 (.ref q2) (.int v_text_size), aC cy q2 80 v_text_signs, oX0 q3 (.ref q4) (.ref q5) (.ref q6) (.ref q7) (.ref q8) (.int v_folk_number) (.int v_folk_day) (.int v_folk_unmet), aI cy q4 7 y108.2, aI cy q5 7 v_folk_pills, aI cy q6 7 v_folk_slept, aI cy q7 7 v_folk_woken, aI cy q8 7 v_folk_wanted, oX5 q9 (.ref q10) (.ref q11) (.ref q12) (.int v_inForce_size), aI cy q10 40 v_inForce_code, aI cy q11 40 v_inForce_stack, aI cy q12 7 v_inForce_thing]) (st' := [.int y108.1]) (rest := []) E hS vlX10_213 (c_X0_becomesSkilled (l := l) (D := D) (cy := cy) (q0 := q3) (q1 := q4) (u0_1 := .ref q5) (u0_2 := .ref q6) (u0_3 := .ref q7) (u0_4 := .ref q8) (u0_6 := .int v_folk_day) (u0_7 := .int v_folk_unmet) (v_number := v_folk_number) (v_skill := v_folk_skill) (p1 := y7) (p2 := y18) (r := y108) e15) [3, 4] rfl rfl (fun _ => rfl) (fun _ => rfl) rfl rfl rfl rfl (Nat.le_of_ble_eq_true rfl) hl.1 (by rw [hRf]; exact Nat.le_of_ble_eq_true rfl) (by rw [hRl]; exact Nat.le_of_ble_eq_true rfl) ⟨Nat.zero_le _, Nat.zero_le _⟩ dX10_act_108 rfl (fun H locs _ hS => ?_)
              obtain rfl := Option.some.inj h
              exact rt_i E hQ (.null) hS dX10_act_111
            · have h := it_neg c14 h
              rcases Decidable.em (y27 = 116) with c16 | c16
              · have h := it_pos c16 h
                refine lv_tableIn (off := 52) (tgt := 82) hx hb dX10_act_30 (by rw [c16]; decide) (by rw [c16]; decide) (by rw [c16]; rfl) (by decide) ?_
                refine lv_aload_n hx hb dX10_act_82 rfl (lv_at hl 2 rfl) ?_
                refine r_get E frX10_26 hS 0 rfl rfl dX10_act_83 ?_
                refine lv_iload_n hx hb dX10_act_86 rfl (lv_at hl 1 rfl) ?_
                refine lv_iload_n hx hb dX10_act_87 rfl (lv_at hl 0 rfl) ?_
                obtain ⟨y88, e17, h⟩ := bd_some h
                refine ct_V (ws' := fun _ => [oX10 q0 (.ref q1) u0_1 (.ref q3) u0_3 u0_4 u0_5 (.ref q9) u0_7 u0_8 u0_9 u0_10 u0_11 u0_12, oX9 q1 (.ref q2) (.int v_text_size), aC cy q2 80 v_text_signs, oX0 q3 (.ref q4) (.ref q5) (.ref q6) (.ref q7) (.ref q8) (.int v_folk_number) (.int v_folk_day) (.int v_folk_unmet), aI cy q4 7 v_folk_skill, aI cy q5 7 v_folk_pills, aI cy q6 7 v_folk_slept, aI cy q7 7 v_folk_woken, aI cy q8 7 y88.2, oX5 q9 (.ref q10) (.ref q11) (.ref q12) (.int v_inForce_size), aI cy q10 40 v_inForce_code, aI cy q11 40 v_inForce_stack, aI cy q12 7 v_inForce_thing]) (st' := [.int y88.1]) (rest := []) E hS vlX10_203 (c_X0_turns (l := l) (D := D) (cy := cy) (q0 := q3) (q1 := q8) (u0_0 := .ref q4) (u0_1 := .ref q5) (u0_2 := .ref q6) (u0_3 := .ref q7) (u0_6 := .int v_folk_day) (u0_7 := .int v_folk_unmet) (v_number := v_folk_number) (v_wanted := v_folk_wanted) (p1 := y7) (p2 := y18) (r := y88) e17) [3, 8] rfl rfl (fun _ => rfl) (fun _ => rfl) rfl rfl rfl rfl (Nat.le_of_ble_eq_true rfl) hl.1 (by rw [hRf]; exact Nat.le_of_ble_eq_true rfl) (by rw [hRl]; exact Nat.le_of_ble_eq_true rfl) ⟨Nat.zero_le _, Nat.zero_le _⟩ dX10_act_88 rfl (fun H locs _ hS => ?_)
                obtain rfl := Option.some.inj h
                exact rt_i E hQ (.null) hS dX10_act_91
              · have h := it_neg c16 h
                have ht : y27.toInt < 110 ∨ (116 : Int) < y27.toInt := by
                  refine tb_neg (fun k h1 h2 => ?_)
                  have hh : k = 110 ∨ k = 111 ∨ k = 112 ∨ k = 113 ∨ k = 114 ∨ k = 115 ∨ k = 116 := by omega
                  rcases hh with rfl | rfl | rfl | rfl | rfl | rfl | rfl
                  · exact c4
                  · exact c6
                  · exact c8
                  · exact c10
                  · exact c12
                  · exact c14
                  · exact c16
                refine lv_tableOut (tgt := 112) hx hb dX10_act_30 ht (by decide) ?_
                refine lv_aload_n hx hb dX10_act_112 rfl (lv_at hl 2 rfl) ?_
                refine r_get E frX10_26 hS 0 rfl rfl dX10_act_113 ?_
                refine lv_iload_n hx hb dX10_act_116 rfl (lv_at hl 1 rfl) ?_
                obtain ⟨y117, e18, h⟩ := bd_some h
                refine ct_V (ws' := fun _ => [oX10 q0 (.ref q1) u0_1 (.ref q3) u0_3 u0_4 u0_5 (.ref q9) u0_7 u0_8 u0_9 u0_10 u0_11 u0_12, oX9 q1 (.ref q2) (.int v_text_size), aC cy q2 80 v_text_signs, oX0 q3 (.ref q4) (.ref q5) (.ref q6) (.ref q7) (.ref q8) (.int v_folk_number) (.int v_folk_day) (.int v_folk_unmet), aI cy q4 7 v_folk_skill, aI cy q5 7 v_folk_pills, aI cy q6 7 v_folk_slept, aI cy q7 7 v_folk_woken, aI cy q8 7 y117.2, oX5 q9 (.ref q10) (.ref q11) (.ref q12) (.int v_inForce_size), aI cy q10 40 v_inForce_code, aI cy q11 40 v_inForce_stack, aI cy q12 7 v_inForce_thing]) (st' := [.int y117.1]) (rest := []) E hS vlX10_216 (c_X0_isRidOf (l := l) (D := D) (cy := cy) (q0 := q3) (q1 := q8) (u0_0 := .ref q4) (u0_1 := .ref q5) (u0_2 := .ref q6) (u0_3 := .ref q7) (u0_6 := .int v_folk_day) (u0_7 := .int v_folk_unmet) (v_number := v_folk_number) (v_wanted := v_folk_wanted) (p1 := y7) (r := y117) e18) [3, 8] rfl rfl (fun _ => rfl) (fun _ => rfl) rfl rfl rfl rfl (Nat.le_of_ble_eq_true rfl) hl.1 (by rw [hRf]; exact Nat.le_of_ble_eq_true rfl) (by rw [hRl]; exact Nat.le_of_ble_eq_true rfl) ⟨Nat.zero_le _, Nat.zero_le _⟩ dX10_act_117 rfl (fun H locs _ hS => ?_)
                obtain rfl := Option.some.inj h
                exact rt_i E hQ (.null) hS dX10_act_120
set_option maxHeartbeats 4000000 in
set_option maxRecDepth 100000 in
theorem c_X10_wakes {l : Launch} {D : va_G} {cy : Nat → ClassId} (q0 : Nat) (q1 : Nat) (q2 : Nat) (q3 : Nat) (q4 : Nat) (q5 : Nat) (q6 : Nat) (q7 : Nat) (q8 : Nat) (q9 : Nat) (q10 : Nat) (q11 : Nat) (u0_0 : Value) (u0_3 : Value) (u0_4 : Value) (u0_5 : Value) (u0_7 : Value) (u0_8 : Value) (u0_9 : Value) (u0_10 : Value) (u0_11 : Value) (u0_12 : Value) (u3_3 : Value) (u3_7 : Value) (v_told_size : Int32) (v_told_number : Nat → Int64) (v_folk_number : Int32) (v_folk_day : Int32) (v_folk_skill : Nat → Int32) (v_folk_pills : Nat → Int32) (v_folk_slept : Nat → Int32) (v_folk_wanted : Nat → Int32) (v_inForce_size : Int32) (v_inForce_code : Nat → Int32) (v_inForce_stack : Nat → Int32) (v_inForce_thing : Nat → Int32) (r : Int32 × Int32 × (Nat → Int64) × (Nat → Int32) × (Nat → Int32)) (h : X10_wakes v_told_number v_folk_number v_folk_day v_folk_skill v_folk_pills v_folk_slept v_folk_wanted v_inForce_size v_inForce_code v_inForce_stack v_inForce_thing = some r) : Ct l yX10_wakes cX10_wakes 2 (some .int) 4 94 D cy [.ref q0] [oX10 q0 u0_0 (.ref q1) (.ref q3) u0_3 u0_4 u0_5 (.ref q8) u0_7 u0_8 u0_9 u0_10 u0_11 u0_12, oX2 q1 (.ref q2) (.int v_told_size), aJ cy q2 16 v_told_number, oX0 q3 (.ref q4) (.ref q5) (.ref q6) u3_3 (.ref q7) (.int v_folk_number) (.int v_folk_day) u3_7, aI cy q4 7 v_folk_skill, aI cy q5 7 v_folk_pills, aI cy q6 7 v_folk_slept, aI cy q7 7 v_folk_wanted, oX5 q8 (.ref q9) (.ref q10) (.ref q11) (.int v_inForce_size), aI cy q9 40 v_inForce_code, aI cy q10 40 v_inForce_stack, aI cy q11 7 v_inForce_thing] (fun _ => [oX10 q0 u0_0 (.ref q1) (.ref q3) u0_3 u0_4 u0_5 (.ref q8) u0_7 u0_8 u0_9 u0_10 u0_11 u0_12, oX2 q1 (.ref q2) (.int r.2.1), aJ cy q2 16 r.2.2.1, oX0 q3 (.ref q4) (.ref q5) (.ref q6) u3_3 (.ref q7) (.int v_folk_number) (.int v_folk_day) u3_7, aI cy q4 7 v_folk_skill, aI cy q5 7 v_folk_pills, aI cy q6 7 v_folk_slept, aI cy q7 7 v_folk_wanted, oX5 q8 (.ref q9) (.ref q10) (.ref q11) (.int v_inForce_size), aI cy q9 40 v_inForce_code, aI cy q10 40 r.2.2.2.1, aI cy q11 7 r.2.2.2.2]) (some (.int r.1)) := by
  refine Ct.mk kX10_wakes (by decide +kernel) (Nat.le_of_ble_eq_true rfl) ?_
  intro p e s m below meth c A ls args R Q hRf hRl hQ E H locs hS hl
  have hx := E.x
  have hb := E.b
  have hl : lv_has ls 2 [(0, .ref q0)] := hl
  unfold X10_wakes at h
  refine lv_aload_n hx hb dX10_wakes_0 rfl (lv_at hl 0 rfl) ?_
  refine r_get E frX10_50 hS 0 rfl rfl dX10_wakes_1 ?_
  refine lv_aload_n hx hb dX10_wakes_4 rfl (lv_at hl 0 rfl) ?_
  refine r_get E frX10_26 hS 0 rfl rfl dX10_wakes_5 ?_
  obtain ⟨y8, e1, h⟩ := bd_some h
  refine ct_V (ws' := fun _ => [oX10 q0 u0_0 (.ref q1) (.ref q3) u0_3 u0_4 u0_5 (.ref q8) u0_7 u0_8 u0_9 u0_10 u0_11 u0_12, oX2 q1 (.ref q2) (.int v_told_size), aJ cy q2 16 v_told_number, oX0 q3 (.ref q4) (.ref q5) (.ref q6) u3_3 (.ref q7) (.int v_folk_number) (.int v_folk_day) u3_7, aI cy q4 7 v_folk_skill, aI cy q5 7 v_folk_pills, aI cy q6 7 v_folk_slept, aI cy q7 7 v_folk_wanted, oX5 q8 (.ref q9) (.ref q10) (.ref q11) (.int v_inForce_size), aI cy q9 40 v_inForce_code, aI cy q10 40 y8.2.1, aI cy q11 7 y8.2.2]) (st' := [.int y8.1]) (rest := []) E hS vlX10_234 (c_X5_wakers (l := l) (D := D) (cy := cy) (q0 := q8) (q1 := q9) (q2 := q10) (q3 := q11) (q4 := q3) (q5 := q4) (q6 := q5) (q7 := q6) (q8 := q7) (u4_3 := u3_3) (u4_7 := u3_7) (v_size := v_inForce_size) (v_code := v_inForce_code) (v_stack := v_inForce_stack) (v_thing := v_inForce_thing) (w1_number := v_folk_number) (w1_day := v_folk_day) (w1_skill := v_folk_skill) (w1_pills := v_folk_pills) (w1_slept := v_folk_slept) (w1_wanted := v_folk_wanted) (r := y8) e1) [8, 9, 10, 11, 3, 4, 5, 6, 7] rfl rfl (fun _ => rfl) (fun _ => rfl) rfl rfl rfl rfl (Nat.le_of_ble_eq_true rfl) hl.1 (by rw [hRf]; exact Nat.le_of_ble_eq_true rfl) (by rw [hRl]; exact Nat.le_of_ble_eq_true rfl) ⟨Nat.zero_le _, Nat.zero_le _⟩ dX10_wakes_8 rfl (fun H locs _ hS => ?_)
  refine lv_istore_n (lv' := [(1, .int y8.1), (0, .ref q0)]) hx hb dX10_wakes_11 rfl hl (by decide) rfl (fun ls hl => ?_)
  refine lv_aload_n hx hb dX10_wakes_12 rfl (lv_at hl 1 rfl) ?_
  refine r_get E frX10_19 hS 0 rfl rfl dX10_wakes_13 ?_
  refine lv_iload_n hx hb dX10_wakes_16 rfl (lv_at hl 0 rfl) ?_
  refine ct_S (ws' := fun _ => [oX10 q0 u0_0 (.ref q1) (.ref q3) u0_3 u0_4 u0_5 (.ref q8) u0_7 u0_8 u0_9 u0_10 u0_11 u0_12, oX2 q1 (.ref q2) (.int v_told_size), aJ cy q2 16 v_told_number, oX0 q3 (.ref q4) (.ref q5) (.ref q6) u3_3 (.ref q7) (.int v_folk_number) (.int v_folk_day) u3_7, aI cy q4 7 v_folk_skill, aI cy q5 7 v_folk_pills, aI cy q6 7 v_folk_slept, aI cy q7 7 v_folk_wanted, oX5 q8 (.ref q9) (.ref q10) (.ref q11) (.int v_inForce_size), aI cy q9 40 v_inForce_code, aI cy q10 40 y8.2.1, aI cy q11 7 y8.2.2]) (st' := [.int (J6_bitCount_0f7a4 y8.1), .ref q1]) (rest := [.ref q1]) E hS slX10_241 (c_J6_bitCount_0f7a4 (l := l) (D := D) (cy := cy) (p0 := y8.1) (r := (J6_bitCount_0f7a4 y8.1)) rfl) [] rfl rfl (fun _ => rfl) (fun _ => rfl) rfl rfl (Nat.le_of_ble_eq_true rfl) hl.1 (by rw [hRf]; exact Nat.le_of_ble_eq_true rfl) (by rw [hRl]; exact Nat.le_of_ble_eq_true rfl) ⟨Nat.zero_le _, Nat.zero_le _⟩ dX10_wakes_17 rfl (fun H locs _ hS => ?_)
  refine lv_i2l (v := ((J6_bitCount_0f7a4 y8.1).toInt64)) hx hb dX10_wakes_20 rfl ?_
  refine lv_aload_n hx hb dX10_wakes_21 rfl (lv_at hl 1 rfl) ?_
  refine r_get E frX10_26 hS 0 rfl rfl dX10_wakes_22 ?_
  refine lv_iload_n hx hb dX10_wakes_25 rfl (lv_at hl 0 rfl) ?_
  obtain ⟨y26, e2, h⟩ := bd_some h
  refine ct_V (ws' := fun _ => [oX10 q0 u0_0 (.ref q1) (.ref q3) u0_3 u0_4 u0_5 (.ref q8) u0_7 u0_8 u0_9 u0_10 u0_11 u0_12, oX2 q1 (.ref q2) (.int v_told_size), aJ cy q2 16 v_told_number, oX0 q3 (.ref q4) (.ref q5) (.ref q6) u3_3 (.ref q7) (.int v_folk_number) (.int v_folk_day) u3_7, aI cy q4 7 v_folk_skill, aI cy q5 7 v_folk_pills, aI cy q6 7 v_folk_slept, aI cy q7 7 v_folk_wanted, oX5 q8 (.ref q9) (.ref q10) (.ref q11) (.int v_inForce_size), aI cy q9 40 v_inForce_code, aI cy q10 40 y8.2.1, aI cy q11 7 y8.2.2]) (st' := [.int y26, .long ((J6_bitCount_0f7a4 y8.1).toInt64), .ref q1]) (rest := [.long ((J6_bitCount_0f7a4 y8.1).toInt64), .ref q1]) E hS vlX10_246 (c_X0_unserved (l := l) (D := D) (cy := cy) (q0 := q3) (q1 := q7) (u0_0 := .ref q4) (u0_1 := .ref q5) (u0_2 := .ref q6) (u0_3 := u3_3) (u0_6 := .int v_folk_day) (u0_7 := u3_7) (v_number := v_folk_number) (v_wanted := v_folk_wanted) (p1 := y8.1) (r := y26) e2) [3, 7] rfl rfl (fun _ => rfl) (fun _ => rfl) rfl rfl rfl rfl (Nat.le_of_ble_eq_true rfl) hl.1 (by rw [hRf]; exact Nat.le_of_ble_eq_true rfl) (by rw [hRl]; exact Nat.le_of_ble_eq_true rfl) ⟨Nat.zero_le _, Nat.zero_le _⟩ dX10_wakes_26 rfl (fun H locs _ hS => ?_)
  refine lv_i2l (v := (y26.toInt64)) hx hb dX10_wakes_29 rfl ?_
  obtain ⟨y30, e3, h⟩ := bd_some h
  refine ct_V (ws' := fun _ => [oX10 q0 u0_0 (.ref q1) (.ref q3) u0_3 u0_4 u0_5 (.ref q8) u0_7 u0_8 u0_9 u0_10 u0_11 u0_12, oX2 q1 (.ref q2) (.int y30.1), aJ cy q2 16 y30.2, oX0 q3 (.ref q4) (.ref q5) (.ref q6) u3_3 (.ref q7) (.int v_folk_number) (.int v_folk_day) u3_7, aI cy q4 7 v_folk_skill, aI cy q5 7 v_folk_pills, aI cy q6 7 v_folk_slept, aI cy q7 7 v_folk_wanted, oX5 q8 (.ref q9) (.ref q10) (.ref q11) (.int v_inForce_size), aI cy q9 40 v_inForce_code, aI cy q10 40 y8.2.1, aI cy q11 7 y8.2.2]) (st' := []) (rest := []) E hS vlX10_199 (c_X2_tellsBoth (l := l) (D := D) (cy := cy) (q0 := q1) (q1 := q2) (v_size := v_told_size) (v_number := v_told_number) (p1 := ((J6_bitCount_0f7a4 y8.1).toInt64)) (p3 := (y26.toInt64)) (r := y30) e3) [1, 2] rfl rfl (fun _ => rfl) (fun _ => rfl) rfl rfl rfl rfl (Nat.le_of_ble_eq_true rfl) hl.1 (by rw [hRf]; exact Nat.le_of_ble_eq_true rfl) (by rw [hRl]; exact Nat.le_of_ble_eq_true rfl) ⟨Nat.zero_le _, Nat.zero_le _⟩ dX10_wakes_30 rfl (fun H locs _ hS => ?_)
  refine lv_iload_n hx hb dX10_wakes_33 rfl (lv_at hl 0 rfl) ?_
  obtain rfl := Option.some.inj h
  exact rt_i E hQ (.null) hS dX10_wakes_34
set_option maxHeartbeats 4000000 in
set_option maxRecDepth 100000 in
theorem c_X10_later {l : Launch} {D : va_G} {cy : Nat → ClassId} (q0 : Nat) (q1 : Nat) (q2 : Nat) (q3 : Nat) (q4 : Nat) (q5 : Nat) (q6 : Nat) (q7 : Nat) (q8 : Nat) (q9 : Nat) (q10 : Nat) (q11 : Nat) (q12 : Nat) (q13 : Nat) (q14 : Nat) (q15 : Nat) (q16 : Nat) (q17 : Nat) (q18 : Nat) (u0_0 : Value) (u0_4 : Value) (u0_5 : Value) (u0_7 : Value) (u0_8 : Value) (u0_9 : Value) (u0_10 : Value) (u0_11 : Value) (u0_12 : Value) (v_told_size : Int32) (v_told_number : Nat → Int64) (v_folk_number : Int32) (v_folk_day : Int32) (v_folk_unmet : Int32) (v_folk_skill : Nat → Int32) (v_folk_pills : Nat → Int32) (v_folk_slept : Nat → Int32) (v_folk_woken : Nat → Int32) (v_folk_wanted : Nat → Int32) (v_trial_number : Int32) (v_trial_day : Int32) (v_trial_unmet : Int32) (v_trial_skill : Nat → Int32) (v_trial_pills : Nat → Int32) (v_trial_slept : Nat → Int32) (v_trial_woken : Nat → Int32) (v_trial_wanted : Nat → Int32) (v_inForce_size : Int32) (v_inForce_code : Nat → Int32) (v_inForce_stack : Nat → Int32) (v_inForce_thing : Nat → Int32) (p1 : Int32) (p2 : Int32) (r : Int32 × Int32 × (Nat → Int64) × Int32 × Int32 × Int32 × (Nat → Int32) × (Nat → Int32) × (Nat → Int32) × (Nat → Int32) × (Nat → Int32) × (Nat → Int32) × (Nat → Int32)) (h : X10_later v_told_size v_told_number v_folk_number v_folk_day v_folk_unmet v_folk_skill v_folk_pills v_folk_slept v_folk_woken v_folk_wanted v_trial_number v_trial_day v_trial_unmet v_trial_skill v_trial_pills v_trial_slept v_trial_woken v_trial_wanted v_inForce_size v_inForce_code v_inForce_stack v_inForce_thing p1 p2 = some r) : Ct l yX10_later cX10_later 5 (some .int) 5 118 D cy [.ref q0, .int p1, .int p2] [oX10 q0 u0_0 (.ref q1) (.ref q3) (.ref q9) u0_4 u0_5 (.ref q15) u0_7 u0_8 u0_9 u0_10 u0_11 u0_12, oX2 q1 (.ref q2) (.int v_told_size), aJ cy q2 16 v_told_number, oX0 q3 (.ref q4) (.ref q5) (.ref q6) (.ref q7) (.ref q8) (.int v_folk_number) (.int v_folk_day) (.int v_folk_unmet), aI cy q4 7 v_folk_skill, aI cy q5 7 v_folk_pills, aI cy q6 7 v_folk_slept, aI cy q7 7 v_folk_woken, aI cy q8 7 v_folk_wanted, oX0 q9 (.ref q10) (.ref q11) (.ref q12) (.ref q13) (.ref q14) (.int v_trial_number) (.int v_trial_day) (.int v_trial_unmet), aI cy q10 7 v_trial_skill, aI cy q11 7 v_trial_pills, aI cy q12 7 v_trial_slept, aI cy q13 7 v_trial_woken, aI cy q14 7 v_trial_wanted, oX5 q15 (.ref q16) (.ref q17) (.ref q18) (.int v_inForce_size), aI cy q16 40 v_inForce_code, aI cy q17 40 v_inForce_stack, aI cy q18 7 v_inForce_thing] (fun _ => [oX10 q0 u0_0 (.ref q1) (.ref q3) (.ref q9) u0_4 u0_5 (.ref q15) u0_7 u0_8 u0_9 u0_10 u0_11 u0_12, oX2 q1 (.ref q2) (.int r.2.1), aJ cy q2 16 r.2.2.1, oX0 q3 (.ref q4) (.ref q5) (.ref q6) (.ref q7) (.ref q8) (.int v_folk_number) (.int v_folk_day) (.int v_folk_unmet), aI cy q4 7 v_folk_skill, aI cy q5 7 v_folk_pills, aI cy q6 7 v_folk_slept, aI cy q7 7 v_folk_woken, aI cy q8 7 v_folk_wanted, oX0 q9 (.ref q10) (.ref q11) (.ref q12) (.ref q13) (.ref q14) (.int r.2.2.2.1) (.int r.2.2.2.2.1) (.int r.2.2.2.2.2.1), aI cy q10 7 r.2.2.2.2.2.2.1, aI cy q11 7 r.2.2.2.2.2.2.2.1, aI cy q12 7 r.2.2.2.2.2.2.2.2.1, aI cy q13 7 r.2.2.2.2.2.2.2.2.2.1, aI cy q14 7 r.2.2.2.2.2.2.2.2.2.2.1, oX5 q15 (.ref q16) (.ref q17) (.ref q18) (.int v_inForce_size), aI cy q16 40 v_inForce_code, aI cy q17 40 r.2.2.2.2.2.2.2.2.2.2.2.1, aI cy q18 7 r.2.2.2.2.2.2.2.2.2.2.2.2]) (some (.int r.1)) := by
  refine Ct.mk kX10_later (by decide +kernel) (Nat.le_of_ble_eq_true rfl) ?_
  intro p e s m below meth c A ls args R Q hRf hRl hQ E H locs hS hl
  have hx := E.x
  have hb := E.b
  have hl : lv_has ls 5 [(0, .ref q0), (1, .int p1), (2, .int p2)] := hl
  unfold X10_later at h
  refine lv_aload_n hx hb dX10_later_0 rfl (lv_at hl 0 rfl) ?_
  refine r_get E frX10_26 hS 0 rfl rfl dX10_later_1 ?_
  refine lv_iload_n hx hb dX10_later_4 rfl (lv_at hl 1 rfl) ?_
  refine ct_V (ws' := fun _ => [oX10 q0 u0_0 (.ref q1) (.ref q3) (.ref q9) u0_4 u0_5 (.ref q15) u0_7 u0_8 u0_9 u0_10 u0_11 u0_12, oX2 q1 (.ref q2) (.int v_told_size), aJ cy q2 16 v_told_number, oX0 q3 (.ref q4) (.ref q5) (.ref q6) (.ref q7) (.ref q8) (.int v_folk_number) (.int v_folk_day) (.int v_folk_unmet), aI cy q4 7 v_folk_skill, aI cy q5 7 v_folk_pills, aI cy q6 7 v_folk_slept, aI cy q7 7 v_folk_woken, aI cy q8 7 v_folk_wanted, oX0 q9 (.ref q10) (.ref q11) (.ref q12) (.ref q13) (.ref q14) (.int v_trial_number) (.int v_trial_day) (.int v_trial_unmet), aI cy q10 7 v_trial_skill, aI cy q11 7 v_trial_pills, aI cy q12 7 v_trial_slept, aI cy q13 7 v_trial_woken, aI cy q14 7 v_trial_wanted, oX5 q15 (.ref q16) (.ref q17) (.ref q18) (.int v_inForce_size), aI cy q16 40 v_inForce_code, aI cy q17 40 v_inForce_stack, aI cy q18 7 v_inForce_thing]) (st' := [.int (X0_has v_folk_number p1)]) (rest := []) E hS vlX10_148 (c_X0_has (l := l) (D := D) (cy := cy) (q0 := q3) (u0_0 := .ref q4) (u0_1 := .ref q5) (u0_2 := .ref q6) (u0_3 := .ref q7) (u0_4 := .ref q8) (u0_6 := .int v_folk_day) (u0_7 := .int v_folk_unmet) (v_number := v_folk_number) (p1 := p1) (r := (X0_has v_folk_number p1)) rfl) [3] rfl rfl (fun _ => rfl) (fun _ => rfl) rfl rfl rfl rfl (Nat.le_of_ble_eq_true rfl) hl.1 (by rw [hRf]; exact Nat.le_of_ble_eq_true rfl) (by rw [hRl]; exact Nat.le_of_ble_eq_true rfl) ⟨Nat.zero_le _, Nat.zero_le _⟩ dX10_later_5 rfl (fun H locs _ hS => ?_)
  refine lv_if_eq (tgt := 21) hx hb dX10_later_8 (by decide) (fun c1 => ?_) (fun c1 => ?_)
  · have h := it_pos c1 h
    refine lv_iconst (v := -1) hx hb dX10_later_21 (by decide) ?_
    obtain rfl := Option.some.inj h
    exact rt_i E hQ (.null) hS dX10_later_22
  · have h := it_neg c1 h
    refine lv_iload_n hx hb dX10_later_11 rfl (lv_at hl 2 rfl) ?_
    refine lv_if_lt (tgt := 21) hx hb dX10_later_12 (by decide) (fun c2 => ?_) (fun c2 => ?_)
    · have h := it_pos c2 h
      refine lv_iconst (v := -1) hx hb dX10_later_21 (by decide) ?_
      obtain rfl := Option.some.inj h
      exact rt_i E hQ (.null) hS dX10_later_22
    · have h := it_neg c2 h
      refine lv_iload_n hx hb dX10_later_15 rfl (lv_at hl 2 rfl) ?_
      refine lv_bipush (v := 99) hx hb dX10_later_16 (by decide) ?_
      refine lv_icmp_le (tgt := 23) hx hb dX10_later_18 (by decide) (fun c3 => ?_) (fun c3 => ?_)
      · have h := it_pos c3 h
        refine lv_aload_n hx hb dX10_later_23 rfl (lv_at hl 0 rfl) ?_
        refine r_get E frX10_30 hS 0 rfl rfl dX10_later_24 ?_
        refine lv_aload_n hx hb dX10_later_27 rfl (lv_at hl 0 rfl) ?_
        refine r_get E frX10_26 hS 0 rfl rfl dX10_later_28 ?_
        obtain ⟨y31, e4, h⟩ := bd_some h
        refine ct_V (ws' := fun _ => [oX10 q0 u0_0 (.ref q1) (.ref q3) (.ref q9) u0_4 u0_5 (.ref q15) u0_7 u0_8 u0_9 u0_10 u0_11 u0_12, oX2 q1 (.ref q2) (.int v_told_size), aJ cy q2 16 v_told_number, oX0 q3 (.ref q4) (.ref q5) (.ref q6) (.ref q7) (.ref q8) (.int v_folk_number) (.int v_folk_day) (.int v_folk_unmet), aI cy q4 7 v_folk_skill, aI cy q5 7 v_folk_pills, aI cy q6 7 v_folk_slept, aI cy q7 7 v_folk_woken, aI cy q8 7 v_folk_wanted, oX0 q9 (.ref q10) (.ref q11) (.ref q12) (.ref q13) (.ref q14) (.int y31.1) (.int y31.2.1) (.int y31.2.2.1), aI cy q10 7 y31.2.2.2.1, aI cy q11 7 y31.2.2.2.2.1, aI cy q12 7 y31.2.2.2.2.2.1, aI cy q13 7 y31.2.2.2.2.2.2.1, aI cy q14 7 y31.2.2.2.2.2.2.2, oX5 q15 (.ref q16) (.ref q17) (.ref q18) (.int v_inForce_size), aI cy q16 40 v_inForce_code, aI cy q17 40 v_inForce_stack, aI cy q18 7 v_inForce_thing]) (st' := []) (rest := []) E hS vlX10_249 (c_X0_becomes (l := l) (D := D) (cy := cy) (q0 := q9) (q1 := q10) (q2 := q11) (q3 := q12) (q4 := q13) (q5 := q14) (q6 := q3) (q7 := q4) (q8 := q5) (q9 := q6) (q10 := q7) (q11 := q8) (v_number := v_trial_number) (v_day := v_trial_day) (v_unmet := v_trial_unmet) (v_skill := v_trial_skill) (v_pills := v_trial_pills) (v_slept := v_trial_slept) (v_woken := v_trial_woken) (v_wanted := v_trial_wanted) (w1_number := v_folk_number) (w1_day := v_folk_day) (w1_unmet := v_folk_unmet) (w1_skill := v_folk_skill) (w1_pills := v_folk_pills) (w1_slept := v_folk_slept) (w1_woken := v_folk_woken) (w1_wanted := v_folk_wanted) (r := y31) e4) [9, 10, 11, 12, 13, 14, 3, 4, 5, 6, 7, 8] rfl rfl (fun _ => rfl) (fun _ => rfl) rfl rfl rfl rfl (Nat.le_of_ble_eq_true rfl) hl.1 (by rw [hRf]; exact Nat.le_of_ble_eq_true rfl) (by rw [hRl]; exact Nat.le_of_ble_eq_true rfl) ⟨Nat.zero_le _, Nat.zero_le _⟩ dX10_later_31 rfl (fun H locs _ hS => ?_)
        refine lv_iconst (v := 0) hx hb dX10_later_34 (by decide) ?_
        refine lv_istore_n (lv' := [(3, .int (0 : Int32)), (0, .ref q0), (1, .int p1), (2, .int p2)]) hx hb dX10_later_35 rfl hl (by decide) rfl (fun ls hl => ?_)
        refine lv_iconst (v := 0) hx hb dX10_later_36 (by decide) ?_
        refine lv_istore (lv' := [(4, .int (0 : Int32)), (3, .int (0 : Int32)), (0, .ref q0), (1, .int p1), (2, .int p2)]) hx hb dX10_later_37 hl (by decide) rfl (fun ls hl => ?_)
        have hL39 : ∀ (n : Nat) (x39_0 : Int32) (x39_1 : Int32) (x39_2 : Int32) (x39_3 : Int32) (x39_4 : Nat → Int32) (x39_5 : Nat → Int32) (x39_6 : Nat → Int32) (x39_7 : Nat → Int32) (x39_8 : Nat → Int32) (y39 : Int32 × Int32 × Int32 × (Nat → Int32) × (Nat → Int32) × (Nat → Int32) × (Nat → Int32) × (Nat → Int32)) (H : Heap) (locs : List Loc) (ls : Array Slot), lp (fun x39 => X10_later_s39 v_inForce_size v_inForce_code p1 p2 y31 x39.1 x39.2.1 x39.2.2.1 x39.2.2.2.1 x39.2.2.2.2.1 x39.2.2.2.2.2.1 x39.2.2.2.2.2.2.1 x39.2.2.2.2.2.2.2.1 x39.2.2.2.2.2.2.2.2) n (x39_0, x39_1, x39_2, x39_3, x39_4, x39_5, x39_6, x39_7, x39_8) = some y39 → Sv D A s.heap [oX10 q0 u0_0 (.ref q1) (.ref q3) (.ref q9) u0_4 u0_5 (.ref q15) u0_7 u0_8 u0_9 u0_10 u0_11 u0_12, oX2 q1 (.ref q2) (.int v_told_size), aJ cy q2 16 v_told_number, oX0 q3 (.ref q4) (.ref q5) (.ref q6) (.ref q7) (.ref q8) (.int v_folk_number) (.int v_folk_day) (.int v_folk_unmet), aI cy q4 7 v_folk_skill, aI cy q5 7 v_folk_pills, aI cy q6 7 v_folk_slept, aI cy q7 7 v_folk_woken, aI cy q8 7 v_folk_wanted, oX0 q9 (.ref q10) (.ref q11) (.ref q12) (.ref q13) (.ref q14) (.int y31.1) (.int x39_2) (.int x39_3), aI cy q10 7 y31.2.2.2.1, aI cy q11 7 x39_4, aI cy q12 7 x39_5, aI cy q13 7 x39_6, aI cy q14 7 y31.2.2.2.2.2.2.2, oX5 q15 (.ref q16) (.ref q17) (.ref q18) (.int v_inForce_size), aI cy q16 40 v_inForce_code, aI cy q17 40 x39_7, aI cy q18 7 x39_8] H locs → lv_has ls 5 [(0, .ref q0), (1, .int p1), (2, .int p2), (3, .int x39_0), (4, .int x39_1)] → ( ∀ (y39_0 : Int32) (y39_1 : Int32) (y39_2 : Int32) (y39_3 : Nat → Int32) (y39_4 : Nat → Int32) (y39_5 : Nat → Int32) (y39_6 : Nat → Int32) (y39_7 : Nat → Int32), (y39_0, y39_1, y39_2, y39_3, y39_4, y39_5, y39_6, y39_7) = y39 → ∀ (H : Heap) (locs : List Loc) (ls : Array Slot), Sv D A s.heap [oX10 q0 u0_0 (.ref q1) (.ref q3) (.ref q9) u0_4 u0_5 (.ref q15) u0_7 u0_8 u0_9 u0_10 u0_11 u0_12, oX2 q1 (.ref q2) (.int v_told_size), aJ cy q2 16 v_told_number, oX0 q3 (.ref q4) (.ref q5) (.ref q6) (.ref q7) (.ref q8) (.int v_folk_number) (.int v_folk_day) (.int v_folk_unmet), aI cy q4 7 v_folk_skill, aI cy q5 7 v_folk_pills, aI cy q6 7 v_folk_slept, aI cy q7 7 v_folk_woken, aI cy q8 7 v_folk_wanted, oX0 q9 (.ref q10) (.ref q11) (.ref q12) (.ref q13) (.ref q14) (.int y31.1) (.int y39_1) (.int y39_2), aI cy q10 7 y31.2.2.2.1, aI cy q11 7 y39_3, aI cy q12 7 y39_4, aI cy q13 7 y39_5, aI cy q14 7 y31.2.2.2.2.2.2.2, oX5 q15 (.ref q16) (.ref q17) (.ref q18) (.int v_inForce_size), aI cy q16 40 v_inForce_code, aI cy q17 40 y39_6, aI cy q18 7 y39_7] H locs → lv_has ls 5 [(0, .ref q0), (1, .int p1), (3, .int y39_0)] → W p l e R s m args below meth c H locs 0 0 Q (F0 m 67 ls [])) → W p l e R s m args below meth c H locs 0 0 Q (F0 m 39 ls []) := by
          intro n
          induction n with
          | zero =>
            intro x39_0 x39_1 x39_2 x39_3 x39_4 x39_5 x39_6 x39_7 x39_8 y39 H locs ls h
            exact lp_zero h
          | succ n ih39 =>
            intro x39_0 x39_1 x39_2 x39_3 x39_4 x39_5 x39_6 x39_7 x39_8 y39 H locs ls h hS hl hk39_0
            obtain ⟨z39, h, hz39a, hz39b⟩ := lp_succ h
            have h : X10_later_s39 v_inForce_size v_inForce_code p1 p2 y31 x39_0 x39_1 x39_2 x39_3 x39_4 x39_5 x39_6 x39_7 x39_8 = some z39 := h
            unfold X10_later_s39 at h
            refine lv_iload hx hb dX10_later_39 (lv_at hl 4 rfl) ?_
            refine lv_iload_n hx hb dX10_later_41 rfl (lv_at hl 2 rfl) ?_
            refine lv_icmp_ge (tgt := 67) hx hb dX10_later_42 (by decide) (fun c5 => ?_) (fun c5 => ?_)
            · have h := it_pos c5 h
              exact hk39_0 x39_0 x39_2 x39_3 x39_4 x39_5 x39_6 x39_7 x39_8 (hz39b _ (Option.some.inj h).symm)  H locs ls hS (lv_sub hl [0, 1, 3] rfl)
            · have h := it_neg c5 h
              refine lv_iload_n hx hb dX10_later_45 rfl (lv_at hl 3 rfl) ?_
              refine lv_aload_n hx hb dX10_later_46 rfl (lv_at hl 0 rfl) ?_
              refine lv_aload_n hx hb dX10_later_47 rfl (lv_at hl 0 rfl) ?_
              refine r_get E frX10_30 hS 0 rfl rfl dX10_later_48 ?_
              refine lv_iconst (v := 1) hx hb dX10_later_51 (by decide) ?_
              obtain ⟨y52, e6, h⟩ := bd_some h
              refine ct_V (ws' := fun _ => [oX10 q0 u0_0 (.ref q1) (.ref q3) (.ref q9) u0_4 u0_5 (.ref q15) u0_7 u0_8 u0_9 u0_10 u0_11 u0_12, oX2 q1 (.ref q2) (.int v_told_size), aJ cy q2 16 v_told_number, oX0 q3 (.ref q4) (.ref q5) (.ref q6) (.ref q7) (.ref q8) (.int v_folk_number) (.int v_folk_day) (.int v_folk_unmet), aI cy q4 7 v_folk_skill, aI cy q5 7 v_folk_pills, aI cy q6 7 v_folk_slept, aI cy q7 7 v_folk_woken, aI cy q8 7 v_folk_wanted, oX0 q9 (.ref q10) (.ref q11) (.ref q12) (.ref q13) (.ref q14) (.int y31.1) (.int y52.2.2.2.1) (.int y52.2.2.2.2.1), aI cy q10 7 y31.2.2.2.1, aI cy q11 7 y52.2.2.2.2.2.1, aI cy q12 7 y52.2.2.2.2.2.2.1, aI cy q13 7 y52.2.2.2.2.2.2.2, aI cy q14 7 y31.2.2.2.2.2.2.2, oX5 q15 (.ref q16) (.ref q17) (.ref q18) (.int v_inForce_size), aI cy q16 40 v_inForce_code, aI cy q17 40 y52.2.1, aI cy q18 7 y52.2.2.1]) (st' := [.int y52.1, .int x39_0]) (rest := [.int x39_0]) E hS vlX10_192 (c_X10_goBy (l := l) (D := D) (cy := cy) (q0 := q0) (q1 := q15) (q2 := q16) (q3 := q17) (q4 := q18) (q5 := q9) (q6 := q10) (q7 := q11) (q8 := q12) (q9 := q13) (q10 := q14) (u0_0 := u0_0) (u0_1 := .ref q1) (u0_2 := .ref q3) (u0_3 := .ref q9) (u0_4 := u0_4) (u0_5 := u0_5) (u0_7 := u0_7) (u0_8 := u0_8) (u0_9 := u0_9) (u0_10 := u0_10) (u0_11 := u0_11) (u0_12 := u0_12) (v_inForce_size := v_inForce_size) (v_inForce_code := v_inForce_code) (v_inForce_stack := x39_7) (v_inForce_thing := x39_8) (w1_number := y31.1) (w1_day := x39_2) (w1_unmet := x39_3) (w1_skill := y31.2.2.2.1) (w1_pills := x39_4) (w1_slept := x39_5) (w1_woken := x39_6) (w1_wanted := y31.2.2.2.2.2.2.2) (p2 := (1 : Int32)) (r := y52) e6) [0, 15, 16, 17, 18, 9, 10, 11, 12, 13, 14] rfl rfl (fun _ => rfl) (fun _ => rfl) rfl rfl rfl rfl (Nat.le_of_ble_eq_true rfl) hl.1 (by rw [hRf]; exact Nat.le_of_ble_eq_true rfl) (by rw [hRl]; exact Nat.le_of_ble_eq_true rfl) ⟨Nat.zero_le _, Nat.zero_le _⟩ dX10_later_52 rfl (fun H locs _ hS => ?_)
              refine lv_iload_n hx hb dX10_later_55 rfl (lv_at hl 1 rfl) ?_
              refine lv_ishr hx hb dX10_later_56 ?_
              refine lv_iconst (v := 1) hx hb dX10_later_57 (by decide) ?_
              refine lv_iand hx hb dX10_later_58 ?_
              refine lv_iadd hx hb dX10_later_59 ?_
              refine lv_istore_n (lv' := [(3, .int (x39_0 + ((y52.1 >>> (p1 &&& 31)) &&& (1 : Int32)))), (0, .ref q0), (1, .int p1), (2, .int p2), (4, .int x39_1)]) hx hb dX10_later_60 rfl hl (by decide) rfl (fun ls hl => ?_)
              refine lv_iinc (v := (x39_1 + (1 : Int32))) (lv' := [(4, .int (x39_1 + (1 : Int32))), (3, .int (x39_0 + ((y52.1 >>> (p1 &&& 31)) &&& (1 : Int32)))), (0, .ref q0), (1, .int p1), (2, .int p2)]) hx hb dX10_later_61 hl (k := 4) rfl rfl (by decide) rfl (fun ls hl => ?_)
              refine lv_goto (tgt := 39) hx hb dX10_later_64 (by decide) ?_
              exact ih39 (x39_0 + ((y52.1 >>> (p1 &&& 31)) &&& (1 : Int32))) (x39_1 + (1 : Int32)) y52.2.2.2.1 y52.2.2.2.2.1 y52.2.2.2.2.2.1 y52.2.2.2.2.2.2.1 y52.2.2.2.2.2.2.2 y52.2.1 y52.2.2.1 y39  H locs ls (hz39a _ (Option.some.inj h).symm) hS (lv_sub hl [2, 3, 4, 1, 0] rfl) hk39_0
        obtain ⟨y39, e39, h⟩ := bd_some h
        refine hL39 1000 (0 : Int32) (0 : Int32) y31.2.1 y31.2.2.1 y31.2.2.2.2.1 y31.2.2.2.2.2.1 y31.2.2.2.2.2.2.1 v_inForce_stack v_inForce_thing y39  H locs ls e39 hS (lv_sub hl [2, 3, 4, 1, 0] rfl) (fun y39_0 y39_1 y39_2 y39_3 y39_4 y39_5 y39_6 y39_7 ey39 H locs ls hS hl => ?_)
        subst ey39
        have h := un_r h
        have h := un_r h
        have h := un_r h
        have h := un_r h
        have h := un_r h
        have h := un_r h
        have h := un_r h
        refine lv_aload_n hx hb dX10_later_67 rfl (lv_at hl 0 rfl) ?_
        refine r_get E frX10_19 hS 0 rfl rfl dX10_later_68 ?_
        refine lv_iload_n hx hb dX10_later_71 rfl (lv_at hl 2 rfl) ?_
        refine lv_i2l (v := (y39_0.toInt64)) hx hb dX10_later_72 rfl ?_
        refine lv_aload_n hx hb dX10_later_73 rfl (lv_at hl 0 rfl) ?_
        refine r_get E frX10_50 hS 0 rfl rfl dX10_later_74 ?_
        refine lv_aload_n hx hb dX10_later_77 rfl (lv_at hl 0 rfl) ?_
        refine r_get E frX10_30 hS 0 rfl rfl dX10_later_78 ?_
        obtain ⟨y81, e7, h⟩ := bd_some h
        refine ct_V (ws' := fun _ => [oX10 q0 u0_0 (.ref q1) (.ref q3) (.ref q9) u0_4 u0_5 (.ref q15) u0_7 u0_8 u0_9 u0_10 u0_11 u0_12, oX2 q1 (.ref q2) (.int v_told_size), aJ cy q2 16 v_told_number, oX0 q3 (.ref q4) (.ref q5) (.ref q6) (.ref q7) (.ref q8) (.int v_folk_number) (.int v_folk_day) (.int v_folk_unmet), aI cy q4 7 v_folk_skill, aI cy q5 7 v_folk_pills, aI cy q6 7 v_folk_slept, aI cy q7 7 v_folk_woken, aI cy q8 7 v_folk_wanted, oX0 q9 (.ref q10) (.ref q11) (.ref q12) (.ref q13) (.ref q14) (.int y31.1) (.int y39_1) (.int y39_2), aI cy q10 7 y31.2.2.2.1, aI cy q11 7 y39_3, aI cy q12 7 y39_4, aI cy q13 7 y39_5, aI cy q14 7 y31.2.2.2.2.2.2.2, oX5 q15 (.ref q16) (.ref q17) (.ref q18) (.int v_inForce_size), aI cy q16 40 v_inForce_code, aI cy q17 40 y81.2.1, aI cy q18 7 y81.2.2]) (st' := [.int y81.1, .long (y39_0.toInt64), .ref q1]) (rest := [.long (y39_0.toInt64), .ref q1]) E hS vlX10_234 (c_X5_wakers (l := l) (D := D) (cy := cy) (q0 := q15) (q1 := q16) (q2 := q17) (q3 := q18) (q4 := q9) (q5 := q10) (q6 := q11) (q7 := q12) (q8 := q14) (u4_3 := .ref q13) (u4_7 := .int y39_2) (v_size := v_inForce_size) (v_code := v_inForce_code) (v_stack := y39_6) (v_thing := y39_7) (w1_number := y31.1) (w1_day := y39_1) (w1_skill := y31.2.2.2.1) (w1_pills := y39_3) (w1_slept := y39_4) (w1_wanted := y31.2.2.2.2.2.2.2) (r := y81) e7) [15, 16, 17, 18, 9, 10, 11, 12, 14] rfl rfl (fun _ => rfl) (fun _ => rfl) rfl rfl rfl rfl (Nat.le_of_ble_eq_true rfl) hl.1 (by rw [hRf]; exact Nat.le_of_ble_eq_true rfl) (by rw [hRl]; exact Nat.le_of_ble_eq_true rfl) ⟨Nat.zero_le _, Nat.zero_le _⟩ dX10_later_81 rfl (fun H locs _ hS => ?_)
        refine lv_i2l (v := (y81.1.toInt64)) hx hb dX10_later_84 rfl ?_
        obtain ⟨y85, e8, h⟩ := bd_some h
        refine ct_V (ws' := fun _ => [oX10 q0 u0_0 (.ref q1) (.ref q3) (.ref q9) u0_4 u0_5 (.ref q15) u0_7 u0_8 u0_9 u0_10 u0_11 u0_12, oX2 q1 (.ref q2) (.int y85.1), aJ cy q2 16 y85.2, oX0 q3 (.ref q4) (.ref q5) (.ref q6) (.ref q7) (.ref q8) (.int v_folk_number) (.int v_folk_day) (.int v_folk_unmet), aI cy q4 7 v_folk_skill, aI cy q5 7 v_folk_pills, aI cy q6 7 v_folk_slept, aI cy q7 7 v_folk_woken, aI cy q8 7 v_folk_wanted, oX0 q9 (.ref q10) (.ref q11) (.ref q12) (.ref q13) (.ref q14) (.int y31.1) (.int y39_1) (.int y39_2), aI cy q10 7 y31.2.2.2.1, aI cy q11 7 y39_3, aI cy q12 7 y39_4, aI cy q13 7 y39_5, aI cy q14 7 y31.2.2.2.2.2.2.2, oX5 q15 (.ref q16) (.ref q17) (.ref q18) (.int v_inForce_size), aI cy q16 40 v_inForce_code, aI cy q17 40 y81.2.1, aI cy q18 7 y81.2.2]) (st' := []) (rest := []) E hS vlX10_199 (c_X2_tellsBoth (l := l) (D := D) (cy := cy) (q0 := q1) (q1 := q2) (v_size := v_told_size) (v_number := v_told_number) (p1 := (y39_0.toInt64)) (p3 := (y81.1.toInt64)) (r := y85) e8) [1, 2] rfl rfl (fun _ => rfl) (fun _ => rfl) rfl rfl rfl rfl (Nat.le_of_ble_eq_true rfl) hl.1 (by rw [hRf]; exact Nat.le_of_ble_eq_true rfl) (by rw [hRl]; exact Nat.le_of_ble_eq_true rfl) ⟨Nat.zero_le _, Nat.zero_le _⟩ dX10_later_85 rfl (fun H locs _ hS => ?_)
        refine lv_aload_n hx hb dX10_later_88 rfl (lv_at hl 0 rfl) ?_
        refine r_get E frX10_30 hS 0 rfl rfl dX10_later_89 ?_
        refine r_get E frX10_161 hS 9 rfl rfl dX10_later_92 ?_
        refine lv_iload_n hx hb dX10_later_95 rfl (lv_at hl 1 rfl) ?_
        obtain ⟨g9, h⟩ := gi_some h
        refine r_iald E hS 12 rfl g9 dX10_later_96 ?_
        obtain rfl := Option.some.inj h
        exact rt_i E hQ (.null) hS dX10_later_97
      · have h := it_neg c3 h
        refine lv_iconst (v := -1) hx hb dX10_later_21 (by decide) ?_
        obtain rfl := Option.some.inj h
        exact rt_i E hQ (.null) hS dX10_later_22
set_option maxHeartbeats 4000000 in
set_option maxRecDepth 100000 in
theorem c_X10_tellsMornings {l : Launch} {D : va_G} {cy : Nat → ClassId} (q0 : Nat) (q1 : Nat) (q2 : Nat) (q3 : Nat) (q4 : Nat) (q5 : Nat) (q6 : Nat) (q7 : Nat) (q8 : Nat) (q9 : Nat) (q10 : Nat) (q11 : Nat) (q12 : Nat) (q13 : Nat) (q14 : Nat) (q15 : Nat) (q16 : Nat) (q17 : Nat) (q18 : Nat) (u0_0 : Value) (u0_4 : Value) (u0_5 : Value) (u0_7 : Value) (u0_8 : Value) (u0_9 : Value) (u0_10 : Value) (u0_11 : Value) (u0_12 : Value) (v_told_size : Int32) (v_told_number : Nat → Int64) (v_folk_number : Int32) (v_folk_day : Int32) (v_folk_unmet : Int32) (v_folk_skill : Nat → Int32) (v_folk_pills : Nat → Int32) (v_folk_slept : Nat → Int32) (v_folk_woken : Nat → Int32) (v_folk_wanted : Nat → Int32) (v_trial_number : Int32) (v_trial_day : Int32) (v_trial_unmet : Int32) (v_trial_skill : Nat → Int32) (v_trial_pills : Nat → Int32) (v_trial_slept : Nat → Int32) (v_trial_woken : Nat → Int32) (v_trial_wanted : Nat → Int32) (v_inForce_size : Int32) (v_inForce_code : Nat → Int32) (v_inForce_stack : Nat → Int32) (v_inForce_thing : Nat → Int32) (p1 : Int32) (r : Int32 × Int32 × (Nat → Int64) × Int32 × Int32 × Int32 × (Nat → Int32) × (Nat → Int32) × (Nat → Int32) × (Nat → Int32) × (Nat → Int32) × (Nat → Int32) × (Nat → Int32)) (h : X10_tellsMornings v_told_size v_told_number v_folk_number v_folk_day v_folk_unmet v_folk_skill v_folk_pills v_folk_slept v_folk_woken v_folk_wanted v_trial_skill v_trial_pills v_trial_slept v_trial_woken v_trial_wanted v_inForce_size v_inForce_code v_inForce_stack v_inForce_thing p1 = some r) : Ct l yX10_tellsMornings cX10_tellsMornings 6 (some .int) 5 118 D cy [.ref q0, .int p1] [oX10 q0 u0_0 (.ref q1) (.ref q3) (.ref q9) u0_4 u0_5 (.ref q15) u0_7 u0_8 u0_9 u0_10 u0_11 u0_12, oX2 q1 (.ref q2) (.int v_told_size), aJ cy q2 16 v_told_number, oX0 q3 (.ref q4) (.ref q5) (.ref q6) (.ref q7) (.ref q8) (.int v_folk_number) (.int v_folk_day) (.int v_folk_unmet), aI cy q4 7 v_folk_skill, aI cy q5 7 v_folk_pills, aI cy q6 7 v_folk_slept, aI cy q7 7 v_folk_woken, aI cy q8 7 v_folk_wanted, oX0 q9 (.ref q10) (.ref q11) (.ref q12) (.ref q13) (.ref q14) (.int v_trial_number) (.int v_trial_day) (.int v_trial_unmet), aI cy q10 7 v_trial_skill, aI cy q11 7 v_trial_pills, aI cy q12 7 v_trial_slept, aI cy q13 7 v_trial_woken, aI cy q14 7 v_trial_wanted, oX5 q15 (.ref q16) (.ref q17) (.ref q18) (.int v_inForce_size), aI cy q16 40 v_inForce_code, aI cy q17 40 v_inForce_stack, aI cy q18 7 v_inForce_thing] (fun _ => [oX10 q0 u0_0 (.ref q1) (.ref q3) (.ref q9) u0_4 u0_5 (.ref q15) u0_7 u0_8 u0_9 u0_10 u0_11 u0_12, oX2 q1 (.ref q2) (.int r.2.1), aJ cy q2 16 r.2.2.1, oX0 q3 (.ref q4) (.ref q5) (.ref q6) (.ref q7) (.ref q8) (.int v_folk_number) (.int v_folk_day) (.int v_folk_unmet), aI cy q4 7 v_folk_skill, aI cy q5 7 v_folk_pills, aI cy q6 7 v_folk_slept, aI cy q7 7 v_folk_woken, aI cy q8 7 v_folk_wanted, oX0 q9 (.ref q10) (.ref q11) (.ref q12) (.ref q13) (.ref q14) (.int r.2.2.2.1) (.int r.2.2.2.2.1) (.int r.2.2.2.2.2.1), aI cy q10 7 r.2.2.2.2.2.2.1, aI cy q11 7 r.2.2.2.2.2.2.2.1, aI cy q12 7 r.2.2.2.2.2.2.2.2.1, aI cy q13 7 r.2.2.2.2.2.2.2.2.2.1, aI cy q14 7 r.2.2.2.2.2.2.2.2.2.2.1, oX5 q15 (.ref q16) (.ref q17) (.ref q18) (.int v_inForce_size), aI cy q16 40 v_inForce_code, aI cy q17 40 r.2.2.2.2.2.2.2.2.2.2.2.1, aI cy q18 7 r.2.2.2.2.2.2.2.2.2.2.2.2]) (some (.int r.1)) := by
  refine Ct.mk kX10_tellsMornings (by decide +kernel) (Nat.le_of_ble_eq_true rfl) ?_
  intro p e s m below meth c A ls args R Q hRf hRl hQ E H locs hS hl
  have hx := E.x
  have hb := E.b
  have hl : lv_has ls 6 [(0, .ref q0), (1, .int p1)] := hl
  unfold X10_tellsMornings at h
  refine lv_aload_n hx hb dX10_tellsMornings_0 rfl (lv_at hl 0 rfl) ?_
  refine r_get E frX10_30 hS 0 rfl rfl dX10_tellsMornings_1 ?_
  refine lv_aload_n hx hb dX10_tellsMornings_4 rfl (lv_at hl 0 rfl) ?_
  refine r_get E frX10_26 hS 0 rfl rfl dX10_tellsMornings_5 ?_
  obtain ⟨y8, e1, h⟩ := bd_some h
  refine ct_V (ws' := fun _ => [oX10 q0 u0_0 (.ref q1) (.ref q3) (.ref q9) u0_4 u0_5 (.ref q15) u0_7 u0_8 u0_9 u0_10 u0_11 u0_12, oX2 q1 (.ref q2) (.int v_told_size), aJ cy q2 16 v_told_number, oX0 q3 (.ref q4) (.ref q5) (.ref q6) (.ref q7) (.ref q8) (.int v_folk_number) (.int v_folk_day) (.int v_folk_unmet), aI cy q4 7 v_folk_skill, aI cy q5 7 v_folk_pills, aI cy q6 7 v_folk_slept, aI cy q7 7 v_folk_woken, aI cy q8 7 v_folk_wanted, oX0 q9 (.ref q10) (.ref q11) (.ref q12) (.ref q13) (.ref q14) (.int y8.1) (.int y8.2.1) (.int y8.2.2.1), aI cy q10 7 y8.2.2.2.1, aI cy q11 7 y8.2.2.2.2.1, aI cy q12 7 y8.2.2.2.2.2.1, aI cy q13 7 y8.2.2.2.2.2.2.1, aI cy q14 7 y8.2.2.2.2.2.2.2, oX5 q15 (.ref q16) (.ref q17) (.ref q18) (.int v_inForce_size), aI cy q16 40 v_inForce_code, aI cy q17 40 v_inForce_stack, aI cy q18 7 v_inForce_thing]) (st' := []) (rest := []) E hS vlX10_249 (c_X0_becomes (l := l) (D := D) (cy := cy) (q0 := q9) (q1 := q10) (q2 := q11) (q3 := q12) (q4 := q13) (q5 := q14) (q6 := q3) (q7 := q4) (q8 := q5) (q9 := q6) (q10 := q7) (q11 := q8) (v_number := v_trial_number) (v_day := v_trial_day) (v_unmet := v_trial_unmet) (v_skill := v_trial_skill) (v_pills := v_trial_pills) (v_slept := v_trial_slept) (v_woken := v_trial_woken) (v_wanted := v_trial_wanted) (w1_number := v_folk_number) (w1_day := v_folk_day) (w1_unmet := v_folk_unmet) (w1_skill := v_folk_skill) (w1_pills := v_folk_pills) (w1_slept := v_folk_slept) (w1_woken := v_folk_woken) (w1_wanted := v_folk_wanted) (r := y8) e1) [9, 10, 11, 12, 13, 14, 3, 4, 5, 6, 7, 8] rfl rfl (fun _ => rfl) (fun _ => rfl) rfl rfl rfl rfl (Nat.le_of_ble_eq_true rfl) hl.1 (by rw [hRf]; exact Nat.le_of_ble_eq_true rfl) (by rw [hRl]; exact Nat.le_of_ble_eq_true rfl) ⟨Nat.zero_le _, Nat.zero_le _⟩ dX10_tellsMornings_8 rfl (fun H locs _ hS => ?_)
  refine lv_bipush (v := -2) hx hb dX10_tellsMornings_11 (by decide) ?_
  refine lv_istore_n (lv' := [(2, .int (-2 : Int32)), (0, .ref q0), (1, .int p1)]) hx hb dX10_tellsMornings_13 rfl hl (by decide) rfl (fun ls hl => ?_)
  refine lv_iconst (v := 0) hx hb dX10_tellsMornings_14 (by decide) ?_
  refine lv_istore_n (lv' := [(3, .int (0 : Int32)), (2, .int (-2 : Int32)), (0, .ref q0), (1, .int p1)]) hx hb dX10_tellsMornings_15 rfl hl (by decide) rfl (fun ls hl => ?_)
  refine lv_iconst (v := 1) hx hb dX10_tellsMornings_16 (by decide) ?_
  refine lv_istore (lv' := [(4, .int (1 : Int32)), (3, .int (0 : Int32)), (2, .int (-2 : Int32)), (0, .ref q0), (1, .int p1)]) hx hb dX10_tellsMornings_17 hl (by decide) rfl (fun ls hl => ?_)
  have hL19 : ∀ (n : Nat) (x19_0 : Int32) (x19_1 : Int32) (x19_2 : Int32) (x19_3 : Int32) (x19_4 : Int32) (x19_5 : Nat → Int32) (x19_6 : Nat → Int32) (x19_7 : Nat → Int32) (x19_8 : Nat → Int32) (x19_9 : Nat → Int32) (y19 : Int32 × Int32 × Int32 × Int32 × (Nat → Int32) × (Nat → Int32) × (Nat → Int32) × (Nat → Int32) × (Nat → Int32)) (H : Heap) (locs : List Loc) (ls : Array Slot), lp (fun x19 => X10_tellsMornings_s19 v_inForce_size v_inForce_code p1 y8 x19.1 x19.2.1 x19.2.2.1 x19.2.2.2.1 x19.2.2.2.2.1 x19.2.2.2.2.2.1 x19.2.2.2.2.2.2.1 x19.2.2.2.2.2.2.2.1 x19.2.2.2.2.2.2.2.2.1 x19.2.2.2.2.2.2.2.2.2) n (x19_0, x19_1, x19_2, x19_3, x19_4, x19_5, x19_6, x19_7, x19_8, x19_9) = some y19 → Sv D A s.heap [oX10 q0 u0_0 (.ref q1) (.ref q3) (.ref q9) u0_4 u0_5 (.ref q15) u0_7 u0_8 u0_9 u0_10 u0_11 u0_12, oX2 q1 (.ref q2) (.int v_told_size), aJ cy q2 16 v_told_number, oX0 q3 (.ref q4) (.ref q5) (.ref q6) (.ref q7) (.ref q8) (.int v_folk_number) (.int v_folk_day) (.int v_folk_unmet), aI cy q4 7 v_folk_skill, aI cy q5 7 v_folk_pills, aI cy q6 7 v_folk_slept, aI cy q7 7 v_folk_woken, aI cy q8 7 v_folk_wanted, oX0 q9 (.ref q10) (.ref q11) (.ref q12) (.ref q13) (.ref q14) (.int y8.1) (.int x19_3) (.int x19_4), aI cy q10 7 y8.2.2.2.1, aI cy q11 7 x19_5, aI cy q12 7 x19_6, aI cy q13 7 x19_7, aI cy q14 7 y8.2.2.2.2.2.2.2, oX5 q15 (.ref q16) (.ref q17) (.ref q18) (.int v_inForce_size), aI cy q16 40 v_inForce_code, aI cy q17 40 x19_8, aI cy q18 7 x19_9] H locs → lv_has ls 6 [(0, .ref q0), (1, .int p1), (2, .int x19_0), (3, .int x19_1), (4, .int x19_2)] → ( ∀ (y19_0 : Int32) (y19_1 : Int32) (y19_2 : Int32) (y19_3 : Int32) (y19_4 : Nat → Int32) (y19_5 : Nat → Int32) (y19_6 : Nat → Int32) (y19_7 : Nat → Int32) (y19_8 : Nat → Int32), (y19_0, y19_1, y19_2, y19_3, y19_4, y19_5, y19_6, y19_7, y19_8) = y19 → ∀ (H : Heap) (locs : List Loc) (ls : Array Slot), Sv D A s.heap [oX10 q0 u0_0 (.ref q1) (.ref q3) (.ref q9) u0_4 u0_5 (.ref q15) u0_7 u0_8 u0_9 u0_10 u0_11 u0_12, oX2 q1 (.ref q2) (.int v_told_size), aJ cy q2 16 v_told_number, oX0 q3 (.ref q4) (.ref q5) (.ref q6) (.ref q7) (.ref q8) (.int v_folk_number) (.int v_folk_day) (.int v_folk_unmet), aI cy q4 7 v_folk_skill, aI cy q5 7 v_folk_pills, aI cy q6 7 v_folk_slept, aI cy q7 7 v_folk_woken, aI cy q8 7 v_folk_wanted, oX0 q9 (.ref q10) (.ref q11) (.ref q12) (.ref q13) (.ref q14) (.int y8.1) (.int y19_2) (.int y19_3), aI cy q10 7 y8.2.2.2.1, aI cy q11 7 y19_4, aI cy q12 7 y19_5, aI cy q13 7 y19_6, aI cy q14 7 y8.2.2.2.2.2.2.2, oX5 q15 (.ref q16) (.ref q17) (.ref q18) (.int v_inForce_size), aI cy q16 40 v_inForce_code, aI cy q17 40 y19_7, aI cy q18 7 y19_8] H locs → lv_has ls 6 [(0, .ref q0), (2, .int y19_0), (3, .int y19_1)] → W p l e R s m args below meth c H locs 0 0 Q (F0 m 76 ls [])) → W p l e R s m args below meth c H locs 0 0 Q (F0 m 19 ls []) := by
    intro n
    induction n with
    | zero =>
      intro x19_0 x19_1 x19_2 x19_3 x19_4 x19_5 x19_6 x19_7 x19_8 x19_9 y19 H locs ls h
      exact lp_zero h
    | succ n ih19 =>
      intro x19_0 x19_1 x19_2 x19_3 x19_4 x19_5 x19_6 x19_7 x19_8 x19_9 y19 H locs ls h hS hl hk19_0
      obtain ⟨z19, h, hz19a, hz19b⟩ := lp_succ h
      have h : X10_tellsMornings_s19 v_inForce_size v_inForce_code p1 y8 x19_0 x19_1 x19_2 x19_3 x19_4 x19_5 x19_6 x19_7 x19_8 x19_9 = some z19 := h
      unfold X10_tellsMornings_s19 at h
      refine lv_iload hx hb dX10_tellsMornings_19 (lv_at hl 4 rfl) ?_
      refine lv_bipush (v := 99) hx hb dX10_tellsMornings_21 (by decide) ?_
      refine lv_icmp_gt (tgt := 76) hx hb dX10_tellsMornings_23 (by decide) (fun c2 => ?_) (fun c2 => ?_)
      · have h := it_pos c2 h
        exact hk19_0 x19_0 x19_1 x19_3 x19_4 x19_5 x19_6 x19_7 x19_8 x19_9 (hz19b _ (Option.some.inj h).symm)  H locs ls hS (lv_sub hl [0, 2, 3] rfl)
      · have h := it_neg c2 h
        refine lv_aload_n hx hb dX10_tellsMornings_26 rfl (lv_at hl 0 rfl) ?_
        refine lv_aload_n hx hb dX10_tellsMornings_27 rfl (lv_at hl 0 rfl) ?_
        refine r_get E frX10_30 hS 0 rfl rfl dX10_tellsMornings_28 ?_
        refine lv_iconst (v := 1) hx hb dX10_tellsMornings_31 (by decide) ?_
        obtain ⟨y32, e3, h⟩ := bd_some h
        refine ct_V (ws' := fun _ => [oX10 q0 u0_0 (.ref q1) (.ref q3) (.ref q9) u0_4 u0_5 (.ref q15) u0_7 u0_8 u0_9 u0_10 u0_11 u0_12, oX2 q1 (.ref q2) (.int v_told_size), aJ cy q2 16 v_told_number, oX0 q3 (.ref q4) (.ref q5) (.ref q6) (.ref q7) (.ref q8) (.int v_folk_number) (.int v_folk_day) (.int v_folk_unmet), aI cy q4 7 v_folk_skill, aI cy q5 7 v_folk_pills, aI cy q6 7 v_folk_slept, aI cy q7 7 v_folk_woken, aI cy q8 7 v_folk_wanted, oX0 q9 (.ref q10) (.ref q11) (.ref q12) (.ref q13) (.ref q14) (.int y8.1) (.int y32.2.2.2.1) (.int y32.2.2.2.2.1), aI cy q10 7 y8.2.2.2.1, aI cy q11 7 y32.2.2.2.2.2.1, aI cy q12 7 y32.2.2.2.2.2.2.1, aI cy q13 7 y32.2.2.2.2.2.2.2, aI cy q14 7 y8.2.2.2.2.2.2.2, oX5 q15 (.ref q16) (.ref q17) (.ref q18) (.int v_inForce_size), aI cy q16 40 v_inForce_code, aI cy q17 40 y32.2.1, aI cy q18 7 y32.2.2.1]) (st' := [.int y32.1]) (rest := []) E hS vlX10_192 (c_X10_goBy (l := l) (D := D) (cy := cy) (q0 := q0) (q1 := q15) (q2 := q16) (q3 := q17) (q4 := q18) (q5 := q9) (q6 := q10) (q7 := q11) (q8 := q12) (q9 := q13) (q10 := q14) (u0_0 := u0_0) (u0_1 := .ref q1) (u0_2 := .ref q3) (u0_3 := .ref q9) (u0_4 := u0_4) (u0_5 := u0_5) (u0_7 := u0_7) (u0_8 := u0_8) (u0_9 := u0_9) (u0_10 := u0_10) (u0_11 := u0_11) (u0_12 := u0_12) (v_inForce_size := v_inForce_size) (v_inForce_code := v_inForce_code) (v_inForce_stack := x19_8) (v_inForce_thing := x19_9) (w1_number := y8.1) (w1_day := x19_3) (w1_unmet := x19_4) (w1_skill := y8.2.2.2.1) (w1_pills := x19_5) (w1_slept := x19_6) (w1_woken := x19_7) (w1_wanted := y8.2.2.2.2.2.2.2) (p2 := (1 : Int32)) (r := y32) e3) [0, 15, 16, 17, 18, 9, 10, 11, 12, 13, 14] rfl rfl (fun _ => rfl) (fun _ => rfl) rfl rfl rfl rfl (Nat.le_of_ble_eq_true rfl) hl.1 (by rw [hRf]; exact Nat.le_of_ble_eq_true rfl) (by rw [hRl]; exact Nat.le_of_ble_eq_true rfl) ⟨Nat.zero_le _, Nat.zero_le _⟩ dX10_tellsMornings_32 rfl (fun H locs _ hS => ?_)
        refine lv_istore (lv' := [(5, .int y32.1), (0, .ref q0), (1, .int p1), (2, .int x19_0), (3, .int x19_1), (4, .int x19_2)]) hx hb dX10_tellsMornings_35 hl (by decide) rfl (fun ls hl => ?_)
        refine lv_iload_n hx hb dX10_tellsMornings_37 rfl (lv_at hl 2 rfl) ?_
        have hJ70 : ∀ (s70_l2 : Int32) (s70_l3 : Int32) (ls : Array Slot), s70_l2 = (if p1 = 0 then (if y32.1 = 0 then (if x19_1 = 0 then x19_2 else x19_0) else x19_0) else (if (y32.1 &&& p1) = 0 then x19_0 else (if x19_1 = 0 then x19_2 else x19_0))) → s70_l3 = (if p1 = 0 then (if y32.1 = 0 then (x19_1 + (1 : Int32)) else x19_1) else (if (y32.1 &&& p1) = 0 then x19_1 else (x19_1 + (1 : Int32)))) → lv_has ls 6 [(0, .ref q0), (1, .int p1), (2, .int s70_l2), (3, .int s70_l3), (4, .int x19_2)] → W p l e R s m args below meth c H locs 0 0 Q (F0 m 70 ls []) := by
          intro s70_l2 s70_l3 ls es70_l2 es70_l3 hl
          subst es70_l2
          subst es70_l3
          refine lv_iinc (v := (x19_2 + (1 : Int32))) (lv' := [(4, .int (x19_2 + (1 : Int32))), (0, .ref q0), (1, .int p1), (2, .int (if p1 = 0 then (if y32.1 = 0 then (if x19_1 = 0 then x19_2 else x19_0) else x19_0) else (if (y32.1 &&& p1) = 0 then x19_0 else (if x19_1 = 0 then x19_2 else x19_0)))), (3, .int (if p1 = 0 then (if y32.1 = 0 then (x19_1 + (1 : Int32)) else x19_1) else (if (y32.1 &&& p1) = 0 then x19_1 else (x19_1 + (1 : Int32)))))]) hx hb dX10_tellsMornings_70 hl (k := 4) rfl rfl (by decide) rfl (fun ls hl => ?_)
          refine lv_goto (tgt := 19) hx hb dX10_tellsMornings_73 (by decide) ?_
          exact ih19 (if p1 = 0 then (if y32.1 = 0 then (if x19_1 = 0 then x19_2 else x19_0) else x19_0) else (if (y32.1 &&& p1) = 0 then x19_0 else (if x19_1 = 0 then x19_2 else x19_0))) (if p1 = 0 then (if y32.1 = 0 then (x19_1 + (1 : Int32)) else x19_1) else (if (y32.1 &&& p1) = 0 then x19_1 else (x19_1 + (1 : Int32)))) (x19_2 + (1 : Int32)) y32.2.2.2.1 y32.2.2.2.2.1 y32.2.2.2.2.2.1 y32.2.2.2.2.2.2.1 y32.2.2.2.2.2.2.2 y32.2.1 y32.2.2.1 y19  H locs ls (hz19a _ (Option.some.inj h).symm) hS (lv_sub hl [1, 2, 3, 4, 0] rfl) hk19_0
        refine lv_if_ne (tgt := 49) hx hb dX10_tellsMornings_38 (by decide) (fun c4 => ?_) (fun c4 => ?_)
        · refine lv_iload hx hb dX10_tellsMornings_49 (lv_at hl 0 rfl) ?_
          refine lv_iload_n hx hb dX10_tellsMornings_51 rfl (lv_at hl 2 rfl) ?_
          refine lv_iand hx hb dX10_tellsMornings_52 ?_
          refine lv_if_eq (tgt := 70) hx hb dX10_tellsMornings_53 (by decide) (fun c5 => ?_) (fun c5 => ?_)
          · exact hJ70 _ _ ls (((if_neg c4).trans (if_pos c5))).symm (((if_neg c4).trans (if_pos c5))).symm (lv_sub hl [1, 2, 3, 4, 5] rfl)
          · refine lv_iload_n hx hb dX10_tellsMornings_56 rfl (lv_at hl 4 rfl) ?_
            refine lv_if_ne (tgt := 65) hx hb dX10_tellsMornings_57 (by decide) (fun c6 => ?_) (fun c6 => ?_)
            · refine lv_iload_n hx hb dX10_tellsMornings_65 rfl (lv_at hl 3 rfl) ?_
              refine lv_istore_n (lv' := [(2, .int x19_0), (5, .int y32.1), (0, .ref q0), (1, .int p1), (3, .int x19_1), (4, .int x19_2)]) hx hb dX10_tellsMornings_66 rfl hl (by decide) rfl (fun ls hl => ?_)
              refine lv_iinc (v := (x19_1 + (1 : Int32))) (lv' := [(3, .int (x19_1 + (1 : Int32))), (2, .int x19_0), (5, .int y32.1), (0, .ref q0), (1, .int p1), (4, .int x19_2)]) hx hb dX10_tellsMornings_67 hl (k := 4) rfl rfl (by decide) rfl (fun ls hl => ?_)
              exact hJ70 _ _ ls (((if_neg c4).trans ((if_neg c5).trans (if_neg c6)))).symm (((if_neg c4).trans (if_neg c5))).symm (lv_sub hl [3, 4, 1, 0, 5] rfl)
            · refine lv_iload hx hb dX10_tellsMornings_60 (lv_at hl 5 rfl) ?_
              refine lv_goto (tgt := 66) hx hb dX10_tellsMornings_62 (by decide) ?_
              refine lv_istore_n (lv' := [(2, .int x19_2), (5, .int y32.1), (0, .ref q0), (1, .int p1), (3, .int x19_1), (4, .int x19_2)]) hx hb dX10_tellsMornings_66 rfl hl (by decide) rfl (fun ls hl => ?_)
              refine lv_iinc (v := (x19_1 + (1 : Int32))) (lv' := [(3, .int (x19_1 + (1 : Int32))), (2, .int x19_2), (5, .int y32.1), (0, .ref q0), (1, .int p1), (4, .int x19_2)]) hx hb dX10_tellsMornings_67 hl (k := 4) rfl rfl (by decide) rfl (fun ls hl => ?_)
              exact hJ70 _ _ ls (((if_neg c4).trans ((if_neg c5).trans (if_pos c6)))).symm (((if_neg c4).trans (if_neg c5))).symm (lv_sub hl [3, 4, 1, 0, 5] rfl)
        · refine lv_iload hx hb dX10_tellsMornings_41 (lv_at hl 0 rfl) ?_
          refine lv_if_ne (tgt := 70) hx hb dX10_tellsMornings_43 (by decide) (fun c7 => ?_) (fun c7 => ?_)
          · exact hJ70 _ _ ls (((if_pos c4).trans (if_neg c7))).symm (((if_pos c4).trans (if_neg c7))).symm (lv_sub hl [1, 2, 3, 4, 5] rfl)
          · refine lv_goto (tgt := 56) hx hb dX10_tellsMornings_46 (by decide) ?_
            refine lv_iload_n hx hb dX10_tellsMornings_56 rfl (lv_at hl 4 rfl) ?_
            refine lv_if_ne (tgt := 65) hx hb dX10_tellsMornings_57 (by decide) (fun c8 => ?_) (fun c8 => ?_)
            · refine lv_iload_n hx hb dX10_tellsMornings_65 rfl (lv_at hl 3 rfl) ?_
              refine lv_istore_n (lv' := [(2, .int x19_0), (5, .int y32.1), (0, .ref q0), (1, .int p1), (3, .int x19_1), (4, .int x19_2)]) hx hb dX10_tellsMornings_66 rfl hl (by decide) rfl (fun ls hl => ?_)
              refine lv_iinc (v := (x19_1 + (1 : Int32))) (lv' := [(3, .int (x19_1 + (1 : Int32))), (2, .int x19_0), (5, .int y32.1), (0, .ref q0), (1, .int p1), (4, .int x19_2)]) hx hb dX10_tellsMornings_67 hl (k := 4) rfl rfl (by decide) rfl (fun ls hl => ?_)
              exact hJ70 _ _ ls (((if_pos c4).trans ((if_pos c7).trans (if_neg c8)))).symm (((if_pos c4).trans (if_pos c7))).symm (lv_sub hl [3, 4, 1, 0, 5] rfl)
            · refine lv_iload hx hb dX10_tellsMornings_60 (lv_at hl 5 rfl) ?_
              refine lv_goto (tgt := 66) hx hb dX10_tellsMornings_62 (by decide) ?_
              refine lv_istore_n (lv' := [(2, .int x19_2), (5, .int y32.1), (0, .ref q0), (1, .int p1), (3, .int x19_1), (4, .int x19_2)]) hx hb dX10_tellsMornings_66 rfl hl (by decide) rfl (fun ls hl => ?_)
              refine lv_iinc (v := (x19_1 + (1 : Int32))) (lv' := [(3, .int (x19_1 + (1 : Int32))), (2, .int x19_2), (5, .int y32.1), (0, .ref q0), (1, .int p1), (4, .int x19_2)]) hx hb dX10_tellsMornings_67 hl (k := 4) rfl rfl (by decide) rfl (fun ls hl => ?_)
              exact hJ70 _ _ ls (((if_pos c4).trans ((if_pos c7).trans (if_pos c8)))).symm (((if_pos c4).trans (if_pos c7))).symm (lv_sub hl [3, 4, 1, 0, 5] rfl)
  obtain ⟨y19, e19, h⟩ := bd_some h
  refine hL19 1000 (-2 : Int32) (0 : Int32) (1 : Int32) y8.2.1 y8.2.2.1 y8.2.2.2.2.1 y8.2.2.2.2.2.1 y8.2.2.2.2.2.2.1 v_inForce_stack v_inForce_thing y19  H locs ls e19 hS (lv_sub hl [3, 4, 2, 1, 0] rfl) (fun y19_0 y19_1 y19_2 y19_3 y19_4 y19_5 y19_6 y19_7 y19_8 ey19 H locs ls hS hl => ?_)
  subst ey19
  have h := un_r h
  have h := un_r h
  have h := un_r h
  have h := un_r h
  have h := un_r h
  have h := un_r h
  have h := un_r h
  have h := un_r h
  refine lv_iload_n hx hb dX10_tellsMornings_76 rfl (lv_at hl 2 rfl) ?_
  refine lv_if_le (tgt := 89) hx hb dX10_tellsMornings_77 (by decide) (fun c9 => ?_) (fun c9 => ?_)
  · have h := it_pos c9 h
    refine lv_iload_n hx hb dX10_tellsMornings_89 rfl (lv_at hl 1 rfl) ?_
    obtain rfl := Option.some.inj h
    exact rt_i E hQ (.null) hS dX10_tellsMornings_90
  · have h := it_neg c9 h
    refine lv_aload_n hx hb dX10_tellsMornings_80 rfl (lv_at hl 0 rfl) ?_
    refine r_get E frX10_19 hS 0 rfl rfl dX10_tellsMornings_81 ?_
    refine lv_iload_n hx hb dX10_tellsMornings_84 rfl (lv_at hl 2 rfl) ?_
    refine lv_i2l (v := (y19_1.toInt64)) hx hb dX10_tellsMornings_85 rfl ?_
    obtain ⟨y86, e10, h⟩ := bd_some h
    refine ct_V (ws' := fun _ => [oX10 q0 u0_0 (.ref q1) (.ref q3) (.ref q9) u0_4 u0_5 (.ref q15) u0_7 u0_8 u0_9 u0_10 u0_11 u0_12, oX2 q1 (.ref q2) (.int y86.1), aJ cy q2 16 y86.2, oX0 q3 (.ref q4) (.ref q5) (.ref q6) (.ref q7) (.ref q8) (.int v_folk_number) (.int v_folk_day) (.int v_folk_unmet), aI cy q4 7 v_folk_skill, aI cy q5 7 v_folk_pills, aI cy q6 7 v_folk_slept, aI cy q7 7 v_folk_woken, aI cy q8 7 v_folk_wanted, oX0 q9 (.ref q10) (.ref q11) (.ref q12) (.ref q13) (.ref q14) (.int y8.1) (.int y19_2) (.int y19_3), aI cy q10 7 y8.2.2.2.1, aI cy q11 7 y19_4, aI cy q12 7 y19_5, aI cy q13 7 y19_6, aI cy q14 7 y8.2.2.2.2.2.2.2, oX5 q15 (.ref q16) (.ref q17) (.ref q18) (.int v_inForce_size), aI cy q16 40 v_inForce_code, aI cy q17 40 y19_7, aI cy q18 7 y19_8]) (st' := []) (rest := []) E hS vlX10_255 (c_X2_tellsOne (l := l) (D := D) (cy := cy) (q0 := q1) (q1 := q2) (v_size := v_told_size) (v_number := v_told_number) (p1 := (y19_1.toInt64)) (r := y86) e10) [1, 2] rfl rfl (fun _ => rfl) (fun _ => rfl) rfl rfl rfl rfl (Nat.le_of_ble_eq_true rfl) hl.1 (by rw [hRf]; exact Nat.le_of_ble_eq_true rfl) (by rw [hRl]; exact Nat.le_of_ble_eq_true rfl) ⟨Nat.zero_le _, Nat.zero_le _⟩ dX10_tellsMornings_86 rfl (fun H locs _ hS => ?_)
    refine lv_iload_n hx hb dX10_tellsMornings_89 rfl (lv_at hl 1 rfl) ?_
    obtain rfl := Option.some.inj h
    exact rt_i E hQ (.null) hS dX10_tellsMornings_90
set_option maxHeartbeats 4000000 in
set_option maxRecDepth 100000 in
theorem c_X10_when {l : Launch} {D : va_G} {cy : Nat → ClassId} (q0 : Nat) (q1 : Nat) (q2 : Nat) (q3 : Nat) (q4 : Nat) (q5 : Nat) (q6 : Nat) (q7 : Nat) (q8 : Nat) (q9 : Nat) (q10 : Nat) (q11 : Nat) (q12 : Nat) (q13 : Nat) (q14 : Nat) (q15 : Nat) (q16 : Nat) (q17 : Nat) (q18 : Nat) (u0_0 : Value) (u0_4 : Value) (u0_5 : Value) (u0_7 : Value) (u0_8 : Value) (u0_9 : Value) (u0_10 : Value) (u0_11 : Value) (u0_12 : Value) (v_told_size : Int32) (v_told_number : Nat → Int64) (v_folk_number : Int32) (v_folk_day : Int32) (v_folk_unmet : Int32) (v_folk_skill : Nat → Int32) (v_folk_pills : Nat → Int32) (v_folk_slept : Nat → Int32) (v_folk_woken : Nat → Int32) (v_folk_wanted : Nat → Int32) (v_trial_number : Int32) (v_trial_day : Int32) (v_trial_unmet : Int32) (v_trial_skill : Nat → Int32) (v_trial_pills : Nat → Int32) (v_trial_slept : Nat → Int32) (v_trial_woken : Nat → Int32) (v_trial_wanted : Nat → Int32) (v_inForce_size : Int32) (v_inForce_code : Nat → Int32) (v_inForce_stack : Nat → Int32) (v_inForce_thing : Nat → Int32) (p1 : Int32) (r : Int32 × Int32 × (Nat → Int64) × Int32 × Int32 × Int32 × (Nat → Int32) × (Nat → Int32) × (Nat → Int32) × (Nat → Int32) × (Nat → Int32) × (Nat → Int32) × (Nat → Int32)) (h : X10_when v_told_size v_told_number v_folk_number v_folk_day v_folk_unmet v_folk_skill v_folk_pills v_folk_slept v_folk_woken v_folk_wanted v_trial_number v_trial_day v_trial_unmet v_trial_skill v_trial_pills v_trial_slept v_trial_woken v_trial_wanted v_inForce_size v_inForce_code v_inForce_stack v_inForce_thing p1 = some r) : Ct l yX10_when cX10_when 2 (some .int) 6 143 D cy [.ref q0, .int p1] [oX10 q0 u0_0 (.ref q1) (.ref q3) (.ref q9) u0_4 u0_5 (.ref q15) u0_7 u0_8 u0_9 u0_10 u0_11 u0_12, oX2 q1 (.ref q2) (.int v_told_size), aJ cy q2 16 v_told_number, oX0 q3 (.ref q4) (.ref q5) (.ref q6) (.ref q7) (.ref q8) (.int v_folk_number) (.int v_folk_day) (.int v_folk_unmet), aI cy q4 7 v_folk_skill, aI cy q5 7 v_folk_pills, aI cy q6 7 v_folk_slept, aI cy q7 7 v_folk_woken, aI cy q8 7 v_folk_wanted, oX0 q9 (.ref q10) (.ref q11) (.ref q12) (.ref q13) (.ref q14) (.int v_trial_number) (.int v_trial_day) (.int v_trial_unmet), aI cy q10 7 v_trial_skill, aI cy q11 7 v_trial_pills, aI cy q12 7 v_trial_slept, aI cy q13 7 v_trial_woken, aI cy q14 7 v_trial_wanted, oX5 q15 (.ref q16) (.ref q17) (.ref q18) (.int v_inForce_size), aI cy q16 40 v_inForce_code, aI cy q17 40 v_inForce_stack, aI cy q18 7 v_inForce_thing] (fun _ => [oX10 q0 u0_0 (.ref q1) (.ref q3) (.ref q9) u0_4 u0_5 (.ref q15) u0_7 u0_8 u0_9 u0_10 u0_11 u0_12, oX2 q1 (.ref q2) (.int r.2.1), aJ cy q2 16 r.2.2.1, oX0 q3 (.ref q4) (.ref q5) (.ref q6) (.ref q7) (.ref q8) (.int v_folk_number) (.int v_folk_day) (.int v_folk_unmet), aI cy q4 7 v_folk_skill, aI cy q5 7 v_folk_pills, aI cy q6 7 v_folk_slept, aI cy q7 7 v_folk_woken, aI cy q8 7 v_folk_wanted, oX0 q9 (.ref q10) (.ref q11) (.ref q12) (.ref q13) (.ref q14) (.int r.2.2.2.1) (.int r.2.2.2.2.1) (.int r.2.2.2.2.2.1), aI cy q10 7 r.2.2.2.2.2.2.1, aI cy q11 7 r.2.2.2.2.2.2.2.1, aI cy q12 7 r.2.2.2.2.2.2.2.2.1, aI cy q13 7 r.2.2.2.2.2.2.2.2.2.1, aI cy q14 7 r.2.2.2.2.2.2.2.2.2.2.1, oX5 q15 (.ref q16) (.ref q17) (.ref q18) (.int v_inForce_size), aI cy q16 40 v_inForce_code, aI cy q17 40 r.2.2.2.2.2.2.2.2.2.2.2.1, aI cy q18 7 r.2.2.2.2.2.2.2.2.2.2.2.2]) (some (.int r.1)) := by
  refine Ct.mk kX10_when (by decide +kernel) (Nat.le_of_ble_eq_true rfl) ?_
  intro p e s m below meth c A ls args R Q hRf hRl hQ E H locs hS hl
  have hx := E.x
  have hb := E.b
  have hl : lv_has ls 2 [(0, .ref q0), (1, .int p1)] := hl
  unfold X10_when at h
  refine lv_aload_n hx hb dX10_when_0 rfl (lv_at hl 0 rfl) ?_
  refine r_get E frX10_26 hS 0 rfl rfl dX10_when_1 ?_
  refine lv_iload_n hx hb dX10_when_4 rfl (lv_at hl 1 rfl) ?_
  refine ct_V (ws' := fun _ => [oX10 q0 u0_0 (.ref q1) (.ref q3) (.ref q9) u0_4 u0_5 (.ref q15) u0_7 u0_8 u0_9 u0_10 u0_11 u0_12, oX2 q1 (.ref q2) (.int v_told_size), aJ cy q2 16 v_told_number, oX0 q3 (.ref q4) (.ref q5) (.ref q6) (.ref q7) (.ref q8) (.int v_folk_number) (.int v_folk_day) (.int v_folk_unmet), aI cy q4 7 v_folk_skill, aI cy q5 7 v_folk_pills, aI cy q6 7 v_folk_slept, aI cy q7 7 v_folk_woken, aI cy q8 7 v_folk_wanted, oX0 q9 (.ref q10) (.ref q11) (.ref q12) (.ref q13) (.ref q14) (.int v_trial_number) (.int v_trial_day) (.int v_trial_unmet), aI cy q10 7 v_trial_skill, aI cy q11 7 v_trial_pills, aI cy q12 7 v_trial_slept, aI cy q13 7 v_trial_woken, aI cy q14 7 v_trial_wanted, oX5 q15 (.ref q16) (.ref q17) (.ref q18) (.int v_inForce_size), aI cy q16 40 v_inForce_code, aI cy q17 40 v_inForce_stack, aI cy q18 7 v_inForce_thing]) (st' := [.int (X0_has v_folk_number p1)]) (rest := []) E hS vlX10_148 (c_X0_has (l := l) (D := D) (cy := cy) (q0 := q3) (u0_0 := .ref q4) (u0_1 := .ref q5) (u0_2 := .ref q6) (u0_3 := .ref q7) (u0_4 := .ref q8) (u0_6 := .int v_folk_day) (u0_7 := .int v_folk_unmet) (v_number := v_folk_number) (p1 := p1) (r := (X0_has v_folk_number p1)) rfl) [3] rfl rfl (fun _ => rfl) (fun _ => rfl) rfl rfl rfl rfl (Nat.le_of_ble_eq_true rfl) hl.1 (by rw [hRf]; exact Nat.le_of_ble_eq_true rfl) (by rw [hRl]; exact Nat.le_of_ble_eq_true rfl) ⟨Nat.zero_le _, Nat.zero_le _⟩ dX10_when_5 rfl (fun H locs _ hS => ?_)
  refine lv_if_eq (tgt := 21) hx hb dX10_when_8 (by decide) (fun c1 => ?_) (fun c1 => ?_)
  · have h := it_pos c1 h
    refine lv_iconst (v := -1) hx hb dX10_when_21 (by decide) ?_
    obtain rfl := Option.some.inj h
    exact rt_i E hQ (.null) hS dX10_when_22
  · have h := it_neg c1 h
    refine lv_aload_n hx hb dX10_when_11 rfl (lv_at hl 0 rfl) ?_
    refine lv_iconst (v := 1) hx hb dX10_when_12 (by decide) ?_
    refine lv_iload_n hx hb dX10_when_13 rfl (lv_at hl 1 rfl) ?_
    refine lv_ishl hx hb dX10_when_14 ?_
    obtain ⟨y15, e2, h⟩ := bd_some h
    refine ct_V (ws' := fun _ => [oX10 q0 u0_0 (.ref q1) (.ref q3) (.ref q9) u0_4 u0_5 (.ref q15) u0_7 u0_8 u0_9 u0_10 u0_11 u0_12, oX2 q1 (.ref q2) (.int y15.2.1), aJ cy q2 16 y15.2.2.1, oX0 q3 (.ref q4) (.ref q5) (.ref q6) (.ref q7) (.ref q8) (.int v_folk_number) (.int v_folk_day) (.int v_folk_unmet), aI cy q4 7 v_folk_skill, aI cy q5 7 v_folk_pills, aI cy q6 7 v_folk_slept, aI cy q7 7 v_folk_woken, aI cy q8 7 v_folk_wanted, oX0 q9 (.ref q10) (.ref q11) (.ref q12) (.ref q13) (.ref q14) (.int y15.2.2.2.1) (.int y15.2.2.2.2.1) (.int y15.2.2.2.2.2.1), aI cy q10 7 y15.2.2.2.2.2.2.1, aI cy q11 7 y15.2.2.2.2.2.2.2.1, aI cy q12 7 y15.2.2.2.2.2.2.2.2.1, aI cy q13 7 y15.2.2.2.2.2.2.2.2.2.1, aI cy q14 7 y15.2.2.2.2.2.2.2.2.2.2.1, oX5 q15 (.ref q16) (.ref q17) (.ref q18) (.int v_inForce_size), aI cy q16 40 v_inForce_code, aI cy q17 40 y15.2.2.2.2.2.2.2.2.2.2.2.1, aI cy q18 7 y15.2.2.2.2.2.2.2.2.2.2.2.2]) (st' := [.int y15.1]) (rest := []) E hS vlX10_252 (c_X10_tellsMornings (l := l) (D := D) (cy := cy) (q0 := q0) (q1 := q1) (q2 := q2) (q3 := q3) (q4 := q4) (q5 := q5) (q6 := q6) (q7 := q7) (q8 := q8) (q9 := q9) (q10 := q10) (q11 := q11) (q12 := q12) (q13 := q13) (q14 := q14) (q15 := q15) (q16 := q16) (q17 := q17) (q18 := q18) (u0_0 := u0_0) (u0_4 := u0_4) (u0_5 := u0_5) (u0_7 := u0_7) (u0_8 := u0_8) (u0_9 := u0_9) (u0_10 := u0_10) (u0_11 := u0_11) (u0_12 := u0_12) (v_told_size := v_told_size) (v_told_number := v_told_number) (v_folk_number := v_folk_number) (v_folk_day := v_folk_day) (v_folk_unmet := v_folk_unmet) (v_folk_skill := v_folk_skill) (v_folk_pills := v_folk_pills) (v_folk_slept := v_folk_slept) (v_folk_woken := v_folk_woken) (v_folk_wanted := v_folk_wanted) (v_trial_number := v_trial_number) (v_trial_day := v_trial_day) (v_trial_unmet := v_trial_unmet) (v_trial_skill := v_trial_skill) (v_trial_pills := v_trial_pills) (v_trial_slept := v_trial_slept) (v_trial_woken := v_trial_woken) (v_trial_wanted := v_trial_wanted) (v_inForce_size := v_inForce_size) (v_inForce_code := v_inForce_code) (v_inForce_stack := v_inForce_stack) (v_inForce_thing := v_inForce_thing) (p1 := ((1 : Int32) <<< (p1 &&& 31))) (r := y15) e2) [0, 1, 2, 3, 4, 5, 6, 7, 8, 9, 10, 11, 12, 13, 14, 15, 16, 17, 18] rfl rfl (fun _ => rfl) (fun _ => rfl) rfl rfl rfl rfl (Nat.le_of_ble_eq_true rfl) hl.1 (by rw [hRf]; exact Nat.le_of_ble_eq_true rfl) (by rw [hRl]; exact Nat.le_of_ble_eq_true rfl) ⟨Nat.zero_le _, Nat.zero_le _⟩ dX10_when_15 rfl (fun H locs _ hS => ?_)
    refine lv_goto (tgt := 22) hx hb dX10_when_18 (by decide) ?_
    obtain rfl := Option.some.inj h
    exact rt_i E hQ (.null) hS dX10_when_22
set_option maxHeartbeats 4000000 in
set_option maxRecDepth 100000 in
theorem c_X10_quiet {l : Launch} {D : va_G} {cy : Nat → ClassId} (q0 : Nat) (q1 : Nat) (q2 : Nat) (q3 : Nat) (q4 : Nat) (q5 : Nat) (q6 : Nat) (q7 : Nat) (q8 : Nat) (q9 : Nat) (q10 : Nat) (q11 : Nat) (q12 : Nat) (q13 : Nat) (q14 : Nat) (q15 : Nat) (q16 : Nat) (q17 : Nat) (q18 : Nat) (u0_0 : Value) (u0_4 : Value) (u0_5 : Value) (u0_7 : Value) (u0_8 : Value) (u0_9 : Value) (u0_10 : Value) (u0_11 : Value) (u0_12 : Value) (v_told_size : Int32) (v_told_number : Nat → Int64) (v_folk_number : Int32) (v_folk_day : Int32) (v_folk_unmet : Int32) (v_folk_skill : Nat → Int32) (v_folk_pills : Nat → Int32) (v_folk_slept : Nat → Int32) (v_folk_woken : Nat → Int32) (v_folk_wanted : Nat → Int32) (v_trial_number : Int32) (v_trial_day : Int32) (v_trial_unmet : Int32) (v_trial_skill : Nat → Int32) (v_trial_pills : Nat → Int32) (v_trial_slept : Nat → Int32) (v_trial_woken : Nat → Int32) (v_trial_wanted : Nat → Int32) (v_inForce_size : Int32) (v_inForce_code : Nat → Int32) (v_inForce_stack : Nat → Int32) (v_inForce_thing : Nat → Int32) (r : Int32 × Int32 × (Nat → Int64) × Int32 × Int32 × Int32 × (Nat → Int32) × (Nat → Int32) × (Nat → Int32) × (Nat → Int32) × (Nat → Int32) × (Nat → Int32) × (Nat → Int32)) (h : X10_quiet v_told_size v_told_number v_folk_number v_folk_day v_folk_unmet v_folk_skill v_folk_pills v_folk_slept v_folk_woken v_folk_wanted v_trial_skill v_trial_pills v_trial_slept v_trial_woken v_trial_wanted v_inForce_size v_inForce_code v_inForce_stack v_inForce_thing = some r) : Ct l yX10_quiet cX10_quiet 1 (some .int) 6 143 D cy [.ref q0] [oX10 q0 u0_0 (.ref q1) (.ref q3) (.ref q9) u0_4 u0_5 (.ref q15) u0_7 u0_8 u0_9 u0_10 u0_11 u0_12, oX2 q1 (.ref q2) (.int v_told_size), aJ cy q2 16 v_told_number, oX0 q3 (.ref q4) (.ref q5) (.ref q6) (.ref q7) (.ref q8) (.int v_folk_number) (.int v_folk_day) (.int v_folk_unmet), aI cy q4 7 v_folk_skill, aI cy q5 7 v_folk_pills, aI cy q6 7 v_folk_slept, aI cy q7 7 v_folk_woken, aI cy q8 7 v_folk_wanted, oX0 q9 (.ref q10) (.ref q11) (.ref q12) (.ref q13) (.ref q14) (.int v_trial_number) (.int v_trial_day) (.int v_trial_unmet), aI cy q10 7 v_trial_skill, aI cy q11 7 v_trial_pills, aI cy q12 7 v_trial_slept, aI cy q13 7 v_trial_woken, aI cy q14 7 v_trial_wanted, oX5 q15 (.ref q16) (.ref q17) (.ref q18) (.int v_inForce_size), aI cy q16 40 v_inForce_code, aI cy q17 40 v_inForce_stack, aI cy q18 7 v_inForce_thing] (fun _ => [oX10 q0 u0_0 (.ref q1) (.ref q3) (.ref q9) u0_4 u0_5 (.ref q15) u0_7 u0_8 u0_9 u0_10 u0_11 u0_12, oX2 q1 (.ref q2) (.int r.2.1), aJ cy q2 16 r.2.2.1, oX0 q3 (.ref q4) (.ref q5) (.ref q6) (.ref q7) (.ref q8) (.int v_folk_number) (.int v_folk_day) (.int v_folk_unmet), aI cy q4 7 v_folk_skill, aI cy q5 7 v_folk_pills, aI cy q6 7 v_folk_slept, aI cy q7 7 v_folk_woken, aI cy q8 7 v_folk_wanted, oX0 q9 (.ref q10) (.ref q11) (.ref q12) (.ref q13) (.ref q14) (.int r.2.2.2.1) (.int r.2.2.2.2.1) (.int r.2.2.2.2.2.1), aI cy q10 7 r.2.2.2.2.2.2.1, aI cy q11 7 r.2.2.2.2.2.2.2.1, aI cy q12 7 r.2.2.2.2.2.2.2.2.1, aI cy q13 7 r.2.2.2.2.2.2.2.2.2.1, aI cy q14 7 r.2.2.2.2.2.2.2.2.2.2.1, oX5 q15 (.ref q16) (.ref q17) (.ref q18) (.int v_inForce_size), aI cy q16 40 v_inForce_code, aI cy q17 40 r.2.2.2.2.2.2.2.2.2.2.2.1, aI cy q18 7 r.2.2.2.2.2.2.2.2.2.2.2.2]) (some (.int r.1)) := by
  refine Ct.mk kX10_quiet (by decide +kernel) (Nat.le_of_ble_eq_true rfl) ?_
  intro p e s m below meth c A ls args R Q hRf hRl hQ E H locs hS hl
  have hx := E.x
  have hb := E.b
  have hl : lv_has ls 1 [(0, .ref q0)] := hl
  unfold X10_quiet at h
  refine lv_aload_n hx hb dX10_quiet_0 rfl (lv_at hl 0 rfl) ?_
  refine lv_iconst (v := 0) hx hb dX10_quiet_1 (by decide) ?_
  obtain ⟨y2, e1, h⟩ := bd_some h
  refine ct_V (ws' := fun _ => [oX10 q0 u0_0 (.ref q1) (.ref q3) (.ref q9) u0_4 u0_5 (.ref q15) u0_7 u0_8 u0_9 u0_10 u0_11 u0_12, oX2 q1 (.ref q2) (.int y2.2.1), aJ cy q2 16 y2.2.2.1, oX0 q3 (.ref q4) (.ref q5) (.ref q6) (.ref q7) (.ref q8) (.int v_folk_number) (.int v_folk_day) (.int v_folk_unmet), aI cy q4 7 v_folk_skill, aI cy q5 7 v_folk_pills, aI cy q6 7 v_folk_slept, aI cy q7 7 v_folk_woken, aI cy q8 7 v_folk_wanted, oX0 q9 (.ref q10) (.ref q11) (.ref q12) (.ref q13) (.ref q14) (.int y2.2.2.2.1) (.int y2.2.2.2.2.1) (.int y2.2.2.2.2.2.1), aI cy q10 7 y2.2.2.2.2.2.2.1, aI cy q11 7 y2.2.2.2.2.2.2.2.1, aI cy q12 7 y2.2.2.2.2.2.2.2.2.1, aI cy q13 7 y2.2.2.2.2.2.2.2.2.2.1, aI cy q14 7 y2.2.2.2.2.2.2.2.2.2.2.1, oX5 q15 (.ref q16) (.ref q17) (.ref q18) (.int v_inForce_size), aI cy q16 40 v_inForce_code, aI cy q17 40 y2.2.2.2.2.2.2.2.2.2.2.2.1, aI cy q18 7 y2.2.2.2.2.2.2.2.2.2.2.2.2]) (st' := [.int y2.1]) (rest := []) E hS vlX10_252 (c_X10_tellsMornings (l := l) (D := D) (cy := cy) (q0 := q0) (q1 := q1) (q2 := q2) (q3 := q3) (q4 := q4) (q5 := q5) (q6 := q6) (q7 := q7) (q8 := q8) (q9 := q9) (q10 := q10) (q11 := q11) (q12 := q12) (q13 := q13) (q14 := q14) (q15 := q15) (q16 := q16) (q17 := q17) (q18 := q18) (u0_0 := u0_0) (u0_4 := u0_4) (u0_5 := u0_5) (u0_7 := u0_7) (u0_8 := u0_8) (u0_9 := u0_9) (u0_10 := u0_10) (u0_11 := u0_11) (u0_12 := u0_12) (v_told_size := v_told_size) (v_told_number := v_told_number) (v_folk_number := v_folk_number) (v_folk_day := v_folk_day) (v_folk_unmet := v_folk_unmet) (v_folk_skill := v_folk_skill) (v_folk_pills := v_folk_pills) (v_folk_slept := v_folk_slept) (v_folk_woken := v_folk_woken) (v_folk_wanted := v_folk_wanted) (v_trial_number := v_trial_number) (v_trial_day := v_trial_day) (v_trial_unmet := v_trial_unmet) (v_trial_skill := v_trial_skill) (v_trial_pills := v_trial_pills) (v_trial_slept := v_trial_slept) (v_trial_woken := v_trial_woken) (v_trial_wanted := v_trial_wanted) (v_inForce_size := v_inForce_size) (v_inForce_code := v_inForce_code) (v_inForce_stack := v_inForce_stack) (v_inForce_thing := v_inForce_thing) (p1 := (0 : Int32)) (r := y2) e1) [0, 1, 2, 3, 4, 5, 6, 7, 8, 9, 10, 11, 12, 13, 14, 15, 16, 17, 18] rfl rfl (fun _ => rfl) (fun _ => rfl) rfl rfl rfl rfl (Nat.le_of_ble_eq_true rfl) hl.1 (by rw [hRf]; exact Nat.le_of_ble_eq_true rfl) (by rw [hRl]; exact Nat.le_of_ble_eq_true rfl) ⟨Nat.zero_le _, Nat.zero_le _⟩ dX10_quiet_2 rfl (fun H locs _ hS => ?_)
  obtain rfl := Option.some.inj h
  exact rt_i E hQ (.null) hS dX10_quiet_5
set_option maxHeartbeats 4000000 in
set_option maxRecDepth 100000 in
theorem c_X10_runs {l : Launch} {D : va_G} {cy : Nat → ClassId} (q0 : Nat) (q1 : Nat) (q2 : Nat) (q3 : Nat) (q4 : Nat) (q5 : Nat) (q6 : Nat) (q7 : Nat) (q8 : Nat) (q9 : Nat) (q10 : Nat) (q11 : Nat) (q12 : Nat) (q13 : Nat) (q14 : Nat) (q15 : Nat) (q16 : Nat) (q17 : Nat) (q18 : Nat) (u0_0 : Value) (u0_4 : Value) (u0_5 : Value) (u0_7 : Value) (u0_8 : Value) (u0_9 : Value) (u0_10 : Value) (u0_11 : Value) (u0_12 : Value) (v_told_size : Int32) (v_told_number : Nat → Int64) (v_folk_number : Int32) (v_folk_day : Int32) (v_folk_unmet : Int32) (v_folk_skill : Nat → Int32) (v_folk_pills : Nat → Int32) (v_folk_slept : Nat → Int32) (v_folk_woken : Nat → Int32) (v_folk_wanted : Nat → Int32) (v_trial_number : Int32) (v_trial_day : Int32) (v_trial_unmet : Int32) (v_trial_skill : Nat → Int32) (v_trial_pills : Nat → Int32) (v_trial_slept : Nat → Int32) (v_trial_woken : Nat → Int32) (v_trial_wanted : Nat → Int32) (v_inForce_size : Int32) (v_inForce_code : Nat → Int32) (v_inForce_stack : Nat → Int32) (v_inForce_thing : Nat → Int32) (p1 : Int32) (p2 : Int32) (r : Int32 × Int32 × (Nat → Int64) × Int32 × Int32 × Int32 × (Nat → Int32) × (Nat → Int32) × (Nat → Int32) × (Nat → Int32) × (Nat → Int32) × (Nat → Int32) × (Nat → Int32)) (h : X10_runs v_told_size v_told_number v_folk_number v_folk_day v_folk_unmet v_folk_skill v_folk_pills v_folk_slept v_folk_woken v_folk_wanted v_trial_number v_trial_day v_trial_unmet v_trial_skill v_trial_pills v_trial_slept v_trial_woken v_trial_wanted v_inForce_size v_inForce_code v_inForce_stack v_inForce_thing p1 p2 = some r) : Ct l yX10_runs cX10_runs 7 (some .int) 5 118 D cy [.ref q0, .int p1, .int p2] [oX10 q0 u0_0 (.ref q1) (.ref q3) (.ref q9) u0_4 u0_5 (.ref q15) u0_7 u0_8 u0_9 u0_10 u0_11 u0_12, oX2 q1 (.ref q2) (.int v_told_size), aJ cy q2 16 v_told_number, oX0 q3 (.ref q4) (.ref q5) (.ref q6) (.ref q7) (.ref q8) (.int v_folk_number) (.int v_folk_day) (.int v_folk_unmet), aI cy q4 7 v_folk_skill, aI cy q5 7 v_folk_pills, aI cy q6 7 v_folk_slept, aI cy q7 7 v_folk_woken, aI cy q8 7 v_folk_wanted, oX0 q9 (.ref q10) (.ref q11) (.ref q12) (.ref q13) (.ref q14) (.int v_trial_number) (.int v_trial_day) (.int v_trial_unmet), aI cy q10 7 v_trial_skill, aI cy q11 7 v_trial_pills, aI cy q12 7 v_trial_slept, aI cy q13 7 v_trial_woken, aI cy q14 7 v_trial_wanted, oX5 q15 (.ref q16) (.ref q17) (.ref q18) (.int v_inForce_size), aI cy q16 40 v_inForce_code, aI cy q17 40 v_inForce_stack, aI cy q18 7 v_inForce_thing] (fun _ => [oX10 q0 u0_0 (.ref q1) (.ref q3) (.ref q9) u0_4 u0_5 (.ref q15) u0_7 u0_8 u0_9 u0_10 u0_11 u0_12, oX2 q1 (.ref q2) (.int r.2.1), aJ cy q2 16 r.2.2.1, oX0 q3 (.ref q4) (.ref q5) (.ref q6) (.ref q7) (.ref q8) (.int v_folk_number) (.int v_folk_day) (.int v_folk_unmet), aI cy q4 7 v_folk_skill, aI cy q5 7 v_folk_pills, aI cy q6 7 v_folk_slept, aI cy q7 7 v_folk_woken, aI cy q8 7 v_folk_wanted, oX0 q9 (.ref q10) (.ref q11) (.ref q12) (.ref q13) (.ref q14) (.int r.2.2.2.1) (.int r.2.2.2.2.1) (.int r.2.2.2.2.2.1), aI cy q10 7 r.2.2.2.2.2.2.1, aI cy q11 7 r.2.2.2.2.2.2.2.1, aI cy q12 7 r.2.2.2.2.2.2.2.2.1, aI cy q13 7 r.2.2.2.2.2.2.2.2.2.1, aI cy q14 7 r.2.2.2.2.2.2.2.2.2.2.1, oX5 q15 (.ref q16) (.ref q17) (.ref q18) (.int v_inForce_size), aI cy q16 40 v_inForce_code, aI cy q17 40 r.2.2.2.2.2.2.2.2.2.2.2.1, aI cy q18 7 r.2.2.2.2.2.2.2.2.2.2.2.2]) (some (.int r.1)) := by
  refine Ct.mk kX10_runs (by decide +kernel) (Nat.le_of_ble_eq_true rfl) ?_
  intro p e s m below meth c A ls args R Q hRf hRl hQ E H locs hS hl
  have hx := E.x
  have hb := E.b
  have hl : lv_has ls 7 [(0, .ref q0), (1, .int p1), (2, .int p2)] := hl
  unfold X10_runs at h
  refine lv_aload_n hx hb dX10_runs_0 rfl (lv_at hl 0 rfl) ?_
  refine r_get E frX10_26 hS 0 rfl rfl dX10_runs_1 ?_
  refine lv_iload_n hx hb dX10_runs_4 rfl (lv_at hl 1 rfl) ?_
  refine ct_V (ws' := fun _ => [oX10 q0 u0_0 (.ref q1) (.ref q3) (.ref q9) u0_4 u0_5 (.ref q15) u0_7 u0_8 u0_9 u0_10 u0_11 u0_12, oX2 q1 (.ref q2) (.int v_told_size), aJ cy q2 16 v_told_number, oX0 q3 (.ref q4) (.ref q5) (.ref q6) (.ref q7) (.ref q8) (.int v_folk_number) (.int v_folk_day) (.int v_folk_unmet), aI cy q4 7 v_folk_skill, aI cy q5 7 v_folk_pills, aI cy q6 7 v_folk_slept, aI cy q7 7 v_folk_woken, aI cy q8 7 v_folk_wanted, oX0 q9 (.ref q10) (.ref q11) (.ref q12) (.ref q13) (.ref q14) (.int v_trial_number) (.int v_trial_day) (.int v_trial_unmet), aI cy q10 7 v_trial_skill, aI cy q11 7 v_trial_pills, aI cy q12 7 v_trial_slept, aI cy q13 7 v_trial_woken, aI cy q14 7 v_trial_wanted, oX5 q15 (.ref q16) (.ref q17) (.ref q18) (.int v_inForce_size), aI cy q16 40 v_inForce_code, aI cy q17 40 v_inForce_stack, aI cy q18 7 v_inForce_thing]) (st' := [.int (X0_has v_folk_number p1)]) (rest := []) E hS vlX10_148 (c_X0_has (l := l) (D := D) (cy := cy) (q0 := q3) (u0_0 := .ref q4) (u0_1 := .ref q5) (u0_2 := .ref q6) (u0_3 := .ref q7) (u0_4 := .ref q8) (u0_6 := .int v_folk_day) (u0_7 := .int v_folk_unmet) (v_number := v_folk_number) (p1 := p1) (r := (X0_has v_folk_number p1)) rfl) [3] rfl rfl (fun _ => rfl) (fun _ => rfl) rfl rfl rfl rfl (Nat.le_of_ble_eq_true rfl) hl.1 (by rw [hRf]; exact Nat.le_of_ble_eq_true rfl) (by rw [hRl]; exact Nat.le_of_ble_eq_true rfl) ⟨Nat.zero_le _, Nat.zero_le _⟩ dX10_runs_5 rfl (fun H locs _ hS => ?_)
  refine lv_if_eq (tgt := 22) hx hb dX10_runs_8 (by decide) (fun c1 => ?_) (fun c1 => ?_)
  · have h := it_pos c1 h
    refine lv_iconst (v := -1) hx hb dX10_runs_22 (by decide) ?_
    obtain rfl := Option.some.inj h
    exact rt_i E hQ (.null) hS dX10_runs_23
  · have h := it_neg c1 h
    refine lv_iload_n hx hb dX10_runs_11 rfl (lv_at hl 2 rfl) ?_
    refine lv_iconst (v := 1) hx hb dX10_runs_12 (by decide) ?_
    refine lv_icmp_lt (tgt := 22) hx hb dX10_runs_13 (by decide) (fun c2 => ?_) (fun c2 => ?_)
    · have h := it_pos c2 h
      refine lv_iconst (v := -1) hx hb dX10_runs_22 (by decide) ?_
      obtain rfl := Option.some.inj h
      exact rt_i E hQ (.null) hS dX10_runs_23
    · have h := it_neg c2 h
      refine lv_iload_n hx hb dX10_runs_16 rfl (lv_at hl 2 rfl) ?_
      refine lv_bipush (v := 99) hx hb dX10_runs_17 (by decide) ?_
      refine lv_icmp_le (tgt := 24) hx hb dX10_runs_19 (by decide) (fun c3 => ?_) (fun c3 => ?_)
      · have h := it_pos c3 h
        refine lv_aload_n hx hb dX10_runs_24 rfl (lv_at hl 0 rfl) ?_
        refine r_get E frX10_30 hS 0 rfl rfl dX10_runs_25 ?_
        refine lv_aload_n hx hb dX10_runs_28 rfl (lv_at hl 0 rfl) ?_
        refine r_get E frX10_26 hS 0 rfl rfl dX10_runs_29 ?_
        obtain ⟨y32, e4, h⟩ := bd_some h
        refine ct_V (ws' := fun _ => [oX10 q0 u0_0 (.ref q1) (.ref q3) (.ref q9) u0_4 u0_5 (.ref q15) u0_7 u0_8 u0_9 u0_10 u0_11 u0_12, oX2 q1 (.ref q2) (.int v_told_size), aJ cy q2 16 v_told_number, oX0 q3 (.ref q4) (.ref q5) (.ref q6) (.ref q7) (.ref q8) (.int v_folk_number) (.int v_folk_day) (.int v_folk_unmet), aI cy q4 7 v_folk_skill, aI cy q5 7 v_folk_pills, aI cy q6 7 v_folk_slept, aI cy q7 7 v_folk_woken, aI cy q8 7 v_folk_wanted, oX0 q9 (.ref q10) (.ref q11) (.ref q12) (.ref q13) (.ref q14) (.int y32.1) (.int y32.2.1) (.int y32.2.2.1), aI cy q10 7 y32.2.2.2.1, aI cy q11 7 y32.2.2.2.2.1, aI cy q12 7 y32.2.2.2.2.2.1, aI cy q13 7 y32.2.2.2.2.2.2.1, aI cy q14 7 y32.2.2.2.2.2.2.2, oX5 q15 (.ref q16) (.ref q17) (.ref q18) (.int v_inForce_size), aI cy q16 40 v_inForce_code, aI cy q17 40 v_inForce_stack, aI cy q18 7 v_inForce_thing]) (st' := []) (rest := []) E hS vlX10_249 (c_X0_becomes (l := l) (D := D) (cy := cy) (q0 := q9) (q1 := q10) (q2 := q11) (q3 := q12) (q4 := q13) (q5 := q14) (q6 := q3) (q7 := q4) (q8 := q5) (q9 := q6) (q10 := q7) (q11 := q8) (v_number := v_trial_number) (v_day := v_trial_day) (v_unmet := v_trial_unmet) (v_skill := v_trial_skill) (v_pills := v_trial_pills) (v_slept := v_trial_slept) (v_woken := v_trial_woken) (v_wanted := v_trial_wanted) (w1_number := v_folk_number) (w1_day := v_folk_day) (w1_unmet := v_folk_unmet) (w1_skill := v_folk_skill) (w1_pills := v_folk_pills) (w1_slept := v_folk_slept) (w1_woken := v_folk_woken) (w1_wanted := v_folk_wanted) (r := y32) e4) [9, 10, 11, 12, 13, 14, 3, 4, 5, 6, 7, 8] rfl rfl (fun _ => rfl) (fun _ => rfl) rfl rfl rfl rfl (Nat.le_of_ble_eq_true rfl) hl.1 (by rw [hRf]; exact Nat.le_of_ble_eq_true rfl) (by rw [hRl]; exact Nat.le_of_ble_eq_true rfl) ⟨Nat.zero_le _, Nat.zero_le _⟩ dX10_runs_32 rfl (fun H locs _ hS => ?_)
        refine lv_iconst (v := 0) hx hb dX10_runs_35 (by decide) ?_
        refine lv_istore_n (lv' := [(3, .int (0 : Int32)), (0, .ref q0), (1, .int p1), (2, .int p2)]) hx hb dX10_runs_36 rfl hl (by decide) rfl (fun ls hl => ?_)
        refine lv_iconst (v := 0) hx hb dX10_runs_37 (by decide) ?_
        refine lv_istore (lv' := [(4, .int (0 : Int32)), (3, .int (0 : Int32)), (0, .ref q0), (1, .int p1), (2, .int p2)]) hx hb dX10_runs_38 hl (by decide) rfl (fun ls hl => ?_)
        refine lv_iconst (v := 0) hx hb dX10_runs_40 (by decide) ?_
        refine lv_istore (lv' := [(5, .int (0 : Int32)), (4, .int (0 : Int32)), (3, .int (0 : Int32)), (0, .ref q0), (1, .int p1), (2, .int p2)]) hx hb dX10_runs_41 hl (by decide) rfl (fun ls hl => ?_)
        refine lv_iconst (v := 1) hx hb dX10_runs_43 (by decide) ?_
        refine lv_istore (lv' := [(6, .int (1 : Int32)), (5, .int (0 : Int32)), (4, .int (0 : Int32)), (3, .int (0 : Int32)), (0, .ref q0), (1, .int p1), (2, .int p2)]) hx hb dX10_runs_44 hl (by decide) rfl (fun ls hl => ?_)
        have hL46 : ∀ (n : Nat) (x46_0 : Int32) (x46_1 : Int32) (x46_2 : Int32) (x46_3 : Int32) (x46_4 : Int32) (x46_5 : Int32) (x46_6 : Nat → Int32) (x46_7 : Nat → Int32) (x46_8 : Nat → Int32) (x46_9 : Nat → Int32) (x46_10 : Nat → Int32) (y46 : Int32 × Int32 × Int32 × Int32 × (Nat → Int32) × (Nat → Int32) × (Nat → Int32) × (Nat → Int32) × (Nat → Int32)) (H : Heap) (locs : List Loc) (ls : Array Slot), lp (fun x46 => X10_runs_s46 v_inForce_size v_inForce_code p1 p2 y32 x46.1 x46.2.1 x46.2.2.1 x46.2.2.2.1 x46.2.2.2.2.1 x46.2.2.2.2.2.1 x46.2.2.2.2.2.2.1 x46.2.2.2.2.2.2.2.1 x46.2.2.2.2.2.2.2.2.1 x46.2.2.2.2.2.2.2.2.2.1 x46.2.2.2.2.2.2.2.2.2.2) n (x46_0, x46_1, x46_2, x46_3, x46_4, x46_5, x46_6, x46_7, x46_8, x46_9, x46_10) = some y46 → Sv D A s.heap [oX10 q0 u0_0 (.ref q1) (.ref q3) (.ref q9) u0_4 u0_5 (.ref q15) u0_7 u0_8 u0_9 u0_10 u0_11 u0_12, oX2 q1 (.ref q2) (.int v_told_size), aJ cy q2 16 v_told_number, oX0 q3 (.ref q4) (.ref q5) (.ref q6) (.ref q7) (.ref q8) (.int v_folk_number) (.int v_folk_day) (.int v_folk_unmet), aI cy q4 7 v_folk_skill, aI cy q5 7 v_folk_pills, aI cy q6 7 v_folk_slept, aI cy q7 7 v_folk_woken, aI cy q8 7 v_folk_wanted, oX0 q9 (.ref q10) (.ref q11) (.ref q12) (.ref q13) (.ref q14) (.int y32.1) (.int x46_4) (.int x46_5), aI cy q10 7 y32.2.2.2.1, aI cy q11 7 x46_6, aI cy q12 7 x46_7, aI cy q13 7 x46_8, aI cy q14 7 y32.2.2.2.2.2.2.2, oX5 q15 (.ref q16) (.ref q17) (.ref q18) (.int v_inForce_size), aI cy q16 40 v_inForce_code, aI cy q17 40 x46_9, aI cy q18 7 x46_10] H locs → lv_has ls 7 [(0, .ref q0), (1, .int p1), (2, .int p2), (3, .int x46_0), (4, .int x46_1), (5, .int x46_2), (6, .int x46_3)] → ( ∀ (y46_0 : Int32) (y46_1 : Int32) (y46_2 : Int32) (y46_3 : Int32) (y46_4 : Nat → Int32) (y46_5 : Nat → Int32) (y46_6 : Nat → Int32) (y46_7 : Nat → Int32) (y46_8 : Nat → Int32), (y46_0, y46_1, y46_2, y46_3, y46_4, y46_5, y46_6, y46_7, y46_8) = y46 → ∀ (H : Heap) (locs : List Loc) (ls : Array Slot), Sv D A s.heap [oX10 q0 u0_0 (.ref q1) (.ref q3) (.ref q9) u0_4 u0_5 (.ref q15) u0_7 u0_8 u0_9 u0_10 u0_11 u0_12, oX2 q1 (.ref q2) (.int v_told_size), aJ cy q2 16 v_told_number, oX0 q3 (.ref q4) (.ref q5) (.ref q6) (.ref q7) (.ref q8) (.int v_folk_number) (.int v_folk_day) (.int v_folk_unmet), aI cy q4 7 v_folk_skill, aI cy q5 7 v_folk_pills, aI cy q6 7 v_folk_slept, aI cy q7 7 v_folk_woken, aI cy q8 7 v_folk_wanted, oX0 q9 (.ref q10) (.ref q11) (.ref q12) (.ref q13) (.ref q14) (.int y32.1) (.int y46_2) (.int y46_3), aI cy q10 7 y32.2.2.2.1, aI cy q11 7 y46_4, aI cy q12 7 y46_5, aI cy q13 7 y46_6, aI cy q14 7 y32.2.2.2.2.2.2.2, oX5 q15 (.ref q16) (.ref q17) (.ref q18) (.int v_inForce_size), aI cy q16 40 v_inForce_code, aI cy q17 40 y46_7, aI cy q18 7 y46_8] H locs → lv_has ls 7 [(0, .ref q0), (3, .int y46_0), (4, .int y46_1)] → W p l e R s m args below meth c H locs 0 0 Q (F0 m 102 ls [])) → W p l e R s m args below meth c H locs 0 0 Q (F0 m 46 ls []) := by
          intro n
          induction n with
          | zero =>
            intro x46_0 x46_1 x46_2 x46_3 x46_4 x46_5 x46_6 x46_7 x46_8 x46_9 x46_10 y46 H locs ls h
            exact lp_zero h
          | succ n ih46 =>
            intro x46_0 x46_1 x46_2 x46_3 x46_4 x46_5 x46_6 x46_7 x46_8 x46_9 x46_10 y46 H locs ls h hS hl hk46_0
            obtain ⟨z46, h, hz46a, hz46b⟩ := lp_succ h
            have h : X10_runs_s46 v_inForce_size v_inForce_code p1 p2 y32 x46_0 x46_1 x46_2 x46_3 x46_4 x46_5 x46_6 x46_7 x46_8 x46_9 x46_10 = some z46 := h
            unfold X10_runs_s46 at h
            refine lv_iload hx hb dX10_runs_46 (lv_at hl 6 rfl) ?_
            refine lv_iload_n hx hb dX10_runs_48 rfl (lv_at hl 2 rfl) ?_
            refine lv_icmp_gt (tgt := 102) hx hb dX10_runs_49 (by decide) (fun c5 => ?_) (fun c5 => ?_)
            · have h := it_pos c5 h
              exact hk46_0 x46_0 x46_1 x46_4 x46_5 x46_6 x46_7 x46_8 x46_9 x46_10 (hz46b _ (Option.some.inj h).symm)  H locs ls hS (lv_sub hl [0, 3, 4] rfl)
            · have h := it_neg c5 h
              refine lv_aload_n hx hb dX10_runs_52 rfl (lv_at hl 0 rfl) ?_
              refine lv_aload_n hx hb dX10_runs_53 rfl (lv_at hl 0 rfl) ?_
              refine r_get E frX10_30 hS 0 rfl rfl dX10_runs_54 ?_
              refine lv_iconst (v := 1) hx hb dX10_runs_57 (by decide) ?_
              obtain ⟨y58, e6, h⟩ := bd_some h
              refine ct_V (ws' := fun _ => [oX10 q0 u0_0 (.ref q1) (.ref q3) (.ref q9) u0_4 u0_5 (.ref q15) u0_7 u0_8 u0_9 u0_10 u0_11 u0_12, oX2 q1 (.ref q2) (.int v_told_size), aJ cy q2 16 v_told_number, oX0 q3 (.ref q4) (.ref q5) (.ref q6) (.ref q7) (.ref q8) (.int v_folk_number) (.int v_folk_day) (.int v_folk_unmet), aI cy q4 7 v_folk_skill, aI cy q5 7 v_folk_pills, aI cy q6 7 v_folk_slept, aI cy q7 7 v_folk_woken, aI cy q8 7 v_folk_wanted, oX0 q9 (.ref q10) (.ref q11) (.ref q12) (.ref q13) (.ref q14) (.int y32.1) (.int y58.2.2.2.1) (.int y58.2.2.2.2.1), aI cy q10 7 y32.2.2.2.1, aI cy q11 7 y58.2.2.2.2.2.1, aI cy q12 7 y58.2.2.2.2.2.2.1, aI cy q13 7 y58.2.2.2.2.2.2.2, aI cy q14 7 y32.2.2.2.2.2.2.2, oX5 q15 (.ref q16) (.ref q17) (.ref q18) (.int v_inForce_size), aI cy q16 40 v_inForce_code, aI cy q17 40 y58.2.1, aI cy q18 7 y58.2.2.1]) (st' := [.int y58.1]) (rest := []) E hS vlX10_192 (c_X10_goBy (l := l) (D := D) (cy := cy) (q0 := q0) (q1 := q15) (q2 := q16) (q3 := q17) (q4 := q18) (q5 := q9) (q6 := q10) (q7 := q11) (q8 := q12) (q9 := q13) (q10 := q14) (u0_0 := u0_0) (u0_1 := .ref q1) (u0_2 := .ref q3) (u0_3 := .ref q9) (u0_4 := u0_4) (u0_5 := u0_5) (u0_7 := u0_7) (u0_8 := u0_8) (u0_9 := u0_9) (u0_10 := u0_10) (u0_11 := u0_11) (u0_12 := u0_12) (v_inForce_size := v_inForce_size) (v_inForce_code := v_inForce_code) (v_inForce_stack := x46_9) (v_inForce_thing := x46_10) (w1_number := y32.1) (w1_day := x46_4) (w1_unmet := x46_5) (w1_skill := y32.2.2.2.1) (w1_pills := x46_6) (w1_slept := x46_7) (w1_woken := x46_8) (w1_wanted := y32.2.2.2.2.2.2.2) (p2 := (1 : Int32)) (r := y58) e6) [0, 15, 16, 17, 18, 9, 10, 11, 12, 13, 14] rfl rfl (fun _ => rfl) (fun _ => rfl) rfl rfl rfl rfl (Nat.le_of_ble_eq_true rfl) hl.1 (by rw [hRf]; exact Nat.le_of_ble_eq_true rfl) (by rw [hRl]; exact Nat.le_of_ble_eq_true rfl) ⟨Nat.zero_le _, Nat.zero_le _⟩ dX10_runs_58 rfl (fun H locs _ hS => ?_)
              refine lv_iload_n hx hb dX10_runs_61 rfl (lv_at hl 1 rfl) ?_
              refine lv_ishr hx hb dX10_runs_62 ?_
              refine lv_iconst (v := 1) hx hb dX10_runs_63 (by decide) ?_
              refine lv_iand hx hb dX10_runs_64 ?_
              have hJ76 : ∀ (s76_0 : Int32) (ls : Array Slot), s76_0 = (if ((y58.1 >>> (p1 &&& 31)) &&& (1 : Int32)) = 0 then (0 : Int32) else (x46_2 + (1 : Int32))) → lv_has ls 7 [(0, .ref q0), (1, .int p1), (2, .int p2), (3, .int x46_0), (4, .int x46_1), (6, .int x46_3)] → W p l e R s m args below meth c H locs 0 0 Q (F0 m 76 ls [.int s76_0]) := by
                intro s76_0 ls es76_0 hl
                subst es76_0
                refine lv_istore (lv' := [(5, .int (if ((y58.1 >>> (p1 &&& 31)) &&& (1 : Int32)) = 0 then (0 : Int32) else (x46_2 + (1 : Int32)))), (0, .ref q0), (1, .int p1), (2, .int p2), (3, .int x46_0), (4, .int x46_1), (6, .int x46_3)]) hx hb dX10_runs_76 hl (by decide) rfl (fun ls hl => ?_)
                refine lv_iload hx hb dX10_runs_78 (lv_at hl 0 rfl) ?_
                refine lv_iload_n hx hb dX10_runs_80 rfl (lv_at hl 4 rfl) ?_
                have hJ96 : ∀ (s96_l3 : Int32) (s96_l4 : Int32) (ls : Array Slot), s96_l3 = (if (if ((y58.1 >>> (p1 &&& 31)) &&& (1 : Int32)) = 0 then (0 : Int32) else (x46_2 + (1 : Int32))) ≤ x46_0 then x46_0 else (if ((y58.1 >>> (p1 &&& 31)) &&& (1 : Int32)) = 0 then (0 : Int32) else (x46_2 + (1 : Int32)))) → s96_l4 = (if (if ((y58.1 >>> (p1 &&& 31)) &&& (1 : Int32)) = 0 then (0 : Int32) else (x46_2 + (1 : Int32))) ≤ x46_0 then x46_1 else ((x46_3 - (if ((y58.1 >>> (p1 &&& 31)) &&& (1 : Int32)) = 0 then (0 : Int32) else (x46_2 + (1 : Int32)))) + (1 : Int32))) → lv_has ls 7 [(0, .ref q0), (1, .int p1), (2, .int p2), (3, .int s96_l3), (4, .int s96_l4), (5, .int (if ((y58.1 >>> (p1 &&& 31)) &&& (1 : Int32)) = 0 then (0 : Int32) else (x46_2 + (1 : Int32)))), (6, .int x46_3)] → W p l e R s m args below meth c H locs 0 0 Q (F0 m 96 ls []) := by
                  intro s96_l3 s96_l4 ls es96_l3 es96_l4 hl
                  subst es96_l3
                  subst es96_l4
                  refine lv_iinc (v := (x46_3 + (1 : Int32))) (lv' := [(6, .int (x46_3 + (1 : Int32))), (0, .ref q0), (1, .int p1), (2, .int p2), (3, .int (if (if ((y58.1 >>> (p1 &&& 31)) &&& (1 : Int32)) = 0 then (0 : Int32) else (x46_2 + (1 : Int32))) ≤ x46_0 then x46_0 else (if ((y58.1 >>> (p1 &&& 31)) &&& (1 : Int32)) = 0 then (0 : Int32) else (x46_2 + (1 : Int32))))), (4, .int (if (if ((y58.1 >>> (p1 &&& 31)) &&& (1 : Int32)) = 0 then (0 : Int32) else (x46_2 + (1 : Int32))) ≤ x46_0 then x46_1 else ((x46_3 - (if ((y58.1 >>> (p1 &&& 31)) &&& (1 : Int32)) = 0 then (0 : Int32) else (x46_2 + (1 : Int32)))) + (1 : Int32)))), (5, .int (if ((y58.1 >>> (p1 &&& 31)) &&& (1 : Int32)) = 0 then (0 : Int32) else (x46_2 + (1 : Int32))))]) hx hb dX10_runs_96 hl (k := 6) rfl rfl (by decide) rfl (fun ls hl => ?_)
                  refine lv_goto (tgt := 46) hx hb dX10_runs_99 (by decide) ?_
                  exact ih46 (if (if ((y58.1 >>> (p1 &&& 31)) &&& (1 : Int32)) = 0 then (0 : Int32) else (x46_2 + (1 : Int32))) ≤ x46_0 then x46_0 else (if ((y58.1 >>> (p1 &&& 31)) &&& (1 : Int32)) = 0 then (0 : Int32) else (x46_2 + (1 : Int32)))) (if (if ((y58.1 >>> (p1 &&& 31)) &&& (1 : Int32)) = 0 then (0 : Int32) else (x46_2 + (1 : Int32))) ≤ x46_0 then x46_1 else ((x46_3 - (if ((y58.1 >>> (p1 &&& 31)) &&& (1 : Int32)) = 0 then (0 : Int32) else (x46_2 + (1 : Int32)))) + (1 : Int32))) (if ((y58.1 >>> (p1 &&& 31)) &&& (1 : Int32)) = 0 then (0 : Int32) else (x46_2 + (1 : Int32))) (x46_3 + (1 : Int32)) y58.2.2.2.1 y58.2.2.2.2.1 y58.2.2.2.2.2.1 y58.2.2.2.2.2.2.1 y58.2.2.2.2.2.2.2 y58.2.1 y58.2.2.1 y46  H locs ls (hz46a _ (Option.some.inj h).symm) hS (lv_sub hl [1, 2, 3, 4, 5, 6, 0] rfl) hk46_0
                refine lv_icmp_le (tgt := 96) hx hb dX10_runs_81 (by decide) (fun c7 => ?_) (fun c7 => ?_)
                · exact hJ96 _ _ ls ((if_pos c7)).symm ((if_pos c7)).symm (lv_sub hl [1, 2, 3, 4, 5, 0, 6] rfl)
                · refine lv_iload hx hb dX10_runs_84 (lv_at hl 0 rfl) ?_
                  refine lv_istore_n (lv' := [(3, .int (if ((y58.1 >>> (p1 &&& 31)) &&& (1 : Int32)) = 0 then (0 : Int32) else (x46_2 + (1 : Int32)))), (5, .int (if ((y58.1 >>> (p1 &&& 31)) &&& (1 : Int32)) = 0 then (0 : Int32) else (x46_2 + (1 : Int32)))), (0, .ref q0), (1, .int p1), (2, .int p2), (4, .int x46_1), (6, .int x46_3)]) hx hb dX10_runs_86 rfl hl (by decide) rfl (fun ls hl => ?_)
                  refine lv_iload hx hb dX10_runs_87 (lv_at hl 6 rfl) ?_
                  refine lv_iload hx hb dX10_runs_89 (lv_at hl 1 rfl) ?_
                  refine lv_isub hx hb dX10_runs_91 ?_
                  refine lv_iconst (v := 1) hx hb dX10_runs_92 (by decide) ?_
                  refine lv_iadd hx hb dX10_runs_93 ?_
                  refine lv_istore (lv' := [(4, .int ((x46_3 - (if ((y58.1 >>> (p1 &&& 31)) &&& (1 : Int32)) = 0 then (0 : Int32) else (x46_2 + (1 : Int32)))) + (1 : Int32))), (3, .int (if ((y58.1 >>> (p1 &&& 31)) &&& (1 : Int32)) = 0 then (0 : Int32) else (x46_2 + (1 : Int32)))), (5, .int (if ((y58.1 >>> (p1 &&& 31)) &&& (1 : Int32)) = 0 then (0 : Int32) else (x46_2 + (1 : Int32)))), (0, .ref q0), (1, .int p1), (2, .int p2), (6, .int x46_3)]) hx hb dX10_runs_94 hl (by decide) rfl (fun ls hl => ?_)
                  exact hJ96 _ _ ls ((if_neg c7)).symm ((if_neg c7)).symm (lv_sub hl [3, 4, 5, 1, 0, 2, 6] rfl)
              refine lv_if_eq (tgt := 75) hx hb dX10_runs_65 (by decide) (fun c8 => ?_) (fun c8 => ?_)
              · refine lv_iconst (v := 0) hx hb dX10_runs_75 (by decide) ?_
                exact hJ76 _ ls ((if_pos c8)).symm (lv_sub hl [0, 1, 2, 3, 4, 6] rfl)
              · refine lv_iload hx hb dX10_runs_68 (lv_at hl 5 rfl) ?_
                refine lv_iconst (v := 1) hx hb dX10_runs_70 (by decide) ?_
                refine lv_iadd hx hb dX10_runs_71 ?_
                refine lv_goto (tgt := 76) hx hb dX10_runs_72 (by decide) ?_
                exact hJ76 _ ls ((if_neg c8)).symm (lv_sub hl [0, 1, 2, 3, 4, 6] rfl)
        obtain ⟨y46, e46, h⟩ := bd_some h
        refine hL46 1000 (0 : Int32) (0 : Int32) (0 : Int32) (1 : Int32) y32.2.1 y32.2.2.1 y32.2.2.2.2.1 y32.2.2.2.2.2.1 y32.2.2.2.2.2.2.1 v_inForce_stack v_inForce_thing y46  H locs ls e46 hS (lv_sub hl [4, 5, 6, 3, 2, 1, 0] rfl) (fun y46_0 y46_1 y46_2 y46_3 y46_4 y46_5 y46_6 y46_7 y46_8 ey46 H locs ls hS hl => ?_)
        subst ey46
        have h := un_r h
        have h := un_r h
        have h := un_r h
        have h := un_r h
        have h := un_r h
        have h := un_r h
        have h := un_r h
        have h := un_r h
        refine lv_aload_n hx hb dX10_runs_102 rfl (lv_at hl 0 rfl) ?_
        refine r_get E frX10_19 hS 0 rfl rfl dX10_runs_103 ?_
        refine lv_iload hx hb dX10_runs_106 (lv_at hl 2 rfl) ?_
        refine lv_i2l (v := (y46_1.toInt64)) hx hb dX10_runs_108 rfl ?_
        obtain ⟨y109, e9, h⟩ := bd_some h
        refine ct_V (ws' := fun _ => [oX10 q0 u0_0 (.ref q1) (.ref q3) (.ref q9) u0_4 u0_5 (.ref q15) u0_7 u0_8 u0_9 u0_10 u0_11 u0_12, oX2 q1 (.ref q2) (.int y109.1), aJ cy q2 16 y109.2, oX0 q3 (.ref q4) (.ref q5) (.ref q6) (.ref q7) (.ref q8) (.int v_folk_number) (.int v_folk_day) (.int v_folk_unmet), aI cy q4 7 v_folk_skill, aI cy q5 7 v_folk_pills, aI cy q6 7 v_folk_slept, aI cy q7 7 v_folk_woken, aI cy q8 7 v_folk_wanted, oX0 q9 (.ref q10) (.ref q11) (.ref q12) (.ref q13) (.ref q14) (.int y32.1) (.int y46_2) (.int y46_3), aI cy q10 7 y32.2.2.2.1, aI cy q11 7 y46_4, aI cy q12 7 y46_5, aI cy q13 7 y46_6, aI cy q14 7 y32.2.2.2.2.2.2.2, oX5 q15 (.ref q16) (.ref q17) (.ref q18) (.int v_inForce_size), aI cy q16 40 v_inForce_code, aI cy q17 40 y46_7, aI cy q18 7 y46_8]) (st' := []) (rest := []) E hS vlX10_255 (c_X2_tellsOne (l := l) (D := D) (cy := cy) (q0 := q1) (q1 := q2) (v_size := v_told_size) (v_number := v_told_number) (p1 := (y46_1.toInt64)) (r := y109) e9) [1, 2] rfl rfl (fun _ => rfl) (fun _ => rfl) rfl rfl rfl rfl (Nat.le_of_ble_eq_true rfl) hl.1 (by rw [hRf]; exact Nat.le_of_ble_eq_true rfl) (by rw [hRl]; exact Nat.le_of_ble_eq_true rfl) ⟨Nat.zero_le _, Nat.zero_le _⟩ dX10_runs_109 rfl (fun H locs _ hS => ?_)
        refine lv_iload_n hx hb dX10_runs_112 rfl (lv_at hl 1 rfl) ?_
        obtain rfl := Option.some.inj h
        exact rt_i E hQ (.null) hS dX10_runs_113
      · have h := it_neg c3 h
        refine lv_iconst (v := -1) hx hb dX10_runs_22 (by decide) ?_
        obtain rfl := Option.some.inj h
        exact rt_i E hQ (.null) hS dX10_runs_23
set_option maxHeartbeats 4000000 in
set_option maxRecDepth 100000 in
theorem c_X10_each {l : Launch} {D : va_G} {cy : Nat → ClassId} (q0 : Nat) (q1 : Nat) (q2 : Nat) (q3 : Nat) (q4 : Nat) (q5 : Nat) (q6 : Nat) (q7 : Nat) (q8 : Nat) (q9 : Nat) (q10 : Nat) (q11 : Nat) (q12 : Nat) (q13 : Nat) (q14 : Nat) (q15 : Nat) (q16 : Nat) (q17 : Nat) (q18 : Nat) (u0_0 : Value) (u0_4 : Value) (u0_5 : Value) (u0_7 : Value) (u0_8 : Value) (u0_9 : Value) (u0_10 : Value) (u0_11 : Value) (u0_12 : Value) (v_told_size : Int32) (v_told_number : Nat → Int64) (v_folk_number : Int32) (v_folk_day : Int32) (v_folk_unmet : Int32) (v_folk_skill : Nat → Int32) (v_folk_pills : Nat → Int32) (v_folk_slept : Nat → Int32) (v_folk_woken : Nat → Int32) (v_folk_wanted : Nat → Int32) (v_trial_number : Int32) (v_trial_day : Int32) (v_trial_unmet : Int32) (v_trial_skill : Nat → Int32) (v_trial_pills : Nat → Int32) (v_trial_slept : Nat → Int32) (v_trial_woken : Nat → Int32) (v_trial_wanted : Nat → Int32) (v_inForce_size : Int32) (v_inForce_code : Nat → Int32) (v_inForce_stack : Nat → Int32) (v_inForce_thing : Nat → Int32) (r : Int32 × Int32 × (Nat → Int64) × Int32 × Int32 × Int32 × (Nat → Int32) × (Nat → Int32) × (Nat → Int32) × (Nat → Int32) × (Nat → Int32) × (Nat → Int32) × (Nat → Int32)) (h : X10_each v_told_size v_told_number v_folk_number v_folk_day v_folk_unmet v_folk_skill v_folk_pills v_folk_slept v_folk_woken v_folk_wanted v_trial_skill v_trial_pills v_trial_slept v_trial_woken v_trial_wanted v_inForce_size v_inForce_code v_inForce_stack v_inForce_thing = some r) : Ct l yX10_each cX10_each 5 (some .int) 5 118 D cy [.ref q0] [oX10 q0 u0_0 (.ref q1) (.ref q3) (.ref q9) u0_4 u0_5 (.ref q15) u0_7 u0_8 u0_9 u0_10 u0_11 u0_12, oX2 q1 (.ref q2) (.int v_told_size), aJ cy q2 16 v_told_number, oX0 q3 (.ref q4) (.ref q5) (.ref q6) (.ref q7) (.ref q8) (.int v_folk_number) (.int v_folk_day) (.int v_folk_unmet), aI cy q4 7 v_folk_skill, aI cy q5 7 v_folk_pills, aI cy q6 7 v_folk_slept, aI cy q7 7 v_folk_woken, aI cy q8 7 v_folk_wanted, oX0 q9 (.ref q10) (.ref q11) (.ref q12) (.ref q13) (.ref q14) (.int v_trial_number) (.int v_trial_day) (.int v_trial_unmet), aI cy q10 7 v_trial_skill, aI cy q11 7 v_trial_pills, aI cy q12 7 v_trial_slept, aI cy q13 7 v_trial_woken, aI cy q14 7 v_trial_wanted, oX5 q15 (.ref q16) (.ref q17) (.ref q18) (.int v_inForce_size), aI cy q16 40 v_inForce_code, aI cy q17 40 v_inForce_stack, aI cy q18 7 v_inForce_thing] (fun _ => [oX10 q0 u0_0 (.ref q1) (.ref q3) (.ref q9) u0_4 u0_5 (.ref q15) u0_7 u0_8 u0_9 u0_10 u0_11 u0_12, oX2 q1 (.ref q2) (.int r.2.1), aJ cy q2 16 r.2.2.1, oX0 q3 (.ref q4) (.ref q5) (.ref q6) (.ref q7) (.ref q8) (.int v_folk_number) (.int v_folk_day) (.int v_folk_unmet), aI cy q4 7 v_folk_skill, aI cy q5 7 v_folk_pills, aI cy q6 7 v_folk_slept, aI cy q7 7 v_folk_woken, aI cy q8 7 v_folk_wanted, oX0 q9 (.ref q10) (.ref q11) (.ref q12) (.ref q13) (.ref q14) (.int r.2.2.2.1) (.int r.2.2.2.2.1) (.int r.2.2.2.2.2.1), aI cy q10 7 r.2.2.2.2.2.2.1, aI cy q11 7 r.2.2.2.2.2.2.2.1, aI cy q12 7 r.2.2.2.2.2.2.2.2.1, aI cy q13 7 r.2.2.2.2.2.2.2.2.2.1, aI cy q14 7 r.2.2.2.2.2.2.2.2.2.2.1, oX5 q15 (.ref q16) (.ref q17) (.ref q18) (.int v_inForce_size), aI cy q16 40 v_inForce_code, aI cy q17 40 r.2.2.2.2.2.2.2.2.2.2.2.1, aI cy q18 7 r.2.2.2.2.2.2.2.2.2.2.2.2]) (some (.int r.1)) := by
  refine Ct.mk kX10_each (by decide +kernel) (Nat.le_of_ble_eq_true rfl) ?_
  intro p e s m below meth c A ls args R Q hRf hRl hQ E H locs hS hl
  have hx := E.x
  have hb := E.b
  have hl : lv_has ls 5 [(0, .ref q0)] := hl
  unfold X10_each at h
  refine lv_aload_n hx hb dX10_each_0 rfl (lv_at hl 0 rfl) ?_
  refine r_get E frX10_30 hS 0 rfl rfl dX10_each_1 ?_
  refine lv_aload_n hx hb dX10_each_4 rfl (lv_at hl 0 rfl) ?_
  refine r_get E frX10_26 hS 0 rfl rfl dX10_each_5 ?_
  obtain ⟨y8, e1, h⟩ := bd_some h
  refine ct_V (ws' := fun _ => [oX10 q0 u0_0 (.ref q1) (.ref q3) (.ref q9) u0_4 u0_5 (.ref q15) u0_7 u0_8 u0_9 u0_10 u0_11 u0_12, oX2 q1 (.ref q2) (.int v_told_size), aJ cy q2 16 v_told_number, oX0 q3 (.ref q4) (.ref q5) (.ref q6) (.ref q7) (.ref q8) (.int v_folk_number) (.int v_folk_day) (.int v_folk_unmet), aI cy q4 7 v_folk_skill, aI cy q5 7 v_folk_pills, aI cy q6 7 v_folk_slept, aI cy q7 7 v_folk_woken, aI cy q8 7 v_folk_wanted, oX0 q9 (.ref q10) (.ref q11) (.ref q12) (.ref q13) (.ref q14) (.int y8.1) (.int y8.2.1) (.int y8.2.2.1), aI cy q10 7 y8.2.2.2.1, aI cy q11 7 y8.2.2.2.2.1, aI cy q12 7 y8.2.2.2.2.2.1, aI cy q13 7 y8.2.2.2.2.2.2.1, aI cy q14 7 y8.2.2.2.2.2.2.2, oX5 q15 (.ref q16) (.ref q17) (.ref q18) (.int v_inForce_size), aI cy q16 40 v_inForce_code, aI cy q17 40 v_inForce_stack, aI cy q18 7 v_inForce_thing]) (st' := []) (rest := []) E hS vlX10_249 (c_X0_becomes (l := l) (D := D) (cy := cy) (q0 := q9) (q1 := q10) (q2 := q11) (q3 := q12) (q4 := q13) (q5 := q14) (q6 := q3) (q7 := q4) (q8 := q5) (q9 := q6) (q10 := q7) (q11 := q8) (v_number := v_trial_number) (v_day := v_trial_day) (v_unmet := v_trial_unmet) (v_skill := v_trial_skill) (v_pills := v_trial_pills) (v_slept := v_trial_slept) (v_woken := v_trial_woken) (v_wanted := v_trial_wanted) (w1_number := v_folk_number) (w1_day := v_folk_day) (w1_unmet := v_folk_unmet) (w1_skill := v_folk_skill) (w1_pills := v_folk_pills) (w1_slept := v_folk_slept) (w1_woken := v_folk_woken) (w1_wanted := v_folk_wanted) (r := y8) e1) [9, 10, 11, 12, 13, 14, 3, 4, 5, 6, 7, 8] rfl rfl (fun _ => rfl) (fun _ => rfl) rfl rfl rfl rfl (Nat.le_of_ble_eq_true rfl) hl.1 (by rw [hRf]; exact Nat.le_of_ble_eq_true rfl) (by rw [hRl]; exact Nat.le_of_ble_eq_true rfl) ⟨Nat.zero_le _, Nat.zero_le _⟩ dX10_each_8 rfl (fun H locs _ hS => ?_)
  refine lv_aload_n hx hb dX10_each_11 rfl (lv_at hl 0 rfl) ?_
  refine r_get E frX10_26 hS 0 rfl rfl dX10_each_12 ?_
  refine ct_V (ws' := fun _ => [oX10 q0 u0_0 (.ref q1) (.ref q3) (.ref q9) u0_4 u0_5 (.ref q15) u0_7 u0_8 u0_9 u0_10 u0_11 u0_12, oX2 q1 (.ref q2) (.int v_told_size), aJ cy q2 16 v_told_number, oX0 q3 (.ref q4) (.ref q5) (.ref q6) (.ref q7) (.ref q8) (.int v_folk_number) (.int v_folk_day) (.int v_folk_unmet), aI cy q4 7 v_folk_skill, aI cy q5 7 v_folk_pills, aI cy q6 7 v_folk_slept, aI cy q7 7 v_folk_woken, aI cy q8 7 v_folk_wanted, oX0 q9 (.ref q10) (.ref q11) (.ref q12) (.ref q13) (.ref q14) (.int y8.1) (.int y8.2.1) (.int y8.2.2.1), aI cy q10 7 y8.2.2.2.1, aI cy q11 7 y8.2.2.2.2.1, aI cy q12 7 y8.2.2.2.2.2.1, aI cy q13 7 y8.2.2.2.2.2.2.1, aI cy q14 7 y8.2.2.2.2.2.2.2, oX5 q15 (.ref q16) (.ref q17) (.ref q18) (.int v_inForce_size), aI cy q16 40 v_inForce_code, aI cy q17 40 v_inForce_stack, aI cy q18 7 v_inForce_thing]) (st' := [.int (X0_everybody v_folk_number)]) (rest := []) E hS vlX10_259 (c_X0_everybody (l := l) (D := D) (cy := cy) (q0 := q3) (u0_0 := .ref q4) (u0_1 := .ref q5) (u0_2 := .ref q6) (u0_3 := .ref q7) (u0_4 := .ref q8) (u0_6 := .int v_folk_day) (u0_7 := .int v_folk_unmet) (v_number := v_folk_number) (r := (X0_everybody v_folk_number)) rfl) [3] rfl rfl (fun _ => rfl) (fun _ => rfl) rfl rfl rfl rfl (Nat.le_of_ble_eq_true rfl) hl.1 (by rw [hRf]; exact Nat.le_of_ble_eq_true rfl) (by rw [hRl]; exact Nat.le_of_ble_eq_true rfl) ⟨Nat.zero_le _, Nat.zero_le _⟩ dX10_each_15 rfl (fun H locs _ hS => ?_)
  refine lv_istore_n (lv' := [(1, .int (X0_everybody v_folk_number)), (0, .ref q0)]) hx hb dX10_each_18 rfl hl (by decide) rfl (fun ls hl => ?_)
  refine lv_iconst (v := 0) hx hb dX10_each_19 (by decide) ?_
  refine lv_istore_n (lv' := [(2, .int (0 : Int32)), (1, .int (X0_everybody v_folk_number)), (0, .ref q0)]) hx hb dX10_each_20 rfl hl (by decide) rfl (fun ls hl => ?_)
  refine lv_iconst (v := 0) hx hb dX10_each_21 (by decide) ?_
  refine lv_istore_n (lv' := [(3, .int (0 : Int32)), (2, .int (0 : Int32)), (1, .int (X0_everybody v_folk_number)), (0, .ref q0)]) hx hb dX10_each_22 rfl hl (by decide) rfl (fun ls hl => ?_)
  refine lv_iconst (v := 1) hx hb dX10_each_23 (by decide) ?_
  refine lv_istore (lv' := [(4, .int (1 : Int32)), (3, .int (0 : Int32)), (2, .int (0 : Int32)), (1, .int (X0_everybody v_folk_number)), (0, .ref q0)]) hx hb dX10_each_24 hl (by decide) rfl (fun ls hl => ?_)
  have hL26 : ∀ (n : Nat) (x26_0 : Int32) (x26_1 : Int32) (x26_2 : Int32) (x26_3 : Int32) (x26_4 : Int32) (x26_5 : Int32) (x26_6 : Nat → Int32) (x26_7 : Nat → Int32) (x26_8 : Nat → Int32) (x26_9 : Nat → Int32) (x26_10 : Nat → Int32) (y26 : Int32 × Int32 × Int32 × Int32 × Int32 × (Nat → Int32) × (Nat → Int32) × (Nat → Int32) × (Nat → Int32) × (Nat → Int32)) (H : Heap) (locs : List Loc) (ls : Array Slot), lp (fun x26 => X10_each_s26 v_inForce_size v_inForce_code y8 x26.1 x26.2.1 x26.2.2.1 x26.2.2.2.1 x26.2.2.2.2.1 x26.2.2.2.2.2.1 x26.2.2.2.2.2.2.1 x26.2.2.2.2.2.2.2.1 x26.2.2.2.2.2.2.2.2.1 x26.2.2.2.2.2.2.2.2.2.1 x26.2.2.2.2.2.2.2.2.2.2) n (x26_0, x26_1, x26_2, x26_3, x26_4, x26_5, x26_6, x26_7, x26_8, x26_9, x26_10) = some y26 → Sv D A s.heap [oX10 q0 u0_0 (.ref q1) (.ref q3) (.ref q9) u0_4 u0_5 (.ref q15) u0_7 u0_8 u0_9 u0_10 u0_11 u0_12, oX2 q1 (.ref q2) (.int v_told_size), aJ cy q2 16 v_told_number, oX0 q3 (.ref q4) (.ref q5) (.ref q6) (.ref q7) (.ref q8) (.int v_folk_number) (.int v_folk_day) (.int v_folk_unmet), aI cy q4 7 v_folk_skill, aI cy q5 7 v_folk_pills, aI cy q6 7 v_folk_slept, aI cy q7 7 v_folk_woken, aI cy q8 7 v_folk_wanted, oX0 q9 (.ref q10) (.ref q11) (.ref q12) (.ref q13) (.ref q14) (.int y8.1) (.int x26_4) (.int x26_5), aI cy q10 7 y8.2.2.2.1, aI cy q11 7 x26_6, aI cy q12 7 x26_7, aI cy q13 7 x26_8, aI cy q14 7 y8.2.2.2.2.2.2.2, oX5 q15 (.ref q16) (.ref q17) (.ref q18) (.int v_inForce_size), aI cy q16 40 v_inForce_code, aI cy q17 40 x26_9, aI cy q18 7 x26_10] H locs → lv_has ls 5 [(0, .ref q0), (1, .int x26_0), (2, .int x26_1), (3, .int x26_2), (4, .int x26_3)] → ( ∀ (y26_0 : Int32) (y26_1 : Int32) (y26_2 : Int32) (y26_3 : Int32) (y26_4 : Int32) (y26_5 : Nat → Int32) (y26_6 : Nat → Int32) (y26_7 : Nat → Int32) (y26_8 : Nat → Int32) (y26_9 : Nat → Int32), (y26_0, y26_1, y26_2, y26_3, y26_4, y26_5, y26_6, y26_7, y26_8, y26_9) = y26 → ∀ (H : Heap) (locs : List Loc) (ls : Array Slot), Sv D A s.heap [oX10 q0 u0_0 (.ref q1) (.ref q3) (.ref q9) u0_4 u0_5 (.ref q15) u0_7 u0_8 u0_9 u0_10 u0_11 u0_12, oX2 q1 (.ref q2) (.int v_told_size), aJ cy q2 16 v_told_number, oX0 q3 (.ref q4) (.ref q5) (.ref q6) (.ref q7) (.ref q8) (.int v_folk_number) (.int v_folk_day) (.int v_folk_unmet), aI cy q4 7 v_folk_skill, aI cy q5 7 v_folk_pills, aI cy q6 7 v_folk_slept, aI cy q7 7 v_folk_woken, aI cy q8 7 v_folk_wanted, oX0 q9 (.ref q10) (.ref q11) (.ref q12) (.ref q13) (.ref q14) (.int y8.1) (.int y26_3) (.int y26_4), aI cy q10 7 y8.2.2.2.1, aI cy q11 7 y26_5, aI cy q12 7 y26_6, aI cy q13 7 y26_7, aI cy q14 7 y8.2.2.2.2.2.2.2, oX5 q15 (.ref q16) (.ref q17) (.ref q18) (.int v_inForce_size), aI cy q16 40 v_inForce_code, aI cy q17 40 y26_8, aI cy q18 7 y26_9] H locs → lv_has ls 5 [(0, .ref q0), (1, .int y26_0), (2, .int y26_1), (3, .int y26_2)] → W p l e R s m args below meth c H locs 0 0 Q (F0 m 62 ls [])) → W p l e R s m args below meth c H locs 0 0 Q (F0 m 26 ls []) := by
    intro n
    induction n with
    | zero =>
      intro x26_0 x26_1 x26_2 x26_3 x26_4 x26_5 x26_6 x26_7 x26_8 x26_9 x26_10 y26 H locs ls h
      exact lp_zero h
    | succ n ih26 =>
      intro x26_0 x26_1 x26_2 x26_3 x26_4 x26_5 x26_6 x26_7 x26_8 x26_9 x26_10 y26 H locs ls h hS hl hk26_0
      obtain ⟨z26, h, hz26a, hz26b⟩ := lp_succ h
      have h : X10_each_s26 v_inForce_size v_inForce_code y8 x26_0 x26_1 x26_2 x26_3 x26_4 x26_5 x26_6 x26_7 x26_8 x26_9 x26_10 = some z26 := h
      unfold X10_each_s26 at h
      refine lv_iload hx hb dX10_each_26 (lv_at hl 4 rfl) ?_
      refine lv_bipush (v := 99) hx hb dX10_each_28 (by decide) ?_
      refine lv_icmp_gt (tgt := 62) hx hb dX10_each_30 (by decide) (fun c2 => ?_) (fun c2 => ?_)
      · have h := it_pos c2 h
        exact hk26_0 x26_0 x26_1 x26_2 x26_4 x26_5 x26_6 x26_7 x26_8 x26_9 x26_10 (hz26b _ (Option.some.inj h).symm)  H locs ls hS (lv_sub hl [0, 1, 2, 3] rfl)
      · have h := it_neg c2 h
        refine lv_iload_n hx hb dX10_each_33 rfl (lv_at hl 1 rfl) ?_
        refine lv_if_eq (tgt := 62) hx hb dX10_each_34 (by decide) (fun c3 => ?_) (fun c3 => ?_)
        · have h := it_pos c3 h
          exact hk26_0 x26_0 x26_1 x26_2 x26_4 x26_5 x26_6 x26_7 x26_8 x26_9 x26_10 (hz26b _ (Option.some.inj h).symm)  H locs ls hS (lv_sub hl [0, 1, 2, 3] rfl)
        · have h := it_neg c3 h
          refine lv_aload_n hx hb dX10_each_37 rfl (lv_at hl 0 rfl) ?_
          refine lv_aload_n hx hb dX10_each_38 rfl (lv_at hl 0 rfl) ?_
          refine r_get E frX10_30 hS 0 rfl rfl dX10_each_39 ?_
          refine lv_iconst (v := 1) hx hb dX10_each_42 (by decide) ?_
          obtain ⟨y43, e4, h⟩ := bd_some h
          refine ct_V (ws' := fun _ => [oX10 q0 u0_0 (.ref q1) (.ref q3) (.ref q9) u0_4 u0_5 (.ref q15) u0_7 u0_8 u0_9 u0_10 u0_11 u0_12, oX2 q1 (.ref q2) (.int v_told_size), aJ cy q2 16 v_told_number, oX0 q3 (.ref q4) (.ref q5) (.ref q6) (.ref q7) (.ref q8) (.int v_folk_number) (.int v_folk_day) (.int v_folk_unmet), aI cy q4 7 v_folk_skill, aI cy q5 7 v_folk_pills, aI cy q6 7 v_folk_slept, aI cy q7 7 v_folk_woken, aI cy q8 7 v_folk_wanted, oX0 q9 (.ref q10) (.ref q11) (.ref q12) (.ref q13) (.ref q14) (.int y8.1) (.int y43.2.2.2.1) (.int y43.2.2.2.2.1), aI cy q10 7 y8.2.2.2.1, aI cy q11 7 y43.2.2.2.2.2.1, aI cy q12 7 y43.2.2.2.2.2.2.1, aI cy q13 7 y43.2.2.2.2.2.2.2, aI cy q14 7 y8.2.2.2.2.2.2.2, oX5 q15 (.ref q16) (.ref q17) (.ref q18) (.int v_inForce_size), aI cy q16 40 v_inForce_code, aI cy q17 40 y43.2.1, aI cy q18 7 y43.2.2.1]) (st' := [.int y43.1]) (rest := []) E hS vlX10_192 (c_X10_goBy (l := l) (D := D) (cy := cy) (q0 := q0) (q1 := q15) (q2 := q16) (q3 := q17) (q4 := q18) (q5 := q9) (q6 := q10) (q7 := q11) (q8 := q12) (q9 := q13) (q10 := q14) (u0_0 := u0_0) (u0_1 := .ref q1) (u0_2 := .ref q3) (u0_3 := .ref q9) (u0_4 := u0_4) (u0_5 := u0_5) (u0_7 := u0_7) (u0_8 := u0_8) (u0_9 := u0_9) (u0_10 := u0_10) (u0_11 := u0_11) (u0_12 := u0_12) (v_inForce_size := v_inForce_size) (v_inForce_code := v_inForce_code) (v_inForce_stack := x26_9) (v_inForce_thing := x26_10) (w1_number := y8.1) (w1_day := x26_4) (w1_unmet := x26_5) (w1_skill := y8.2.2.2.1) (w1_pills := x26_6) (w1_slept := x26_7) (w1_woken := x26_8) (w1_wanted := y8.2.2.2.2.2.2.2) (p2 := (1 : Int32)) (r := y43) e4) [0, 15, 16, 17, 18, 9, 10, 11, 12, 13, 14] rfl rfl (fun _ => rfl) (fun _ => rfl) rfl rfl rfl rfl (Nat.le_of_ble_eq_true rfl) hl.1 (by rw [hRf]; exact Nat.le_of_ble_eq_true rfl) (by rw [hRl]; exact Nat.le_of_ble_eq_true rfl) ⟨Nat.zero_le _, Nat.zero_le _⟩ dX10_each_43 rfl (fun H locs _ hS => ?_)
          refine lv_istore_n (lv' := [(2, .int y43.1), (0, .ref q0), (1, .int x26_0), (3, .int x26_2), (4, .int x26_3)]) hx hb dX10_each_46 rfl hl (by decide) rfl (fun ls hl => ?_)
          refine lv_iload_n hx hb dX10_each_47 rfl (lv_at hl 2 rfl) ?_
          refine lv_iload_n hx hb dX10_each_48 rfl (lv_at hl 0 rfl) ?_
          refine lv_iconst (v := -1) hx hb dX10_each_49 (by decide) ?_
          refine lv_ixor hx hb dX10_each_50 ?_
          refine lv_iand hx hb dX10_each_51 ?_
          refine lv_istore_n (lv' := [(1, .int (x26_0 &&& (y43.1 ^^^ (-1 : Int32)))), (2, .int y43.1), (0, .ref q0), (3, .int x26_2), (4, .int x26_3)]) hx hb dX10_each_52 rfl hl (by decide) rfl (fun ls hl => ?_)
          refine lv_iload hx hb dX10_each_53 (lv_at hl 4 rfl) ?_
          refine lv_istore_n (lv' := [(3, .int x26_3), (1, .int (x26_0 &&& (y43.1 ^^^ (-1 : Int32)))), (2, .int y43.1), (0, .ref q0), (4, .int x26_3)]) hx hb dX10_each_55 rfl hl (by decide) rfl (fun ls hl => ?_)
          refine lv_iinc (v := (x26_3 + (1 : Int32))) (lv' := [(4, .int (x26_3 + (1 : Int32))), (3, .int x26_3), (1, .int (x26_0 &&& (y43.1 ^^^ (-1 : Int32)))), (2, .int y43.1), (0, .ref q0)]) hx hb dX10_each_56 hl (k := 4) rfl rfl (by decide) rfl (fun ls hl => ?_)
          refine lv_goto (tgt := 26) hx hb dX10_each_59 (by decide) ?_
          exact ih26 (x26_0 &&& (y43.1 ^^^ (-1 : Int32))) y43.1 x26_3 (x26_3 + (1 : Int32)) y43.2.2.2.1 y43.2.2.2.2.1 y43.2.2.2.2.2.1 y43.2.2.2.2.2.2.1 y43.2.2.2.2.2.2.2 y43.2.1 y43.2.2.1 y26  H locs ls (hz26a _ (Option.some.inj h).symm) hS (lv_sub hl [4, 2, 3, 1, 0] rfl) hk26_0
  obtain ⟨y26, e26, h⟩ := bd_some h
  refine hL26 1000 (X0_everybody v_folk_number) (0 : Int32) (0 : Int32) (1 : Int32) y8.2.1 y8.2.2.1 y8.2.2.2.2.1 y8.2.2.2.2.2.1 y8.2.2.2.2.2.2.1 v_inForce_stack v_inForce_thing y26  H locs ls e26 hS (lv_sub hl [4, 3, 2, 1, 0] rfl) (fun y26_0 y26_1 y26_2 y26_3 y26_4 y26_5 y26_6 y26_7 y26_8 y26_9 ey26 H locs ls hS hl => ?_)
  subst ey26
  have h := un_r h
  have h := un_r h
  have h := un_r h
  have h := un_r h
  have h := un_r h
  have h := un_r h
  have h := un_r h
  have h := un_r h
  have h := un_r h
  refine lv_iload_n hx hb dX10_each_62 rfl (lv_at hl 1 rfl) ?_
  refine lv_if_eq (tgt := 69) hx hb dX10_each_63 (by decide) (fun c5 => ?_) (fun c5 => ?_)
  · have h := it_pos c5 h
    refine lv_aload_n hx hb dX10_each_69 rfl (lv_at hl 0 rfl) ?_
    refine r_get E frX10_19 hS 0 rfl rfl dX10_each_70 ?_
    refine lv_iload_n hx hb dX10_each_73 rfl (lv_at hl 2 rfl) ?_
    refine lv_i2l (v := (y26_1.toInt64)) hx hb dX10_each_74 rfl ?_
    obtain ⟨y75, e6, h⟩ := bd_some h
    refine ct_V (ws' := fun _ => [oX10 q0 u0_0 (.ref q1) (.ref q3) (.ref q9) u0_4 u0_5 (.ref q15) u0_7 u0_8 u0_9 u0_10 u0_11 u0_12, oX2 q1 (.ref q2) (.int y75.1), aJ cy q2 16 y75.2, oX0 q3 (.ref q4) (.ref q5) (.ref q6) (.ref q7) (.ref q8) (.int v_folk_number) (.int v_folk_day) (.int v_folk_unmet), aI cy q4 7 v_folk_skill, aI cy q5 7 v_folk_pills, aI cy q6 7 v_folk_slept, aI cy q7 7 v_folk_woken, aI cy q8 7 v_folk_wanted, oX0 q9 (.ref q10) (.ref q11) (.ref q12) (.ref q13) (.ref q14) (.int y8.1) (.int y26_3) (.int y26_4), aI cy q10 7 y8.2.2.2.1, aI cy q11 7 y26_5, aI cy q12 7 y26_6, aI cy q13 7 y26_7, aI cy q14 7 y8.2.2.2.2.2.2.2, oX5 q15 (.ref q16) (.ref q17) (.ref q18) (.int v_inForce_size), aI cy q16 40 v_inForce_code, aI cy q17 40 y26_8, aI cy q18 7 y26_9]) (st' := []) (rest := []) E hS vlX10_255 (c_X2_tellsOne (l := l) (D := D) (cy := cy) (q0 := q1) (q1 := q2) (v_size := v_told_size) (v_number := v_told_number) (p1 := (y26_1.toInt64)) (r := y75) e6) [1, 2] rfl rfl (fun _ => rfl) (fun _ => rfl) rfl rfl rfl rfl (Nat.le_of_ble_eq_true rfl) hl.1 (by rw [hRf]; exact Nat.le_of_ble_eq_true rfl) (by rw [hRl]; exact Nat.le_of_ble_eq_true rfl) ⟨Nat.zero_le _, Nat.zero_le _⟩ dX10_each_75 rfl (fun H locs _ hS => ?_)
    refine lv_iload_n hx hb dX10_each_78 rfl (lv_at hl 3 rfl) ?_
    obtain rfl := Option.some.inj h
    exact rt_i E hQ (.null) hS dX10_each_79
  · have h := it_neg c5 h
    refine lv_bipush (v := -2) hx hb dX10_each_66 (by decide) ?_
    obtain rfl := Option.some.inj h
    exact rt_i E hQ (.null) hS dX10_each_68
set_option maxHeartbeats 4000000 in
set_option maxRecDepth 100000 in
theorem c_X10_busiest {l : Launch} {D : va_G} {cy : Nat → ClassId} (q0 : Nat) (q1 : Nat) (q2 : Nat) (q3 : Nat) (q4 : Nat) (q5 : Nat) (q6 : Nat) (q7 : Nat) (q8 : Nat) (q9 : Nat) (q10 : Nat) (q11 : Nat) (q12 : Nat) (q13 : Nat) (q14 : Nat) (q15 : Nat) (q16 : Nat) (q17 : Nat) (q18 : Nat) (u0_0 : Value) (u0_4 : Value) (u0_5 : Value) (u0_7 : Value) (u0_8 : Value) (u0_9 : Value) (u0_10 : Value) (u0_11 : Value) (u0_12 : Value) (v_told_size : Int32) (v_told_number : Nat → Int64) (v_folk_number : Int32) (v_folk_day : Int32) (v_folk_unmet : Int32) (v_folk_skill : Nat → Int32) (v_folk_pills : Nat → Int32) (v_folk_slept : Nat → Int32) (v_folk_woken : Nat → Int32) (v_folk_wanted : Nat → Int32) (v_trial_number : Int32) (v_trial_day : Int32) (v_trial_unmet : Int32) (v_trial_skill : Nat → Int32) (v_trial_pills : Nat → Int32) (v_trial_slept : Nat → Int32) (v_trial_woken : Nat → Int32) (v_trial_wanted : Nat → Int32) (v_inForce_size : Int32) (v_inForce_code : Nat → Int32) (v_inForce_stack : Nat → Int32) (v_inForce_thing : Nat → Int32) (p1 : Int32) (r : Int32 × Int32 × (Nat → Int64) × Int32 × Int32 × Int32 × (Nat → Int32) × (Nat → Int32) × (Nat → Int32) × (Nat → Int32) × (Nat → Int32) × (Nat → Int32) × (Nat → Int32)) (h : X10_busiest v_told_size v_told_number v_folk_number v_folk_day v_folk_unmet v_folk_skill v_folk_pills v_folk_slept v_folk_woken v_folk_wanted v_trial_number v_trial_day v_trial_unmet v_trial_skill v_trial_pills v_trial_slept v_trial_woken v_trial_wanted v_inForce_size v_inForce_code v_inForce_stack v_inForce_thing p1 = some r) : Ct l yX10_busiest cX10_busiest 4 (some .int) 5 118 D cy [.ref q0, .int p1] [oX10 q0 u0_0 (.ref q1) (.ref q3) (.ref q9) u0_4 u0_5 (.ref q15) u0_7 u0_8 u0_9 u0_10 u0_11 u0_12, oX2 q1 (.ref q2) (.int v_told_size), aJ cy q2 16 v_told_number, oX0 q3 (.ref q4) (.ref q5) (.ref q6) (.ref q7) (.ref q8) (.int v_folk_number) (.int v_folk_day) (.int v_folk_unmet), aI cy q4 7 v_folk_skill, aI cy q5 7 v_folk_pills, aI cy q6 7 v_folk_slept, aI cy q7 7 v_folk_woken, aI cy q8 7 v_folk_wanted, oX0 q9 (.ref q10) (.ref q11) (.ref q12) (.ref q13) (.ref q14) (.int v_trial_number) (.int v_trial_day) (.int v_trial_unmet), aI cy q10 7 v_trial_skill, aI cy q11 7 v_trial_pills, aI cy q12 7 v_trial_slept, aI cy q13 7 v_trial_woken, aI cy q14 7 v_trial_wanted, oX5 q15 (.ref q16) (.ref q17) (.ref q18) (.int v_inForce_size), aI cy q16 40 v_inForce_code, aI cy q17 40 v_inForce_stack, aI cy q18 7 v_inForce_thing] (fun _ => [oX10 q0 u0_0 (.ref q1) (.ref q3) (.ref q9) u0_4 u0_5 (.ref q15) u0_7 u0_8 u0_9 u0_10 u0_11 u0_12, oX2 q1 (.ref q2) (.int r.2.1), aJ cy q2 16 r.2.2.1, oX0 q3 (.ref q4) (.ref q5) (.ref q6) (.ref q7) (.ref q8) (.int v_folk_number) (.int v_folk_day) (.int v_folk_unmet), aI cy q4 7 v_folk_skill, aI cy q5 7 v_folk_pills, aI cy q6 7 v_folk_slept, aI cy q7 7 v_folk_woken, aI cy q8 7 v_folk_wanted, oX0 q9 (.ref q10) (.ref q11) (.ref q12) (.ref q13) (.ref q14) (.int r.2.2.2.1) (.int r.2.2.2.2.1) (.int r.2.2.2.2.2.1), aI cy q10 7 r.2.2.2.2.2.2.1, aI cy q11 7 r.2.2.2.2.2.2.2.1, aI cy q12 7 r.2.2.2.2.2.2.2.2.1, aI cy q13 7 r.2.2.2.2.2.2.2.2.2.1, aI cy q14 7 r.2.2.2.2.2.2.2.2.2.2.1, oX5 q15 (.ref q16) (.ref q17) (.ref q18) (.int v_inForce_size), aI cy q16 40 v_inForce_code, aI cy q17 40 r.2.2.2.2.2.2.2.2.2.2.2.1, aI cy q18 7 r.2.2.2.2.2.2.2.2.2.2.2.2]) (some (.int r.1)) := by
  refine Ct.mk kX10_busiest (by decide +kernel) (Nat.le_of_ble_eq_true rfl) ?_
  intro p e s m below meth c A ls args R Q hRf hRl hQ E H locs hS hl
  have hx := E.x
  have hb := E.b
  have hl : lv_has ls 4 [(0, .ref q0), (1, .int p1)] := hl
  unfold X10_busiest at h
  refine lv_iload_n hx hb dX10_busiest_0 rfl (lv_at hl 1 rfl) ?_
  refine lv_iconst (v := 1) hx hb dX10_busiest_1 (by decide) ?_
  refine lv_icmp_lt (tgt := 11) hx hb dX10_busiest_2 (by decide) (fun c1 => ?_) (fun c1 => ?_)
  · have h := it_pos c1 h
    refine lv_iconst (v := -1) hx hb dX10_busiest_11 (by decide) ?_
    obtain rfl := Option.some.inj h
    exact rt_i E hQ (.null) hS dX10_busiest_12
  · have h := it_neg c1 h
    refine lv_iload_n hx hb dX10_busiest_5 rfl (lv_at hl 1 rfl) ?_
    refine lv_bipush (v := 99) hx hb dX10_busiest_6 (by decide) ?_
    refine lv_icmp_le (tgt := 13) hx hb dX10_busiest_8 (by decide) (fun c2 => ?_) (fun c2 => ?_)
    · have h := it_pos c2 h
      refine lv_aload_n hx hb dX10_busiest_13 rfl (lv_at hl 0 rfl) ?_
      refine r_get E frX10_26 hS 0 rfl rfl dX10_busiest_14 ?_
      refine r_get E frX10_107 hS 3 rfl rfl dX10_busiest_17 ?_
      refine lv_if_ne (tgt := 26) hx hb dX10_busiest_20 (by decide) (fun c3 => ?_) (fun c3 => ?_)
      · have h := it_neg c3 h
        refine lv_aload_n hx hb dX10_busiest_26 rfl (lv_at hl 0 rfl) ?_
        refine r_get E frX10_30 hS 0 rfl rfl dX10_busiest_27 ?_
        refine lv_aload_n hx hb dX10_busiest_30 rfl (lv_at hl 0 rfl) ?_
        refine r_get E frX10_26 hS 0 rfl rfl dX10_busiest_31 ?_
        obtain ⟨y34, e4, h⟩ := bd_some h
        refine ct_V (ws' := fun _ => [oX10 q0 u0_0 (.ref q1) (.ref q3) (.ref q9) u0_4 u0_5 (.ref q15) u0_7 u0_8 u0_9 u0_10 u0_11 u0_12, oX2 q1 (.ref q2) (.int v_told_size), aJ cy q2 16 v_told_number, oX0 q3 (.ref q4) (.ref q5) (.ref q6) (.ref q7) (.ref q8) (.int v_folk_number) (.int v_folk_day) (.int v_folk_unmet), aI cy q4 7 v_folk_skill, aI cy q5 7 v_folk_pills, aI cy q6 7 v_folk_slept, aI cy q7 7 v_folk_woken, aI cy q8 7 v_folk_wanted, oX0 q9 (.ref q10) (.ref q11) (.ref q12) (.ref q13) (.ref q14) (.int y34.1) (.int y34.2.1) (.int y34.2.2.1), aI cy q10 7 y34.2.2.2.1, aI cy q11 7 y34.2.2.2.2.1, aI cy q12 7 y34.2.2.2.2.2.1, aI cy q13 7 y34.2.2.2.2.2.2.1, aI cy q14 7 y34.2.2.2.2.2.2.2, oX5 q15 (.ref q16) (.ref q17) (.ref q18) (.int v_inForce_size), aI cy q16 40 v_inForce_code, aI cy q17 40 v_inForce_stack, aI cy q18 7 v_inForce_thing]) (st' := []) (rest := []) E hS vlX10_249 (c_X0_becomes (l := l) (D := D) (cy := cy) (q0 := q9) (q1 := q10) (q2 := q11) (q3 := q12) (q4 := q13) (q5 := q14) (q6 := q3) (q7 := q4) (q8 := q5) (q9 := q6) (q10 := q7) (q11 := q8) (v_number := v_trial_number) (v_day := v_trial_day) (v_unmet := v_trial_unmet) (v_skill := v_trial_skill) (v_pills := v_trial_pills) (v_slept := v_trial_slept) (v_woken := v_trial_woken) (v_wanted := v_trial_wanted) (w1_number := v_folk_number) (w1_day := v_folk_day) (w1_unmet := v_folk_unmet) (w1_skill := v_folk_skill) (w1_pills := v_folk_pills) (w1_slept := v_folk_slept) (w1_woken := v_folk_woken) (w1_wanted := v_folk_wanted) (r := y34) e4) [9, 10, 11, 12, 13, 14, 3, 4, 5, 6, 7, 8] rfl rfl (fun _ => rfl) (fun _ => rfl) rfl rfl rfl rfl (Nat.le_of_ble_eq_true rfl) hl.1 (by rw [hRf]; exact Nat.le_of_ble_eq_true rfl) (by rw [hRl]; exact Nat.le_of_ble_eq_true rfl) ⟨Nat.zero_le _, Nat.zero_le _⟩ dX10_busiest_34 rfl (fun H locs _ hS => ?_)
        refine lv_aload_n hx hb dX10_busiest_37 rfl (lv_at hl 0 rfl) ?_
        refine r_get E frX10_30 hS 0 rfl rfl dX10_busiest_38 ?_
        obtain ⟨y41, e5, h⟩ := bd_some h
        refine ct_V (ws' := fun _ => [oX10 q0 u0_0 (.ref q1) (.ref q3) (.ref q9) u0_4 u0_5 (.ref q15) u0_7 u0_8 u0_9 u0_10 u0_11 u0_12, oX2 q1 (.ref q2) (.int v_told_size), aJ cy q2 16 v_told_number, oX0 q3 (.ref q4) (.ref q5) (.ref q6) (.ref q7) (.ref q8) (.int v_folk_number) (.int v_folk_day) (.int v_folk_unmet), aI cy q4 7 v_folk_skill, aI cy q5 7 v_folk_pills, aI cy q6 7 v_folk_slept, aI cy q7 7 v_folk_woken, aI cy q8 7 v_folk_wanted, oX0 q9 (.ref q10) (.ref q11) (.ref q12) (.ref q13) (.ref q14) (.int y34.1) (.int y34.2.1) (.int y34.2.2.1), aI cy q10 7 y34.2.2.2.1, aI cy q11 7 y34.2.2.2.2.1, aI cy q12 7 y34.2.2.2.2.2.1, aI cy q13 7 y41, aI cy q14 7 y34.2.2.2.2.2.2.2, oX5 q15 (.ref q16) (.ref q17) (.ref q18) (.int v_inForce_size), aI cy q16 40 v_inForce_code, aI cy q17 40 v_inForce_stack, aI cy q18 7 v_inForce_thing]) (st' := []) (rest := []) E hS vlX10_262 (c_X0_restsWoken (l := l) (D := D) (cy := cy) (q0 := q9) (q1 := q13) (u0_0 := .ref q10) (u0_1 := .ref q11) (u0_2 := .ref q12) (u0_4 := .ref q14) (u0_5 := .int y34.1) (u0_6 := .int y34.2.1) (u0_7 := .int y34.2.2.1) (v_woken := y34.2.2.2.2.2.2.1) (r := y41) e5) [9, 13] rfl rfl (fun _ => rfl) (fun _ => rfl) rfl rfl rfl rfl (Nat.le_of_ble_eq_true rfl) hl.1 (by rw [hRf]; exact Nat.le_of_ble_eq_true rfl) (by rw [hRl]; exact Nat.le_of_ble_eq_true rfl) ⟨Nat.zero_le _, Nat.zero_le _⟩ dX10_busiest_41 rfl (fun H locs _ hS => ?_)
        refine lv_aload_n hx hb dX10_busiest_44 rfl (lv_at hl 0 rfl) ?_
        refine r_get E frX10_26 hS 0 rfl rfl dX10_busiest_45 ?_
        refine ct_V (ws' := fun _ => [oX10 q0 u0_0 (.ref q1) (.ref q3) (.ref q9) u0_4 u0_5 (.ref q15) u0_7 u0_8 u0_9 u0_10 u0_11 u0_12, oX2 q1 (.ref q2) (.int v_told_size), aJ cy q2 16 v_told_number, oX0 q3 (.ref q4) (.ref q5) (.ref q6) (.ref q7) (.ref q8) (.int v_folk_number) (.int v_folk_day) (.int v_folk_unmet), aI cy q4 7 v_folk_skill, aI cy q5 7 v_folk_pills, aI cy q6 7 v_folk_slept, aI cy q7 7 v_folk_woken, aI cy q8 7 v_folk_wanted, oX0 q9 (.ref q10) (.ref q11) (.ref q12) (.ref q13) (.ref q14) (.int y34.1) (.int y34.2.1) (.int y34.2.2.1), aI cy q10 7 y34.2.2.2.1, aI cy q11 7 y34.2.2.2.2.1, aI cy q12 7 y34.2.2.2.2.2.1, aI cy q13 7 y41, aI cy q14 7 y34.2.2.2.2.2.2.2, oX5 q15 (.ref q16) (.ref q17) (.ref q18) (.int v_inForce_size), aI cy q16 40 v_inForce_code, aI cy q17 40 v_inForce_stack, aI cy q18 7 v_inForce_thing]) (st' := [.int (X0_everybody v_folk_number)]) (rest := []) E hS vlX10_259 (c_X0_everybody (l := l) (D := D) (cy := cy) (q0 := q3) (u0_0 := .ref q4) (u0_1 := .ref q5) (u0_2 := .ref q6) (u0_3 := .ref q7) (u0_4 := .ref q8) (u0_6 := .int v_folk_day) (u0_7 := .int v_folk_unmet) (v_number := v_folk_number) (r := (X0_everybody v_folk_number)) rfl) [3] rfl rfl (fun _ => rfl) (fun _ => rfl) rfl rfl rfl rfl (Nat.le_of_ble_eq_true rfl) hl.1 (by rw [hRf]; exact Nat.le_of_ble_eq_true rfl) (by rw [hRl]; exact Nat.le_of_ble_eq_true rfl) ⟨Nat.zero_le _, Nat.zero_le _⟩ dX10_busiest_48 rfl (fun H locs _ hS => ?_)
        refine lv_istore_n (lv' := [(2, .int (X0_everybody v_folk_number)), (0, .ref q0), (1, .int p1)]) hx hb dX10_busiest_51 rfl hl (by decide) rfl (fun ls hl => ?_)
        refine lv_iconst (v := 0) hx hb dX10_busiest_52 (by decide) ?_
        refine lv_istore_n (lv' := [(3, .int (0 : Int32)), (2, .int (X0_everybody v_folk_number)), (0, .ref q0), (1, .int p1)]) hx hb dX10_busiest_53 rfl hl (by decide) rfl (fun ls hl => ?_)
        have hL54 : ∀ (n : Nat) (x54_0 : Int32) (x54_1 : Int32) (x54_2 : Int32) (x54_3 : Int32) (x54_4 : Nat → Int32) (x54_5 : Nat → Int32) (x54_6 : Nat → Int32) (x54_7 : Nat → Int32) (x54_8 : Nat → Int32) (y54 : Int32 × Int32 × Int32 × (Nat → Int32) × (Nat → Int32) × (Nat → Int32) × (Nat → Int32) × (Nat → Int32)) (H : Heap) (locs : List Loc) (ls : Array Slot), lp (fun x54 => X10_busiest_s54 v_inForce_size v_inForce_code p1 y34 x54.1 x54.2.1 x54.2.2.1 x54.2.2.2.1 x54.2.2.2.2.1 x54.2.2.2.2.2.1 x54.2.2.2.2.2.2.1 x54.2.2.2.2.2.2.2.1 x54.2.2.2.2.2.2.2.2) n (x54_0, x54_1, x54_2, x54_3, x54_4, x54_5, x54_6, x54_7, x54_8) = some y54 → Sv D A s.heap [oX10 q0 u0_0 (.ref q1) (.ref q3) (.ref q9) u0_4 u0_5 (.ref q15) u0_7 u0_8 u0_9 u0_10 u0_11 u0_12, oX2 q1 (.ref q2) (.int v_told_size), aJ cy q2 16 v_told_number, oX0 q3 (.ref q4) (.ref q5) (.ref q6) (.ref q7) (.ref q8) (.int v_folk_number) (.int v_folk_day) (.int v_folk_unmet), aI cy q4 7 v_folk_skill, aI cy q5 7 v_folk_pills, aI cy q6 7 v_folk_slept, aI cy q7 7 v_folk_woken, aI cy q8 7 v_folk_wanted, oX0 q9 (.ref q10) (.ref q11) (.ref q12) (.ref q13) (.ref q14) (.int y34.1) (.int x54_2) (.int x54_3), aI cy q10 7 y34.2.2.2.1, aI cy q11 7 x54_4, aI cy q12 7 x54_5, aI cy q13 7 x54_6, aI cy q14 7 y34.2.2.2.2.2.2.2, oX5 q15 (.ref q16) (.ref q17) (.ref q18) (.int v_inForce_size), aI cy q16 40 v_inForce_code, aI cy q17 40 x54_7, aI cy q18 7 x54_8] H locs → lv_has ls 4 [(0, .ref q0), (1, .int p1), (2, .int x54_0), (3, .int x54_1)] → ( ∀ (y54_0 : Int32) (y54_1 : Int32) (y54_2 : Int32) (y54_3 : Nat → Int32) (y54_4 : Nat → Int32) (y54_5 : Nat → Int32) (y54_6 : Nat → Int32) (y54_7 : Nat → Int32), (y54_0, y54_1, y54_2, y54_3, y54_4, y54_5, y54_6, y54_7) = y54 → ∀ (H : Heap) (locs : List Loc) (ls : Array Slot), Sv D A s.heap [oX10 q0 u0_0 (.ref q1) (.ref q3) (.ref q9) u0_4 u0_5 (.ref q15) u0_7 u0_8 u0_9 u0_10 u0_11 u0_12, oX2 q1 (.ref q2) (.int v_told_size), aJ cy q2 16 v_told_number, oX0 q3 (.ref q4) (.ref q5) (.ref q6) (.ref q7) (.ref q8) (.int v_folk_number) (.int v_folk_day) (.int v_folk_unmet), aI cy q4 7 v_folk_skill, aI cy q5 7 v_folk_pills, aI cy q6 7 v_folk_slept, aI cy q7 7 v_folk_woken, aI cy q8 7 v_folk_wanted, oX0 q9 (.ref q10) (.ref q11) (.ref q12) (.ref q13) (.ref q14) (.int y34.1) (.int y54_1) (.int y54_2), aI cy q10 7 y34.2.2.2.1, aI cy q11 7 y54_3, aI cy q12 7 y54_4, aI cy q13 7 y54_5, aI cy q14 7 y34.2.2.2.2.2.2.2, oX5 q15 (.ref q16) (.ref q17) (.ref q18) (.int v_inForce_size), aI cy q16 40 v_inForce_code, aI cy q17 40 y54_6, aI cy q18 7 y54_7] H locs → lv_has ls 4 [(0, .ref q0), (2, .int y54_0)] → W p l e R s m args below meth c H locs 0 0 Q (F0 m 79 ls [])) → W p l e R s m args below meth c H locs 0 0 Q (F0 m 54 ls []) := by
          intro n
          induction n with
          | zero =>
            intro x54_0 x54_1 x54_2 x54_3 x54_4 x54_5 x54_6 x54_7 x54_8 y54 H locs ls h
            exact lp_zero h
          | succ n ih54 =>
            intro x54_0 x54_1 x54_2 x54_3 x54_4 x54_5 x54_6 x54_7 x54_8 y54 H locs ls h hS hl hk54_0
            obtain ⟨z54, h, hz54a, hz54b⟩ := lp_succ h
            have h : X10_busiest_s54 v_inForce_size v_inForce_code p1 y34 x54_0 x54_1 x54_2 x54_3 x54_4 x54_5 x54_6 x54_7 x54_8 = some z54 := h
            unfold X10_busiest_s54 at h
            refine lv_iload_n hx hb dX10_busiest_54 rfl (lv_at hl 3 rfl) ?_
            refine lv_iload_n hx hb dX10_busiest_55 rfl (lv_at hl 1 rfl) ?_
            refine lv_icmp_ge (tgt := 79) hx hb dX10_busiest_56 (by decide) (fun c6 => ?_) (fun c6 => ?_)
            · have h := it_pos c6 h
              exact hk54_0 x54_0 x54_2 x54_3 x54_4 x54_5 x54_6 x54_7 x54_8 (hz54b _ (Option.some.inj h).symm)  H locs ls hS (lv_sub hl [0, 2] rfl)
            · have h := it_neg c6 h
              refine lv_iload_n hx hb dX10_busiest_59 rfl (lv_at hl 2 rfl) ?_
              refine lv_aload_n hx hb dX10_busiest_60 rfl (lv_at hl 0 rfl) ?_
              refine lv_aload_n hx hb dX10_busiest_61 rfl (lv_at hl 0 rfl) ?_
              refine r_get E frX10_30 hS 0 rfl rfl dX10_busiest_62 ?_
              refine lv_iconst (v := 1) hx hb dX10_busiest_65 (by decide) ?_
              obtain ⟨y66, e7, h⟩ := bd_some h
              refine ct_V (ws' := fun _ => [oX10 q0 u0_0 (.ref q1) (.ref q3) (.ref q9) u0_4 u0_5 (.ref q15) u0_7 u0_8 u0_9 u0_10 u0_11 u0_12, oX2 q1 (.ref q2) (.int v_told_size), aJ cy q2 16 v_told_number, oX0 q3 (.ref q4) (.ref q5) (.ref q6) (.ref q7) (.ref q8) (.int v_folk_number) (.int v_folk_day) (.int v_folk_unmet), aI cy q4 7 v_folk_skill, aI cy q5 7 v_folk_pills, aI cy q6 7 v_folk_slept, aI cy q7 7 v_folk_woken, aI cy q8 7 v_folk_wanted, oX0 q9 (.ref q10) (.ref q11) (.ref q12) (.ref q13) (.ref q14) (.int y34.1) (.int y66.2.2.2.1) (.int y66.2.2.2.2.1), aI cy q10 7 y34.2.2.2.1, aI cy q11 7 y66.2.2.2.2.2.1, aI cy q12 7 y66.2.2.2.2.2.2.1, aI cy q13 7 y66.2.2.2.2.2.2.2, aI cy q14 7 y34.2.2.2.2.2.2.2, oX5 q15 (.ref q16) (.ref q17) (.ref q18) (.int v_inForce_size), aI cy q16 40 v_inForce_code, aI cy q17 40 y66.2.1, aI cy q18 7 y66.2.2.1]) (st' := [.int y66.1, .int x54_0]) (rest := [.int x54_0]) E hS vlX10_192 (c_X10_goBy (l := l) (D := D) (cy := cy) (q0 := q0) (q1 := q15) (q2 := q16) (q3 := q17) (q4 := q18) (q5 := q9) (q6 := q10) (q7 := q11) (q8 := q12) (q9 := q13) (q10 := q14) (u0_0 := u0_0) (u0_1 := .ref q1) (u0_2 := .ref q3) (u0_3 := .ref q9) (u0_4 := u0_4) (u0_5 := u0_5) (u0_7 := u0_7) (u0_8 := u0_8) (u0_9 := u0_9) (u0_10 := u0_10) (u0_11 := u0_11) (u0_12 := u0_12) (v_inForce_size := v_inForce_size) (v_inForce_code := v_inForce_code) (v_inForce_stack := x54_7) (v_inForce_thing := x54_8) (w1_number := y34.1) (w1_day := x54_2) (w1_unmet := x54_3) (w1_skill := y34.2.2.2.1) (w1_pills := x54_4) (w1_slept := x54_5) (w1_woken := x54_6) (w1_wanted := y34.2.2.2.2.2.2.2) (p2 := (1 : Int32)) (r := y66) e7) [0, 15, 16, 17, 18, 9, 10, 11, 12, 13, 14] rfl rfl (fun _ => rfl) (fun _ => rfl) rfl rfl rfl rfl (Nat.le_of_ble_eq_true rfl) hl.1 (by rw [hRf]; exact Nat.le_of_ble_eq_true rfl) (by rw [hRl]; exact Nat.le_of_ble_eq_true rfl) ⟨Nat.zero_le _, Nat.zero_le _⟩ dX10_busiest_66 rfl (fun H locs _ hS => ?_)
              refine lv_iconst (v := -1) hx hb dX10_busiest_69 (by decide) ?_
              refine lv_ixor hx hb dX10_busiest_70 ?_
              refine lv_iand hx hb dX10_busiest_71 ?_
              refine lv_istore_n (lv' := [(2, .int (x54_0 &&& (y66.1 ^^^ (-1 : Int32)))), (0, .ref q0), (1, .int p1), (3, .int x54_1)]) hx hb dX10_busiest_72 rfl hl (by decide) rfl (fun ls hl => ?_)
              refine lv_iinc (v := (x54_1 + (1 : Int32))) (lv' := [(3, .int (x54_1 + (1 : Int32))), (2, .int (x54_0 &&& (y66.1 ^^^ (-1 : Int32)))), (0, .ref q0), (1, .int p1)]) hx hb dX10_busiest_73 hl (k := 3) rfl rfl (by decide) rfl (fun ls hl => ?_)
              refine lv_goto (tgt := 54) hx hb dX10_busiest_76 (by decide) ?_
              exact ih54 (x54_0 &&& (y66.1 ^^^ (-1 : Int32))) (x54_1 + (1 : Int32)) y66.2.2.2.1 y66.2.2.2.2.1 y66.2.2.2.2.2.1 y66.2.2.2.2.2.2.1 y66.2.2.2.2.2.2.2 y66.2.1 y66.2.2.1 y54  H locs ls (hz54a _ (Option.some.inj h).symm) hS (lv_sub hl [2, 3, 1, 0] rfl) hk54_0
        obtain ⟨y54, e54, h⟩ := bd_some h
        refine hL54 1000 (X0_everybody v_folk_number) (0 : Int32) y34.2.1 y34.2.2.1 y34.2.2.2.2.1 y34.2.2.2.2.2.1 y41 v_inForce_stack v_inForce_thing y54  H locs ls e54 hS (lv_sub hl [2, 3, 1, 0] rfl) (fun y54_0 y54_1 y54_2 y54_3 y54_4 y54_5 y54_6 y54_7 ey54 H locs ls hS hl => ?_)
        subst ey54
        have h := un_r h
        have h := un_r h
        have h := un_r h
        have h := un_r h
        have h := un_r h
        have h := un_r h
        have h := un_r h
        refine lv_aload_n hx hb dX10_busiest_79 rfl (lv_at hl 0 rfl) ?_
        refine r_get E frX10_30 hS 0 rfl rfl dX10_busiest_80 ?_
        obtain ⟨y83, e8, h⟩ := bd_some h
        refine ct_V (ws' := fun _ => [oX10 q0 u0_0 (.ref q1) (.ref q3) (.ref q9) u0_4 u0_5 (.ref q15) u0_7 u0_8 u0_9 u0_10 u0_11 u0_12, oX2 q1 (.ref q2) (.int v_told_size), aJ cy q2 16 v_told_number, oX0 q3 (.ref q4) (.ref q5) (.ref q6) (.ref q7) (.ref q8) (.int v_folk_number) (.int v_folk_day) (.int v_folk_unmet), aI cy q4 7 v_folk_skill, aI cy q5 7 v_folk_pills, aI cy q6 7 v_folk_slept, aI cy q7 7 v_folk_woken, aI cy q8 7 v_folk_wanted, oX0 q9 (.ref q10) (.ref q11) (.ref q12) (.ref q13) (.ref q14) (.int y34.1) (.int y54_1) (.int y54_2), aI cy q10 7 y34.2.2.2.1, aI cy q11 7 y54_3, aI cy q12 7 y54_4, aI cy q13 7 y54_5, aI cy q14 7 y34.2.2.2.2.2.2.2, oX5 q15 (.ref q16) (.ref q17) (.ref q18) (.int v_inForce_size), aI cy q16 40 v_inForce_code, aI cy q17 40 y54_6, aI cy q18 7 y54_7]) (st' := [.int y83]) (rest := []) E hS vlX10_265 (c_X0_mostWoken (l := l) (D := D) (cy := cy) (q0 := q9) (q1 := q13) (u0_0 := .ref q10) (u0_1 := .ref q11) (u0_2 := .ref q12) (u0_4 := .ref q14) (u0_6 := .int y54_1) (u0_7 := .int y54_2) (v_number := y34.1) (v_woken := y54_5) (r := y83) e8) [9, 13] rfl rfl (fun _ => rfl) (fun _ => rfl) rfl rfl rfl rfl (Nat.le_of_ble_eq_true rfl) hl.1 (by rw [hRf]; exact Nat.le_of_ble_eq_true rfl) (by rw [hRl]; exact Nat.le_of_ble_eq_true rfl) ⟨Nat.zero_le _, Nat.zero_le _⟩ dX10_busiest_83 rfl (fun H locs _ hS => ?_)
        refine lv_istore_n (lv' := [(3, .int y83), (0, .ref q0), (2, .int y54_0)]) hx hb dX10_busiest_86 rfl hl (by decide) rfl (fun ls hl => ?_)
        refine lv_aload_n hx hb dX10_busiest_87 rfl (lv_at hl 1 rfl) ?_
        refine r_get E frX10_19 hS 0 rfl rfl dX10_busiest_88 ?_
        refine lv_aload_n hx hb dX10_busiest_91 rfl (lv_at hl 1 rfl) ?_
        refine r_get E frX10_30 hS 0 rfl rfl dX10_busiest_92 ?_
        refine lv_iload_n hx hb dX10_busiest_95 rfl (lv_at hl 0 rfl) ?_
        refine ct_V (ws' := fun _ => [oX10 q0 u0_0 (.ref q1) (.ref q3) (.ref q9) u0_4 u0_5 (.ref q15) u0_7 u0_8 u0_9 u0_10 u0_11 u0_12, oX2 q1 (.ref q2) (.int v_told_size), aJ cy q2 16 v_told_number, oX0 q3 (.ref q4) (.ref q5) (.ref q6) (.ref q7) (.ref q8) (.int v_folk_number) (.int v_folk_day) (.int v_folk_unmet), aI cy q4 7 v_folk_skill, aI cy q5 7 v_folk_pills, aI cy q6 7 v_folk_slept, aI cy q7 7 v_folk_woken, aI cy q8 7 v_folk_wanted, oX0 q9 (.ref q10) (.ref q11) (.ref q12) (.ref q13) (.ref q14) (.int y34.1) (.int y54_1) (.int y54_2), aI cy q10 7 y34.2.2.2.1, aI cy q11 7 y54_3, aI cy q12 7 y54_4, aI cy q13 7 y54_5, aI cy q14 7 y34.2.2.2.2.2.2.2, oX5 q15 (.ref q16) (.ref q17) (.ref q18) (.int v_inForce_size), aI cy q16 40 v_inForce_code, aI cy q17 40 y54_6, aI cy q18 7 y54_7]) (st' := [.int (X0_has y34.1 y83), .ref q1]) (rest := [.ref q1]) E hS vlX10_148 (c_X0_has (l := l) (D := D) (cy := cy) (q0 := q9) (u0_0 := .ref q10) (u0_1 := .ref q11) (u0_2 := .ref q12) (u0_3 := .ref q13) (u0_4 := .ref q14) (u0_6 := .int y54_1) (u0_7 := .int y54_2) (v_number := y34.1) (p1 := y83) (r := (X0_has y34.1 y83)) rfl) [9] rfl rfl (fun _ => rfl) (fun _ => rfl) rfl rfl rfl rfl (Nat.le_of_ble_eq_true rfl) hl.1 (by rw [hRf]; exact Nat.le_of_ble_eq_true rfl) (by rw [hRl]; exact Nat.le_of_ble_eq_true rfl) ⟨Nat.zero_le _, Nat.zero_le _⟩ dX10_busiest_96 rfl (fun H locs _ hS => ?_)
        have hJ116 : ∀ (j116_t1 : Int64) (H : Heap) (locs : List Loc) (ls : Array Slot), X10_busiest_k116 v_told_number y34 y54_0 y54_1 y54_2 y54_3 y54_4 y54_5 y54_6 y54_7 y83 j116_t1 = some r → Sv D A s.heap [oX10 q0 u0_0 (.ref q1) (.ref q3) (.ref q9) u0_4 u0_5 (.ref q15) u0_7 u0_8 u0_9 u0_10 u0_11 u0_12, oX2 q1 (.ref q2) (.int v_told_size), aJ cy q2 16 v_told_number, oX0 q3 (.ref q4) (.ref q5) (.ref q6) (.ref q7) (.ref q8) (.int v_folk_number) (.int v_folk_day) (.int v_folk_unmet), aI cy q4 7 v_folk_skill, aI cy q5 7 v_folk_pills, aI cy q6 7 v_folk_slept, aI cy q7 7 v_folk_woken, aI cy q8 7 v_folk_wanted, oX0 q9 (.ref q10) (.ref q11) (.ref q12) (.ref q13) (.ref q14) (.int y34.1) (.int y54_1) (.int y54_2), aI cy q10 7 y34.2.2.2.1, aI cy q11 7 y54_3, aI cy q12 7 y54_4, aI cy q13 7 y54_5, aI cy q14 7 y34.2.2.2.2.2.2.2, oX5 q15 (.ref q16) (.ref q17) (.ref q18) (.int v_inForce_size), aI cy q16 40 v_inForce_code, aI cy q17 40 y54_6, aI cy q18 7 y54_7] H locs → lv_has ls 4 [(2, .int y54_0), (3, .int y83)] → W p l e R s m args below meth c H locs 0 0 Q (F0 m 116 ls [.long j116_t1, .ref q1]) := by
          intro j116_t1 H locs ls h hS hl
          unfold X10_busiest_k116 at h
          refine lv_iload_n hx hb dX10_busiest_116 rfl (lv_at hl 0 rfl) ?_
          refine lv_i2l (v := (y54_0.toInt64)) hx hb dX10_busiest_117 rfl ?_
          obtain ⟨y118, e9, h⟩ := bd_some h
          refine ct_V (ws' := fun _ => [oX10 q0 u0_0 (.ref q1) (.ref q3) (.ref q9) u0_4 u0_5 (.ref q15) u0_7 u0_8 u0_9 u0_10 u0_11 u0_12, oX2 q1 (.ref q2) (.int y118.1), aJ cy q2 16 y118.2, oX0 q3 (.ref q4) (.ref q5) (.ref q6) (.ref q7) (.ref q8) (.int v_folk_number) (.int v_folk_day) (.int v_folk_unmet), aI cy q4 7 v_folk_skill, aI cy q5 7 v_folk_pills, aI cy q6 7 v_folk_slept, aI cy q7 7 v_folk_woken, aI cy q8 7 v_folk_wanted, oX0 q9 (.ref q10) (.ref q11) (.ref q12) (.ref q13) (.ref q14) (.int y34.1) (.int y54_1) (.int y54_2), aI cy q10 7 y34.2.2.2.1, aI cy q11 7 y54_3, aI cy q12 7 y54_4, aI cy q13 7 y54_5, aI cy q14 7 y34.2.2.2.2.2.2.2, oX5 q15 (.ref q16) (.ref q17) (.ref q18) (.int v_inForce_size), aI cy q16 40 v_inForce_code, aI cy q17 40 y54_6, aI cy q18 7 y54_7]) (st' := []) (rest := []) E hS vlX10_199 (c_X2_tellsBoth (l := l) (D := D) (cy := cy) (q0 := q1) (q1 := q2) (v_size := v_told_size) (v_number := v_told_number) (p1 := j116_t1) (p3 := (y54_0.toInt64)) (r := y118) e9) [1, 2] rfl rfl (fun _ => rfl) (fun _ => rfl) rfl rfl rfl rfl (Nat.le_of_ble_eq_true rfl) hl.1 (by rw [hRf]; exact Nat.le_of_ble_eq_true rfl) (by rw [hRl]; exact Nat.le_of_ble_eq_true rfl) ⟨Nat.zero_le _, Nat.zero_le _⟩ dX10_busiest_118 rfl (fun H locs _ hS => ?_)
          refine lv_iload_n hx hb dX10_busiest_121 rfl (lv_at hl 1 rfl) ?_
          obtain rfl := Option.some.inj h
          exact rt_i E hQ (.null) hS dX10_busiest_122
        refine lv_if_eq (tgt := 115) hx hb dX10_busiest_99 (by decide) (fun c10 => ?_) (fun c10 => ?_)
        · have h := it_pos c10 h
          refine lv_lconst (v := 0) hx hb dX10_busiest_115 (by decide) ?_
          exact hJ116 (0 : Int64)  H locs ls h hS (lv_sub hl [2, 0] rfl)
        · have h := it_neg c10 h
          refine lv_aload_n hx hb dX10_busiest_102 rfl (lv_at hl 1 rfl) ?_
          refine r_get E frX10_30 hS 0 rfl rfl dX10_busiest_103 ?_
          refine r_get E frX10_164 hS 9 rfl rfl dX10_busiest_106 ?_
          refine lv_iload_n hx hb dX10_busiest_109 rfl (lv_at hl 0 rfl) ?_
          obtain ⟨g11, h⟩ := gi_some h
          refine r_iald E hS 13 rfl g11 dX10_busiest_110 ?_
          refine lv_i2l (v := ((y54_5 y83.toNatClampNeg).toInt64)) hx hb dX10_busiest_111 rfl ?_
          refine lv_goto (tgt := 116) hx hb dX10_busiest_112 (by decide) ?_
          exact hJ116 ((y54_5 y83.toNatClampNeg).toInt64)  H locs ls h hS (lv_sub hl [2, 0] rfl)
      · have h := it_pos c3 h
        refine lv_bipush (v := -2) hx hb dX10_busiest_23 (by decide) ?_
        obtain rfl := Option.some.inj h
        exact rt_i E hQ (.null) hS dX10_busiest_25
    · have h := it_neg c2 h
      refine lv_iconst (v := -1) hx hb dX10_busiest_11 (by decide) ?_
      obtain rfl := Option.some.inj h
      exact rt_i E hQ (.null) hS dX10_busiest_12
set_option maxHeartbeats 4000000 in
set_option maxRecDepth 100000 in
theorem c_X10_serves {l : Launch} {D : va_G} {cy : Nat → ClassId} (q0 : Nat) (q1 : Nat) (q2 : Nat) (q3 : Nat) (q4 : Nat) (q5 : Nat) (q6 : Nat) (q7 : Nat) (q8 : Nat) (q9 : Nat) (q10 : Nat) (q11 : Nat) (q12 : Nat) (q13 : Nat) (u0_0 : Value) (u0_3 : Value) (u0_4 : Value) (u0_5 : Value) (u0_7 : Value) (u0_9 : Value) (u0_10 : Value) (u0_11 : Value) (u0_12 : Value) (u3_3 : Value) (u3_7 : Value) (v_told_size : Int32) (v_told_number : Nat → Int64) (v_folk_number : Int32) (v_folk_day : Int32) (v_folk_skill : Nat → Int32) (v_folk_pills : Nat → Int32) (v_folk_slept : Nat → Int32) (v_folk_wanted : Nat → Int32) (v_inForce_size : Int32) (v_inForce_code : Nat → Int32) (v_inForce_stack : Nat → Int32) (v_inForce_thing : Nat → Int32) (v_service_most : Nat → Int32) (r : Int32 × Int32 × (Nat → Int64) × (Nat → Int32) × (Nat → Int32) × (Nat → Int32)) (h : X10_serves v_told_number v_folk_number v_folk_day v_folk_skill v_folk_pills v_folk_slept v_folk_wanted v_inForce_size v_inForce_code v_inForce_stack v_inForce_thing v_service_most = some r) : Ct l yX10_serves cX10_serves 1 (some .int) 4 100 D cy [.ref q0] [oX10 q0 u0_0 (.ref q1) (.ref q3) u0_3 u0_4 u0_5 (.ref q8) u0_7 (.ref q12) u0_9 u0_10 u0_11 u0_12, oX2 q1 (.ref q2) (.int v_told_size), aJ cy q2 16 v_told_number, oX0 q3 (.ref q4) (.ref q5) (.ref q6) u3_3 (.ref q7) (.int v_folk_number) (.int v_folk_day) u3_7, aI cy q4 7 v_folk_skill, aI cy q5 7 v_folk_pills, aI cy q6 7 v_folk_slept, aI cy q7 7 v_folk_wanted, oX5 q8 (.ref q9) (.ref q10) (.ref q11) (.int v_inForce_size), aI cy q9 40 v_inForce_code, aI cy q10 40 v_inForce_stack, aI cy q11 7 v_inForce_thing, oX7 q12 (.ref q13), aI cy q13 1024 v_service_most] (fun _ => [oX10 q0 u0_0 (.ref q1) (.ref q3) u0_3 u0_4 u0_5 (.ref q8) u0_7 (.ref q12) u0_9 u0_10 u0_11 u0_12, oX2 q1 (.ref q2) (.int r.2.1), aJ cy q2 16 r.2.2.1, oX0 q3 (.ref q4) (.ref q5) (.ref q6) u3_3 (.ref q7) (.int v_folk_number) (.int v_folk_day) u3_7, aI cy q4 7 v_folk_skill, aI cy q5 7 v_folk_pills, aI cy q6 7 v_folk_slept, aI cy q7 7 v_folk_wanted, oX5 q8 (.ref q9) (.ref q10) (.ref q11) (.int v_inForce_size), aI cy q9 40 v_inForce_code, aI cy q10 40 r.2.2.2.1, aI cy q11 7 r.2.2.2.2.1, oX7 q12 (.ref q13), aI cy q13 1024 r.2.2.2.2.2]) (some (.int r.1)) := by
  refine Ct.mk kX10_serves (by decide +kernel) (Nat.le_of_ble_eq_true rfl) ?_
  intro p e s m below meth c A ls args R Q hRf hRl hQ E H locs hS hl
  have hx := E.x
  have hb := E.b
  have hl : lv_has ls 1 [(0, .ref q0)] := hl
  unfold X10_serves at h
  refine lv_aload_n hx hb dX10_serves_0 rfl (lv_at hl 0 rfl) ?_
  refine r_get E frX10_60 hS 0 rfl rfl dX10_serves_1 ?_
  refine lv_aload_n hx hb dX10_serves_4 rfl (lv_at hl 0 rfl) ?_
  refine r_get E frX10_26 hS 0 rfl rfl dX10_serves_5 ?_
  refine lv_aload_n hx hb dX10_serves_8 rfl (lv_at hl 0 rfl) ?_
  refine r_get E frX10_50 hS 0 rfl rfl dX10_serves_9 ?_
  refine lv_aload_n hx hb dX10_serves_12 rfl (lv_at hl 0 rfl) ?_
  refine r_get E frX10_26 hS 0 rfl rfl dX10_serves_13 ?_
  obtain ⟨y16, e1, h⟩ := bd_some h
  refine ct_V (ws' := fun _ => [oX10 q0 u0_0 (.ref q1) (.ref q3) u0_3 u0_4 u0_5 (.ref q8) u0_7 (.ref q12) u0_9 u0_10 u0_11 u0_12, oX2 q1 (.ref q2) (.int v_told_size), aJ cy q2 16 v_told_number, oX0 q3 (.ref q4) (.ref q5) (.ref q6) u3_3 (.ref q7) (.int v_folk_number) (.int v_folk_day) u3_7, aI cy q4 7 v_folk_skill, aI cy q5 7 v_folk_pills, aI cy q6 7 v_folk_slept, aI cy q7 7 v_folk_wanted, oX5 q8 (.ref q9) (.ref q10) (.ref q11) (.int v_inForce_size), aI cy q9 40 v_inForce_code, aI cy q10 40 y16.2.1, aI cy q11 7 y16.2.2, oX7 q12 (.ref q13), aI cy q13 1024 v_service_most]) (st' := [.int y16.1, .ref q3, .ref q12]) (rest := [.ref q3, .ref q12]) E hS vlX10_234 (c_X5_wakers (l := l) (D := D) (cy := cy) (q0 := q8) (q1 := q9) (q2 := q10) (q3 := q11) (q4 := q3) (q5 := q4) (q6 := q5) (q7 := q6) (q8 := q7) (u4_3 := u3_3) (u4_7 := u3_7) (v_size := v_inForce_size) (v_code := v_inForce_code) (v_stack := v_inForce_stack) (v_thing := v_inForce_thing) (w1_number := v_folk_number) (w1_day := v_folk_day) (w1_skill := v_folk_skill) (w1_pills := v_folk_pills) (w1_slept := v_folk_slept) (w1_wanted := v_folk_wanted) (r := y16) e1) [8, 9, 10, 11, 3, 4, 5, 6, 7] rfl rfl (fun _ => rfl) (fun _ => rfl) rfl rfl rfl rfl (Nat.le_of_ble_eq_true rfl) hl.1 (by rw [hRf]; exact Nat.le_of_ble_eq_true rfl) (by rw [hRl]; exact Nat.le_of_ble_eq_true rfl) ⟨Nat.zero_le _, Nat.zero_le _⟩ dX10_serves_16 rfl (fun H locs _ hS => ?_)
  refine lv_aload_n hx hb dX10_serves_19 rfl (lv_at hl 0 rfl) ?_
  refine r_get E frX10_19 hS 0 rfl rfl dX10_serves_20 ?_
  obtain ⟨y23, e2, h⟩ := bd_some h
  refine ct_V (ws' := fun _ => [oX10 q0 u0_0 (.ref q1) (.ref q3) u0_3 u0_4 u0_5 (.ref q8) u0_7 (.ref q12) u0_9 u0_10 u0_11 u0_12, oX2 q1 (.ref q2) (.int y23.2.2.1), aJ cy q2 16 y23.2.2.2, oX0 q3 (.ref q4) (.ref q5) (.ref q6) u3_3 (.ref q7) (.int v_folk_number) (.int v_folk_day) u3_7, aI cy q4 7 v_folk_skill, aI cy q5 7 v_folk_pills, aI cy q6 7 v_folk_slept, aI cy q7 7 v_folk_wanted, oX5 q8 (.ref q9) (.ref q10) (.ref q11) (.int v_inForce_size), aI cy q9 40 v_inForce_code, aI cy q10 40 y16.2.1, aI cy q11 7 y16.2.2, oX7 q12 (.ref q13), aI cy q13 1024 y23.2.1]) (st' := [.int y23.1]) (rest := []) E hS vlX10_268 (c_X7_tellsServed (l := l) (D := D) (cy := cy) (q0 := q12) (q1 := q13) (q2 := q3) (q3 := q7) (q4 := q1) (q5 := q2) (u2_0 := .ref q4) (u2_1 := .ref q5) (u2_2 := .ref q6) (u2_3 := u3_3) (u2_6 := .int v_folk_day) (u2_7 := u3_7) (v_most := v_service_most) (w1_number := v_folk_number) (w1_wanted := v_folk_wanted) (w3_size := v_told_size) (w3_number := v_told_number) (p2 := y16.1) (r := y23) e2) [12, 13, 3, 7, 1, 2] rfl rfl (fun _ => rfl) (fun _ => rfl) rfl rfl rfl rfl (Nat.le_of_ble_eq_true rfl) hl.1 (by rw [hRf]; exact Nat.le_of_ble_eq_true rfl) (by rw [hRl]; exact Nat.le_of_ble_eq_true rfl) ⟨Nat.zero_le _, Nat.zero_le _⟩ dX10_serves_23 rfl (fun H locs _ hS => ?_)
  obtain rfl := Option.some.inj h
  exact rt_i E hQ (.null) hS dX10_serves_26
set_option maxHeartbeats 4000000 in
set_option maxRecDepth 100000 in
theorem c_X10_boot {l : Launch} {D : va_G} {cy : Nat → ClassId} (q0 : Nat) (q1 : Nat) (q2 : Nat) (q3 : Nat) (q4 : Nat) (q5 : Nat) (q6 : Nat) (q7 : Nat) (q8 : Nat) (q9 : Nat) (q10 : Nat) (q11 : Nat) (u0_0 : Value) (u0_3 : Value) (u0_4 : Value) (u0_5 : Value) (u0_7 : Value) (u0_8 : Value) (u0_9 : Value) (u0_10 : Value) (u0_11 : Value) (u0_12 : Value) (u3_3 : Value) (u3_7 : Value) (v_told_size : Int32) (v_told_number : Nat → Int64) (v_folk_number : Int32) (v_folk_day : Int32) (v_folk_skill : Nat → Int32) (v_folk_pills : Nat → Int32) (v_folk_slept : Nat → Int32) (v_folk_wanted : Nat → Int32) (v_inForce_size : Int32) (v_inForce_code : Nat → Int32) (v_inForce_stack : Nat → Int32) (v_inForce_thing : Nat → Int32) (r : Int32 × Int32 × (Nat → Int64) × (Nat → Int32) × (Nat → Int32)) (h : X10_boot v_told_size v_told_number v_folk_number v_folk_day v_folk_skill v_folk_pills v_folk_slept v_folk_wanted v_inForce_size v_inForce_code v_inForce_stack v_inForce_thing = some r) : Ct l yX10_boot cX10_boot 3 (some .int) 4 94 D cy [.ref q0] [oX10 q0 u0_0 (.ref q1) (.ref q3) u0_3 u0_4 u0_5 (.ref q8) u0_7 u0_8 u0_9 u0_10 u0_11 u0_12, oX2 q1 (.ref q2) (.int v_told_size), aJ cy q2 16 v_told_number, oX0 q3 (.ref q4) (.ref q5) (.ref q6) u3_3 (.ref q7) (.int v_folk_number) (.int v_folk_day) u3_7, aI cy q4 7 v_folk_skill, aI cy q5 7 v_folk_pills, aI cy q6 7 v_folk_slept, aI cy q7 7 v_folk_wanted, oX5 q8 (.ref q9) (.ref q10) (.ref q11) (.int v_inForce_size), aI cy q9 40 v_inForce_code, aI cy q10 40 v_inForce_stack, aI cy q11 7 v_inForce_thing] (fun _ => [oX10 q0 u0_0 (.ref q1) (.ref q3) u0_3 u0_4 u0_5 (.ref q8) u0_7 u0_8 u0_9 u0_10 u0_11 u0_12, oX2 q1 (.ref q2) (.int r.2.1), aJ cy q2 16 r.2.2.1, oX0 q3 (.ref q4) (.ref q5) (.ref q6) u3_3 (.ref q7) (.int v_folk_number) (.int v_folk_day) u3_7, aI cy q4 7 v_folk_skill, aI cy q5 7 v_folk_pills, aI cy q6 7 v_folk_slept, aI cy q7 7 v_folk_wanted, oX5 q8 (.ref q9) (.ref q10) (.ref q11) (.int v_inForce_size), aI cy q9 40 v_inForce_code, aI cy q10 40 r.2.2.2.1, aI cy q11 7 r.2.2.2.2]) (some (.int r.1)) := by
  refine Ct.mk kX10_boot (by decide +kernel) (Nat.le_of_ble_eq_true rfl) ?_
  intro p e s m below meth c A ls args R Q hRf hRl hQ E H locs hS hl
  have hx := E.x
  have hb := E.b
  have hl : lv_has ls 3 [(0, .ref q0)] := hl
  unfold X10_boot at h
  refine lv_aload_n hx hb dX10_boot_0 rfl (lv_at hl 0 rfl) ?_
  refine r_get E frX10_50 hS 0 rfl rfl dX10_boot_1 ?_
  refine lv_aload_n hx hb dX10_boot_4 rfl (lv_at hl 0 rfl) ?_
  refine r_get E frX10_26 hS 0 rfl rfl dX10_boot_5 ?_
  obtain ⟨y8, e1, h⟩ := bd_some h
  refine ct_V (ws' := fun _ => [oX10 q0 u0_0 (.ref q1) (.ref q3) u0_3 u0_4 u0_5 (.ref q8) u0_7 u0_8 u0_9 u0_10 u0_11 u0_12, oX2 q1 (.ref q2) (.int v_told_size), aJ cy q2 16 v_told_number, oX0 q3 (.ref q4) (.ref q5) (.ref q6) u3_3 (.ref q7) (.int v_folk_number) (.int v_folk_day) u3_7, aI cy q4 7 v_folk_skill, aI cy q5 7 v_folk_pills, aI cy q6 7 v_folk_slept, aI cy q7 7 v_folk_wanted, oX5 q8 (.ref q9) (.ref q10) (.ref q11) (.int v_inForce_size), aI cy q9 40 v_inForce_code, aI cy q10 40 y8.2.1, aI cy q11 7 y8.2.2]) (st' := [.int y8.1]) (rest := []) E hS vlX10_234 (c_X5_wakers (l := l) (D := D) (cy := cy) (q0 := q8) (q1 := q9) (q2 := q10) (q3 := q11) (q4 := q3) (q5 := q4) (q6 := q5) (q7 := q6) (q8 := q7) (u4_3 := u3_3) (u4_7 := u3_7) (v_size := v_inForce_size) (v_code := v_inForce_code) (v_stack := v_inForce_stack) (v_thing := v_inForce_thing) (w1_number := v_folk_number) (w1_day := v_folk_day) (w1_skill := v_folk_skill) (w1_pills := v_folk_pills) (w1_slept := v_folk_slept) (w1_wanted := v_folk_wanted) (r := y8) e1) [8, 9, 10, 11, 3, 4, 5, 6, 7] rfl rfl (fun _ => rfl) (fun _ => rfl) rfl rfl rfl rfl (Nat.le_of_ble_eq_true rfl) hl.1 (by rw [hRf]; exact Nat.le_of_ble_eq_true rfl) (by rw [hRl]; exact Nat.le_of_ble_eq_true rfl) ⟨Nat.zero_le _, Nat.zero_le _⟩ dX10_boot_8 rfl (fun H locs _ hS => ?_)
  refine lv_istore_n (lv' := [(1, .int y8.1), (0, .ref q0)]) hx hb dX10_boot_11 rfl hl (by decide) rfl (fun ls hl => ?_)
  refine lv_aload_n hx hb dX10_boot_12 rfl (lv_at hl 1 rfl) ?_
  refine r_get E frX10_26 hS 0 rfl rfl dX10_boot_13 ?_
  refine lv_iload_n hx hb dX10_boot_16 rfl (lv_at hl 0 rfl) ?_
  obtain ⟨y17, e2, h⟩ := bd_some h
  refine ct_S (ws' := fun _ => [oX10 q0 u0_0 (.ref q1) (.ref q3) u0_3 u0_4 u0_5 (.ref q8) u0_7 u0_8 u0_9 u0_10 u0_11 u0_12, oX2 q1 (.ref q2) (.int v_told_size), aJ cy q2 16 v_told_number, oX0 q3 (.ref q4) (.ref q5) (.ref q6) u3_3 (.ref q7) (.int v_folk_number) (.int v_folk_day) u3_7, aI cy q4 7 v_folk_skill, aI cy q5 7 v_folk_pills, aI cy q6 7 v_folk_slept, aI cy q7 7 v_folk_wanted, oX5 q8 (.ref q9) (.ref q10) (.ref q11) (.int v_inForce_size), aI cy q9 40 v_inForce_code, aI cy q10 40 y8.2.1, aI cy q11 7 y8.2.2]) (st' := [.int y17]) (rest := []) E hS slX10_272 (c_X7_tooMany (l := l) (D := D) (cy := cy) (q0 := q3) (q1 := q7) (u0_0 := .ref q4) (u0_1 := .ref q5) (u0_2 := .ref q6) (u0_3 := u3_3) (u0_6 := .int v_folk_day) (u0_7 := u3_7) (w1_number := v_folk_number) (w1_wanted := v_folk_wanted) (p1 := y8.1) (r := y17) e2) [3, 7] rfl rfl (fun _ => rfl) (fun _ => rfl) rfl rfl (Nat.le_of_ble_eq_true rfl) hl.1 (by rw [hRf]; exact Nat.le_of_ble_eq_true rfl) (by rw [hRl]; exact Nat.le_of_ble_eq_true rfl) ⟨Nat.zero_le _, Nat.zero_le _⟩ dX10_boot_17 rfl (fun H locs _ hS => ?_)
  refine lv_istore_n (lv' := [(2, .int y17), (1, .int y8.1), (0, .ref q0)]) hx hb dX10_boot_20 rfl hl (by decide) rfl (fun ls hl => ?_)
  refine lv_iload_n hx hb dX10_boot_21 rfl (lv_at hl 0 rfl) ?_
  refine lv_if_ne (tgt := 28) hx hb dX10_boot_22 (by decide) (fun c3 => ?_) (fun c3 => ?_)
  · have h := it_neg c3 h
    refine lv_aload_n hx hb dX10_boot_28 rfl (lv_at hl 2 rfl) ?_
    refine r_get E frX10_19 hS 0 rfl rfl dX10_boot_29 ?_
    refine lv_iload_n hx hb dX10_boot_32 rfl (lv_at hl 0 rfl) ?_
    refine lv_i2l (v := (y17.toInt64)) hx hb dX10_boot_33 rfl ?_
    refine lv_aload_n hx hb dX10_boot_34 rfl (lv_at hl 2 rfl) ?_
    refine r_get E frX10_26 hS 0 rfl rfl dX10_boot_35 ?_
    refine lv_iload_n hx hb dX10_boot_38 rfl (lv_at hl 0 rfl) ?_
    obtain ⟨y39, e4, h⟩ := bd_some h
    refine ct_V (ws' := fun _ => [oX10 q0 u0_0 (.ref q1) (.ref q3) u0_3 u0_4 u0_5 (.ref q8) u0_7 u0_8 u0_9 u0_10 u0_11 u0_12, oX2 q1 (.ref q2) (.int v_told_size), aJ cy q2 16 v_told_number, oX0 q3 (.ref q4) (.ref q5) (.ref q6) u3_3 (.ref q7) (.int v_folk_number) (.int v_folk_day) u3_7, aI cy q4 7 v_folk_skill, aI cy q5 7 v_folk_pills, aI cy q6 7 v_folk_slept, aI cy q7 7 v_folk_wanted, oX5 q8 (.ref q9) (.ref q10) (.ref q11) (.int v_inForce_size), aI cy q9 40 v_inForce_code, aI cy q10 40 y8.2.1, aI cy q11 7 y8.2.2]) (st' := [.int y39, .long (y17.toInt64), .ref q1]) (rest := [.long (y17.toInt64), .ref q1]) E hS vlX10_275 (c_X0_wantedBy (l := l) (D := D) (cy := cy) (q0 := q3) (q1 := q7) (u0_0 := .ref q4) (u0_1 := .ref q5) (u0_2 := .ref q6) (u0_3 := u3_3) (u0_6 := .int v_folk_day) (u0_7 := u3_7) (v_number := v_folk_number) (v_wanted := v_folk_wanted) (p1 := y17) (r := y39) e4) [3, 7] rfl rfl (fun _ => rfl) (fun _ => rfl) rfl rfl rfl rfl (Nat.le_of_ble_eq_true rfl) hl.1 (by rw [hRf]; exact Nat.le_of_ble_eq_true rfl) (by rw [hRl]; exact Nat.le_of_ble_eq_true rfl) ⟨Nat.zero_le _, Nat.zero_le _⟩ dX10_boot_39 rfl (fun H locs _ hS => ?_)
    refine lv_iload_n hx hb dX10_boot_42 rfl (lv_at hl 1 rfl) ?_
    refine lv_iand hx hb dX10_boot_43 ?_
    refine lv_i2l (v := ((y39 &&& y8.1).toInt64)) hx hb dX10_boot_44 rfl ?_
    obtain ⟨y45, e5, h⟩ := bd_some h
    refine ct_V (ws' := fun _ => [oX10 q0 u0_0 (.ref q1) (.ref q3) u0_3 u0_4 u0_5 (.ref q8) u0_7 u0_8 u0_9 u0_10 u0_11 u0_12, oX2 q1 (.ref q2) (.int y45.1), aJ cy q2 16 y45.2, oX0 q3 (.ref q4) (.ref q5) (.ref q6) u3_3 (.ref q7) (.int v_folk_number) (.int v_folk_day) u3_7, aI cy q4 7 v_folk_skill, aI cy q5 7 v_folk_pills, aI cy q6 7 v_folk_slept, aI cy q7 7 v_folk_wanted, oX5 q8 (.ref q9) (.ref q10) (.ref q11) (.int v_inForce_size), aI cy q9 40 v_inForce_code, aI cy q10 40 y8.2.1, aI cy q11 7 y8.2.2]) (st' := []) (rest := []) E hS vlX10_199 (c_X2_tellsBoth (l := l) (D := D) (cy := cy) (q0 := q1) (q1 := q2) (v_size := v_told_size) (v_number := v_told_number) (p1 := (y17.toInt64)) (p3 := ((y39 &&& y8.1).toInt64)) (r := y45) e5) [1, 2] rfl rfl (fun _ => rfl) (fun _ => rfl) rfl rfl rfl rfl (Nat.le_of_ble_eq_true rfl) hl.1 (by rw [hRf]; exact Nat.le_of_ble_eq_true rfl) (by rw [hRl]; exact Nat.le_of_ble_eq_true rfl) ⟨Nat.zero_le _, Nat.zero_le _⟩ dX10_boot_45 rfl (fun H locs _ hS => ?_)
    refine lv_iload_n hx hb dX10_boot_48 rfl (lv_at hl 0 rfl) ?_
    refine ct_S (ws' := fun _ => [oX10 q0 u0_0 (.ref q1) (.ref q3) u0_3 u0_4 u0_5 (.ref q8) u0_7 u0_8 u0_9 u0_10 u0_11 u0_12, oX2 q1 (.ref q2) (.int y45.1), aJ cy q2 16 y45.2, oX0 q3 (.ref q4) (.ref q5) (.ref q6) u3_3 (.ref q7) (.int v_folk_number) (.int v_folk_day) u3_7, aI cy q4 7 v_folk_skill, aI cy q5 7 v_folk_pills, aI cy q6 7 v_folk_slept, aI cy q7 7 v_folk_wanted, oX5 q8 (.ref q9) (.ref q10) (.ref q11) (.int v_inForce_size), aI cy q9 40 v_inForce_code, aI cy q10 40 y8.2.1, aI cy q11 7 y8.2.2]) (st' := [.int (J6_bitCount_0f7a4 y17)]) (rest := []) E hS slX10_241 (c_J6_bitCount_0f7a4 (l := l) (D := D) (cy := cy) (p0 := y17) (r := (J6_bitCount_0f7a4 y17)) rfl) [] rfl rfl (fun _ => rfl) (fun _ => rfl) rfl rfl (Nat.le_of_ble_eq_true rfl) hl.1 (by rw [hRf]; exact Nat.le_of_ble_eq_true rfl) (by rw [hRl]; exact Nat.le_of_ble_eq_true rfl) ⟨Nat.zero_le _, Nat.zero_le _⟩ dX10_boot_49 rfl (fun H locs _ hS => ?_)
    obtain rfl := Option.some.inj h
    exact rt_i E hQ (.null) hS dX10_boot_52
  · have h := it_pos c3 h
    refine lv_bipush (v := -2) hx hb dX10_boot_25 (by decide) ?_
    obtain rfl := Option.some.inj h
    exact rt_i E hQ (.null) hS dX10_boot_27
set_option maxHeartbeats 4000000 in
set_option maxRecDepth 100000 in
theorem c_X10_enough {l : Launch} {D : va_G} {cy : Nat → ClassId} (q0 : Nat) (q1 : Nat) (q2 : Nat) (q3 : Nat) (q4 : Nat) (q5 : Nat) (q6 : Nat) (q7 : Nat) (q8 : Nat) (q9 : Nat) (q10 : Nat) (q11 : Nat) (u0_0 : Value) (u0_3 : Value) (u0_4 : Value) (u0_5 : Value) (u0_7 : Value) (u0_8 : Value) (u0_9 : Value) (u0_10 : Value) (u0_11 : Value) (u0_12 : Value) (u3_3 : Value) (u3_7 : Value) (v_told_size : Int32) (v_told_number : Nat → Int64) (v_folk_number : Int32) (v_folk_day : Int32) (v_folk_skill : Nat → Int32) (v_folk_pills : Nat → Int32) (v_folk_slept : Nat → Int32) (v_folk_wanted : Nat → Int32) (v_inForce_size : Int32) (v_inForce_code : Nat → Int32) (v_inForce_stack : Nat → Int32) (v_inForce_thing : Nat → Int32) (r : Int32 × Int32 × (Nat → Int64) × (Nat → Int32) × (Nat → Int32)) (h : X10_enough v_told_number v_folk_number v_folk_day v_folk_skill v_folk_pills v_folk_slept v_folk_wanted v_inForce_size v_inForce_code v_inForce_stack v_inForce_thing = some r) : Ct l yX10_enough cX10_enough 2 (some .int) 4 94 D cy [.ref q0] [oX10 q0 u0_0 (.ref q1) (.ref q3) u0_3 u0_4 u0_5 (.ref q8) u0_7 u0_8 u0_9 u0_10 u0_11 u0_12, oX2 q1 (.ref q2) (.int v_told_size), aJ cy q2 16 v_told_number, oX0 q3 (.ref q4) (.ref q5) (.ref q6) u3_3 (.ref q7) (.int v_folk_number) (.int v_folk_day) u3_7, aI cy q4 7 v_folk_skill, aI cy q5 7 v_folk_pills, aI cy q6 7 v_folk_slept, aI cy q7 7 v_folk_wanted, oX5 q8 (.ref q9) (.ref q10) (.ref q11) (.int v_inForce_size), aI cy q9 40 v_inForce_code, aI cy q10 40 v_inForce_stack, aI cy q11 7 v_inForce_thing] (fun _ => [oX10 q0 u0_0 (.ref q1) (.ref q3) u0_3 u0_4 u0_5 (.ref q8) u0_7 u0_8 u0_9 u0_10 u0_11 u0_12, oX2 q1 (.ref q2) (.int r.2.1), aJ cy q2 16 r.2.2.1, oX0 q3 (.ref q4) (.ref q5) (.ref q6) u3_3 (.ref q7) (.int v_folk_number) (.int v_folk_day) u3_7, aI cy q4 7 v_folk_skill, aI cy q5 7 v_folk_pills, aI cy q6 7 v_folk_slept, aI cy q7 7 v_folk_wanted, oX5 q8 (.ref q9) (.ref q10) (.ref q11) (.int v_inForce_size), aI cy q9 40 v_inForce_code, aI cy q10 40 r.2.2.2.1, aI cy q11 7 r.2.2.2.2]) (some (.int r.1)) := by
  refine Ct.mk kX10_enough (by decide +kernel) (Nat.le_of_ble_eq_true rfl) ?_
  intro p e s m below meth c A ls args R Q hRf hRl hQ E H locs hS hl
  have hx := E.x
  have hb := E.b
  have hl : lv_has ls 2 [(0, .ref q0)] := hl
  unfold X10_enough at h
  refine lv_aload_n hx hb dX10_enough_0 rfl (lv_at hl 0 rfl) ?_
  refine r_get E frX10_26 hS 0 rfl rfl dX10_enough_1 ?_
  refine lv_aload_n hx hb dX10_enough_4 rfl (lv_at hl 0 rfl) ?_
  refine r_get E frX10_50 hS 0 rfl rfl dX10_enough_5 ?_
  refine lv_aload_n hx hb dX10_enough_8 rfl (lv_at hl 0 rfl) ?_
  refine r_get E frX10_26 hS 0 rfl rfl dX10_enough_9 ?_
  obtain ⟨y12, e1, h⟩ := bd_some h
  refine ct_V (ws' := fun _ => [oX10 q0 u0_0 (.ref q1) (.ref q3) u0_3 u0_4 u0_5 (.ref q8) u0_7 u0_8 u0_9 u0_10 u0_11 u0_12, oX2 q1 (.ref q2) (.int v_told_size), aJ cy q2 16 v_told_number, oX0 q3 (.ref q4) (.ref q5) (.ref q6) u3_3 (.ref q7) (.int v_folk_number) (.int v_folk_day) u3_7, aI cy q4 7 v_folk_skill, aI cy q5 7 v_folk_pills, aI cy q6 7 v_folk_slept, aI cy q7 7 v_folk_wanted, oX5 q8 (.ref q9) (.ref q10) (.ref q11) (.int v_inForce_size), aI cy q9 40 v_inForce_code, aI cy q10 40 y12.2.1, aI cy q11 7 y12.2.2]) (st' := [.int y12.1, .ref q3]) (rest := [.ref q3]) E hS vlX10_234 (c_X5_wakers (l := l) (D := D) (cy := cy) (q0 := q8) (q1 := q9) (q2 := q10) (q3 := q11) (q4 := q3) (q5 := q4) (q6 := q5) (q7 := q6) (q8 := q7) (u4_3 := u3_3) (u4_7 := u3_7) (v_size := v_inForce_size) (v_code := v_inForce_code) (v_stack := v_inForce_stack) (v_thing := v_inForce_thing) (w1_number := v_folk_number) (w1_day := v_folk_day) (w1_skill := v_folk_skill) (w1_pills := v_folk_pills) (w1_slept := v_folk_slept) (w1_wanted := v_folk_wanted) (r := y12) e1) [8, 9, 10, 11, 3, 4, 5, 6, 7] rfl rfl (fun _ => rfl) (fun _ => rfl) rfl rfl rfl rfl (Nat.le_of_ble_eq_true rfl) hl.1 (by rw [hRf]; exact Nat.le_of_ble_eq_true rfl) (by rw [hRl]; exact Nat.le_of_ble_eq_true rfl) ⟨Nat.zero_le _, Nat.zero_le _⟩ dX10_enough_12 rfl (fun H locs _ hS => ?_)
  obtain ⟨y15, e2, h⟩ := bd_some h
  refine ct_S (ws' := fun _ => [oX10 q0 u0_0 (.ref q1) (.ref q3) u0_3 u0_4 u0_5 (.ref q8) u0_7 u0_8 u0_9 u0_10 u0_11 u0_12, oX2 q1 (.ref q2) (.int v_told_size), aJ cy q2 16 v_told_number, oX0 q3 (.ref q4) (.ref q5) (.ref q6) u3_3 (.ref q7) (.int v_folk_number) (.int v_folk_day) u3_7, aI cy q4 7 v_folk_skill, aI cy q5 7 v_folk_pills, aI cy q6 7 v_folk_slept, aI cy q7 7 v_folk_wanted, oX5 q8 (.ref q9) (.ref q10) (.ref q11) (.int v_inForce_size), aI cy q9 40 v_inForce_code, aI cy q10 40 y12.2.1, aI cy q11 7 y12.2.2]) (st' := [.int y15]) (rest := []) E hS slX10_278 (c_X7_fewest (l := l) (D := D) (cy := cy) (q0 := q3) (q1 := q7) (u0_0 := .ref q4) (u0_1 := .ref q5) (u0_2 := .ref q6) (u0_3 := u3_3) (u0_6 := .int v_folk_day) (u0_7 := u3_7) (w1_number := v_folk_number) (w1_wanted := v_folk_wanted) (p1 := y12.1) (r := y15) e2) [3, 7] rfl rfl (fun _ => rfl) (fun _ => rfl) rfl rfl (Nat.le_of_ble_eq_true rfl) hl.1 (by rw [hRf]; exact Nat.le_of_ble_eq_true rfl) (by rw [hRl]; exact Nat.le_of_ble_eq_true rfl) ⟨Nat.zero_le _, Nat.zero_le _⟩ dX10_enough_15 rfl (fun H locs _ hS => ?_)
  refine lv_istore_n (lv' := [(1, .int y15), (0, .ref q0)]) hx hb dX10_enough_18 rfl hl (by decide) rfl (fun ls hl => ?_)
  refine lv_aload_n hx hb dX10_enough_19 rfl (lv_at hl 1 rfl) ?_
  refine r_get E frX10_19 hS 0 rfl rfl dX10_enough_20 ?_
  refine lv_iload_n hx hb dX10_enough_23 rfl (lv_at hl 0 rfl) ?_
  refine lv_i2l (v := (y15.toInt64)) hx hb dX10_enough_24 rfl ?_
  obtain ⟨y25, e3, h⟩ := bd_some h
  refine ct_V (ws' := fun _ => [oX10 q0 u0_0 (.ref q1) (.ref q3) u0_3 u0_4 u0_5 (.ref q8) u0_7 u0_8 u0_9 u0_10 u0_11 u0_12, oX2 q1 (.ref q2) (.int y25.1), aJ cy q2 16 y25.2, oX0 q3 (.ref q4) (.ref q5) (.ref q6) u3_3 (.ref q7) (.int v_folk_number) (.int v_folk_day) u3_7, aI cy q4 7 v_folk_skill, aI cy q5 7 v_folk_pills, aI cy q6 7 v_folk_slept, aI cy q7 7 v_folk_wanted, oX5 q8 (.ref q9) (.ref q10) (.ref q11) (.int v_inForce_size), aI cy q9 40 v_inForce_code, aI cy q10 40 y12.2.1, aI cy q11 7 y12.2.2]) (st' := []) (rest := []) E hS vlX10_255 (c_X2_tellsOne (l := l) (D := D) (cy := cy) (q0 := q1) (q1 := q2) (v_size := v_told_size) (v_number := v_told_number) (p1 := (y15.toInt64)) (r := y25) e3) [1, 2] rfl rfl (fun _ => rfl) (fun _ => rfl) rfl rfl rfl rfl (Nat.le_of_ble_eq_true rfl) hl.1 (by rw [hRf]; exact Nat.le_of_ble_eq_true rfl) (by rw [hRl]; exact Nat.le_of_ble_eq_true rfl) ⟨Nat.zero_le _, Nat.zero_le _⟩ dX10_enough_25 rfl (fun H locs _ hS => ?_)
  refine lv_iload_n hx hb dX10_enough_28 rfl (lv_at hl 0 rfl) ?_
  refine ct_S (ws' := fun _ => [oX10 q0 u0_0 (.ref q1) (.ref q3) u0_3 u0_4 u0_5 (.ref q8) u0_7 u0_8 u0_9 u0_10 u0_11 u0_12, oX2 q1 (.ref q2) (.int y25.1), aJ cy q2 16 y25.2, oX0 q3 (.ref q4) (.ref q5) (.ref q6) u3_3 (.ref q7) (.int v_folk_number) (.int v_folk_day) u3_7, aI cy q4 7 v_folk_skill, aI cy q5 7 v_folk_pills, aI cy q6 7 v_folk_slept, aI cy q7 7 v_folk_wanted, oX5 q8 (.ref q9) (.ref q10) (.ref q11) (.int v_inForce_size), aI cy q9 40 v_inForce_code, aI cy q10 40 y12.2.1, aI cy q11 7 y12.2.2]) (st' := [.int (J6_bitCount_0f7a4 y15)]) (rest := []) E hS slX10_241 (c_J6_bitCount_0f7a4 (l := l) (D := D) (cy := cy) (p0 := y15) (r := (J6_bitCount_0f7a4 y15)) rfl) [] rfl rfl (fun _ => rfl) (fun _ => rfl) rfl rfl (Nat.le_of_ble_eq_true rfl) hl.1 (by rw [hRf]; exact Nat.le_of_ble_eq_true rfl) (by rw [hRl]; exact Nat.le_of_ble_eq_true rfl) ⟨Nat.zero_le _, Nat.zero_le _⟩ dX10_enough_29 rfl (fun H locs _ hS => ?_)
  obtain rfl := Option.some.inj h
  exact rt_i E hQ (.null) hS dX10_enough_32
set_option maxHeartbeats 4000000 in
set_option maxRecDepth 100000 in
theorem c_X10_turnsTrial {l : Launch} {D : va_G} {cy : Nat → ClassId} (q0 : Nat) (q1 : Nat) (q2 : Nat) (u0_0 : Value) (u0_1 : Value) (u0_2 : Value) (u0_4 : Value) (u0_5 : Value) (u0_6 : Value) (u0_7 : Value) (u0_8 : Value) (u0_9 : Value) (u0_10 : Value) (u0_11 : Value) (u0_12 : Value) (u1_0 : Value) (u1_1 : Value) (u1_2 : Value) (u1_3 : Value) (u1_6 : Value) (u1_7 : Value) (v_trial_number : Int32) (v_trial_wanted : Nat → Int32) (p1 : Int32) (r : Int32 × (Nat → Int32)) (h : X10_turnsTrial v_trial_number v_trial_wanted p1 = some r) : Ct l yX10_turnsTrial cX10_turnsTrial 2 (some .boolean) 2 43 D cy [.ref q0, .int p1] [oX10 q0 u0_0 u0_1 u0_2 (.ref q1) u0_4 u0_5 u0_6 u0_7 u0_8 u0_9 u0_10 u0_11 u0_12, oX0 q1 u1_0 u1_1 u1_2 u1_3 (.ref q2) (.int v_trial_number) u1_6 u1_7, aI cy q2 7 v_trial_wanted] (fun _ => [oX10 q0 u0_0 u0_1 u0_2 (.ref q1) u0_4 u0_5 u0_6 u0_7 u0_8 u0_9 u0_10 u0_11 u0_12, oX0 q1 u1_0 u1_1 u1_2 u1_3 (.ref q2) (.int v_trial_number) u1_6 u1_7, aI cy q2 7 r.2]) (some (.int r.1)) := by
  refine Ct.mk kX10_turnsTrial (by decide +kernel) (Nat.le_of_ble_eq_true rfl) ?_
  intro p e s m below meth c A ls args R Q hRf hRl hQ E H locs hS hl
  have hx := E.x
  have hb := E.b
  have hl : lv_has ls 2 [(0, .ref q0), (1, .int p1)] := hl
  unfold X10_turnsTrial at h
  refine lv_aload_n hx hb dX10_turnsTrial_0 rfl (lv_at hl 0 rfl) ?_
  refine r_get E frX10_30 hS 0 rfl rfl dX10_turnsTrial_1 ?_
  refine lv_iload_n hx hb dX10_turnsTrial_4 rfl (lv_at hl 1 rfl) ?_
  refine lv_bipush (v := 7) hx hb dX10_turnsTrial_5 (by decide) ?_
  obtain ⟨g1, h⟩ := gz_some h
  refine lv_idiv hx hb dX10_turnsTrial_7 g1 ?_
  refine lv_iload_n hx hb dX10_turnsTrial_8 rfl (lv_at hl 1 rfl) ?_
  refine lv_bipush (v := 7) hx hb dX10_turnsTrial_9 (by decide) ?_
  obtain ⟨g2, h⟩ := gz_some h
  refine lv_irem hx hb dX10_turnsTrial_11 g2 ?_
  obtain ⟨y12, e3, h⟩ := bd_some h
  refine ct_V (ws' := fun _ => [oX10 q0 u0_0 u0_1 u0_2 (.ref q1) u0_4 u0_5 u0_6 u0_7 u0_8 u0_9 u0_10 u0_11 u0_12, oX0 q1 u1_0 u1_1 u1_2 u1_3 (.ref q2) (.int v_trial_number) u1_6 u1_7, aI cy q2 7 y12.2]) (st' := [.int y12.1]) (rest := []) E hS vlX10_203 (c_X0_turns (l := l) (D := D) (cy := cy) (q0 := q1) (q1 := q2) (u0_0 := u1_0) (u0_1 := u1_1) (u0_2 := u1_2) (u0_3 := u1_3) (u0_6 := u1_6) (u0_7 := u1_7) (v_number := v_trial_number) (v_wanted := v_trial_wanted) (p1 := (p1 / (7 : Int32))) (p2 := (irem p1 (7 : Int32))) (r := y12) e3) [1, 2] rfl rfl (fun _ => rfl) (fun _ => rfl) rfl rfl rfl rfl (Nat.le_of_ble_eq_true rfl) hl.1 (by rw [hRf]; exact Nat.le_of_ble_eq_true rfl) (by rw [hRl]; exact Nat.le_of_ble_eq_true rfl) ⟨Nat.zero_le _, Nat.zero_le _⟩ dX10_turnsTrial_12 rfl (fun H locs _ hS => ?_)
  have hJ23 : ∀ (s23_0 : Int32) (ls : Array Slot), s23_0 = (if y12.1 < 0 then (0 : Int32) else (1 : Int32)) → lv_has ls 2 [] → W p l e R s m args below meth c H locs 0 0 Q (F0 m 23 ls [.int s23_0]) := by
    intro s23_0 ls es23_0 hl
    subst es23_0
    obtain rfl := Option.some.inj h
    exact rt_n E (by repeat' (first | rfl | split)) hQ (.null) hS dX10_turnsTrial_23
  refine lv_if_lt (tgt := 22) hx hb dX10_turnsTrial_15 (by decide) (fun c4 => ?_) (fun c4 => ?_)
  · refine lv_iconst (v := 0) hx hb dX10_turnsTrial_22 (by decide) ?_
    exact hJ23 _ ls ((if_pos c4)).symm (lv_sub hl [] rfl)
  · refine lv_iconst (v := 1) hx hb dX10_turnsTrial_18 (by decide) ?_
    refine lv_goto (tgt := 23) hx hb dX10_turnsTrial_19 (by decide) ?_
    exact hJ23 _ ls ((if_neg c4)).symm (lv_sub hl [] rfl)

