set_option maxHeartbeats 4000000 in
set_option maxRecDepth 100000 in
theorem c_X10_stepFrom {l : Launch} {D : va_G} {cy : Nat → ClassId} (q0 : Nat) (q1 : Nat) (q2 : Nat) (q3 : Nat) (q4 : Nat) (q5 : Nat) (q6 : Nat) (q7 : Nat) (q8 : Nat) (q9 : Nat) (u0_0 : Value) (u0_1 : Value) (u0_2 : Value) (u0_4 : Value) (u0_5 : Value) (u0_7 : Value) (u0_8 : Value) (u0_9 : Value) (u0_10 : Value) (u0_11 : Value) (u0_12 : Value) (u1_3 : Value) (u1_7 : Value) (v_trial_number : Int32) (v_trial_day : Int32) (v_trial_skill : Nat → Int32) (v_trial_pills : Nat → Int32) (v_trial_slept : Nat → Int32) (v_trial_wanted : Nat → Int32) (v_inForce_size : Int32) (v_inForce_code : Nat → Int32) (v_inForce_stack : Nat → Int32) (v_inForce_thing : Nat → Int32) (p1 : Int32) (p2 : Int32) (r : Int32 × (Nat → Int32) × (Nat → Int32) × (Nat → Int32)) (h : X10_stepFrom v_trial_number v_trial_day v_trial_skill v_trial_pills v_trial_slept v_trial_wanted v_inForce_size v_inForce_code v_inForce_stack v_inForce_thing p1 p2 = some r) : Ct l yX10_stepFrom cX10_stepFrom 5 (some .int) 4 94 D cy [.ref q0, .int p1, .int p2] [oX10 q0 u0_0 u0_1 u0_2 (.ref q1) u0_4 u0_5 (.ref q6) u0_7 u0_8 u0_9 u0_10 u0_11 u0_12, oX0 q1 (.ref q2) (.ref q3) (.ref q4) u1_3 (.ref q5) (.int v_trial_number) (.int v_trial_day) u1_7, aI cy q2 7 v_trial_skill, aI cy q3 7 v_trial_pills, aI cy q4 7 v_trial_slept, aI cy q5 7 v_trial_wanted, oX5 q6 (.ref q7) (.ref q8) (.ref q9) (.int v_inForce_size), aI cy q7 40 v_inForce_code, aI cy q8 40 v_inForce_stack, aI cy q9 7 v_inForce_thing] (fun _ => [oX10 q0 u0_0 u0_1 u0_2 (.ref q1) u0_4 u0_5 (.ref q6) u0_7 u0_8 u0_9 u0_10 u0_11 u0_12, oX0 q1 (.ref q2) (.ref q3) (.ref q4) u1_3 (.ref q5) (.int v_trial_number) (.int v_trial_day) u1_7, aI cy q2 7 v_trial_skill, aI cy q3 7 v_trial_pills, aI cy q4 7 v_trial_slept, aI cy q5 7 r.2.1, oX5 q6 (.ref q7) (.ref q8) (.ref q9) (.int v_inForce_size), aI cy q7 40 v_inForce_code, aI cy q8 40 r.2.2.1, aI cy q9 7 r.2.2.2]) (some (.int r.1)) := by
  refine Ct.mk kX10_stepFrom (by decide +kernel) (Nat.le_of_ble_eq_true rfl) ?_
  intro p e s m below meth c A ls args R Q hRf hRl hQ E H locs hS hl
  have hx := E.x
  have hb := E.b
  have hl : lv_has ls 5 [(0, .ref q0), (1, .int p1), (2, .int p2)] := hl
  unfold X10_stepFrom at h
  refine lv_iload_n hx hb dX10_stepFrom_0 rfl (lv_at hl 2 rfl) ?_
  refine lv_istore_n (lv' := [(3, .int p2), (0, .ref q0), (1, .int p1), (2, .int p2)]) hx hb dX10_stepFrom_1 rfl hl (by decide) rfl (fun ls hl => ?_)
  have hL2 : ∀ (n : Nat) (x2_0 : Int32) (x2_1 : Nat → Int32) (x2_2 : Nat → Int32) (x2_3 : Nat → Int32) (y2 : ((Nat → Int32) × (Nat → Int32) × (Nat → Int32)) ⊕ (Int32 × (Nat → Int32) × (Nat → Int32) × (Nat → Int32))) (H : Heap) (locs : List Loc) (ls : Array Slot), lp (fun x2 => X10_stepFrom_s2 v_trial_number v_trial_day v_trial_skill v_trial_pills v_trial_slept v_inForce_size v_inForce_code p1 x2.1 x2.2.1 x2.2.2.1 x2.2.2.2) n (x2_0, x2_1, x2_2, x2_3) = some y2 → Sv D A s.heap [oX10 q0 u0_0 u0_1 u0_2 (.ref q1) u0_4 u0_5 (.ref q6) u0_7 u0_8 u0_9 u0_10 u0_11 u0_12, oX0 q1 (.ref q2) (.ref q3) (.ref q4) u1_3 (.ref q5) (.int v_trial_number) (.int v_trial_day) u1_7, aI cy q2 7 v_trial_skill, aI cy q3 7 v_trial_pills, aI cy q4 7 v_trial_slept, aI cy q5 7 x2_1, oX5 q6 (.ref q7) (.ref q8) (.ref q9) (.int v_inForce_size), aI cy q7 40 v_inForce_code, aI cy q8 40 x2_2, aI cy q9 7 x2_3] H locs → lv_has ls 5 [(0, .ref q0), (1, .int p1), (3, .int x2_0)] → ( ∀ (ye2_0_0 : Nat → Int32) (ye2_0_1 : Nat → Int32) (ye2_0_2 : Nat → Int32), .inl (ye2_0_0, ye2_0_1, ye2_0_2) = y2 → ∀ (H : Heap) (locs : List Loc) (ls : Array Slot), Sv D A s.heap [oX10 q0 u0_0 u0_1 u0_2 (.ref q1) u0_4 u0_5 (.ref q6) u0_7 u0_8 u0_9 u0_10 u0_11 u0_12, oX0 q1 (.ref q2) (.ref q3) (.ref q4) u1_3 (.ref q5) (.int v_trial_number) (.int v_trial_day) u1_7, aI cy q2 7 v_trial_skill, aI cy q3 7 v_trial_pills, aI cy q4 7 v_trial_slept, aI cy q5 7 ye2_0_0, oX5 q6 (.ref q7) (.ref q8) (.ref q9) (.int v_inForce_size), aI cy q7 40 v_inForce_code, aI cy q8 40 ye2_0_1, aI cy q9 7 ye2_0_2] H locs → lv_has ls 5 [] → W p l e R s m args below meth c H locs 0 0 Q (F0 m 57 ls [])) → ( ∀ (ye2_1_0 : Int32) (ye2_1_1 : Nat → Int32) (ye2_1_2 : Nat → Int32) (ye2_1_3 : Nat → Int32), .inr (ye2_1_0, ye2_1_1, ye2_1_2, ye2_1_3) = y2 → ∀ (H : Heap) (locs : List Loc) (ls : Array Slot), Sv D A s.heap [oX10 q0 u0_0 u0_1 u0_2 (.ref q1) u0_4 u0_5 (.ref q6) u0_7 u0_8 u0_9 u0_10 u0_11 u0_12, oX0 q1 (.ref q2) (.ref q3) (.ref q4) u1_3 (.ref q5) (.int v_trial_number) (.int v_trial_day) u1_7, aI cy q2 7 v_trial_skill, aI cy q3 7 v_trial_pills, aI cy q4 7 v_trial_slept, aI cy q5 7 ye2_1_1, oX5 q6 (.ref q7) (.ref q8) (.ref q9) (.int v_inForce_size), aI cy q7 40 v_inForce_code, aI cy q8 40 ye2_1_2, aI cy q9 7 ye2_1_3] H locs → lv_has ls 5 [(3, .int ye2_1_0)] → W p l e R s m args below meth c H locs 0 0 Q (F0 m 49 ls [])) → W p l e R s m args below meth c H locs 0 0 Q (F0 m 2 ls []) := by
    intro n
    induction n with
    | zero =>
      intro x2_0 x2_1 x2_2 x2_3 y2 H locs ls h
      exact lp_zero h
    | succ n ih2 =>
      intro x2_0 x2_1 x2_2 x2_3 y2 H locs ls h hS hl hk2_0 hk2_1
      obtain ⟨z2, h, hz2a, hz2b⟩ := lp_succ h
      have h : X10_stepFrom_s2 v_trial_number v_trial_day v_trial_skill v_trial_pills v_trial_slept v_inForce_size v_inForce_code p1 x2_0 x2_1 x2_2 x2_3 = some z2 := h
      unfold X10_stepFrom_s2 at h
      refine lv_iload_n hx hb dX10_stepFrom_2 rfl (lv_at hl 2 rfl) ?_
      refine lv_bipush (v := 49) hx hb dX10_stepFrom_3 (by decide) ?_
      refine lv_icmp_ge (tgt := 57) hx hb dX10_stepFrom_5 (by decide) (fun c1 => ?_) (fun c1 => ?_)
      · have h := it_pos c1 h
        exact hk2_0 x2_1 x2_2 x2_3 (hz2b _ (Option.some.inj h).symm)  H locs ls hS (lv_sub hl [] rfl)
      · have h := it_neg c1 h
        refine lv_aload_n hx hb dX10_stepFrom_8 rfl (lv_at hl 0 rfl) ?_
        refine lv_iload_n hx hb dX10_stepFrom_9 rfl (lv_at hl 2 rfl) ?_
        obtain ⟨y10, e2, h⟩ := bd_some h
        refine ct_V (ws' := fun _ => [oX10 q0 u0_0 u0_1 u0_2 (.ref q1) u0_4 u0_5 (.ref q6) u0_7 u0_8 u0_9 u0_10 u0_11 u0_12, oX0 q1 (.ref q2) (.ref q3) (.ref q4) u1_3 (.ref q5) (.int v_trial_number) (.int v_trial_day) u1_7, aI cy q2 7 v_trial_skill, aI cy q3 7 v_trial_pills, aI cy q4 7 v_trial_slept, aI cy q5 7 y10.2, oX5 q6 (.ref q7) (.ref q8) (.ref q9) (.int v_inForce_size), aI cy q7 40 v_inForce_code, aI cy q8 40 x2_2, aI cy q9 7 x2_3]) (st' := [.int y10.1]) (rest := []) E hS vlX10_294 (c_X10_turnsTrial (l := l) (D := D) (cy := cy) (q0 := q0) (q1 := q1) (q2 := q5) (u0_0 := u0_0) (u0_1 := u0_1) (u0_2 := u0_2) (u0_4 := u0_4) (u0_5 := u0_5) (u0_6 := .ref q6) (u0_7 := u0_7) (u0_8 := u0_8) (u0_9 := u0_9) (u0_10 := u0_10) (u0_11 := u0_11) (u0_12 := u0_12) (u1_0 := .ref q2) (u1_1 := .ref q3) (u1_2 := .ref q4) (u1_3 := u1_3) (u1_6 := .int v_trial_day) (u1_7 := u1_7) (v_trial_number := v_trial_number) (v_trial_wanted := x2_1) (p1 := x2_0) (r := y10) e2) [0, 1, 5] rfl rfl (fun _ => rfl) (fun _ => rfl) rfl rfl rfl rfl (Nat.le_of_ble_eq_true rfl) hl.1 (by rw [hRf]; exact Nat.le_of_ble_eq_true rfl) (by rw [hRl]; exact Nat.le_of_ble_eq_true rfl) ⟨Nat.zero_le _, Nat.zero_le _⟩ dX10_stepFrom_10 rfl (fun H locs _ hS => ?_)
        refine lv_if_eq (tgt := 51) hx hb dX10_stepFrom_13 (by decide) (fun c3 => ?_) (fun c3 => ?_)
        · have h := it_pos c3 h
          refine lv_iinc (v := (x2_0 + (1 : Int32))) (lv' := [(3, .int (x2_0 + (1 : Int32))), (0, .ref q0), (1, .int p1)]) hx hb dX10_stepFrom_51 hl (k := 2) rfl rfl (by decide) rfl (fun ls hl => ?_)
          refine lv_goto (tgt := 2) hx hb dX10_stepFrom_54 (by decide) ?_
          exact ih2 (x2_0 + (1 : Int32)) y10.2 x2_2 x2_3 y2  H locs ls (hz2a _ (Option.some.inj h).symm) hS (lv_sub hl [1, 2, 0] rfl) hk2_0 hk2_1
        · have h := it_neg c3 h
          refine lv_aload_n hx hb dX10_stepFrom_16 rfl (lv_at hl 0 rfl) ?_
          refine r_get E frX10_50 hS 0 rfl rfl dX10_stepFrom_17 ?_
          refine lv_aload_n hx hb dX10_stepFrom_20 rfl (lv_at hl 0 rfl) ?_
          refine r_get E frX10_30 hS 0 rfl rfl dX10_stepFrom_21 ?_
          refine lv_iload_n hx hb dX10_stepFrom_24 rfl (lv_at hl 1 rfl) ?_
          refine lv_aload_n hx hb dX10_stepFrom_25 rfl (lv_at hl 0 rfl) ?_
          refine r_get E frX10_30 hS 0 rfl rfl dX10_stepFrom_26 ?_
          refine lv_iload_n hx hb dX10_stepFrom_29 rfl (lv_at hl 1 rfl) ?_
          obtain ⟨y30, e4, h⟩ := bd_some h
          refine ct_V (ws' := fun _ => [oX10 q0 u0_0 u0_1 u0_2 (.ref q1) u0_4 u0_5 (.ref q6) u0_7 u0_8 u0_9 u0_10 u0_11 u0_12, oX0 q1 (.ref q2) (.ref q3) (.ref q4) u1_3 (.ref q5) (.int v_trial_number) (.int v_trial_day) u1_7, aI cy q2 7 v_trial_skill, aI cy q3 7 v_trial_pills, aI cy q4 7 v_trial_slept, aI cy q5 7 y10.2, oX5 q6 (.ref q7) (.ref q8) (.ref q9) (.int v_inForce_size), aI cy q7 40 v_inForce_code, aI cy q8 40 x2_2, aI cy q9 7 x2_3]) (st' := [.int y30, .int p1, .ref q1, .ref q6]) (rest := [.int p1, .ref q1, .ref q6]) E hS vlX10_170 (c_X0_wanting (l := l) (D := D) (cy := cy) (q0 := q1) (q1 := q5) (u0_0 := .ref q2) (u0_1 := .ref q3) (u0_2 := .ref q4) (u0_3 := u1_3) (u0_6 := .int v_trial_day) (u0_7 := u1_7) (v_number := v_trial_number) (v_wanted := y10.2) (p1 := p1) (r := y30) e4) [1, 5] rfl rfl (fun _ => rfl) (fun _ => rfl) rfl rfl rfl rfl (Nat.le_of_ble_eq_true rfl) hl.1 (by rw [hRf]; exact Nat.le_of_ble_eq_true rfl) (by rw [hRl]; exact Nat.le_of_ble_eq_true rfl) ⟨Nat.zero_le _, Nat.zero_le _⟩ dX10_stepFrom_30 rfl (fun H locs _ hS => ?_)
          obtain ⟨y33, e5, h⟩ := bd_some h
          refine ct_V (ws' := fun _ => [oX10 q0 u0_0 u0_1 u0_2 (.ref q1) u0_4 u0_5 (.ref q6) u0_7 u0_8 u0_9 u0_10 u0_11 u0_12, oX0 q1 (.ref q2) (.ref q3) (.ref q4) u1_3 (.ref q5) (.int v_trial_number) (.int v_trial_day) u1_7, aI cy q2 7 v_trial_skill, aI cy q3 7 v_trial_pills, aI cy q4 7 v_trial_slept, aI cy q5 7 y10.2, oX5 q6 (.ref q7) (.ref q8) (.ref q9) (.int v_inForce_size), aI cy q7 40 v_inForce_code, aI cy q8 40 y33.2.1, aI cy q9 7 y33.2.2]) (st' := [.int y33.1]) (rest := []) E hS vlX10_281 (c_X5_rouses (l := l) (D := D) (cy := cy) (q0 := q6) (q1 := q7) (q2 := q8) (q3 := q9) (q4 := q1) (q5 := q2) (q6 := q3) (q7 := q4) (q8 := q5) (u4_3 := u1_3) (u4_7 := u1_7) (v_size := v_inForce_size) (v_code := v_inForce_code) (v_stack := x2_2) (v_thing := x2_3) (w1_number := v_trial_number) (w1_day := v_trial_day) (w1_skill := v_trial_skill) (w1_pills := v_trial_pills) (w1_slept := v_trial_slept) (w1_wanted := y10.2) (p2 := p1) (p3 := y30) (r := y33) e5) [6, 7, 8, 9, 1, 2, 3, 4, 5] rfl rfl (fun _ => rfl) (fun _ => rfl) rfl rfl rfl rfl (Nat.le_of_ble_eq_true rfl) hl.1 (by rw [hRf]; exact Nat.le_of_ble_eq_true rfl) (by rw [hRl]; exact Nat.le_of_ble_eq_true rfl) ⟨Nat.zero_le _, Nat.zero_le _⟩ dX10_stepFrom_33 rfl (fun H locs _ hS => ?_)
          refine lv_istore (lv' := [(4, .int y33.1), (0, .ref q0), (1, .int p1), (3, .int x2_0)]) hx hb dX10_stepFrom_36 hl (by decide) rfl (fun ls hl => ?_)
          refine lv_aload_n hx hb dX10_stepFrom_38 rfl (lv_at hl 1 rfl) ?_
          refine lv_iload_n hx hb dX10_stepFrom_39 rfl (lv_at hl 3 rfl) ?_
          obtain ⟨y40, e6, h⟩ := bd_some h
          refine ct_V (ws' := fun _ => [oX10 q0 u0_0 u0_1 u0_2 (.ref q1) u0_4 u0_5 (.ref q6) u0_7 u0_8 u0_9 u0_10 u0_11 u0_12, oX0 q1 (.ref q2) (.ref q3) (.ref q4) u1_3 (.ref q5) (.int v_trial_number) (.int v_trial_day) u1_7, aI cy q2 7 v_trial_skill, aI cy q3 7 v_trial_pills, aI cy q4 7 v_trial_slept, aI cy q5 7 y40.2, oX5 q6 (.ref q7) (.ref q8) (.ref q9) (.int v_inForce_size), aI cy q7 40 v_inForce_code, aI cy q8 40 y33.2.1, aI cy q9 7 y33.2.2]) (st' := [.int y40.1]) (rest := []) E hS vlX10_294 (c_X10_turnsTrial (l := l) (D := D) (cy := cy) (q0 := q0) (q1 := q1) (q2 := q5) (u0_0 := u0_0) (u0_1 := u0_1) (u0_2 := u0_2) (u0_4 := u0_4) (u0_5 := u0_5) (u0_6 := .ref q6) (u0_7 := u0_7) (u0_8 := u0_8) (u0_9 := u0_9) (u0_10 := u0_10) (u0_11 := u0_11) (u0_12 := u0_12) (u1_0 := .ref q2) (u1_1 := .ref q3) (u1_2 := .ref q4) (u1_3 := u1_3) (u1_6 := .int v_trial_day) (u1_7 := u1_7) (v_trial_number := v_trial_number) (v_trial_wanted := y10.2) (p1 := x2_0) (r := y40) e6) [0, 1, 5] rfl rfl (fun _ => rfl) (fun _ => rfl) rfl rfl rfl rfl (Nat.le_of_ble_eq_true rfl) hl.1 (by rw [hRf]; exact Nat.le_of_ble_eq_true rfl) (by rw [hRl]; exact Nat.le_of_ble_eq_true rfl) ⟨Nat.zero_le _, Nat.zero_le _⟩ dX10_stepFrom_40 rfl (fun H locs _ hS => ?_)
          refine lv_pop hx hb dX10_stepFrom_43 rfl ?_
          refine lv_iload hx hb dX10_stepFrom_44 (lv_at hl 0 rfl) ?_
          refine lv_if_eq (tgt := 51) hx hb dX10_stepFrom_46 (by decide) (fun c7 => ?_) (fun c7 => ?_)
          · have h := it_pos c7 h
            refine lv_iinc (v := (x2_0 + (1 : Int32))) (lv' := [(3, .int (x2_0 + (1 : Int32))), (4, .int y33.1), (0, .ref q0), (1, .int p1)]) hx hb dX10_stepFrom_51 hl (k := 3) rfl rfl (by decide) rfl (fun ls hl => ?_)
            refine lv_goto (tgt := 2) hx hb dX10_stepFrom_54 (by decide) ?_
            exact ih2 (x2_0 + (1 : Int32)) y40.2 y33.2.1 y33.2.2 y2  H locs ls (hz2a _ (Option.some.inj h).symm) hS (lv_sub hl [2, 3, 0] rfl) hk2_0 hk2_1
          · have h := it_neg c7 h
            exact hk2_1 x2_0 y40.2 y33.2.1 y33.2.2 (hz2b _ (Option.some.inj h).symm)  H locs ls hS (lv_sub hl [3] rfl)
  obtain ⟨y2, e2, h⟩ := bd_some h
  refine hL2 1000 p2 v_trial_wanted v_inForce_stack v_inForce_thing y2  H locs ls e2 hS (lv_sub hl [1, 2, 0] rfl) (fun ye2_0_0 ye2_0_1 ye2_0_2 ey2 H locs ls hS hl => ?_) (fun ye2_1_0 ye2_1_1 ye2_1_2 ye2_1_3 ey2 H locs ls hS hl => ?_)
  · subst ey2
    have h := sm_l h
    have h := un_r h
    have h := un_r h
    refine lv_iconst (v := -1) hx hb dX10_stepFrom_57 (by decide) ?_
    obtain rfl := Option.some.inj h
    exact rt_i E hQ (.null) hS dX10_stepFrom_58
  · subst ey2
    have h := sm_r h
    have h := un_r h
    have h := un_r h
    have h := un_r h
    refine lv_iload_n hx hb dX10_stepFrom_49 rfl (lv_at hl 0 rfl) ?_
    obtain rfl := Option.some.inj h
    exact rt_i E hQ (.null) hS dX10_stepFrom_50
set_option maxHeartbeats 4000000 in
set_option maxRecDepth 100000 in
theorem c_X10_twoSteps {l : Launch} {D : va_G} {cy : Nat → ClassId} (q0 : Nat) (q1 : Nat) (q2 : Nat) (q3 : Nat) (q4 : Nat) (q5 : Nat) (q6 : Nat) (q7 : Nat) (q8 : Nat) (q9 : Nat) (q10 : Nat) (q11 : Nat) (u0_0 : Value) (u0_2 : Value) (u0_4 : Value) (u0_5 : Value) (u0_7 : Value) (u0_8 : Value) (u0_9 : Value) (u0_10 : Value) (u0_11 : Value) (u0_12 : Value) (u3_3 : Value) (u3_7 : Value) (v_told_size : Int32) (v_told_number : Nat → Int64) (v_trial_number : Int32) (v_trial_day : Int32) (v_trial_skill : Nat → Int32) (v_trial_pills : Nat → Int32) (v_trial_slept : Nat → Int32) (v_trial_wanted : Nat → Int32) (v_inForce_size : Int32) (v_inForce_code : Nat → Int32) (v_inForce_stack : Nat → Int32) (v_inForce_thing : Nat → Int32) (p1 : Int32) (r : Int32 × Int32 × (Nat → Int64) × (Nat → Int32) × (Nat → Int32) × (Nat → Int32)) (h : X10_twoSteps v_told_size v_told_number v_trial_number v_trial_day v_trial_skill v_trial_pills v_trial_slept v_trial_wanted v_inForce_size v_inForce_code v_inForce_stack v_inForce_thing p1 = some r) : Ct l yX10_twoSteps cX10_twoSteps 4 (some .int) 5 118 D cy [.ref q0, .int p1] [oX10 q0 u0_0 (.ref q1) u0_2 (.ref q3) u0_4 u0_5 (.ref q8) u0_7 u0_8 u0_9 u0_10 u0_11 u0_12, oX2 q1 (.ref q2) (.int v_told_size), aJ cy q2 16 v_told_number, oX0 q3 (.ref q4) (.ref q5) (.ref q6) u3_3 (.ref q7) (.int v_trial_number) (.int v_trial_day) u3_7, aI cy q4 7 v_trial_skill, aI cy q5 7 v_trial_pills, aI cy q6 7 v_trial_slept, aI cy q7 7 v_trial_wanted, oX5 q8 (.ref q9) (.ref q10) (.ref q11) (.int v_inForce_size), aI cy q9 40 v_inForce_code, aI cy q10 40 v_inForce_stack, aI cy q11 7 v_inForce_thing] (fun _ => [oX10 q0 u0_0 (.ref q1) u0_2 (.ref q3) u0_4 u0_5 (.ref q8) u0_7 u0_8 u0_9 u0_10 u0_11 u0_12, oX2 q1 (.ref q2) (.int r.2.1), aJ cy q2 16 r.2.2.1, oX0 q3 (.ref q4) (.ref q5) (.ref q6) u3_3 (.ref q7) (.int v_trial_number) (.int v_trial_day) u3_7, aI cy q4 7 v_trial_skill, aI cy q5 7 v_trial_pills, aI cy q6 7 v_trial_slept, aI cy q7 7 r.2.2.2.1, oX5 q8 (.ref q9) (.ref q10) (.ref q11) (.int v_inForce_size), aI cy q9 40 v_inForce_code, aI cy q10 40 r.2.2.2.2.1, aI cy q11 7 r.2.2.2.2.2]) (some (.int r.1)) := by
  refine Ct.mk kX10_twoSteps (by decide +kernel) (Nat.le_of_ble_eq_true rfl) ?_
  intro p e s m below meth c A ls args R Q hRf hRl hQ E H locs hS hl
  have hx := E.x
  have hb := E.b
  have hl : lv_has ls 4 [(0, .ref q0), (1, .int p1)] := hl
  unfold X10_twoSteps at h
  refine lv_iconst (v := 0) hx hb dX10_twoSteps_0 (by decide) ?_
  refine lv_istore_n (lv' := [(2, .int (0 : Int32)), (0, .ref q0), (1, .int p1)]) hx hb dX10_twoSteps_1 rfl hl (by decide) rfl (fun ls hl => ?_)
  have hL2 : ∀ (n : Nat) (x2_0 : Int32) (x2_1 : Nat → Int32) (x2_2 : Nat → Int32) (x2_3 : Nat → Int32) (y2 : ((Nat → Int32) × (Nat → Int32) × (Nat → Int32)) ⊕ (Int32 × Int32 × (Nat → Int32) × (Nat → Int32) × (Nat → Int32))) (H : Heap) (locs : List Loc) (ls : Array Slot), lp (fun x2 => X10_twoSteps_s2 v_trial_number v_trial_day v_trial_skill v_trial_pills v_trial_slept v_inForce_size v_inForce_code p1 x2.1 x2.2.1 x2.2.2.1 x2.2.2.2) n (x2_0, x2_1, x2_2, x2_3) = some y2 → Sv D A s.heap [oX10 q0 u0_0 (.ref q1) u0_2 (.ref q3) u0_4 u0_5 (.ref q8) u0_7 u0_8 u0_9 u0_10 u0_11 u0_12, oX2 q1 (.ref q2) (.int v_told_size), aJ cy q2 16 v_told_number, oX0 q3 (.ref q4) (.ref q5) (.ref q6) u3_3 (.ref q7) (.int v_trial_number) (.int v_trial_day) u3_7, aI cy q4 7 v_trial_skill, aI cy q5 7 v_trial_pills, aI cy q6 7 v_trial_slept, aI cy q7 7 x2_1, oX5 q8 (.ref q9) (.ref q10) (.ref q11) (.int v_inForce_size), aI cy q9 40 v_inForce_code, aI cy q10 40 x2_2, aI cy q11 7 x2_3] H locs → lv_has ls 4 [(0, .ref q0), (1, .int p1), (2, .int x2_0)] → ( ∀ (ye2_0_0 : Nat → Int32) (ye2_0_1 : Nat → Int32) (ye2_0_2 : Nat → Int32), .inl (ye2_0_0, ye2_0_1, ye2_0_2) = y2 → ∀ (H : Heap) (locs : List Loc) (ls : Array Slot), Sv D A s.heap [oX10 q0 u0_0 (.ref q1) u0_2 (.ref q3) u0_4 u0_5 (.ref q8) u0_7 u0_8 u0_9 u0_10 u0_11 u0_12, oX2 q1 (.ref q2) (.int v_told_size), aJ cy q2 16 v_told_number, oX0 q3 (.ref q4) (.ref q5) (.ref q6) u3_3 (.ref q7) (.int v_trial_number) (.int v_trial_day) u3_7, aI cy q4 7 v_trial_skill, aI cy q5 7 v_trial_pills, aI cy q6 7 v_trial_slept, aI cy q7 7 ye2_0_0, oX5 q8 (.ref q9) (.ref q10) (.ref q11) (.int v_inForce_size), aI cy q9 40 v_inForce_code, aI cy q10 40 ye2_0_1, aI cy q11 7 ye2_0_2] H locs → lv_has ls 4 [] → W p l e R s m args below meth c H locs 0 0 Q (F0 m 54 ls [])) → ( ∀ (ye2_1_0 : Int32) (ye2_1_1 : Int32) (ye2_1_2 : Nat → Int32) (ye2_1_3 : Nat → Int32) (ye2_1_4 : Nat → Int32), .inr (ye2_1_0, ye2_1_1, ye2_1_2, ye2_1_3, ye2_1_4) = y2 → ∀ (H : Heap) (locs : List Loc) (ls : Array Slot), Sv D A s.heap [oX10 q0 u0_0 (.ref q1) u0_2 (.ref q3) u0_4 u0_5 (.ref q8) u0_7 u0_8 u0_9 u0_10 u0_11 u0_12, oX2 q1 (.ref q2) (.int v_told_size), aJ cy q2 16 v_told_number, oX0 q3 (.ref q4) (.ref q5) (.ref q6) u3_3 (.ref q7) (.int v_trial_number) (.int v_trial_day) u3_7, aI cy q4 7 v_trial_skill, aI cy q5 7 v_trial_pills, aI cy q6 7 v_trial_slept, aI cy q7 7 ye2_1_2, oX5 q8 (.ref q9) (.ref q10) (.ref q11) (.int v_inForce_size), aI cy q9 40 v_inForce_code, aI cy q10 40 ye2_1_3, aI cy q11 7 ye2_1_4] H locs → lv_has ls 4 [(0, .ref q0), (2, .int ye2_1_0), (3, .int ye2_1_1)] → W p l e R s m args below meth c H locs 0 0 Q (F0 m 35 ls [])) → W p l e R s m args below meth c H locs 0 0 Q (F0 m 2 ls []) := by
    intro n
    induction n with
    | zero =>
      intro x2_0 x2_1 x2_2 x2_3 y2 H locs ls h
      exact lp_zero h
    | succ n ih2 =>
      intro x2_0 x2_1 x2_2 x2_3 y2 H locs ls h hS hl hk2_0 hk2_1
      obtain ⟨z2, h, hz2a, hz2b⟩ := lp_succ h
      have h : X10_twoSteps_s2 v_trial_number v_trial_day v_trial_skill v_trial_pills v_trial_slept v_inForce_size v_inForce_code p1 x2_0 x2_1 x2_2 x2_3 = some z2 := h
      unfold X10_twoSteps_s2 at h
      refine lv_iload_n hx hb dX10_twoSteps_2 rfl (lv_at hl 2 rfl) ?_
      refine lv_bipush (v := 49) hx hb dX10_twoSteps_3 (by decide) ?_
      refine lv_icmp_ge (tgt := 54) hx hb dX10_twoSteps_5 (by decide) (fun c1 => ?_) (fun c1 => ?_)
      · have h := it_pos c1 h
        exact hk2_0 x2_1 x2_2 x2_3 (hz2b _ (Option.some.inj h).symm)  H locs ls hS (lv_sub hl [] rfl)
      · have h := it_neg c1 h
        refine lv_aload_n hx hb dX10_twoSteps_8 rfl (lv_at hl 0 rfl) ?_
        refine lv_iload_n hx hb dX10_twoSteps_9 rfl (lv_at hl 2 rfl) ?_
        obtain ⟨y10, e2, h⟩ := bd_some h
        refine ct_V (ws' := fun _ => [oX10 q0 u0_0 (.ref q1) u0_2 (.ref q3) u0_4 u0_5 (.ref q8) u0_7 u0_8 u0_9 u0_10 u0_11 u0_12, oX2 q1 (.ref q2) (.int v_told_size), aJ cy q2 16 v_told_number, oX0 q3 (.ref q4) (.ref q5) (.ref q6) u3_3 (.ref q7) (.int v_trial_number) (.int v_trial_day) u3_7, aI cy q4 7 v_trial_skill, aI cy q5 7 v_trial_pills, aI cy q6 7 v_trial_slept, aI cy q7 7 y10.2, oX5 q8 (.ref q9) (.ref q10) (.ref q11) (.int v_inForce_size), aI cy q9 40 v_inForce_code, aI cy q10 40 x2_2, aI cy q11 7 x2_3]) (st' := [.int y10.1]) (rest := []) E hS vlX10_294 (c_X10_turnsTrial (l := l) (D := D) (cy := cy) (q0 := q0) (q1 := q3) (q2 := q7) (u0_0 := u0_0) (u0_1 := .ref q1) (u0_2 := u0_2) (u0_4 := u0_4) (u0_5 := u0_5) (u0_6 := .ref q8) (u0_7 := u0_7) (u0_8 := u0_8) (u0_9 := u0_9) (u0_10 := u0_10) (u0_11 := u0_11) (u0_12 := u0_12) (u1_0 := .ref q4) (u1_1 := .ref q5) (u1_2 := .ref q6) (u1_3 := u3_3) (u1_6 := .int v_trial_day) (u1_7 := u3_7) (v_trial_number := v_trial_number) (v_trial_wanted := x2_1) (p1 := x2_0) (r := y10) e2) [0, 3, 7] rfl rfl (fun _ => rfl) (fun _ => rfl) rfl rfl rfl rfl (Nat.le_of_ble_eq_true rfl) hl.1 (by rw [hRf]; exact Nat.le_of_ble_eq_true rfl) (by rw [hRl]; exact Nat.le_of_ble_eq_true rfl) ⟨Nat.zero_le _, Nat.zero_le _⟩ dX10_twoSteps_10 rfl (fun H locs _ hS => ?_)
        refine lv_if_eq (tgt := 48) hx hb dX10_twoSteps_13 (by decide) (fun c3 => ?_) (fun c3 => ?_)
        · have h := it_pos c3 h
          refine lv_iinc (v := (x2_0 + (1 : Int32))) (lv' := [(2, .int (x2_0 + (1 : Int32))), (0, .ref q0), (1, .int p1)]) hx hb dX10_twoSteps_48 hl (k := 2) rfl rfl (by decide) rfl (fun ls hl => ?_)
          refine lv_goto (tgt := 2) hx hb dX10_twoSteps_51 (by decide) ?_
          exact ih2 (x2_0 + (1 : Int32)) y10.2 x2_2 x2_3 y2  H locs ls (hz2a _ (Option.some.inj h).symm) hS (lv_sub hl [1, 2, 0] rfl) hk2_0 hk2_1
        · have h := it_neg c3 h
          refine lv_aload_n hx hb dX10_twoSteps_16 rfl (lv_at hl 0 rfl) ?_
          refine lv_iload_n hx hb dX10_twoSteps_17 rfl (lv_at hl 1 rfl) ?_
          refine lv_iload_n hx hb dX10_twoSteps_18 rfl (lv_at hl 2 rfl) ?_
          refine lv_iconst (v := 1) hx hb dX10_twoSteps_19 (by decide) ?_
          refine lv_iadd hx hb dX10_twoSteps_20 ?_
          obtain ⟨y21, e4, h⟩ := bd_some h
          refine ct_V (ws' := fun _ => [oX10 q0 u0_0 (.ref q1) u0_2 (.ref q3) u0_4 u0_5 (.ref q8) u0_7 u0_8 u0_9 u0_10 u0_11 u0_12, oX2 q1 (.ref q2) (.int v_told_size), aJ cy q2 16 v_told_number, oX0 q3 (.ref q4) (.ref q5) (.ref q6) u3_3 (.ref q7) (.int v_trial_number) (.int v_trial_day) u3_7, aI cy q4 7 v_trial_skill, aI cy q5 7 v_trial_pills, aI cy q6 7 v_trial_slept, aI cy q7 7 y21.2.1, oX5 q8 (.ref q9) (.ref q10) (.ref q11) (.int v_inForce_size), aI cy q9 40 v_inForce_code, aI cy q10 40 y21.2.2.1, aI cy q11 7 y21.2.2.2]) (st' := [.int y21.1]) (rest := []) E hS vlX10_288 (c_X10_stepFrom (l := l) (D := D) (cy := cy) (q0 := q0) (q1 := q3) (q2 := q4) (q3 := q5) (q4 := q6) (q5 := q7) (q6 := q8) (q7 := q9) (q8 := q10) (q9 := q11) (u0_0 := u0_0) (u0_1 := .ref q1) (u0_2 := u0_2) (u0_4 := u0_4) (u0_5 := u0_5) (u0_7 := u0_7) (u0_8 := u0_8) (u0_9 := u0_9) (u0_10 := u0_10) (u0_11 := u0_11) (u0_12 := u0_12) (u1_3 := u3_3) (u1_7 := u3_7) (v_trial_number := v_trial_number) (v_trial_day := v_trial_day) (v_trial_skill := v_trial_skill) (v_trial_pills := v_trial_pills) (v_trial_slept := v_trial_slept) (v_trial_wanted := y10.2) (v_inForce_size := v_inForce_size) (v_inForce_code := v_inForce_code) (v_inForce_stack := x2_2) (v_inForce_thing := x2_3) (p1 := p1) (p2 := (x2_0 + (1 : Int32))) (r := y21) e4) [0, 3, 4, 5, 6, 7, 8, 9, 10, 11] rfl rfl (fun _ => rfl) (fun _ => rfl) rfl rfl rfl rfl (Nat.le_of_ble_eq_true rfl) hl.1 (by rw [hRf]; exact Nat.le_of_ble_eq_true rfl) (by rw [hRl]; exact Nat.le_of_ble_eq_true rfl) ⟨Nat.zero_le _, Nat.zero_le _⟩ dX10_twoSteps_21 rfl (fun H locs _ hS => ?_)
          refine lv_istore_n (lv' := [(3, .int y21.1), (0, .ref q0), (1, .int p1), (2, .int x2_0)]) hx hb dX10_twoSteps_24 rfl hl (by decide) rfl (fun ls hl => ?_)
          refine lv_aload_n hx hb dX10_twoSteps_25 rfl (lv_at hl 1 rfl) ?_
          refine lv_iload_n hx hb dX10_twoSteps_26 rfl (lv_at hl 3 rfl) ?_
          obtain ⟨y27, e5, h⟩ := bd_some h
          refine ct_V (ws' := fun _ => [oX10 q0 u0_0 (.ref q1) u0_2 (.ref q3) u0_4 u0_5 (.ref q8) u0_7 u0_8 u0_9 u0_10 u0_11 u0_12, oX2 q1 (.ref q2) (.int v_told_size), aJ cy q2 16 v_told_number, oX0 q3 (.ref q4) (.ref q5) (.ref q6) u3_3 (.ref q7) (.int v_trial_number) (.int v_trial_day) u3_7, aI cy q4 7 v_trial_skill, aI cy q5 7 v_trial_pills, aI cy q6 7 v_trial_slept, aI cy q7 7 y27.2, oX5 q8 (.ref q9) (.ref q10) (.ref q11) (.int v_inForce_size), aI cy q9 40 v_inForce_code, aI cy q10 40 y21.2.2.1, aI cy q11 7 y21.2.2.2]) (st' := [.int y27.1]) (rest := []) E hS vlX10_294 (c_X10_turnsTrial (l := l) (D := D) (cy := cy) (q0 := q0) (q1 := q3) (q2 := q7) (u0_0 := u0_0) (u0_1 := .ref q1) (u0_2 := u0_2) (u0_4 := u0_4) (u0_5 := u0_5) (u0_6 := .ref q8) (u0_7 := u0_7) (u0_8 := u0_8) (u0_9 := u0_9) (u0_10 := u0_10) (u0_11 := u0_11) (u0_12 := u0_12) (u1_0 := .ref q4) (u1_1 := .ref q5) (u1_2 := .ref q6) (u1_3 := u3_3) (u1_6 := .int v_trial_day) (u1_7 := u3_7) (v_trial_number := v_trial_number) (v_trial_wanted := y21.2.1) (p1 := x2_0) (r := y27) e5) [0, 3, 7] rfl rfl (fun _ => rfl) (fun _ => rfl) rfl rfl rfl rfl (Nat.le_of_ble_eq_true rfl) hl.1 (by rw [hRf]; exact Nat.le_of_ble_eq_true rfl) (by rw [hRl]; exact Nat.le_of_ble_eq_true rfl) ⟨Nat.zero_le _, Nat.zero_le _⟩ dX10_twoSteps_27 rfl (fun H locs _ hS => ?_)
          refine lv_pop hx hb dX10_twoSteps_30 rfl ?_
          refine lv_iload_n hx hb dX10_twoSteps_31 rfl (lv_at hl 0 rfl) ?_
          refine lv_if_lt (tgt := 48) hx hb dX10_twoSteps_32 (by decide) (fun c6 => ?_) (fun c6 => ?_)
          · have h := it_pos c6 h
            refine lv_iinc (v := (x2_0 + (1 : Int32))) (lv' := [(2, .int (x2_0 + (1 : Int32))), (3, .int y21.1), (0, .ref q0), (1, .int p1)]) hx hb dX10_twoSteps_48 hl (k := 3) rfl rfl (by decide) rfl (fun ls hl => ?_)
            refine lv_goto (tgt := 2) hx hb dX10_twoSteps_51 (by decide) ?_
            exact ih2 (x2_0 + (1 : Int32)) y27.2 y21.2.2.1 y21.2.2.2 y2  H locs ls (hz2a _ (Option.some.inj h).symm) hS (lv_sub hl [2, 3, 0] rfl) hk2_0 hk2_1
          · have h := it_neg c6 h
            exact hk2_1 x2_0 y21.1 y27.2 y21.2.2.1 y21.2.2.2 (hz2b _ (Option.some.inj h).symm)  H locs ls hS (lv_sub hl [1, 3, 0] rfl)
  obtain ⟨y2, e2, h⟩ := bd_some h
  refine hL2 1000 (0 : Int32) v_trial_wanted v_inForce_stack v_inForce_thing y2  H locs ls e2 hS (lv_sub hl [1, 2, 0] rfl) (fun ye2_0_0 ye2_0_1 ye2_0_2 ey2 H locs ls hS hl => ?_) (fun ye2_1_0 ye2_1_1 ye2_1_2 ye2_1_3 ye2_1_4 ey2 H locs ls hS hl => ?_)
  · subst ey2
    have h := sm_l h
    have h := un_r h
    have h := un_r h
    refine lv_bipush (v := -2) hx hb dX10_twoSteps_54 (by decide) ?_
    obtain rfl := Option.some.inj h
    exact rt_i E hQ (.null) hS dX10_twoSteps_56
  · subst ey2
    have h := sm_r h
    have h := un_r h
    have h := un_r h
    have h := un_r h
    have h := un_r h
    refine lv_aload_n hx hb dX10_twoSteps_35 rfl (lv_at hl 0 rfl) ?_
    refine r_get E frX10_19 hS 0 rfl rfl dX10_twoSteps_36 ?_
    refine lv_iload_n hx hb dX10_twoSteps_39 rfl (lv_at hl 1 rfl) ?_
    refine lv_i2l (v := (ye2_1_0.toInt64)) hx hb dX10_twoSteps_40 rfl ?_
    refine lv_iload_n hx hb dX10_twoSteps_41 rfl (lv_at hl 2 rfl) ?_
    refine lv_i2l (v := (ye2_1_1.toInt64)) hx hb dX10_twoSteps_42 rfl ?_
    obtain ⟨y43, e7, h⟩ := bd_some h
    refine ct_V (ws' := fun _ => [oX10 q0 u0_0 (.ref q1) u0_2 (.ref q3) u0_4 u0_5 (.ref q8) u0_7 u0_8 u0_9 u0_10 u0_11 u0_12, oX2 q1 (.ref q2) (.int y43.1), aJ cy q2 16 y43.2, oX0 q3 (.ref q4) (.ref q5) (.ref q6) u3_3 (.ref q7) (.int v_trial_number) (.int v_trial_day) u3_7, aI cy q4 7 v_trial_skill, aI cy q5 7 v_trial_pills, aI cy q6 7 v_trial_slept, aI cy q7 7 ye2_1_2, oX5 q8 (.ref q9) (.ref q10) (.ref q11) (.int v_inForce_size), aI cy q9 40 v_inForce_code, aI cy q10 40 ye2_1_3, aI cy q11 7 ye2_1_4]) (st' := []) (rest := []) E hS vlX10_199 (c_X2_tellsBoth (l := l) (D := D) (cy := cy) (q0 := q1) (q1 := q2) (v_size := v_told_size) (v_number := v_told_number) (p1 := (ye2_1_0.toInt64)) (p3 := (ye2_1_1.toInt64)) (r := y43) e7) [1, 2] rfl rfl (fun _ => rfl) (fun _ => rfl) rfl rfl rfl rfl (Nat.le_of_ble_eq_true rfl) hl.1 (by rw [hRf]; exact Nat.le_of_ble_eq_true rfl) (by rw [hRl]; exact Nat.le_of_ble_eq_true rfl) ⟨Nat.zero_le _, Nat.zero_le _⟩ dX10_twoSteps_43 rfl (fun H locs _ hS => ?_)
    refine lv_iconst (v := 2) hx hb dX10_twoSteps_46 (by decide) ?_
    obtain rfl := Option.some.inj h
    exact rt_i E hQ (.null) hS dX10_twoSteps_47
set_option maxHeartbeats 4000000 in
set_option maxRecDepth 100000 in
theorem c_X10_steps {l : Launch} {D : va_G} {cy : Nat → ClassId} (q0 : Nat) (q1 : Nat) (q2 : Nat) (q3 : Nat) (q4 : Nat) (q5 : Nat) (q6 : Nat) (q7 : Nat) (q8 : Nat) (q9 : Nat) (q10 : Nat) (q11 : Nat) (q12 : Nat) (q13 : Nat) (q14 : Nat) (q15 : Nat) (q16 : Nat) (q17 : Nat) (q18 : Nat) (u0_0 : Value) (u0_4 : Value) (u0_5 : Value) (u0_7 : Value) (u0_8 : Value) (u0_9 : Value) (u0_10 : Value) (u0_11 : Value) (u0_12 : Value) (v_told_size : Int32) (v_told_number : Nat → Int64) (v_folk_number : Int32) (v_folk_day : Int32) (v_folk_unmet : Int32) (v_folk_skill : Nat → Int32) (v_folk_pills : Nat → Int32) (v_folk_slept : Nat → Int32) (v_folk_woken : Nat → Int32) (v_folk_wanted : Nat → Int32) (v_trial_number : Int32) (v_trial_day : Int32) (v_trial_unmet : Int32) (v_trial_skill : Nat → Int32) (v_trial_pills : Nat → Int32) (v_trial_slept : Nat → Int32) (v_trial_woken : Nat → Int32) (v_trial_wanted : Nat → Int32) (v_inForce_size : Int32) (v_inForce_code : Nat → Int32) (v_inForce_stack : Nat → Int32) (v_inForce_thing : Nat → Int32) (p1 : Int32) (r : Int32 × Int32 × (Nat → Int64) × Int32 × Int32 × Int32 × (Nat → Int32) × (Nat → Int32) × (Nat → Int32) × (Nat → Int32) × (Nat → Int32) × (Nat → Int32) × (Nat → Int32)) (h : X10_steps v_told_size v_told_number v_folk_number v_folk_day v_folk_unmet v_folk_skill v_folk_pills v_folk_slept v_folk_woken v_folk_wanted v_trial_number v_trial_day v_trial_unmet v_trial_skill v_trial_pills v_trial_slept v_trial_woken v_trial_wanted v_inForce_size v_inForce_code v_inForce_stack v_inForce_thing p1 = some r) : Ct l yX10_steps cX10_steps 3 (some .int) 6 141 D cy [.ref q0, .int p1] [oX10 q0 u0_0 (.ref q1) (.ref q3) (.ref q9) u0_4 u0_5 (.ref q15) u0_7 u0_8 u0_9 u0_10 u0_11 u0_12, oX2 q1 (.ref q2) (.int v_told_size), aJ cy q2 16 v_told_number, oX0 q3 (.ref q4) (.ref q5) (.ref q6) (.ref q7) (.ref q8) (.int v_folk_number) (.int v_folk_day) (.int v_folk_unmet), aI cy q4 7 v_folk_skill, aI cy q5 7 v_folk_pills, aI cy q6 7 v_folk_slept, aI cy q7 7 v_folk_woken, aI cy q8 7 v_folk_wanted, oX0 q9 (.ref q10) (.ref q11) (.ref q12) (.ref q13) (.ref q14) (.int v_trial_number) (.int v_trial_day) (.int v_trial_unmet), aI cy q10 7 v_trial_skill, aI cy q11 7 v_trial_pills, aI cy q12 7 v_trial_slept, aI cy q13 7 v_trial_woken, aI cy q14 7 v_trial_wanted, oX5 q15 (.ref q16) (.ref q17) (.ref q18) (.int v_inForce_size), aI cy q16 40 v_inForce_code, aI cy q17 40 v_inForce_stack, aI cy q18 7 v_inForce_thing] (fun _ => [oX10 q0 u0_0 (.ref q1) (.ref q3) (.ref q9) u0_4 u0_5 (.ref q15) u0_7 u0_8 u0_9 u0_10 u0_11 u0_12, oX2 q1 (.ref q2) (.int r.2.1), aJ cy q2 16 r.2.2.1, oX0 q3 (.ref q4) (.ref q5) (.ref q6) (.ref q7) (.ref q8) (.int v_folk_number) (.int v_folk_day) (.int v_folk_unmet), aI cy q4 7 v_folk_skill, aI cy q5 7 v_folk_pills, aI cy q6 7 v_folk_slept, aI cy q7 7 v_folk_woken, aI cy q8 7 v_folk_wanted, oX0 q9 (.ref q10) (.ref q11) (.ref q12) (.ref q13) (.ref q14) (.int r.2.2.2.1) (.int r.2.2.2.2.1) (.int r.2.2.2.2.2.1), aI cy q10 7 r.2.2.2.2.2.2.1, aI cy q11 7 r.2.2.2.2.2.2.2.1, aI cy q12 7 r.2.2.2.2.2.2.2.2.1, aI cy q13 7 r.2.2.2.2.2.2.2.2.2.1, aI cy q14 7 r.2.2.2.2.2.2.2.2.2.2.1, oX5 q15 (.ref q16) (.ref q17) (.ref q18) (.int v_inForce_size), aI cy q16 40 v_inForce_code, aI cy q17 40 r.2.2.2.2.2.2.2.2.2.2.2.1, aI cy q18 7 r.2.2.2.2.2.2.2.2.2.2.2.2]) (some (.int r.1)) := by
  refine Ct.mk kX10_steps (by decide +kernel) (Nat.le_of_ble_eq_true rfl) ?_
  intro p e s m below meth c A ls args R Q hRf hRl hQ E H locs hS hl
  have hx := E.x
  have hb := E.b
  have hl : lv_has ls 3 [(0, .ref q0), (1, .int p1)] := hl
  unfold X10_steps at h
  refine lv_aload_n hx hb dX10_steps_0 rfl (lv_at hl 0 rfl) ?_
  refine r_get E frX10_26 hS 0 rfl rfl dX10_steps_1 ?_
  refine lv_iload_n hx hb dX10_steps_4 rfl (lv_at hl 1 rfl) ?_
  refine ct_V (ws' := fun _ => [oX10 q0 u0_0 (.ref q1) (.ref q3) (.ref q9) u0_4 u0_5 (.ref q15) u0_7 u0_8 u0_9 u0_10 u0_11 u0_12, oX2 q1 (.ref q2) (.int v_told_size), aJ cy q2 16 v_told_number, oX0 q3 (.ref q4) (.ref q5) (.ref q6) (.ref q7) (.ref q8) (.int v_folk_number) (.int v_folk_day) (.int v_folk_unmet), aI cy q4 7 v_folk_skill, aI cy q5 7 v_folk_pills, aI cy q6 7 v_folk_slept, aI cy q7 7 v_folk_woken, aI cy q8 7 v_folk_wanted, oX0 q9 (.ref q10) (.ref q11) (.ref q12) (.ref q13) (.ref q14) (.int v_trial_number) (.int v_trial_day) (.int v_trial_unmet), aI cy q10 7 v_trial_skill, aI cy q11 7 v_trial_pills, aI cy q12 7 v_trial_slept, aI cy q13 7 v_trial_woken, aI cy q14 7 v_trial_wanted, oX5 q15 (.ref q16) (.ref q17) (.ref q18) (.int v_inForce_size), aI cy q16 40 v_inForce_code, aI cy q17 40 v_inForce_stack, aI cy q18 7 v_inForce_thing]) (st' := [.int (X0_has v_folk_number p1)]) (rest := []) E hS vlX10_148 (c_X0_has (l := l) (D := D) (cy := cy) (q0 := q3) (u0_0 := .ref q4) (u0_1 := .ref q5) (u0_2 := .ref q6) (u0_3 := .ref q7) (u0_4 := .ref q8) (u0_6 := .int v_folk_day) (u0_7 := .int v_folk_unmet) (v_number := v_folk_number) (p1 := p1) (r := (X0_has v_folk_number p1)) rfl) [3] rfl rfl (fun _ => rfl) (fun _ => rfl) rfl rfl rfl rfl (Nat.le_of_ble_eq_true rfl) hl.1 (by rw [hRf]; exact Nat.le_of_ble_eq_true rfl) (by rw [hRl]; exact Nat.le_of_ble_eq_true rfl) ⟨Nat.zero_le _, Nat.zero_le _⟩ dX10_steps_5 rfl (fun H locs _ hS => ?_)
  refine lv_if_ne (tgt := 13) hx hb dX10_steps_8 (by decide) (fun c1 => ?_) (fun c1 => ?_)
  · have h := it_neg c1 h
    refine lv_aload_n hx hb dX10_steps_13 rfl (lv_at hl 0 rfl) ?_
    refine r_get E frX10_30 hS 0 rfl rfl dX10_steps_14 ?_
    refine lv_aload_n hx hb dX10_steps_17 rfl (lv_at hl 0 rfl) ?_
    refine r_get E frX10_26 hS 0 rfl rfl dX10_steps_18 ?_
    obtain ⟨y21, e2, h⟩ := bd_some h
    refine ct_V (ws' := fun _ => [oX10 q0 u0_0 (.ref q1) (.ref q3) (.ref q9) u0_4 u0_5 (.ref q15) u0_7 u0_8 u0_9 u0_10 u0_11 u0_12, oX2 q1 (.ref q2) (.int v_told_size), aJ cy q2 16 v_told_number, oX0 q3 (.ref q4) (.ref q5) (.ref q6) (.ref q7) (.ref q8) (.int v_folk_number) (.int v_folk_day) (.int v_folk_unmet), aI cy q4 7 v_folk_skill, aI cy q5 7 v_folk_pills, aI cy q6 7 v_folk_slept, aI cy q7 7 v_folk_woken, aI cy q8 7 v_folk_wanted, oX0 q9 (.ref q10) (.ref q11) (.ref q12) (.ref q13) (.ref q14) (.int y21.1) (.int y21.2.1) (.int y21.2.2.1), aI cy q10 7 y21.2.2.2.1, aI cy q11 7 y21.2.2.2.2.1, aI cy q12 7 y21.2.2.2.2.2.1, aI cy q13 7 y21.2.2.2.2.2.2.1, aI cy q14 7 y21.2.2.2.2.2.2.2, oX5 q15 (.ref q16) (.ref q17) (.ref q18) (.int v_inForce_size), aI cy q16 40 v_inForce_code, aI cy q17 40 v_inForce_stack, aI cy q18 7 v_inForce_thing]) (st' := []) (rest := []) E hS vlX10_249 (c_X0_becomes (l := l) (D := D) (cy := cy) (q0 := q9) (q1 := q10) (q2 := q11) (q3 := q12) (q4 := q13) (q5 := q14) (q6 := q3) (q7 := q4) (q8 := q5) (q9 := q6) (q10 := q7) (q11 := q8) (v_number := v_trial_number) (v_day := v_trial_day) (v_unmet := v_trial_unmet) (v_skill := v_trial_skill) (v_pills := v_trial_pills) (v_slept := v_trial_slept) (v_woken := v_trial_woken) (v_wanted := v_trial_wanted) (w1_number := v_folk_number) (w1_day := v_folk_day) (w1_unmet := v_folk_unmet) (w1_skill := v_folk_skill) (w1_pills := v_folk_pills) (w1_slept := v_folk_slept) (w1_woken := v_folk_woken) (w1_wanted := v_folk_wanted) (r := y21) e2) [9, 10, 11, 12, 13, 14, 3, 4, 5, 6, 7, 8] rfl rfl (fun _ => rfl) (fun _ => rfl) rfl rfl rfl rfl (Nat.le_of_ble_eq_true rfl) hl.1 (by rw [hRf]; exact Nat.le_of_ble_eq_true rfl) (by rw [hRl]; exact Nat.le_of_ble_eq_true rfl) ⟨Nat.zero_le _, Nat.zero_le _⟩ dX10_steps_21 rfl (fun H locs _ hS => ?_)
    refine lv_aload_n hx hb dX10_steps_24 rfl (lv_at hl 0 rfl) ?_
    refine r_get E frX10_50 hS 0 rfl rfl dX10_steps_25 ?_
    refine lv_aload_n hx hb dX10_steps_28 rfl (lv_at hl 0 rfl) ?_
    refine r_get E frX10_30 hS 0 rfl rfl dX10_steps_29 ?_
    refine lv_iload_n hx hb dX10_steps_32 rfl (lv_at hl 1 rfl) ?_
    refine lv_aload_n hx hb dX10_steps_33 rfl (lv_at hl 0 rfl) ?_
    refine r_get E frX10_30 hS 0 rfl rfl dX10_steps_34 ?_
    refine lv_iload_n hx hb dX10_steps_37 rfl (lv_at hl 1 rfl) ?_
    obtain ⟨y38, e3, h⟩ := bd_some h
    refine ct_V (ws' := fun _ => [oX10 q0 u0_0 (.ref q1) (.ref q3) (.ref q9) u0_4 u0_5 (.ref q15) u0_7 u0_8 u0_9 u0_10 u0_11 u0_12, oX2 q1 (.ref q2) (.int v_told_size), aJ cy q2 16 v_told_number, oX0 q3 (.ref q4) (.ref q5) (.ref q6) (.ref q7) (.ref q8) (.int v_folk_number) (.int v_folk_day) (.int v_folk_unmet), aI cy q4 7 v_folk_skill, aI cy q5 7 v_folk_pills, aI cy q6 7 v_folk_slept, aI cy q7 7 v_folk_woken, aI cy q8 7 v_folk_wanted, oX0 q9 (.ref q10) (.ref q11) (.ref q12) (.ref q13) (.ref q14) (.int y21.1) (.int y21.2.1) (.int y21.2.2.1), aI cy q10 7 y21.2.2.2.1, aI cy q11 7 y21.2.2.2.2.1, aI cy q12 7 y21.2.2.2.2.2.1, aI cy q13 7 y21.2.2.2.2.2.2.1, aI cy q14 7 y21.2.2.2.2.2.2.2, oX5 q15 (.ref q16) (.ref q17) (.ref q18) (.int v_inForce_size), aI cy q16 40 v_inForce_code, aI cy q17 40 v_inForce_stack, aI cy q18 7 v_inForce_thing]) (st' := [.int y38, .int p1, .ref q9, .ref q15]) (rest := [.int p1, .ref q9, .ref q15]) E hS vlX10_170 (c_X0_wanting (l := l) (D := D) (cy := cy) (q0 := q9) (q1 := q14) (u0_0 := .ref q10) (u0_1 := .ref q11) (u0_2 := .ref q12) (u0_3 := .ref q13) (u0_6 := .int y21.2.1) (u0_7 := .int y21.2.2.1) (v_number := y21.1) (v_wanted := y21.2.2.2.2.2.2.2) (p1 := p1) (r := y38) e3) [9, 14] rfl rfl (fun _ => rfl) (fun _ => rfl) rfl rfl rfl rfl (Nat.le_of_ble_eq_true rfl) hl.1 (by rw [hRf]; exact Nat.le_of_ble_eq_true rfl) (by rw [hRl]; exact Nat.le_of_ble_eq_true rfl) ⟨Nat.zero_le _, Nat.zero_le _⟩ dX10_steps_38 rfl (fun H locs _ hS => ?_)
    obtain ⟨y41, e4, h⟩ := bd_some h
    refine ct_V (ws' := fun _ => [oX10 q0 u0_0 (.ref q1) (.ref q3) (.ref q9) u0_4 u0_5 (.ref q15) u0_7 u0_8 u0_9 u0_10 u0_11 u0_12, oX2 q1 (.ref q2) (.int v_told_size), aJ cy q2 16 v_told_number, oX0 q3 (.ref q4) (.ref q5) (.ref q6) (.ref q7) (.ref q8) (.int v_folk_number) (.int v_folk_day) (.int v_folk_unmet), aI cy q4 7 v_folk_skill, aI cy q5 7 v_folk_pills, aI cy q6 7 v_folk_slept, aI cy q7 7 v_folk_woken, aI cy q8 7 v_folk_wanted, oX0 q9 (.ref q10) (.ref q11) (.ref q12) (.ref q13) (.ref q14) (.int y21.1) (.int y21.2.1) (.int y21.2.2.1), aI cy q10 7 y21.2.2.2.1, aI cy q11 7 y21.2.2.2.2.1, aI cy q12 7 y21.2.2.2.2.2.1, aI cy q13 7 y21.2.2.2.2.2.2.1, aI cy q14 7 y21.2.2.2.2.2.2.2, oX5 q15 (.ref q16) (.ref q17) (.ref q18) (.int v_inForce_size), aI cy q16 40 v_inForce_code, aI cy q17 40 y41.2.1, aI cy q18 7 y41.2.2]) (st' := [.int y41.1]) (rest := []) E hS vlX10_281 (c_X5_rouses (l := l) (D := D) (cy := cy) (q0 := q15) (q1 := q16) (q2 := q17) (q3 := q18) (q4 := q9) (q5 := q10) (q6 := q11) (q7 := q12) (q8 := q14) (u4_3 := .ref q13) (u4_7 := .int y21.2.2.1) (v_size := v_inForce_size) (v_code := v_inForce_code) (v_stack := v_inForce_stack) (v_thing := v_inForce_thing) (w1_number := y21.1) (w1_day := y21.2.1) (w1_skill := y21.2.2.2.1) (w1_pills := y21.2.2.2.2.1) (w1_slept := y21.2.2.2.2.2.1) (w1_wanted := y21.2.2.2.2.2.2.2) (p2 := p1) (p3 := y38) (r := y41) e4) [15, 16, 17, 18, 9, 10, 11, 12, 14] rfl rfl (fun _ => rfl) (fun _ => rfl) rfl rfl rfl rfl (Nat.le_of_ble_eq_true rfl) hl.1 (by rw [hRf]; exact Nat.le_of_ble_eq_true rfl) (by rw [hRl]; exact Nat.le_of_ble_eq_true rfl) ⟨Nat.zero_le _, Nat.zero_le _⟩ dX10_steps_41 rfl (fun H locs _ hS => ?_)
    refine lv_if_eq (tgt := 56) hx hb dX10_steps_44 (by decide) (fun c5 => ?_) (fun c5 => ?_)
    · have h := it_pos c5 h
      refine lv_aload_n hx hb dX10_steps_56 rfl (lv_at hl 0 rfl) ?_
      refine lv_iload_n hx hb dX10_steps_57 rfl (lv_at hl 1 rfl) ?_
      refine lv_iconst (v := 0) hx hb dX10_steps_58 (by decide) ?_
      obtain ⟨y59, e6, h⟩ := bd_some h
      refine ct_V (ws' := fun _ => [oX10 q0 u0_0 (.ref q1) (.ref q3) (.ref q9) u0_4 u0_5 (.ref q15) u0_7 u0_8 u0_9 u0_10 u0_11 u0_12, oX2 q1 (.ref q2) (.int v_told_size), aJ cy q2 16 v_told_number, oX0 q3 (.ref q4) (.ref q5) (.ref q6) (.ref q7) (.ref q8) (.int v_folk_number) (.int v_folk_day) (.int v_folk_unmet), aI cy q4 7 v_folk_skill, aI cy q5 7 v_folk_pills, aI cy q6 7 v_folk_slept, aI cy q7 7 v_folk_woken, aI cy q8 7 v_folk_wanted, oX0 q9 (.ref q10) (.ref q11) (.ref q12) (.ref q13) (.ref q14) (.int y21.1) (.int y21.2.1) (.int y21.2.2.1), aI cy q10 7 y21.2.2.2.1, aI cy q11 7 y21.2.2.2.2.1, aI cy q12 7 y21.2.2.2.2.2.1, aI cy q13 7 y21.2.2.2.2.2.2.1, aI cy q14 7 y59.2.1, oX5 q15 (.ref q16) (.ref q17) (.ref q18) (.int v_inForce_size), aI cy q16 40 v_inForce_code, aI cy q17 40 y59.2.2.1, aI cy q18 7 y59.2.2.2]) (st' := [.int y59.1]) (rest := []) E hS vlX10_288 (c_X10_stepFrom (l := l) (D := D) (cy := cy) (q0 := q0) (q1 := q9) (q2 := q10) (q3 := q11) (q4 := q12) (q5 := q14) (q6 := q15) (q7 := q16) (q8 := q17) (q9 := q18) (u0_0 := u0_0) (u0_1 := .ref q1) (u0_2 := .ref q3) (u0_4 := u0_4) (u0_5 := u0_5) (u0_7 := u0_7) (u0_8 := u0_8) (u0_9 := u0_9) (u0_10 := u0_10) (u0_11 := u0_11) (u0_12 := u0_12) (u1_3 := .ref q13) (u1_7 := .int y21.2.2.1) (v_trial_number := y21.1) (v_trial_day := y21.2.1) (v_trial_skill := y21.2.2.2.1) (v_trial_pills := y21.2.2.2.2.1) (v_trial_slept := y21.2.2.2.2.2.1) (v_trial_wanted := y21.2.2.2.2.2.2.2) (v_inForce_size := v_inForce_size) (v_inForce_code := v_inForce_code) (v_inForce_stack := y41.2.1) (v_inForce_thing := y41.2.2) (p1 := p1) (p2 := (0 : Int32)) (r := y59) e6) [0, 9, 10, 11, 12, 14, 15, 16, 17, 18] rfl rfl (fun _ => rfl) (fun _ => rfl) rfl rfl rfl rfl (Nat.le_of_ble_eq_true rfl) hl.1 (by rw [hRf]; exact Nat.le_of_ble_eq_true rfl) (by rw [hRl]; exact Nat.le_of_ble_eq_true rfl) ⟨Nat.zero_le _, Nat.zero_le _⟩ dX10_steps_59 rfl (fun H locs _ hS => ?_)
      refine lv_istore_n (lv' := [(2, .int y59.1), (0, .ref q0), (1, .int p1)]) hx hb dX10_steps_62 rfl hl (by decide) rfl (fun ls hl => ?_)
      refine lv_iload_n hx hb dX10_steps_63 rfl (lv_at hl 0 rfl) ?_
      refine lv_if_lt (tgt := 78) hx hb dX10_steps_64 (by decide) (fun c7 => ?_) (fun c7 => ?_)
      · have h := it_pos c7 h
        refine lv_aload_n hx hb dX10_steps_78 rfl (lv_at hl 1 rfl) ?_
        refine lv_iload_n hx hb dX10_steps_79 rfl (lv_at hl 2 rfl) ?_
        obtain ⟨y80, e8, h⟩ := bd_some h
        refine ct_V (ws' := fun _ => [oX10 q0 u0_0 (.ref q1) (.ref q3) (.ref q9) u0_4 u0_5 (.ref q15) u0_7 u0_8 u0_9 u0_10 u0_11 u0_12, oX2 q1 (.ref q2) (.int y80.2.1), aJ cy q2 16 y80.2.2.1, oX0 q3 (.ref q4) (.ref q5) (.ref q6) (.ref q7) (.ref q8) (.int v_folk_number) (.int v_folk_day) (.int v_folk_unmet), aI cy q4 7 v_folk_skill, aI cy q5 7 v_folk_pills, aI cy q6 7 v_folk_slept, aI cy q7 7 v_folk_woken, aI cy q8 7 v_folk_wanted, oX0 q9 (.ref q10) (.ref q11) (.ref q12) (.ref q13) (.ref q14) (.int y21.1) (.int y21.2.1) (.int y21.2.2.1), aI cy q10 7 y21.2.2.2.1, aI cy q11 7 y21.2.2.2.2.1, aI cy q12 7 y21.2.2.2.2.2.1, aI cy q13 7 y21.2.2.2.2.2.2.1, aI cy q14 7 y80.2.2.2.1, oX5 q15 (.ref q16) (.ref q17) (.ref q18) (.int v_inForce_size), aI cy q16 40 v_inForce_code, aI cy q17 40 y80.2.2.2.2.1, aI cy q18 7 y80.2.2.2.2.2]) (st' := [.int y80.1]) (rest := []) E hS vlX10_291 (c_X10_twoSteps (l := l) (D := D) (cy := cy) (q0 := q0) (q1 := q1) (q2 := q2) (q3 := q9) (q4 := q10) (q5 := q11) (q6 := q12) (q7 := q14) (q8 := q15) (q9 := q16) (q10 := q17) (q11 := q18) (u0_0 := u0_0) (u0_2 := .ref q3) (u0_4 := u0_4) (u0_5 := u0_5) (u0_7 := u0_7) (u0_8 := u0_8) (u0_9 := u0_9) (u0_10 := u0_10) (u0_11 := u0_11) (u0_12 := u0_12) (u3_3 := .ref q13) (u3_7 := .int y21.2.2.1) (v_told_size := v_told_size) (v_told_number := v_told_number) (v_trial_number := y21.1) (v_trial_day := y21.2.1) (v_trial_skill := y21.2.2.2.1) (v_trial_pills := y21.2.2.2.2.1) (v_trial_slept := y21.2.2.2.2.2.1) (v_trial_wanted := y59.2.1) (v_inForce_size := v_inForce_size) (v_inForce_code := v_inForce_code) (v_inForce_stack := y59.2.2.1) (v_inForce_thing := y59.2.2.2) (p1 := p1) (r := y80) e8) [0, 1, 2, 9, 10, 11, 12, 14, 15, 16, 17, 18] rfl rfl (fun _ => rfl) (fun _ => rfl) rfl rfl rfl rfl (Nat.le_of_ble_eq_true rfl) hl.1 (by rw [hRf]; exact Nat.le_of_ble_eq_true rfl) (by rw [hRl]; exact Nat.le_of_ble_eq_true rfl) ⟨Nat.zero_le _, Nat.zero_le _⟩ dX10_steps_80 rfl (fun H locs _ hS => ?_)
        obtain rfl := Option.some.inj h
        exact rt_i E hQ (.null) hS dX10_steps_83
      · have h := it_neg c7 h
        refine lv_aload_n hx hb dX10_steps_67 rfl (lv_at hl 1 rfl) ?_
        refine r_get E frX10_19 hS 0 rfl rfl dX10_steps_68 ?_
        refine lv_iload_n hx hb dX10_steps_71 rfl (lv_at hl 0 rfl) ?_
        refine lv_i2l (v := (y59.1.toInt64)) hx hb dX10_steps_72 rfl ?_
        obtain ⟨y73, e9, h⟩ := bd_some h
        refine ct_V (ws' := fun _ => [oX10 q0 u0_0 (.ref q1) (.ref q3) (.ref q9) u0_4 u0_5 (.ref q15) u0_7 u0_8 u0_9 u0_10 u0_11 u0_12, oX2 q1 (.ref q2) (.int y73.1), aJ cy q2 16 y73.2, oX0 q3 (.ref q4) (.ref q5) (.ref q6) (.ref q7) (.ref q8) (.int v_folk_number) (.int v_folk_day) (.int v_folk_unmet), aI cy q4 7 v_folk_skill, aI cy q5 7 v_folk_pills, aI cy q6 7 v_folk_slept, aI cy q7 7 v_folk_woken, aI cy q8 7 v_folk_wanted, oX0 q9 (.ref q10) (.ref q11) (.ref q12) (.ref q13) (.ref q14) (.int y21.1) (.int y21.2.1) (.int y21.2.2.1), aI cy q10 7 y21.2.2.2.1, aI cy q11 7 y21.2.2.2.2.1, aI cy q12 7 y21.2.2.2.2.2.1, aI cy q13 7 y21.2.2.2.2.2.2.1, aI cy q14 7 y59.2.1, oX5 q15 (.ref q16) (.ref q17) (.ref q18) (.int v_inForce_size), aI cy q16 40 v_inForce_code, aI cy q17 40 y59.2.2.1, aI cy q18 7 y59.2.2.2]) (st' := []) (rest := []) E hS vlX10_255 (c_X2_tellsOne (l := l) (D := D) (cy := cy) (q0 := q1) (q1 := q2) (v_size := v_told_size) (v_number := v_told_number) (p1 := (y59.1.toInt64)) (r := y73) e9) [1, 2] rfl rfl (fun _ => rfl) (fun _ => rfl) rfl rfl rfl rfl (Nat.le_of_ble_eq_true rfl) hl.1 (by rw [hRf]; exact Nat.le_of_ble_eq_true rfl) (by rw [hRl]; exact Nat.le_of_ble_eq_true rfl) ⟨Nat.zero_le _, Nat.zero_le _⟩ dX10_steps_73 rfl (fun H locs _ hS => ?_)
        refine lv_iconst (v := 1) hx hb dX10_steps_76 (by decide) ?_
        obtain rfl := Option.some.inj h
        exact rt_i E hQ (.null) hS dX10_steps_77
    · have h := it_neg c5 h
      refine lv_aload_n hx hb dX10_steps_47 rfl (lv_at hl 0 rfl) ?_
      refine r_get E frX10_19 hS 0 rfl rfl dX10_steps_48 ?_
      refine ct_V (ws' := fun _ => [oX10 q0 u0_0 (.ref q1) (.ref q3) (.ref q9) u0_4 u0_5 (.ref q15) u0_7 u0_8 u0_9 u0_10 u0_11 u0_12, oX2 q1 (.ref q2) (.int X2_clears), aJ cy q2 16 v_told_number, oX0 q3 (.ref q4) (.ref q5) (.ref q6) (.ref q7) (.ref q8) (.int v_folk_number) (.int v_folk_day) (.int v_folk_unmet), aI cy q4 7 v_folk_skill, aI cy q5 7 v_folk_pills, aI cy q6 7 v_folk_slept, aI cy q7 7 v_folk_woken, aI cy q8 7 v_folk_wanted, oX0 q9 (.ref q10) (.ref q11) (.ref q12) (.ref q13) (.ref q14) (.int y21.1) (.int y21.2.1) (.int y21.2.2.1), aI cy q10 7 y21.2.2.2.1, aI cy q11 7 y21.2.2.2.2.1, aI cy q12 7 y21.2.2.2.2.2.1, aI cy q13 7 y21.2.2.2.2.2.2.1, aI cy q14 7 y21.2.2.2.2.2.2.2, oX5 q15 (.ref q16) (.ref q17) (.ref q18) (.int v_inForce_size), aI cy q16 40 v_inForce_code, aI cy q17 40 y41.2.1, aI cy q18 7 y41.2.2]) (st' := []) (rest := []) E hS vlX10_285 (c_X2_clears (l := l) (D := D) (cy := cy) (q0 := q1) (u0_0 := .ref q2) (v_size := v_told_size) (r := X2_clears) rfl) [1] rfl rfl (fun _ => rfl) (fun _ => rfl) rfl rfl rfl rfl (Nat.le_of_ble_eq_true rfl) hl.1 (by rw [hRf]; exact Nat.le_of_ble_eq_true rfl) (by rw [hRl]; exact Nat.le_of_ble_eq_true rfl) ⟨Nat.zero_le _, Nat.zero_le _⟩ dX10_steps_51 rfl (fun H locs _ hS => ?_)
      refine lv_iconst (v := 0) hx hb dX10_steps_54 (by decide) ?_
      obtain rfl := Option.some.inj h
      exact rt_i E hQ (.null) hS dX10_steps_55
  · have h := it_pos c1 h
    refine lv_iconst (v := -1) hx hb dX10_steps_11 (by decide) ?_
    obtain rfl := Option.some.inj h
    exact rt_i E hQ (.null) hS dX10_steps_12
set_option maxHeartbeats 4000000 in
set_option maxRecDepth 100000 in
theorem c_X10_sleeps {l : Launch} {D : va_G} {cy : Nat → ClassId} (q0 : Nat) (q1 : Nat) (q2 : Nat) (q3 : Nat) (q4 : Nat) (q5 : Nat) (q6 : Nat) (q7 : Nat) (q8 : Nat) (q9 : Nat) (q10 : Nat) (q11 : Nat) (u0_0 : Value) (u0_3 : Value) (u0_4 : Value) (u0_5 : Value) (u0_7 : Value) (u0_8 : Value) (u0_9 : Value) (u0_10 : Value) (u0_11 : Value) (u0_12 : Value) (u3_3 : Value) (u3_7 : Value) (v_told_size : Int32) (v_told_number : Nat → Int64) (v_folk_number : Int32) (v_folk_day : Int32) (v_folk_skill : Nat → Int32) (v_folk_pills : Nat → Int32) (v_folk_slept : Nat → Int32) (v_folk_wanted : Nat → Int32) (v_inForce_size : Int32) (v_inForce_code : Nat → Int32) (v_inForce_stack : Nat → Int32) (v_inForce_thing : Nat → Int32) (p1 : Int32) (r : Int32 × Int32 × (Nat → Int64) × (Nat → Int32) × (Nat → Int32)) (h : X10_sleeps v_told_size v_told_number v_folk_number v_folk_day v_folk_skill v_folk_pills v_folk_slept v_folk_wanted v_inForce_size v_inForce_code v_inForce_stack v_inForce_thing p1 = some r) : Ct l yX10_sleeps cX10_sleeps 6 (some .int) 4 94 D cy [.ref q0, .int p1] [oX10 q0 u0_0 (.ref q1) (.ref q3) u0_3 u0_4 u0_5 (.ref q8) u0_7 u0_8 u0_9 u0_10 u0_11 u0_12, oX2 q1 (.ref q2) (.int v_told_size), aJ cy q2 16 v_told_number, oX0 q3 (.ref q4) (.ref q5) (.ref q6) u3_3 (.ref q7) (.int v_folk_number) (.int v_folk_day) u3_7, aI cy q4 7 v_folk_skill, aI cy q5 7 v_folk_pills, aI cy q6 7 v_folk_slept, aI cy q7 7 v_folk_wanted, oX5 q8 (.ref q9) (.ref q10) (.ref q11) (.int v_inForce_size), aI cy q9 40 v_inForce_code, aI cy q10 40 v_inForce_stack, aI cy q11 7 v_inForce_thing] (fun _ => [oX10 q0 u0_0 (.ref q1) (.ref q3) u0_3 u0_4 u0_5 (.ref q8) u0_7 u0_8 u0_9 u0_10 u0_11 u0_12, oX2 q1 (.ref q2) (.int r.2.1), aJ cy q2 16 r.2.2.1, oX0 q3 (.ref q4) (.ref q5) (.ref q6) u3_3 (.ref q7) (.int v_folk_number) (.int v_folk_day) u3_7, aI cy q4 7 v_folk_skill, aI cy q5 7 v_folk_pills, aI cy q6 7 v_folk_slept, aI cy q7 7 v_folk_wanted, oX5 q8 (.ref q9) (.ref q10) (.ref q11) (.int v_inForce_size), aI cy q9 40 v_inForce_code, aI cy q10 40 r.2.2.2.1, aI cy q11 7 r.2.2.2.2]) (some (.int r.1)) := by
  refine Ct.mk kX10_sleeps (by decide +kernel) (Nat.le_of_ble_eq_true rfl) ?_
  intro p e s m below meth c A ls args R Q hRf hRl hQ E H locs hS hl
  have hx := E.x
  have hb := E.b
  have hl : lv_has ls 6 [(0, .ref q0), (1, .int p1)] := hl
  unfold X10_sleeps at h
  refine lv_aload_n hx hb dX10_sleeps_0 rfl (lv_at hl 0 rfl) ?_
  refine r_get E frX10_26 hS 0 rfl rfl dX10_sleeps_1 ?_
  refine lv_iload_n hx hb dX10_sleeps_4 rfl (lv_at hl 1 rfl) ?_
  refine ct_V (ws' := fun _ => [oX10 q0 u0_0 (.ref q1) (.ref q3) u0_3 u0_4 u0_5 (.ref q8) u0_7 u0_8 u0_9 u0_10 u0_11 u0_12, oX2 q1 (.ref q2) (.int v_told_size), aJ cy q2 16 v_told_number, oX0 q3 (.ref q4) (.ref q5) (.ref q6) u3_3 (.ref q7) (.int v_folk_number) (.int v_folk_day) u3_7, aI cy q4 7 v_folk_skill, aI cy q5 7 v_folk_pills, aI cy q6 7 v_folk_slept, aI cy q7 7 v_folk_wanted, oX5 q8 (.ref q9) (.ref q10) (.ref q11) (.int v_inForce_size), aI cy q9 40 v_inForce_code, aI cy q10 40 v_inForce_stack, aI cy q11 7 v_inForce_thing]) (st' := [.int (X0_has v_folk_number p1)]) (rest := []) E hS vlX10_148 (c_X0_has (l := l) (D := D) (cy := cy) (q0 := q3) (u0_0 := .ref q4) (u0_1 := .ref q5) (u0_2 := .ref q6) (u0_3 := u3_3) (u0_4 := .ref q7) (u0_6 := .int v_folk_day) (u0_7 := u3_7) (v_number := v_folk_number) (p1 := p1) (r := (X0_has v_folk_number p1)) rfl) [3] rfl rfl (fun _ => rfl) (fun _ => rfl) rfl rfl rfl rfl (Nat.le_of_ble_eq_true rfl) hl.1 (by rw [hRf]; exact Nat.le_of_ble_eq_true rfl) (by rw [hRl]; exact Nat.le_of_ble_eq_true rfl) ⟨Nat.zero_le _, Nat.zero_le _⟩ dX10_sleeps_5 rfl (fun H locs _ hS => ?_)
  refine lv_if_ne (tgt := 13) hx hb dX10_sleeps_8 (by decide) (fun c1 => ?_) (fun c1 => ?_)
  · have h := it_neg c1 h
    refine lv_aload_n hx hb dX10_sleeps_13 rfl (lv_at hl 0 rfl) ?_
    refine r_get E frX10_26 hS 0 rfl rfl dX10_sleeps_14 ?_
    refine lv_iload_n hx hb dX10_sleeps_17 rfl (lv_at hl 1 rfl) ?_
    obtain ⟨y18, e2, h⟩ := bd_some h
    refine ct_V (ws' := fun _ => [oX10 q0 u0_0 (.ref q1) (.ref q3) u0_3 u0_4 u0_5 (.ref q8) u0_7 u0_8 u0_9 u0_10 u0_11 u0_12, oX2 q1 (.ref q2) (.int v_told_size), aJ cy q2 16 v_told_number, oX0 q3 (.ref q4) (.ref q5) (.ref q6) u3_3 (.ref q7) (.int v_folk_number) (.int v_folk_day) u3_7, aI cy q4 7 v_folk_skill, aI cy q5 7 v_folk_pills, aI cy q6 7 v_folk_slept, aI cy q7 7 v_folk_wanted, oX5 q8 (.ref q9) (.ref q10) (.ref q11) (.int v_inForce_size), aI cy q9 40 v_inForce_code, aI cy q10 40 v_inForce_stack, aI cy q11 7 v_inForce_thing]) (st' := [.int y18]) (rest := []) E hS vlX10_170 (c_X0_wanting (l := l) (D := D) (cy := cy) (q0 := q3) (q1 := q7) (u0_0 := .ref q4) (u0_1 := .ref q5) (u0_2 := .ref q6) (u0_3 := u3_3) (u0_6 := .int v_folk_day) (u0_7 := u3_7) (v_number := v_folk_number) (v_wanted := v_folk_wanted) (p1 := p1) (r := y18) e2) [3, 7] rfl rfl (fun _ => rfl) (fun _ => rfl) rfl rfl rfl rfl (Nat.le_of_ble_eq_true rfl) hl.1 (by rw [hRf]; exact Nat.le_of_ble_eq_true rfl) (by rw [hRl]; exact Nat.le_of_ble_eq_true rfl) ⟨Nat.zero_le _, Nat.zero_le _⟩ dX10_sleeps_18 rfl (fun H locs _ hS => ?_)
    refine lv_istore_n (lv' := [(2, .int y18), (0, .ref q0), (1, .int p1)]) hx hb dX10_sleeps_21 rfl hl (by decide) rfl (fun ls hl => ?_)
    refine lv_iload_n hx hb dX10_sleeps_22 rfl (lv_at hl 0 rfl) ?_
    refine lv_istore_n (lv' := [(3, .int y18), (2, .int y18), (0, .ref q0), (1, .int p1)]) hx hb dX10_sleeps_23 rfl hl (by decide) rfl (fun ls hl => ?_)
    refine lv_iconst (v := 0) hx hb dX10_sleeps_24 (by decide) ?_
    refine lv_istore (lv' := [(4, .int (0 : Int32)), (3, .int y18), (2, .int y18), (0, .ref q0), (1, .int p1)]) hx hb dX10_sleeps_25 hl (by decide) rfl (fun ls hl => ?_)
    have hL27 : ∀ (n : Nat) (x27_0 : Int32) (x27_1 : Int32) (x27_2 : Nat → Int32) (x27_3 : Nat → Int32) (y27 : Int32 × (Nat → Int32) × (Nat → Int32)) (H : Heap) (locs : List Loc) (ls : Array Slot), lp (fun x27 => X10_sleeps_s27 v_folk_number v_folk_day v_folk_skill v_folk_pills v_folk_slept v_folk_wanted v_inForce_size v_inForce_code p1 y18 x27.1 x27.2.1 x27.2.2.1 x27.2.2.2) n (x27_0, x27_1, x27_2, x27_3) = some y27 → Sv D A s.heap [oX10 q0 u0_0 (.ref q1) (.ref q3) u0_3 u0_4 u0_5 (.ref q8) u0_7 u0_8 u0_9 u0_10 u0_11 u0_12, oX2 q1 (.ref q2) (.int v_told_size), aJ cy q2 16 v_told_number, oX0 q3 (.ref q4) (.ref q5) (.ref q6) u3_3 (.ref q7) (.int v_folk_number) (.int v_folk_day) u3_7, aI cy q4 7 v_folk_skill, aI cy q5 7 v_folk_pills, aI cy q6 7 v_folk_slept, aI cy q7 7 v_folk_wanted, oX5 q8 (.ref q9) (.ref q10) (.ref q11) (.int v_inForce_size), aI cy q9 40 v_inForce_code, aI cy q10 40 x27_2, aI cy q11 7 x27_3] H locs → lv_has ls 6 [(0, .ref q0), (1, .int p1), (2, .int y18), (3, .int x27_0), (4, .int x27_1)] → ( ∀ (y27_0 : Int32) (y27_1 : Nat → Int32) (y27_2 : Nat → Int32), (y27_0, y27_1, y27_2) = y27 → ∀ (H : Heap) (locs : List Loc) (ls : Array Slot), Sv D A s.heap [oX10 q0 u0_0 (.ref q1) (.ref q3) u0_3 u0_4 u0_5 (.ref q8) u0_7 u0_8 u0_9 u0_10 u0_11 u0_12, oX2 q1 (.ref q2) (.int v_told_size), aJ cy q2 16 v_told_number, oX0 q3 (.ref q4) (.ref q5) (.ref q6) u3_3 (.ref q7) (.int v_folk_number) (.int v_folk_day) u3_7, aI cy q4 7 v_folk_skill, aI cy q5 7 v_folk_pills, aI cy q6 7 v_folk_slept, aI cy q7 7 v_folk_wanted, oX5 q8 (.ref q9) (.ref q10) (.ref q11) (.int v_inForce_size), aI cy q9 40 v_inForce_code, aI cy q10 40 y27_1, aI cy q11 7 y27_2] H locs → lv_has ls 6 [(0, .ref q0), (3, .int y27_0)] → W p l e R s m args below meth c H locs 0 0 Q (F0 m 98 ls [])) → W p l e R s m args below meth c H locs 0 0 Q (F0 m 27 ls []) := by
      intro n
      induction n with
      | zero =>
        intro x27_0 x27_1 x27_2 x27_3 y27 H locs ls h
        exact lp_zero h
      | succ n ih27 =>
        intro x27_0 x27_1 x27_2 x27_3 y27 H locs ls h hS hl hk27_0
        obtain ⟨z27, h, hz27a, hz27b⟩ := lp_succ h
        have h : X10_sleeps_s27 v_folk_number v_folk_day v_folk_skill v_folk_pills v_folk_slept v_folk_wanted v_inForce_size v_inForce_code p1 y18 x27_0 x27_1 x27_2 x27_3 = some z27 := h
        unfold X10_sleeps_s27 at h
        refine lv_iload hx hb dX10_sleeps_27 (lv_at hl 4 rfl) ?_
        refine lv_sipush (v := 128) hx hb dX10_sleeps_29 (by decide) ?_
        refine lv_icmp_ge (tgt := 98) hx hb dX10_sleeps_32 (by decide) (fun c3 => ?_) (fun c3 => ?_)
        · have h := it_pos c3 h
          exact hk27_0 x27_0 x27_2 x27_3 (hz27b _ (Option.some.inj h).symm)  H locs ls hS (lv_sub hl [0, 3] rfl)
        · have h := it_neg c3 h
          refine lv_iload hx hb dX10_sleeps_35 (lv_at hl 4 rfl) ?_
          refine lv_iload_n hx hb dX10_sleeps_37 rfl (lv_at hl 2 rfl) ?_
          refine lv_iconst (v := -1) hx hb dX10_sleeps_38 (by decide) ?_
          refine lv_ixor hx hb dX10_sleeps_39 ?_
          refine lv_iand hx hb dX10_sleeps_40 ?_
          have hJ61 : ∀ (j61_t0 : Int32) (H : Heap) (locs : List Loc) (ls : Array Slot), X10_sleeps_k61 v_folk_number v_folk_day v_folk_skill v_folk_pills v_folk_slept v_folk_wanted v_inForce_size v_inForce_code p1 y18 x27_0 x27_1 x27_2 x27_3 j61_t0 = some z27 → Sv D A s.heap [oX10 q0 u0_0 (.ref q1) (.ref q3) u0_3 u0_4 u0_5 (.ref q8) u0_7 u0_8 u0_9 u0_10 u0_11 u0_12, oX2 q1 (.ref q2) (.int v_told_size), aJ cy q2 16 v_told_number, oX0 q3 (.ref q4) (.ref q5) (.ref q6) u3_3 (.ref q7) (.int v_folk_number) (.int v_folk_day) u3_7, aI cy q4 7 v_folk_skill, aI cy q5 7 v_folk_pills, aI cy q6 7 v_folk_slept, aI cy q7 7 v_folk_wanted, oX5 q8 (.ref q9) (.ref q10) (.ref q11) (.int v_inForce_size), aI cy q9 40 v_inForce_code, aI cy q10 40 x27_2, aI cy q11 7 x27_3] H locs → lv_has ls 6 [(0, .ref q0), (1, .int p1), (2, .int y18), (3, .int x27_0), (4, .int x27_1)] → W p l e R s m args below meth c H locs 0 0 Q (F0 m 61 ls [.int j61_t0]) := by
            intro j61_t0 H locs ls h hS hl
            unfold X10_sleeps_k61 at h
            refine lv_istore (lv' := [(5, .int j61_t0), (0, .ref q0), (1, .int p1), (2, .int y18), (3, .int x27_0), (4, .int x27_1)]) hx hb dX10_sleeps_61 hl (by decide) rfl (fun ls hl => ?_)
            refine lv_iload hx hb dX10_sleeps_63 (lv_at hl 0 rfl) ?_
            refine lv_if_eq (tgt := 92) hx hb dX10_sleeps_65 (by decide) (fun c4 => ?_) (fun c4 => ?_)
            · have h := it_pos c4 h
              refine lv_iinc (v := (x27_1 + (1 : Int32))) (lv' := [(4, .int (x27_1 + (1 : Int32))), (5, .int j61_t0), (0, .ref q0), (1, .int p1), (2, .int y18), (3, .int x27_0)]) hx hb dX10_sleeps_92 hl (k := 5) rfl rfl (by decide) rfl (fun ls hl => ?_)
              refine lv_goto (tgt := 27) hx hb dX10_sleeps_95 (by decide) ?_
              exact ih27 x27_0 (x27_1 + (1 : Int32)) x27_2 x27_3 y27  H locs ls (hz27a _ (Option.some.inj h).symm) hS (lv_sub hl [2, 3, 4, 5, 0] rfl) hk27_0
            · have h := it_neg c4 h
              refine lv_aload_n hx hb dX10_sleeps_68 rfl (lv_at hl 1 rfl) ?_
              refine r_get E frX10_50 hS 0 rfl rfl dX10_sleeps_69 ?_
              refine lv_aload_n hx hb dX10_sleeps_72 rfl (lv_at hl 1 rfl) ?_
              refine r_get E frX10_26 hS 0 rfl rfl dX10_sleeps_73 ?_
              refine lv_iload_n hx hb dX10_sleeps_76 rfl (lv_at hl 2 rfl) ?_
              refine lv_iload_n hx hb dX10_sleeps_77 rfl (lv_at hl 3 rfl) ?_
              refine lv_iload hx hb dX10_sleeps_78 (lv_at hl 5 rfl) ?_
              refine lv_iconst (v := -1) hx hb dX10_sleeps_80 (by decide) ?_
              refine lv_ixor hx hb dX10_sleeps_81 ?_
              refine lv_iand hx hb dX10_sleeps_82 ?_
              obtain ⟨y83, e5, h⟩ := bd_some h
              refine ct_V (ws' := fun _ => [oX10 q0 u0_0 (.ref q1) (.ref q3) u0_3 u0_4 u0_5 (.ref q8) u0_7 u0_8 u0_9 u0_10 u0_11 u0_12, oX2 q1 (.ref q2) (.int v_told_size), aJ cy q2 16 v_told_number, oX0 q3 (.ref q4) (.ref q5) (.ref q6) u3_3 (.ref q7) (.int v_folk_number) (.int v_folk_day) u3_7, aI cy q4 7 v_folk_skill, aI cy q5 7 v_folk_pills, aI cy q6 7 v_folk_slept, aI cy q7 7 v_folk_wanted, oX5 q8 (.ref q9) (.ref q10) (.ref q11) (.int v_inForce_size), aI cy q9 40 v_inForce_code, aI cy q10 40 y83.2.1, aI cy q11 7 y83.2.2]) (st' := [.int y83.1]) (rest := []) E hS vlX10_281 (c_X5_rouses (l := l) (D := D) (cy := cy) (q0 := q8) (q1 := q9) (q2 := q10) (q3 := q11) (q4 := q3) (q5 := q4) (q6 := q5) (q7 := q6) (q8 := q7) (u4_3 := u3_3) (u4_7 := u3_7) (v_size := v_inForce_size) (v_code := v_inForce_code) (v_stack := x27_2) (v_thing := x27_3) (w1_number := v_folk_number) (w1_day := v_folk_day) (w1_skill := v_folk_skill) (w1_pills := v_folk_pills) (w1_slept := v_folk_slept) (w1_wanted := v_folk_wanted) (p2 := p1) (p3 := (y18 &&& (x27_1 ^^^ (-1 : Int32)))) (r := y83) e5) [8, 9, 10, 11, 3, 4, 5, 6, 7] rfl rfl (fun _ => rfl) (fun _ => rfl) rfl rfl rfl rfl (Nat.le_of_ble_eq_true rfl) hl.1 (by rw [hRf]; exact Nat.le_of_ble_eq_true rfl) (by rw [hRl]; exact Nat.le_of_ble_eq_true rfl) ⟨Nat.zero_le _, Nat.zero_le _⟩ dX10_sleeps_83 rfl (fun H locs _ hS => ?_)
              refine lv_if_ne (tgt := 92) hx hb dX10_sleeps_86 (by decide) (fun c6 => ?_) (fun c6 => ?_)
              · have h := it_neg c6 h
                refine lv_iinc (v := (x27_1 + (1 : Int32))) (lv' := [(4, .int (x27_1 + (1 : Int32))), (5, .int j61_t0), (0, .ref q0), (1, .int p1), (2, .int y18), (3, .int x27_0)]) hx hb dX10_sleeps_92 hl (k := 5) rfl rfl (by decide) rfl (fun ls hl => ?_)
                refine lv_goto (tgt := 27) hx hb dX10_sleeps_95 (by decide) ?_
                exact ih27 x27_0 (x27_1 + (1 : Int32)) y83.2.1 y83.2.2 y27  H locs ls (hz27a _ (Option.some.inj h).symm) hS (lv_sub hl [2, 3, 4, 5, 0] rfl) hk27_0
              · have h := it_pos c6 h
                refine lv_iload hx hb dX10_sleeps_89 (lv_at hl 5 rfl) ?_
                refine lv_istore_n (lv' := [(3, .int x27_1), (5, .int j61_t0), (0, .ref q0), (1, .int p1), (2, .int y18), (4, .int x27_1)]) hx hb dX10_sleeps_91 rfl hl (by decide) rfl (fun ls hl => ?_)
                refine lv_iinc (v := (x27_1 + (1 : Int32))) (lv' := [(4, .int (x27_1 + (1 : Int32))), (3, .int x27_1), (5, .int j61_t0), (0, .ref q0), (1, .int p1), (2, .int y18)]) hx hb dX10_sleeps_92 hl (k := 5) rfl rfl (by decide) rfl (fun ls hl => ?_)
                refine lv_goto (tgt := 27) hx hb dX10_sleeps_95 (by decide) ?_
                exact ih27 x27_1 (x27_1 + (1 : Int32)) y83.2.1 y83.2.2 y27  H locs ls (hz27a _ (Option.some.inj h).symm) hS (lv_sub hl [3, 4, 5, 1, 0] rfl) hk27_0
          refine lv_if_ne (tgt := 60) hx hb dX10_sleeps_41 (by decide) (fun c7 => ?_) (fun c7 => ?_)
          · have h := it_neg c7 h
            refine lv_iconst (v := 0) hx hb dX10_sleeps_60 (by decide) ?_
            exact hJ61 (0 : Int32)  H locs ls h hS (lv_sub hl [0, 1, 2, 3, 4] rfl)
          · have h := it_pos c7 h
            refine lv_iload hx hb dX10_sleeps_44 (lv_at hl 4 rfl) ?_
            refine ct_S (ws' := fun _ => [oX10 q0 u0_0 (.ref q1) (.ref q3) u0_3 u0_4 u0_5 (.ref q8) u0_7 u0_8 u0_9 u0_10 u0_11 u0_12, oX2 q1 (.ref q2) (.int v_told_size), aJ cy q2 16 v_told_number, oX0 q3 (.ref q4) (.ref q5) (.ref q6) u3_3 (.ref q7) (.int v_folk_number) (.int v_folk_day) u3_7, aI cy q4 7 v_folk_skill, aI cy q5 7 v_folk_pills, aI cy q6 7 v_folk_slept, aI cy q7 7 v_folk_wanted, oX5 q8 (.ref q9) (.ref q10) (.ref q11) (.int v_inForce_size), aI cy q9 40 v_inForce_code, aI cy q10 40 x27_2, aI cy q11 7 x27_3]) (st' := [.int (J6_bitCount_0f7a4 x27_1)]) (rest := []) E hS slX10_241 (c_J6_bitCount_0f7a4 (l := l) (D := D) (cy := cy) (p0 := x27_1) (r := (J6_bitCount_0f7a4 x27_1)) rfl) [] rfl rfl (fun _ => rfl) (fun _ => rfl) rfl rfl (Nat.le_of_ble_eq_true rfl) hl.1 (by rw [hRf]; exact Nat.le_of_ble_eq_true rfl) (by rw [hRl]; exact Nat.le_of_ble_eq_true rfl) ⟨Nat.zero_le _, Nat.zero_le _⟩ dX10_sleeps_46 rfl (fun H locs _ hS => ?_)
            refine lv_iload_n hx hb dX10_sleeps_49 rfl (lv_at hl 3 rfl) ?_
            refine ct_S (ws' := fun _ => [oX10 q0 u0_0 (.ref q1) (.ref q3) u0_3 u0_4 u0_5 (.ref q8) u0_7 u0_8 u0_9 u0_10 u0_11 u0_12, oX2 q1 (.ref q2) (.int v_told_size), aJ cy q2 16 v_told_number, oX0 q3 (.ref q4) (.ref q5) (.ref q6) u3_3 (.ref q7) (.int v_folk_number) (.int v_folk_day) u3_7, aI cy q4 7 v_folk_skill, aI cy q5 7 v_folk_pills, aI cy q6 7 v_folk_slept, aI cy q7 7 v_folk_wanted, oX5 q8 (.ref q9) (.ref q10) (.ref q11) (.int v_inForce_size), aI cy q9 40 v_inForce_code, aI cy q10 40 x27_2, aI cy q11 7 x27_3]) (st' := [.int (J6_bitCount_0f7a4 x27_0), .int (J6_bitCount_0f7a4 x27_1)]) (rest := [.int (J6_bitCount_0f7a4 x27_1)]) E hS slX10_241 (c_J6_bitCount_0f7a4 (l := l) (D := D) (cy := cy) (p0 := x27_0) (r := (J6_bitCount_0f7a4 x27_0)) rfl) [] rfl rfl (fun _ => rfl) (fun _ => rfl) rfl rfl (Nat.le_of_ble_eq_true rfl) hl.1 (by rw [hRf]; exact Nat.le_of_ble_eq_true rfl) (by rw [hRl]; exact Nat.le_of_ble_eq_true rfl) ⟨Nat.zero_le _, Nat.zero_le _⟩ dX10_sleeps_50 rfl (fun H locs _ hS => ?_)
            refine lv_icmp_ge (tgt := 60) hx hb dX10_sleeps_53 (by decide) (fun c8 => ?_) (fun c8 => ?_)
            · have h := it_pos c8 h
              refine lv_iconst (v := 0) hx hb dX10_sleeps_60 (by decide) ?_
              exact hJ61 (0 : Int32)  H locs ls h hS (lv_sub hl [0, 1, 2, 3, 4] rfl)
            · have h := it_neg c8 h
              refine lv_iconst (v := 1) hx hb dX10_sleeps_56 (by decide) ?_
              refine lv_goto (tgt := 61) hx hb dX10_sleeps_57 (by decide) ?_
              exact hJ61 (1 : Int32)  H locs ls h hS (lv_sub hl [0, 1, 2, 3, 4] rfl)
    obtain ⟨y27, e27, h⟩ := bd_some h
    refine hL27 1000 y18 (0 : Int32) v_inForce_stack v_inForce_thing y27  H locs ls e27 hS (lv_sub hl [3, 4, 2, 1, 0] rfl) (fun y27_0 y27_1 y27_2 ey27 H locs ls hS hl => ?_)
    subst ey27
    have h := un_r h
    have h := un_r h
    refine lv_aload_n hx hb dX10_sleeps_98 rfl (lv_at hl 0 rfl) ?_
    refine r_get E frX10_19 hS 0 rfl rfl dX10_sleeps_99 ?_
    refine lv_iload_n hx hb dX10_sleeps_102 rfl (lv_at hl 1 rfl) ?_
    refine lv_i2l (v := (y27_0.toInt64)) hx hb dX10_sleeps_103 rfl ?_
    obtain ⟨y104, e9, h⟩ := bd_some h
    refine ct_V (ws' := fun _ => [oX10 q0 u0_0 (.ref q1) (.ref q3) u0_3 u0_4 u0_5 (.ref q8) u0_7 u0_8 u0_9 u0_10 u0_11 u0_12, oX2 q1 (.ref q2) (.int y104.1), aJ cy q2 16 y104.2, oX0 q3 (.ref q4) (.ref q5) (.ref q6) u3_3 (.ref q7) (.int v_folk_number) (.int v_folk_day) u3_7, aI cy q4 7 v_folk_skill, aI cy q5 7 v_folk_pills, aI cy q6 7 v_folk_slept, aI cy q7 7 v_folk_wanted, oX5 q8 (.ref q9) (.ref q10) (.ref q11) (.int v_inForce_size), aI cy q9 40 v_inForce_code, aI cy q10 40 y27_1, aI cy q11 7 y27_2]) (st' := []) (rest := []) E hS vlX10_255 (c_X2_tellsOne (l := l) (D := D) (cy := cy) (q0 := q1) (q1 := q2) (v_size := v_told_size) (v_number := v_told_number) (p1 := (y27_0.toInt64)) (r := y104) e9) [1, 2] rfl rfl (fun _ => rfl) (fun _ => rfl) rfl rfl rfl rfl (Nat.le_of_ble_eq_true rfl) hl.1 (by rw [hRf]; exact Nat.le_of_ble_eq_true rfl) (by rw [hRl]; exact Nat.le_of_ble_eq_true rfl) ⟨Nat.zero_le _, Nat.zero_le _⟩ dX10_sleeps_104 rfl (fun H locs _ hS => ?_)
    refine lv_iload_n hx hb dX10_sleeps_107 rfl (lv_at hl 1 rfl) ?_
    refine ct_S (ws' := fun _ => [oX10 q0 u0_0 (.ref q1) (.ref q3) u0_3 u0_4 u0_5 (.ref q8) u0_7 u0_8 u0_9 u0_10 u0_11 u0_12, oX2 q1 (.ref q2) (.int y104.1), aJ cy q2 16 y104.2, oX0 q3 (.ref q4) (.ref q5) (.ref q6) u3_3 (.ref q7) (.int v_folk_number) (.int v_folk_day) u3_7, aI cy q4 7 v_folk_skill, aI cy q5 7 v_folk_pills, aI cy q6 7 v_folk_slept, aI cy q7 7 v_folk_wanted, oX5 q8 (.ref q9) (.ref q10) (.ref q11) (.int v_inForce_size), aI cy q9 40 v_inForce_code, aI cy q10 40 y27_1, aI cy q11 7 y27_2]) (st' := [.int (J6_bitCount_0f7a4 y27_0)]) (rest := []) E hS slX10_241 (c_J6_bitCount_0f7a4 (l := l) (D := D) (cy := cy) (p0 := y27_0) (r := (J6_bitCount_0f7a4 y27_0)) rfl) [] rfl rfl (fun _ => rfl) (fun _ => rfl) rfl rfl (Nat.le_of_ble_eq_true rfl) hl.1 (by rw [hRf]; exact Nat.le_of_ble_eq_true rfl) (by rw [hRl]; exact Nat.le_of_ble_eq_true rfl) ⟨Nat.zero_le _, Nat.zero_le _⟩ dX10_sleeps_108 rfl (fun H locs _ hS => ?_)
    obtain rfl := Option.some.inj h
    exact rt_i E hQ (.null) hS dX10_sleeps_111
  · have h := it_pos c1 h
    refine lv_iconst (v := -1) hx hb dX10_sleeps_11 (by decide) ?_
    obtain rfl := Option.some.inj h
    exact rt_i E hQ (.null) hS dX10_sleeps_12
set_option maxHeartbeats 4000000 in
set_option maxRecDepth 100000 in
theorem c_X10_worth {l : Launch} {D : va_G} {cy : Nat → ClassId} (q0 : Nat) (q1 : Nat) (q2 : Nat) (q3 : Nat) (q4 : Nat) (q5 : Nat) (q6 : Nat) (q7 : Nat) (q8 : Nat) (q9 : Nat) (q10 : Nat) (q11 : Nat) (q12 : Nat) (q13 : Nat) (q14 : Nat) (q15 : Nat) (q16 : Nat) (q17 : Nat) (q18 : Nat) (u0_0 : Value) (u0_4 : Value) (u0_5 : Value) (u0_7 : Value) (u0_8 : Value) (u0_9 : Value) (u0_10 : Value) (u0_11 : Value) (u0_12 : Value) (v_told_size : Int32) (v_told_number : Nat → Int64) (v_folk_number : Int32) (v_folk_day : Int32) (v_folk_unmet : Int32) (v_folk_skill : Nat → Int32) (v_folk_pills : Nat → Int32) (v_folk_slept : Nat → Int32) (v_folk_woken : Nat → Int32) (v_folk_wanted : Nat → Int32) (v_trial_number : Int32) (v_trial_day : Int32) (v_trial_unmet : Int32) (v_trial_skill : Nat → Int32) (v_trial_pills : Nat → Int32) (v_trial_slept : Nat → Int32) (v_trial_woken : Nat → Int32) (v_trial_wanted : Nat → Int32) (v_inForce_size : Int32) (v_inForce_code : Nat → Int32) (v_inForce_stack : Nat → Int32) (v_inForce_thing : Nat → Int32) (p1 : Int32) (r : Int32 × Int32 × (Nat → Int64) × Int32 × Int32 × Int32 × (Nat → Int32) × (Nat → Int32) × (Nat → Int32) × (Nat → Int32) × (Nat → Int32) × (Nat → Int32) × (Nat → Int32)) (h : X10_worth v_told_size v_told_number v_folk_number v_folk_day v_folk_unmet v_folk_skill v_folk_pills v_folk_slept v_folk_woken v_folk_wanted v_trial_number v_trial_day v_trial_unmet v_trial_skill v_trial_pills v_trial_slept v_trial_woken v_trial_wanted v_inForce_size v_inForce_code v_inForce_stack v_inForce_thing p1 = some r) : Ct l yX10_worth cX10_worth 5 (some .int) 4 94 D cy [.ref q0, .int p1] [oX10 q0 u0_0 (.ref q1) (.ref q3) (.ref q9) u0_4 u0_5 (.ref q15) u0_7 u0_8 u0_9 u0_10 u0_11 u0_12, oX2 q1 (.ref q2) (.int v_told_size), aJ cy q2 16 v_told_number, oX0 q3 (.ref q4) (.ref q5) (.ref q6) (.ref q7) (.ref q8) (.int v_folk_number) (.int v_folk_day) (.int v_folk_unmet), aI cy q4 7 v_folk_skill, aI cy q5 7 v_folk_pills, aI cy q6 7 v_folk_slept, aI cy q7 7 v_folk_woken, aI cy q8 7 v_folk_wanted, oX0 q9 (.ref q10) (.ref q11) (.ref q12) (.ref q13) (.ref q14) (.int v_trial_number) (.int v_trial_day) (.int v_trial_unmet), aI cy q10 7 v_trial_skill, aI cy q11 7 v_trial_pills, aI cy q12 7 v_trial_slept, aI cy q13 7 v_trial_woken, aI cy q14 7 v_trial_wanted, oX5 q15 (.ref q16) (.ref q17) (.ref q18) (.int v_inForce_size), aI cy q16 40 v_inForce_code, aI cy q17 40 v_inForce_stack, aI cy q18 7 v_inForce_thing] (fun _ => [oX10 q0 u0_0 (.ref q1) (.ref q3) (.ref q9) u0_4 u0_5 (.ref q15) u0_7 u0_8 u0_9 u0_10 u0_11 u0_12, oX2 q1 (.ref q2) (.int r.2.1), aJ cy q2 16 r.2.2.1, oX0 q3 (.ref q4) (.ref q5) (.ref q6) (.ref q7) (.ref q8) (.int v_folk_number) (.int v_folk_day) (.int v_folk_unmet), aI cy q4 7 v_folk_skill, aI cy q5 7 v_folk_pills, aI cy q6 7 v_folk_slept, aI cy q7 7 v_folk_woken, aI cy q8 7 v_folk_wanted, oX0 q9 (.ref q10) (.ref q11) (.ref q12) (.ref q13) (.ref q14) (.int r.2.2.2.1) (.int r.2.2.2.2.1) (.int r.2.2.2.2.2.1), aI cy q10 7 r.2.2.2.2.2.2.1, aI cy q11 7 r.2.2.2.2.2.2.2.1, aI cy q12 7 r.2.2.2.2.2.2.2.2.1, aI cy q13 7 r.2.2.2.2.2.2.2.2.2.1, aI cy q14 7 r.2.2.2.2.2.2.2.2.2.2.1, oX5 q15 (.ref q16) (.ref q17) (.ref q18) (.int v_inForce_size), aI cy q16 40 v_inForce_code, aI cy q17 40 r.2.2.2.2.2.2.2.2.2.2.2.1, aI cy q18 7 r.2.2.2.2.2.2.2.2.2.2.2.2]) (some (.int r.1)) := by
  refine Ct.mk kX10_worth (by decide +kernel) (Nat.le_of_ble_eq_true rfl) ?_
  intro p e s m below meth c A ls args R Q hRf hRl hQ E H locs hS hl
  have hx := E.x
  have hb := E.b
  have hl : lv_has ls 5 [(0, .ref q0), (1, .int p1)] := hl
  unfold X10_worth at h
  refine lv_aload_n hx hb dX10_worth_0 rfl (lv_at hl 0 rfl) ?_
  refine r_get E frX10_26 hS 0 rfl rfl dX10_worth_1 ?_
  refine lv_iload_n hx hb dX10_worth_4 rfl (lv_at hl 1 rfl) ?_
  refine ct_V (ws' := fun _ => [oX10 q0 u0_0 (.ref q1) (.ref q3) (.ref q9) u0_4 u0_5 (.ref q15) u0_7 u0_8 u0_9 u0_10 u0_11 u0_12, oX2 q1 (.ref q2) (.int v_told_size), aJ cy q2 16 v_told_number, oX0 q3 (.ref q4) (.ref q5) (.ref q6) (.ref q7) (.ref q8) (.int v_folk_number) (.int v_folk_day) (.int v_folk_unmet), aI cy q4 7 v_folk_skill, aI cy q5 7 v_folk_pills, aI cy q6 7 v_folk_slept, aI cy q7 7 v_folk_woken, aI cy q8 7 v_folk_wanted, oX0 q9 (.ref q10) (.ref q11) (.ref q12) (.ref q13) (.ref q14) (.int v_trial_number) (.int v_trial_day) (.int v_trial_unmet), aI cy q10 7 v_trial_skill, aI cy q11 7 v_trial_pills, aI cy q12 7 v_trial_slept, aI cy q13 7 v_trial_woken, aI cy q14 7 v_trial_wanted, oX5 q15 (.ref q16) (.ref q17) (.ref q18) (.int v_inForce_size), aI cy q16 40 v_inForce_code, aI cy q17 40 v_inForce_stack, aI cy q18 7 v_inForce_thing]) (st' := [.int (X0_has v_folk_number p1)]) (rest := []) E hS vlX10_148 (c_X0_has (l := l) (D := D) (cy := cy) (q0 := q3) (u0_0 := .ref q4) (u0_1 := .ref q5) (u0_2 := .ref q6) (u0_3 := .ref q7) (u0_4 := .ref q8) (u0_6 := .int v_folk_day) (u0_7 := .int v_folk_unmet) (v_number := v_folk_number) (p1 := p1) (r := (X0_has v_folk_number p1)) rfl) [3] rfl rfl (fun _ => rfl) (fun _ => rfl) rfl rfl rfl rfl (Nat.le_of_ble_eq_true rfl) hl.1 (by rw [hRf]; exact Nat.le_of_ble_eq_true rfl) (by rw [hRl]; exact Nat.le_of_ble_eq_true rfl) ⟨Nat.zero_le _, Nat.zero_le _⟩ dX10_worth_5 rfl (fun H locs _ hS => ?_)
  refine lv_if_ne (tgt := 13) hx hb dX10_worth_8 (by decide) (fun c1 => ?_) (fun c1 => ?_)
  · have h := it_neg c1 h
    refine lv_aload_n hx hb dX10_worth_13 rfl (lv_at hl 0 rfl) ?_
    refine r_get E frX10_30 hS 0 rfl rfl dX10_worth_14 ?_
    refine lv_aload_n hx hb dX10_worth_17 rfl (lv_at hl 0 rfl) ?_
    refine r_get E frX10_26 hS 0 rfl rfl dX10_worth_18 ?_
    obtain ⟨y21, e2, h⟩ := bd_some h
    refine ct_V (ws' := fun _ => [oX10 q0 u0_0 (.ref q1) (.ref q3) (.ref q9) u0_4 u0_5 (.ref q15) u0_7 u0_8 u0_9 u0_10 u0_11 u0_12, oX2 q1 (.ref q2) (.int v_told_size), aJ cy q2 16 v_told_number, oX0 q3 (.ref q4) (.ref q5) (.ref q6) (.ref q7) (.ref q8) (.int v_folk_number) (.int v_folk_day) (.int v_folk_unmet), aI cy q4 7 v_folk_skill, aI cy q5 7 v_folk_pills, aI cy q6 7 v_folk_slept, aI cy q7 7 v_folk_woken, aI cy q8 7 v_folk_wanted, oX0 q9 (.ref q10) (.ref q11) (.ref q12) (.ref q13) (.ref q14) (.int y21.1) (.int y21.2.1) (.int y21.2.2.1), aI cy q10 7 y21.2.2.2.1, aI cy q11 7 y21.2.2.2.2.1, aI cy q12 7 y21.2.2.2.2.2.1, aI cy q13 7 y21.2.2.2.2.2.2.1, aI cy q14 7 y21.2.2.2.2.2.2.2, oX5 q15 (.ref q16) (.ref q17) (.ref q18) (.int v_inForce_size), aI cy q16 40 v_inForce_code, aI cy q17 40 v_inForce_stack, aI cy q18 7 v_inForce_thing]) (st' := []) (rest := []) E hS vlX10_249 (c_X0_becomes (l := l) (D := D) (cy := cy) (q0 := q9) (q1 := q10) (q2 := q11) (q3 := q12) (q4 := q13) (q5 := q14) (q6 := q3) (q7 := q4) (q8 := q5) (q9 := q6) (q10 := q7) (q11 := q8) (v_number := v_trial_number) (v_day := v_trial_day) (v_unmet := v_trial_unmet) (v_skill := v_trial_skill) (v_pills := v_trial_pills) (v_slept := v_trial_slept) (v_woken := v_trial_woken) (v_wanted := v_trial_wanted) (w1_number := v_folk_number) (w1_day := v_folk_day) (w1_unmet := v_folk_unmet) (w1_skill := v_folk_skill) (w1_pills := v_folk_pills) (w1_slept := v_folk_slept) (w1_woken := v_folk_woken) (w1_wanted := v_folk_wanted) (r := y21) e2) [9, 10, 11, 12, 13, 14, 3, 4, 5, 6, 7, 8] rfl rfl (fun _ => rfl) (fun _ => rfl) rfl rfl rfl rfl (Nat.le_of_ble_eq_true rfl) hl.1 (by rw [hRf]; exact Nat.le_of_ble_eq_true rfl) (by rw [hRl]; exact Nat.le_of_ble_eq_true rfl) ⟨Nat.zero_le _, Nat.zero_le _⟩ dX10_worth_21 rfl (fun H locs _ hS => ?_)
    refine lv_bipush (v := -2) hx hb dX10_worth_24 (by decide) ?_
    refine lv_istore_n (lv' := [(2, .int (-2 : Int32)), (0, .ref q0), (1, .int p1)]) hx hb dX10_worth_26 rfl hl (by decide) rfl (fun ls hl => ?_)
    refine lv_iconst (v := 0) hx hb dX10_worth_27 (by decide) ?_
    refine lv_istore_n (lv' := [(3, .int (0 : Int32)), (2, .int (-2 : Int32)), (0, .ref q0), (1, .int p1)]) hx hb dX10_worth_28 rfl hl (by decide) rfl (fun ls hl => ?_)
    refine lv_iconst (v := 0) hx hb dX10_worth_29 (by decide) ?_
    refine lv_istore (lv' := [(4, .int (0 : Int32)), (3, .int (0 : Int32)), (2, .int (-2 : Int32)), (0, .ref q0), (1, .int p1)]) hx hb dX10_worth_30 hl (by decide) rfl (fun ls hl => ?_)
    have hL32 : ∀ (n : Nat) (x32_0 : Int32) (x32_1 : Int32) (x32_2 : Int32) (x32_3 : Nat → Int32) (x32_4 : Nat → Int32) (x32_5 : Nat → Int32) (y32 : Int32 × Int32 × (Nat → Int32) × (Nat → Int32) × (Nat → Int32)) (H : Heap) (locs : List Loc) (ls : Array Slot), lp (fun x32 => X10_worth_s32 v_inForce_size v_inForce_code p1 y21 x32.1 x32.2.1 x32.2.2.1 x32.2.2.2.1 x32.2.2.2.2.1 x32.2.2.2.2.2) n (x32_0, x32_1, x32_2, x32_3, x32_4, x32_5) = some y32 → Sv D A s.heap [oX10 q0 u0_0 (.ref q1) (.ref q3) (.ref q9) u0_4 u0_5 (.ref q15) u0_7 u0_8 u0_9 u0_10 u0_11 u0_12, oX2 q1 (.ref q2) (.int v_told_size), aJ cy q2 16 v_told_number, oX0 q3 (.ref q4) (.ref q5) (.ref q6) (.ref q7) (.ref q8) (.int v_folk_number) (.int v_folk_day) (.int v_folk_unmet), aI cy q4 7 v_folk_skill, aI cy q5 7 v_folk_pills, aI cy q6 7 v_folk_slept, aI cy q7 7 v_folk_woken, aI cy q8 7 v_folk_wanted, oX0 q9 (.ref q10) (.ref q11) (.ref q12) (.ref q13) (.ref q14) (.int y21.1) (.int y21.2.1) (.int y21.2.2.1), aI cy q10 7 x32_3, aI cy q11 7 y21.2.2.2.2.1, aI cy q12 7 y21.2.2.2.2.2.1, aI cy q13 7 y21.2.2.2.2.2.2.1, aI cy q14 7 y21.2.2.2.2.2.2.2, oX5 q15 (.ref q16) (.ref q17) (.ref q18) (.int v_inForce_size), aI cy q16 40 v_inForce_code, aI cy q17 40 x32_4, aI cy q18 7 x32_5] H locs → lv_has ls 5 [(0, .ref q0), (1, .int p1), (2, .int x32_0), (3, .int x32_1), (4, .int x32_2)] → ( ∀ (y32_0 : Int32) (y32_1 : Int32) (y32_2 : Nat → Int32) (y32_3 : Nat → Int32) (y32_4 : Nat → Int32), (y32_0, y32_1, y32_2, y32_3, y32_4) = y32 → ∀ (H : Heap) (locs : List Loc) (ls : Array Slot), Sv D A s.heap [oX10 q0 u0_0 (.ref q1) (.ref q3) (.ref q9) u0_4 u0_5 (.ref q15) u0_7 u0_8 u0_9 u0_10 u0_11 u0_12, oX2 q1 (.ref q2) (.int v_told_size), aJ cy q2 16 v_told_number, oX0 q3 (.ref q4) (.ref q5) (.ref q6) (.ref q7) (.ref q8) (.int v_folk_number) (.int v_folk_day) (.int v_folk_unmet), aI cy q4 7 v_folk_skill, aI cy q5 7 v_folk_pills, aI cy q6 7 v_folk_slept, aI cy q7 7 v_folk_woken, aI cy q8 7 v_folk_wanted, oX0 q9 (.ref q10) (.ref q11) (.ref q12) (.ref q13) (.ref q14) (.int y21.1) (.int y21.2.1) (.int y21.2.2.1), aI cy q10 7 y32_2, aI cy q11 7 y21.2.2.2.2.1, aI cy q12 7 y21.2.2.2.2.2.1, aI cy q13 7 y21.2.2.2.2.2.2.1, aI cy q14 7 y21.2.2.2.2.2.2.2, oX5 q15 (.ref q16) (.ref q17) (.ref q18) (.int v_inForce_size), aI cy q16 40 v_inForce_code, aI cy q17 40 y32_3, aI cy q18 7 y32_4] H locs → lv_has ls 5 [(0, .ref q0), (2, .int y32_0), (3, .int y32_1)] → W p l e R s m args below meth c H locs 0 0 Q (F0 m 93 ls [])) → W p l e R s m args below meth c H locs 0 0 Q (F0 m 32 ls []) := by
      intro n
      induction n with
      | zero =>
        intro x32_0 x32_1 x32_2 x32_3 x32_4 x32_5 y32 H locs ls h
        exact lp_zero h
      | succ n ih32 =>
        intro x32_0 x32_1 x32_2 x32_3 x32_4 x32_5 y32 H locs ls h hS hl hk32_0
        obtain ⟨z32, h, hz32a, hz32b⟩ := lp_succ h
        have h : X10_worth_s32 v_inForce_size v_inForce_code p1 y21 x32_0 x32_1 x32_2 x32_3 x32_4 x32_5 = some z32 := h
        unfold X10_worth_s32 at h
        refine lv_iload hx hb dX10_worth_32 (lv_at hl 4 rfl) ?_
        refine lv_bipush (v := 9) hx hb dX10_worth_34 (by decide) ?_
        refine lv_icmp_gt (tgt := 93) hx hb dX10_worth_36 (by decide) (fun c3 => ?_) (fun c3 => ?_)
        · have h := it_pos c3 h
          exact hk32_0 x32_0 x32_1 x32_3 x32_4 x32_5 (hz32b _ (Option.some.inj h).symm)  H locs ls hS (lv_sub hl [0, 2, 3] rfl)
        · have h := it_neg c3 h
          refine lv_aload_n hx hb dX10_worth_39 rfl (lv_at hl 0 rfl) ?_
          refine r_get E frX10_30 hS 0 rfl rfl dX10_worth_40 ?_
          refine r_get E frX10_154 hS 9 rfl rfl dX10_worth_43 ?_
          refine lv_iload_n hx hb dX10_worth_46 rfl (lv_at hl 1 rfl) ?_
          refine lv_iload hx hb dX10_worth_47 (lv_at hl 4 rfl) ?_
          obtain ⟨g4, h⟩ := gi_some h
          refine r_iast (ws' := [oX10 q0 u0_0 (.ref q1) (.ref q3) (.ref q9) u0_4 u0_5 (.ref q15) u0_7 u0_8 u0_9 u0_10 u0_11 u0_12, oX2 q1 (.ref q2) (.int v_told_size), aJ cy q2 16 v_told_number, oX0 q3 (.ref q4) (.ref q5) (.ref q6) (.ref q7) (.ref q8) (.int v_folk_number) (.int v_folk_day) (.int v_folk_unmet), aI cy q4 7 v_folk_skill, aI cy q5 7 v_folk_pills, aI cy q6 7 v_folk_slept, aI cy q7 7 v_folk_woken, aI cy q8 7 v_folk_wanted, oX0 q9 (.ref q10) (.ref q11) (.ref q12) (.ref q13) (.ref q14) (.int y21.1) (.int y21.2.1) (.int y21.2.2.1), aI cy q10 7 (upd x32_3 p1.toNatClampNeg x32_2), aI cy q11 7 y21.2.2.2.2.1, aI cy q12 7 y21.2.2.2.2.2.1, aI cy q13 7 y21.2.2.2.2.2.2.1, aI cy q14 7 y21.2.2.2.2.2.2.2, oX5 q15 (.ref q16) (.ref q17) (.ref q18) (.int v_inForce_size), aI cy q16 40 v_inForce_code, aI cy q17 40 x32_4, aI cy q18 7 x32_5]) E hS 10 rfl g4 rfl dX10_worth_49 (fun H locs hS => ?_)
          refine lv_aload_n hx hb dX10_worth_50 rfl (lv_at hl 0 rfl) ?_
          refine r_get E frX10_50 hS 0 rfl rfl dX10_worth_51 ?_
          refine lv_aload_n hx hb dX10_worth_54 rfl (lv_at hl 0 rfl) ?_
          refine r_get E frX10_30 hS 0 rfl rfl dX10_worth_55 ?_
          refine lv_iload_n hx hb dX10_worth_58 rfl (lv_at hl 1 rfl) ?_
          refine lv_aload_n hx hb dX10_worth_59 rfl (lv_at hl 0 rfl) ?_
          refine r_get E frX10_30 hS 0 rfl rfl dX10_worth_60 ?_
          refine lv_iload_n hx hb dX10_worth_63 rfl (lv_at hl 1 rfl) ?_
          obtain ⟨y64, e5, h⟩ := bd_some h
          refine ct_V (ws' := fun _ => [oX10 q0 u0_0 (.ref q1) (.ref q3) (.ref q9) u0_4 u0_5 (.ref q15) u0_7 u0_8 u0_9 u0_10 u0_11 u0_12, oX2 q1 (.ref q2) (.int v_told_size), aJ cy q2 16 v_told_number, oX0 q3 (.ref q4) (.ref q5) (.ref q6) (.ref q7) (.ref q8) (.int v_folk_number) (.int v_folk_day) (.int v_folk_unmet), aI cy q4 7 v_folk_skill, aI cy q5 7 v_folk_pills, aI cy q6 7 v_folk_slept, aI cy q7 7 v_folk_woken, aI cy q8 7 v_folk_wanted, oX0 q9 (.ref q10) (.ref q11) (.ref q12) (.ref q13) (.ref q14) (.int y21.1) (.int y21.2.1) (.int y21.2.2.1), aI cy q10 7 (upd x32_3 p1.toNatClampNeg x32_2), aI cy q11 7 y21.2.2.2.2.1, aI cy q12 7 y21.2.2.2.2.2.1, aI cy q13 7 y21.2.2.2.2.2.2.1, aI cy q14 7 y21.2.2.2.2.2.2.2, oX5 q15 (.ref q16) (.ref q17) (.ref q18) (.int v_inForce_size), aI cy q16 40 v_inForce_code, aI cy q17 40 x32_4, aI cy q18 7 x32_5]) (st' := [.int y64, .int p1, .ref q9, .ref q15]) (rest := [.int p1, .ref q9, .ref q15]) E hS vlX10_170 (c_X0_wanting (l := l) (D := D) (cy := cy) (q0 := q9) (q1 := q14) (u0_0 := .ref q10) (u0_1 := .ref q11) (u0_2 := .ref q12) (u0_3 := .ref q13) (u0_6 := .int y21.2.1) (u0_7 := .int y21.2.2.1) (v_number := y21.1) (v_wanted := y21.2.2.2.2.2.2.2) (p1 := p1) (r := y64) e5) [9, 14] rfl rfl (fun _ => rfl) (fun _ => rfl) rfl rfl rfl rfl (Nat.le_of_ble_eq_true rfl) hl.1 (by rw [hRf]; exact Nat.le_of_ble_eq_true rfl) (by rw [hRl]; exact Nat.le_of_ble_eq_true rfl) ⟨Nat.zero_le _, Nat.zero_le _⟩ dX10_worth_64 rfl (fun H locs _ hS => ?_)
          obtain ⟨y67, e6, h⟩ := bd_some h
          refine ct_V (ws' := fun _ => [oX10 q0 u0_0 (.ref q1) (.ref q3) (.ref q9) u0_4 u0_5 (.ref q15) u0_7 u0_8 u0_9 u0_10 u0_11 u0_12, oX2 q1 (.ref q2) (.int v_told_size), aJ cy q2 16 v_told_number, oX0 q3 (.ref q4) (.ref q5) (.ref q6) (.ref q7) (.ref q8) (.int v_folk_number) (.int v_folk_day) (.int v_folk_unmet), aI cy q4 7 v_folk_skill, aI cy q5 7 v_folk_pills, aI cy q6 7 v_folk_slept, aI cy q7 7 v_folk_woken, aI cy q8 7 v_folk_wanted, oX0 q9 (.ref q10) (.ref q11) (.ref q12) (.ref q13) (.ref q14) (.int y21.1) (.int y21.2.1) (.int y21.2.2.1), aI cy q10 7 (upd x32_3 p1.toNatClampNeg x32_2), aI cy q11 7 y21.2.2.2.2.1, aI cy q12 7 y21.2.2.2.2.2.1, aI cy q13 7 y21.2.2.2.2.2.2.1, aI cy q14 7 y21.2.2.2.2.2.2.2, oX5 q15 (.ref q16) (.ref q17) (.ref q18) (.int v_inForce_size), aI cy q16 40 v_inForce_code, aI cy q17 40 y67.2.1, aI cy q18 7 y67.2.2]) (st' := [.int y67.1]) (rest := []) E hS vlX10_281 (c_X5_rouses (l := l) (D := D) (cy := cy) (q0 := q15) (q1 := q16) (q2 := q17) (q3 := q18) (q4 := q9) (q5 := q10) (q6 := q11) (q7 := q12) (q8 := q14) (u4_3 := .ref q13) (u4_7 := .int y21.2.2.1) (v_size := v_inForce_size) (v_code := v_inForce_code) (v_stack := x32_4) (v_thing := x32_5) (w1_number := y21.1) (w1_day := y21.2.1) (w1_skill := (upd x32_3 p1.toNatClampNeg x32_2)) (w1_pills := y21.2.2.2.2.1) (w1_slept := y21.2.2.2.2.2.1) (w1_wanted := y21.2.2.2.2.2.2.2) (p2 := p1) (p3 := y64) (r := y67) e6) [15, 16, 17, 18, 9, 10, 11, 12, 14] rfl rfl (fun _ => rfl) (fun _ => rfl) rfl rfl rfl rfl (Nat.le_of_ble_eq_true rfl) hl.1 (by rw [hRf]; exact Nat.le_of_ble_eq_true rfl) (by rw [hRl]; exact Nat.le_of_ble_eq_true rfl) ⟨Nat.zero_le _, Nat.zero_le _⟩ dX10_worth_67 rfl (fun H locs _ hS => ?_)
          have hJ87 : ∀ (s87_l2 : Int32) (s87_l3 : Int32) (ls : Array Slot), s87_l2 = (if y67.1 = 0 then x32_0 else (if x32_1 = 0 then x32_2 else x32_0)) → s87_l3 = (if y67.1 = 0 then x32_1 else (x32_1 + (1 : Int32))) → lv_has ls 5 [(0, .ref q0), (1, .int p1), (2, .int s87_l2), (3, .int s87_l3), (4, .int x32_2)] → W p l e R s m args below meth c H locs 0 0 Q (F0 m 87 ls []) := by
            intro s87_l2 s87_l3 ls es87_l2 es87_l3 hl
            subst es87_l2
            subst es87_l3
            refine lv_iinc (v := (x32_2 + (1 : Int32))) (lv' := [(4, .int (x32_2 + (1 : Int32))), (0, .ref q0), (1, .int p1), (2, .int (if y67.1 = 0 then x32_0 else (if x32_1 = 0 then x32_2 else x32_0))), (3, .int (if y67.1 = 0 then x32_1 else (x32_1 + (1 : Int32))))]) hx hb dX10_worth_87 hl (k := 4) rfl rfl (by decide) rfl (fun ls hl => ?_)
            refine lv_goto (tgt := 32) hx hb dX10_worth_90 (by decide) ?_
            exact ih32 (if y67.1 = 0 then x32_0 else (if x32_1 = 0 then x32_2 else x32_0)) (if y67.1 = 0 then x32_1 else (x32_1 + (1 : Int32))) (x32_2 + (1 : Int32)) (upd x32_3 p1.toNatClampNeg x32_2) y67.2.1 y67.2.2 y32  H locs ls (hz32a _ (Option.some.inj h).symm) hS (lv_sub hl [1, 2, 3, 4, 0] rfl) hk32_0
          refine lv_if_eq (tgt := 87) hx hb dX10_worth_70 (by decide) (fun c7 => ?_) (fun c7 => ?_)
          · exact hJ87 _ _ ls ((if_pos c7)).symm ((if_pos c7)).symm (lv_sub hl [0, 1, 2, 3, 4] rfl)
          · refine lv_iload_n hx hb dX10_worth_73 rfl (lv_at hl 3 rfl) ?_
            refine lv_if_ne (tgt := 82) hx hb dX10_worth_74 (by decide) (fun c8 => ?_) (fun c8 => ?_)
            · refine lv_iload_n hx hb dX10_worth_82 rfl (lv_at hl 2 rfl) ?_
              refine lv_istore_n (lv' := [(2, .int x32_0), (0, .ref q0), (1, .int p1), (3, .int x32_1), (4, .int x32_2)]) hx hb dX10_worth_83 rfl hl (by decide) rfl (fun ls hl => ?_)
              refine lv_iinc (v := (x32_1 + (1 : Int32))) (lv' := [(3, .int (x32_1 + (1 : Int32))), (2, .int x32_0), (0, .ref q0), (1, .int p1), (4, .int x32_2)]) hx hb dX10_worth_84 hl (k := 3) rfl rfl (by decide) rfl (fun ls hl => ?_)
              exact hJ87 _ _ ls (((if_neg c7).trans (if_neg c8))).symm ((if_neg c7)).symm (lv_sub hl [2, 3, 1, 0, 4] rfl)
            · refine lv_iload hx hb dX10_worth_77 (lv_at hl 4 rfl) ?_
              refine lv_goto (tgt := 83) hx hb dX10_worth_79 (by decide) ?_
              refine lv_istore_n (lv' := [(2, .int x32_2), (0, .ref q0), (1, .int p1), (3, .int x32_1), (4, .int x32_2)]) hx hb dX10_worth_83 rfl hl (by decide) rfl (fun ls hl => ?_)
              refine lv_iinc (v := (x32_1 + (1 : Int32))) (lv' := [(3, .int (x32_1 + (1 : Int32))), (2, .int x32_2), (0, .ref q0), (1, .int p1), (4, .int x32_2)]) hx hb dX10_worth_84 hl (k := 3) rfl rfl (by decide) rfl (fun ls hl => ?_)
              exact hJ87 _ _ ls (((if_neg c7).trans (if_pos c8))).symm ((if_neg c7)).symm (lv_sub hl [2, 3, 1, 0, 4] rfl)
    obtain ⟨y32, e32, h⟩ := bd_some h
    refine hL32 1000 (-2 : Int32) (0 : Int32) (0 : Int32) y21.2.2.2.1 v_inForce_stack v_inForce_thing y32  H locs ls e32 hS (lv_sub hl [3, 4, 2, 1, 0] rfl) (fun y32_0 y32_1 y32_2 y32_3 y32_4 ey32 H locs ls hS hl => ?_)
    subst ey32
    have h := un_r h
    have h := un_r h
    have h := un_r h
    have h := un_r h
    refine lv_iload_n hx hb dX10_worth_93 rfl (lv_at hl 2 rfl) ?_
    refine lv_if_le (tgt := 106) hx hb dX10_worth_94 (by decide) (fun c9 => ?_) (fun c9 => ?_)
    · have h := it_pos c9 h
      refine lv_iload_n hx hb dX10_worth_106 rfl (lv_at hl 1 rfl) ?_
      obtain rfl := Option.some.inj h
      exact rt_i E hQ (.null) hS dX10_worth_107
    · have h := it_neg c9 h
      refine lv_aload_n hx hb dX10_worth_97 rfl (lv_at hl 0 rfl) ?_
      refine r_get E frX10_19 hS 0 rfl rfl dX10_worth_98 ?_
      refine lv_iload_n hx hb dX10_worth_101 rfl (lv_at hl 2 rfl) ?_
      refine lv_i2l (v := (y32_1.toInt64)) hx hb dX10_worth_102 rfl ?_
      obtain ⟨y103, e10, h⟩ := bd_some h
      refine ct_V (ws' := fun _ => [oX10 q0 u0_0 (.ref q1) (.ref q3) (.ref q9) u0_4 u0_5 (.ref q15) u0_7 u0_8 u0_9 u0_10 u0_11 u0_12, oX2 q1 (.ref q2) (.int y103.1), aJ cy q2 16 y103.2, oX0 q3 (.ref q4) (.ref q5) (.ref q6) (.ref q7) (.ref q8) (.int v_folk_number) (.int v_folk_day) (.int v_folk_unmet), aI cy q4 7 v_folk_skill, aI cy q5 7 v_folk_pills, aI cy q6 7 v_folk_slept, aI cy q7 7 v_folk_woken, aI cy q8 7 v_folk_wanted, oX0 q9 (.ref q10) (.ref q11) (.ref q12) (.ref q13) (.ref q14) (.int y21.1) (.int y21.2.1) (.int y21.2.2.1), aI cy q10 7 y32_2, aI cy q11 7 y21.2.2.2.2.1, aI cy q12 7 y21.2.2.2.2.2.1, aI cy q13 7 y21.2.2.2.2.2.2.1, aI cy q14 7 y21.2.2.2.2.2.2.2, oX5 q15 (.ref q16) (.ref q17) (.ref q18) (.int v_inForce_size), aI cy q16 40 v_inForce_code, aI cy q17 40 y32_3, aI cy q18 7 y32_4]) (st' := []) (rest := []) E hS vlX10_255 (c_X2_tellsOne (l := l) (D := D) (cy := cy) (q0 := q1) (q1 := q2) (v_size := v_told_size) (v_number := v_told_number) (p1 := (y32_1.toInt64)) (r := y103) e10) [1, 2] rfl rfl (fun _ => rfl) (fun _ => rfl) rfl rfl rfl rfl (Nat.le_of_ble_eq_true rfl) hl.1 (by rw [hRf]; exact Nat.le_of_ble_eq_true rfl) (by rw [hRl]; exact Nat.le_of_ble_eq_true rfl) ⟨Nat.zero_le _, Nat.zero_le _⟩ dX10_worth_103 rfl (fun H locs _ hS => ?_)
      refine lv_iload_n hx hb dX10_worth_106 rfl (lv_at hl 1 rfl) ?_
      obtain rfl := Option.some.inj h
      exact rt_i E hQ (.null) hS dX10_worth_107
  · have h := it_pos c1 h
    refine lv_iconst (v := -1) hx hb dX10_worth_11 (by decide) ?_
    obtain rfl := Option.some.inj h
    exact rt_i E hQ (.null) hS dX10_worth_12
set_option maxHeartbeats 4000000 in
set_option maxRecDepth 100000 in
theorem c_X10_spares {l : Launch} {D : va_G} {cy : Nat → ClassId} (q0 : Nat) (q1 : Nat) (q2 : Nat) (q3 : Nat) (q4 : Nat) (q5 : Nat) (q6 : Nat) (q7 : Nat) (q8 : Nat) (q9 : Nat) (q10 : Nat) (q11 : Nat) (q12 : Nat) (q13 : Nat) (q14 : Nat) (q15 : Nat) (q16 : Nat) (q17 : Nat) (q18 : Nat) (u0_0 : Value) (u0_4 : Value) (u0_5 : Value) (u0_7 : Value) (u0_8 : Value) (u0_9 : Value) (u0_10 : Value) (u0_11 : Value) (u0_12 : Value) (v_told_size : Int32) (v_told_number : Nat → Int64) (v_folk_number : Int32) (v_folk_day : Int32) (v_folk_unmet : Int32) (v_folk_skill : Nat → Int32) (v_folk_pills : Nat → Int32) (v_folk_slept : Nat → Int32) (v_folk_woken : Nat → Int32) (v_folk_wanted : Nat → Int32) (v_trial_number : Int32) (v_trial_day : Int32) (v_trial_unmet : Int32) (v_trial_skill : Nat → Int32) (v_trial_pills : Nat → Int32) (v_trial_slept : Nat → Int32) (v_trial_woken : Nat → Int32) (v_trial_wanted : Nat → Int32) (v_inForce_size : Int32) (v_inForce_code : Nat → Int32) (v_inForce_stack : Nat → Int32) (v_inForce_thing : Nat → Int32) (r : Int32 × Int32 × (Nat → Int64) × Int32 × Int32 × Int32 × (Nat → Int32) × (Nat → Int32) × (Nat → Int32) × (Nat → Int32) × (Nat → Int32) × (Nat → Int32) × (Nat → Int32)) (h : X10_spares v_told_size v_told_number v_folk_number v_folk_day v_folk_unmet v_folk_skill v_folk_pills v_folk_slept v_folk_woken v_folk_wanted v_trial_number v_trial_day v_trial_unmet v_trial_skill v_trial_pills v_trial_slept v_trial_woken v_trial_wanted v_inForce_size v_inForce_code v_inForce_stack v_inForce_thing = some r) : Ct l yX10_spares cX10_spares 5 (some .int) 4 94 D cy [.ref q0] [oX10 q0 u0_0 (.ref q1) (.ref q3) (.ref q9) u0_4 u0_5 (.ref q15) u0_7 u0_8 u0_9 u0_10 u0_11 u0_12, oX2 q1 (.ref q2) (.int v_told_size), aJ cy q2 16 v_told_number, oX0 q3 (.ref q4) (.ref q5) (.ref q6) (.ref q7) (.ref q8) (.int v_folk_number) (.int v_folk_day) (.int v_folk_unmet), aI cy q4 7 v_folk_skill, aI cy q5 7 v_folk_pills, aI cy q6 7 v_folk_slept, aI cy q7 7 v_folk_woken, aI cy q8 7 v_folk_wanted, oX0 q9 (.ref q10) (.ref q11) (.ref q12) (.ref q13) (.ref q14) (.int v_trial_number) (.int v_trial_day) (.int v_trial_unmet), aI cy q10 7 v_trial_skill, aI cy q11 7 v_trial_pills, aI cy q12 7 v_trial_slept, aI cy q13 7 v_trial_woken, aI cy q14 7 v_trial_wanted, oX5 q15 (.ref q16) (.ref q17) (.ref q18) (.int v_inForce_size), aI cy q16 40 v_inForce_code, aI cy q17 40 v_inForce_stack, aI cy q18 7 v_inForce_thing] (fun _ => [oX10 q0 u0_0 (.ref q1) (.ref q3) (.ref q9) u0_4 u0_5 (.ref q15) u0_7 u0_8 u0_9 u0_10 u0_11 u0_12, oX2 q1 (.ref q2) (.int r.2.1), aJ cy q2 16 r.2.2.1, oX0 q3 (.ref q4) (.ref q5) (.ref q6) (.ref q7) (.ref q8) (.int v_folk_number) (.int v_folk_day) (.int v_folk_unmet), aI cy q4 7 v_folk_skill, aI cy q5 7 v_folk_pills, aI cy q6 7 v_folk_slept, aI cy q7 7 v_folk_woken, aI cy q8 7 v_folk_wanted, oX0 q9 (.ref q10) (.ref q11) (.ref q12) (.ref q13) (.ref q14) (.int r.2.2.2.1) (.int r.2.2.2.2.1) (.int r.2.2.2.2.2.1), aI cy q10 7 r.2.2.2.2.2.2.1, aI cy q11 7 r.2.2.2.2.2.2.2.1, aI cy q12 7 r.2.2.2.2.2.2.2.2.1, aI cy q13 7 r.2.2.2.2.2.2.2.2.2.1, aI cy q14 7 r.2.2.2.2.2.2.2.2.2.2.1, oX5 q15 (.ref q16) (.ref q17) (.ref q18) (.int v_inForce_size), aI cy q16 40 v_inForce_code, aI cy q17 40 r.2.2.2.2.2.2.2.2.2.2.2.1, aI cy q18 7 r.2.2.2.2.2.2.2.2.2.2.2.2]) (some (.int r.1)) := by
  refine Ct.mk kX10_spares (by decide +kernel) (Nat.le_of_ble_eq_true rfl) ?_
  intro p e s m below meth c A ls args R Q hRf hRl hQ E H locs hS hl
  have hx := E.x
  have hb := E.b
  have hl : lv_has ls 5 [(0, .ref q0)] := hl
  unfold X10_spares at h
  refine lv_bipush (v := -2) hx hb dX10_spares_0 (by decide) ?_
  refine lv_istore_n (lv' := [(1, .int (-2 : Int32)), (0, .ref q0)]) hx hb dX10_spares_2 rfl hl (by decide) rfl (fun ls hl => ?_)
  refine lv_bipush (v := 8) hx hb dX10_spares_3 (by decide) ?_
  refine lv_istore_n (lv' := [(2, .int (8 : Int32)), (1, .int (-2 : Int32)), (0, .ref q0)]) hx hb dX10_spares_5 rfl hl (by decide) rfl (fun ls hl => ?_)
  refine lv_iconst (v := 0) hx hb dX10_spares_6 (by decide) ?_
  refine lv_istore_n (lv' := [(3, .int (0 : Int32)), (2, .int (8 : Int32)), (1, .int (-2 : Int32)), (0, .ref q0)]) hx hb dX10_spares_7 rfl hl (by decide) rfl (fun ls hl => ?_)
  have hL8 : ∀ (n : Nat) (x8_0 : Int32) (x8_1 : Int32) (x8_2 : Int32) (x8_3 : Int32) (x8_4 : Int32) (x8_5 : Int32) (x8_6 : Nat → Int32) (x8_7 : Nat → Int32) (x8_8 : Nat → Int32) (x8_9 : Nat → Int32) (x8_10 : Nat → Int32) (x8_11 : Nat → Int32) (x8_12 : Nat → Int32) (y8 : Int32 × Int32 × Int32 × Int32 × Int32 × (Nat → Int32) × (Nat → Int32) × (Nat → Int32) × (Nat → Int32) × (Nat → Int32) × (Nat → Int32) × (Nat → Int32)) (H : Heap) (locs : List Loc) (ls : Array Slot), lp (fun x8 => X10_spares_s8 v_folk_number v_folk_day v_folk_unmet v_folk_skill v_folk_pills v_folk_slept v_folk_woken v_folk_wanted v_inForce_size v_inForce_code x8.1 x8.2.1 x8.2.2.1 x8.2.2.2.1 x8.2.2.2.2.1 x8.2.2.2.2.2.1 x8.2.2.2.2.2.2.1 x8.2.2.2.2.2.2.2.1 x8.2.2.2.2.2.2.2.2.1 x8.2.2.2.2.2.2.2.2.2.1 x8.2.2.2.2.2.2.2.2.2.2.1 x8.2.2.2.2.2.2.2.2.2.2.2.1 x8.2.2.2.2.2.2.2.2.2.2.2.2) n (x8_0, x8_1, x8_2, x8_3, x8_4, x8_5, x8_6, x8_7, x8_8, x8_9, x8_10, x8_11, x8_12) = some y8 → Sv D A s.heap [oX10 q0 u0_0 (.ref q1) (.ref q3) (.ref q9) u0_4 u0_5 (.ref q15) u0_7 u0_8 u0_9 u0_10 u0_11 u0_12, oX2 q1 (.ref q2) (.int v_told_size), aJ cy q2 16 v_told_number, oX0 q3 (.ref q4) (.ref q5) (.ref q6) (.ref q7) (.ref q8) (.int v_folk_number) (.int v_folk_day) (.int v_folk_unmet), aI cy q4 7 v_folk_skill, aI cy q5 7 v_folk_pills, aI cy q6 7 v_folk_slept, aI cy q7 7 v_folk_woken, aI cy q8 7 v_folk_wanted, oX0 q9 (.ref q10) (.ref q11) (.ref q12) (.ref q13) (.ref q14) (.int x8_3) (.int x8_4) (.int x8_5), aI cy q10 7 x8_6, aI cy q11 7 x8_7, aI cy q12 7 x8_8, aI cy q13 7 x8_9, aI cy q14 7 x8_10, oX5 q15 (.ref q16) (.ref q17) (.ref q18) (.int v_inForce_size), aI cy q16 40 v_inForce_code, aI cy q17 40 x8_11, aI cy q18 7 x8_12] H locs → lv_has ls 5 [(0, .ref q0), (1, .int x8_0), (2, .int x8_1), (3, .int x8_2)] → ( ∀ (y8_0 : Int32) (y8_1 : Int32) (y8_2 : Int32) (y8_3 : Int32) (y8_4 : Int32) (y8_5 : Nat → Int32) (y8_6 : Nat → Int32) (y8_7 : Nat → Int32) (y8_8 : Nat → Int32) (y8_9 : Nat → Int32) (y8_10 : Nat → Int32) (y8_11 : Nat → Int32), (y8_0, y8_1, y8_2, y8_3, y8_4, y8_5, y8_6, y8_7, y8_8, y8_9, y8_10, y8_11) = y8 → ∀ (H : Heap) (locs : List Loc) (ls : Array Slot), Sv D A s.heap [oX10 q0 u0_0 (.ref q1) (.ref q3) (.ref q9) u0_4 u0_5 (.ref q15) u0_7 u0_8 u0_9 u0_10 u0_11 u0_12, oX2 q1 (.ref q2) (.int v_told_size), aJ cy q2 16 v_told_number, oX0 q3 (.ref q4) (.ref q5) (.ref q6) (.ref q7) (.ref q8) (.int v_folk_number) (.int v_folk_day) (.int v_folk_unmet), aI cy q4 7 v_folk_skill, aI cy q5 7 v_folk_pills, aI cy q6 7 v_folk_slept, aI cy q7 7 v_folk_woken, aI cy q8 7 v_folk_wanted, oX0 q9 (.ref q10) (.ref q11) (.ref q12) (.ref q13) (.ref q14) (.int y8_2) (.int y8_3) (.int y8_4), aI cy q10 7 y8_5, aI cy q11 7 y8_6, aI cy q12 7 y8_7, aI cy q13 7 y8_8, aI cy q14 7 y8_9, oX5 q15 (.ref q16) (.ref q17) (.ref q18) (.int v_inForce_size), aI cy q16 40 v_inForce_code, aI cy q17 40 y8_10, aI cy q18 7 y8_11] H locs → lv_has ls 5 [(0, .ref q0), (1, .int y8_0), (2, .int y8_1)] → W p l e R s m args below meth c H locs 0 0 Q (F0 m 76 ls [])) → W p l e R s m args below meth c H locs 0 0 Q (F0 m 8 ls []) := by
    intro n
    induction n with
    | zero =>
      intro x8_0 x8_1 x8_2 x8_3 x8_4 x8_5 x8_6 x8_7 x8_8 x8_9 x8_10 x8_11 x8_12 y8 H locs ls h
      exact lp_zero h
    | succ n ih8 =>
      intro x8_0 x8_1 x8_2 x8_3 x8_4 x8_5 x8_6 x8_7 x8_8 x8_9 x8_10 x8_11 x8_12 y8 H locs ls h hS hl hk8_0
      obtain ⟨z8, h, hz8a, hz8b⟩ := lp_succ h
      have h : X10_spares_s8 v_folk_number v_folk_day v_folk_unmet v_folk_skill v_folk_pills v_folk_slept v_folk_woken v_folk_wanted v_inForce_size v_inForce_code x8_0 x8_1 x8_2 x8_3 x8_4 x8_5 x8_6 x8_7 x8_8 x8_9 x8_10 x8_11 x8_12 = some z8 := h
      unfold X10_spares_s8 at h
      refine lv_iload_n hx hb dX10_spares_8 rfl (lv_at hl 3 rfl) ?_
      refine lv_aload_n hx hb dX10_spares_9 rfl (lv_at hl 0 rfl) ?_
      refine r_get E frX10_26 hS 0 rfl rfl dX10_spares_10 ?_
      refine r_get E frX10_107 hS 3 rfl rfl dX10_spares_13 ?_
      refine lv_icmp_ge (tgt := 76) hx hb dX10_spares_16 (by decide) (fun c1 => ?_) (fun c1 => ?_)
      · have h := it_pos c1 h
        exact hk8_0 x8_0 x8_1 x8_3 x8_4 x8_5 x8_6 x8_7 x8_8 x8_9 x8_10 x8_11 x8_12 (hz8b _ (Option.some.inj h).symm)  H locs ls hS (lv_sub hl [0, 1, 2] rfl)
      · have h := it_neg c1 h
        refine lv_aload_n hx hb dX10_spares_19 rfl (lv_at hl 0 rfl) ?_
        refine r_get E frX10_30 hS 0 rfl rfl dX10_spares_20 ?_
        refine lv_aload_n hx hb dX10_spares_23 rfl (lv_at hl 0 rfl) ?_
        refine r_get E frX10_26 hS 0 rfl rfl dX10_spares_24 ?_
        obtain ⟨y27, e2, h⟩ := bd_some h
        refine ct_V (ws' := fun _ => [oX10 q0 u0_0 (.ref q1) (.ref q3) (.ref q9) u0_4 u0_5 (.ref q15) u0_7 u0_8 u0_9 u0_10 u0_11 u0_12, oX2 q1 (.ref q2) (.int v_told_size), aJ cy q2 16 v_told_number, oX0 q3 (.ref q4) (.ref q5) (.ref q6) (.ref q7) (.ref q8) (.int v_folk_number) (.int v_folk_day) (.int v_folk_unmet), aI cy q4 7 v_folk_skill, aI cy q5 7 v_folk_pills, aI cy q6 7 v_folk_slept, aI cy q7 7 v_folk_woken, aI cy q8 7 v_folk_wanted, oX0 q9 (.ref q10) (.ref q11) (.ref q12) (.ref q13) (.ref q14) (.int y27.1) (.int y27.2.1) (.int y27.2.2.1), aI cy q10 7 y27.2.2.2.1, aI cy q11 7 y27.2.2.2.2.1, aI cy q12 7 y27.2.2.2.2.2.1, aI cy q13 7 y27.2.2.2.2.2.2.1, aI cy q14 7 y27.2.2.2.2.2.2.2, oX5 q15 (.ref q16) (.ref q17) (.ref q18) (.int v_inForce_size), aI cy q16 40 v_inForce_code, aI cy q17 40 x8_11, aI cy q18 7 x8_12]) (st' := []) (rest := []) E hS vlX10_249 (c_X0_becomes (l := l) (D := D) (cy := cy) (q0 := q9) (q1 := q10) (q2 := q11) (q3 := q12) (q4 := q13) (q5 := q14) (q6 := q3) (q7 := q4) (q8 := q5) (q9 := q6) (q10 := q7) (q11 := q8) (v_number := x8_3) (v_day := x8_4) (v_unmet := x8_5) (v_skill := x8_6) (v_pills := x8_7) (v_slept := x8_8) (v_woken := x8_9) (v_wanted := x8_10) (w1_number := v_folk_number) (w1_day := v_folk_day) (w1_unmet := v_folk_unmet) (w1_skill := v_folk_skill) (w1_pills := v_folk_pills) (w1_slept := v_folk_slept) (w1_woken := v_folk_woken) (w1_wanted := v_folk_wanted) (r := y27) e2) [9, 10, 11, 12, 13, 14, 3, 4, 5, 6, 7, 8] rfl rfl (fun _ => rfl) (fun _ => rfl) rfl rfl rfl rfl (Nat.le_of_ble_eq_true rfl) hl.1 (by rw [hRf]; exact Nat.le_of_ble_eq_true rfl) (by rw [hRl]; exact Nat.le_of_ble_eq_true rfl) ⟨Nat.zero_le _, Nat.zero_le _⟩ dX10_spares_27 rfl (fun H locs _ hS => ?_)
        refine lv_aload_n hx hb dX10_spares_30 rfl (lv_at hl 0 rfl) ?_
        refine r_get E frX10_30 hS 0 rfl rfl dX10_spares_31 ?_
        refine lv_iload_n hx hb dX10_spares_34 rfl (lv_at hl 3 rfl) ?_
        obtain ⟨y35, e3, h⟩ := bd_some h
        refine ct_V (ws' := fun _ => [oX10 q0 u0_0 (.ref q1) (.ref q3) (.ref q9) u0_4 u0_5 (.ref q15) u0_7 u0_8 u0_9 u0_10 u0_11 u0_12, oX2 q1 (.ref q2) (.int v_told_size), aJ cy q2 16 v_told_number, oX0 q3 (.ref q4) (.ref q5) (.ref q6) (.ref q7) (.ref q8) (.int v_folk_number) (.int v_folk_day) (.int v_folk_unmet), aI cy q4 7 v_folk_skill, aI cy q5 7 v_folk_pills, aI cy q6 7 v_folk_slept, aI cy q7 7 v_folk_woken, aI cy q8 7 v_folk_wanted, oX0 q9 (.ref q10) (.ref q11) (.ref q12) (.ref q13) (.ref q14) (.int y27.1) (.int y27.2.1) (.int y27.2.2.1), aI cy q10 7 y27.2.2.2.1, aI cy q11 7 y27.2.2.2.2.1, aI cy q12 7 y27.2.2.2.2.2.1, aI cy q13 7 y27.2.2.2.2.2.2.1, aI cy q14 7 y35.2, oX5 q15 (.ref q16) (.ref q17) (.ref q18) (.int v_inForce_size), aI cy q16 40 v_inForce_code, aI cy q17 40 x8_11, aI cy q18 7 x8_12]) (st' := [.int y35.1]) (rest := []) E hS vlX10_216 (c_X0_isRidOf (l := l) (D := D) (cy := cy) (q0 := q9) (q1 := q14) (u0_0 := .ref q10) (u0_1 := .ref q11) (u0_2 := .ref q12) (u0_3 := .ref q13) (u0_6 := .int y27.2.1) (u0_7 := .int y27.2.2.1) (v_number := y27.1) (v_wanted := y27.2.2.2.2.2.2.2) (p1 := x8_2) (r := y35) e3) [9, 14] rfl rfl (fun _ => rfl) (fun _ => rfl) rfl rfl rfl rfl (Nat.le_of_ble_eq_true rfl) hl.1 (by rw [hRf]; exact Nat.le_of_ble_eq_true rfl) (by rw [hRl]; exact Nat.le_of_ble_eq_true rfl) ⟨Nat.zero_le _, Nat.zero_le _⟩ dX10_spares_35 rfl (fun H locs _ hS => ?_)
        refine lv_pop hx hb dX10_spares_38 rfl ?_
        refine lv_aload_n hx hb dX10_spares_39 rfl (lv_at hl 0 rfl) ?_
        refine r_get E frX10_30 hS 0 rfl rfl dX10_spares_40 ?_
        refine lv_aload_n hx hb dX10_spares_43 rfl (lv_at hl 0 rfl) ?_
        refine r_get E frX10_50 hS 0 rfl rfl dX10_spares_44 ?_
        refine lv_aload_n hx hb dX10_spares_47 rfl (lv_at hl 0 rfl) ?_
        refine r_get E frX10_30 hS 0 rfl rfl dX10_spares_48 ?_
        obtain ⟨y51, e4, h⟩ := bd_some h
        refine ct_V (ws' := fun _ => [oX10 q0 u0_0 (.ref q1) (.ref q3) (.ref q9) u0_4 u0_5 (.ref q15) u0_7 u0_8 u0_9 u0_10 u0_11 u0_12, oX2 q1 (.ref q2) (.int v_told_size), aJ cy q2 16 v_told_number, oX0 q3 (.ref q4) (.ref q5) (.ref q6) (.ref q7) (.ref q8) (.int v_folk_number) (.int v_folk_day) (.int v_folk_unmet), aI cy q4 7 v_folk_skill, aI cy q5 7 v_folk_pills, aI cy q6 7 v_folk_slept, aI cy q7 7 v_folk_woken, aI cy q8 7 v_folk_wanted, oX0 q9 (.ref q10) (.ref q11) (.ref q12) (.ref q13) (.ref q14) (.int y27.1) (.int y27.2.1) (.int y27.2.2.1), aI cy q10 7 y27.2.2.2.1, aI cy q11 7 y27.2.2.2.2.1, aI cy q12 7 y27.2.2.2.2.2.1, aI cy q13 7 y27.2.2.2.2.2.2.1, aI cy q14 7 y35.2, oX5 q15 (.ref q16) (.ref q17) (.ref q18) (.int v_inForce_size), aI cy q16 40 v_inForce_code, aI cy q17 40 y51.2.1, aI cy q18 7 y51.2.2]) (st' := [.int y51.1, .ref q9]) (rest := [.ref q9]) E hS vlX10_234 (c_X5_wakers (l := l) (D := D) (cy := cy) (q0 := q15) (q1 := q16) (q2 := q17) (q3 := q18) (q4 := q9) (q5 := q10) (q6 := q11) (q7 := q12) (q8 := q14) (u4_3 := .ref q13) (u4_7 := .int y27.2.2.1) (v_size := v_inForce_size) (v_code := v_inForce_code) (v_stack := x8_11) (v_thing := x8_12) (w1_number := y27.1) (w1_day := y27.2.1) (w1_skill := y27.2.2.2.1) (w1_pills := y27.2.2.2.2.1) (w1_slept := y27.2.2.2.2.2.1) (w1_wanted := y35.2) (r := y51) e4) [15, 16, 17, 18, 9, 10, 11, 12, 14] rfl rfl (fun _ => rfl) (fun _ => rfl) rfl rfl rfl rfl (Nat.le_of_ble_eq_true rfl) hl.1 (by rw [hRf]; exact Nat.le_of_ble_eq_true rfl) (by rw [hRl]; exact Nat.le_of_ble_eq_true rfl) ⟨Nat.zero_le _, Nat.zero_le _⟩ dX10_spares_51 rfl (fun H locs _ hS => ?_)
        obtain ⟨y54, e5, h⟩ := bd_some h
        refine ct_V (ws' := fun _ => [oX10 q0 u0_0 (.ref q1) (.ref q3) (.ref q9) u0_4 u0_5 (.ref q15) u0_7 u0_8 u0_9 u0_10 u0_11 u0_12, oX2 q1 (.ref q2) (.int v_told_size), aJ cy q2 16 v_told_number, oX0 q3 (.ref q4) (.ref q5) (.ref q6) (.ref q7) (.ref q8) (.int v_folk_number) (.int v_folk_day) (.int v_folk_unmet), aI cy q4 7 v_folk_skill, aI cy q5 7 v_folk_pills, aI cy q6 7 v_folk_slept, aI cy q7 7 v_folk_woken, aI cy q8 7 v_folk_wanted, oX0 q9 (.ref q10) (.ref q11) (.ref q12) (.ref q13) (.ref q14) (.int y27.1) (.int y27.2.1) (.int y27.2.2.1), aI cy q10 7 y27.2.2.2.1, aI cy q11 7 y27.2.2.2.2.1, aI cy q12 7 y27.2.2.2.2.2.1, aI cy q13 7 y27.2.2.2.2.2.2.1, aI cy q14 7 y35.2, oX5 q15 (.ref q16) (.ref q17) (.ref q18) (.int v_inForce_size), aI cy q16 40 v_inForce_code, aI cy q17 40 y51.2.1, aI cy q18 7 y51.2.2]) (st' := [.int y54]) (rest := []) E hS vlX10_246 (c_X0_unserved (l := l) (D := D) (cy := cy) (q0 := q9) (q1 := q14) (u0_0 := .ref q10) (u0_1 := .ref q11) (u0_2 := .ref q12) (u0_3 := .ref q13) (u0_6 := .int y27.2.1) (u0_7 := .int y27.2.2.1) (v_number := y27.1) (v_wanted := y35.2) (p1 := y51.1) (r := y54) e5) [9, 14] rfl rfl (fun _ => rfl) (fun _ => rfl) rfl rfl rfl rfl (Nat.le_of_ble_eq_true rfl) hl.1 (by rw [hRf]; exact Nat.le_of_ble_eq_true rfl) (by rw [hRl]; exact Nat.le_of_ble_eq_true rfl) ⟨Nat.zero_le _, Nat.zero_le _⟩ dX10_spares_54 rfl (fun H locs _ hS => ?_)
        refine lv_istore (lv' := [(4, .int y54), (0, .ref q0), (1, .int x8_0), (2, .int x8_1), (3, .int x8_2)]) hx hb dX10_spares_57 hl (by decide) rfl (fun ls hl => ?_)
        refine lv_iload hx hb dX10_spares_59 (lv_at hl 0 rfl) ?_
        refine lv_iload_n hx hb dX10_spares_61 rfl (lv_at hl 3 rfl) ?_
        have hJ70 : ∀ (s70_l1 : Int32) (s70_l2 : Int32) (ls : Array Slot), s70_l1 = (if x8_1 ≤ y54 then x8_0 else x8_2) → s70_l2 = (if x8_1 ≤ y54 then x8_1 else y54) → lv_has ls 5 [(0, .ref q0), (1, .int s70_l1), (2, .int s70_l2), (3, .int x8_2)] → W p l e R s m args below meth c H locs 0 0 Q (F0 m 70 ls []) := by
          intro s70_l1 s70_l2 ls es70_l1 es70_l2 hl
          subst es70_l1
          subst es70_l2
          refine lv_iinc (v := (x8_2 + (1 : Int32))) (lv' := [(3, .int (x8_2 + (1 : Int32))), (0, .ref q0), (1, .int (if x8_1 ≤ y54 then x8_0 else x8_2)), (2, .int (if x8_1 ≤ y54 then x8_1 else y54))]) hx hb dX10_spares_70 hl (k := 3) rfl rfl (by decide) rfl (fun ls hl => ?_)
          refine lv_goto (tgt := 8) hx hb dX10_spares_73 (by decide) ?_
          exact ih8 (if x8_1 ≤ y54 then x8_0 else x8_2) (if x8_1 ≤ y54 then x8_1 else y54) (x8_2 + (1 : Int32)) y27.1 y27.2.1 y27.2.2.1 y27.2.2.2.1 y27.2.2.2.2.1 y27.2.2.2.2.2.1 y27.2.2.2.2.2.2.1 y35.2 y51.2.1 y51.2.2 y8  H locs ls (hz8a _ (Option.some.inj h).symm) hS (lv_sub hl [1, 2, 3, 0] rfl) hk8_0
        refine lv_icmp_ge (tgt := 70) hx hb dX10_spares_62 (by decide) (fun c6 => ?_) (fun c6 => ?_)
        · exact hJ70 _ _ ls ((if_pos c6)).symm ((if_pos c6)).symm (lv_sub hl [1, 2, 3, 4] rfl)
        · refine lv_iload hx hb dX10_spares_65 (lv_at hl 0 rfl) ?_
          refine lv_istore_n (lv' := [(2, .int y54), (4, .int y54), (0, .ref q0), (1, .int x8_0), (3, .int x8_2)]) hx hb dX10_spares_67 rfl hl (by decide) rfl (fun ls hl => ?_)
          refine lv_iload_n hx hb dX10_spares_68 rfl (lv_at hl 4 rfl) ?_
          refine lv_istore_n (lv' := [(1, .int x8_2), (2, .int y54), (4, .int y54), (0, .ref q0), (3, .int x8_2)]) hx hb dX10_spares_69 rfl hl (by decide) rfl (fun ls hl => ?_)
          exact hJ70 _ _ ls ((if_neg c6)).symm ((if_neg c6)).symm (lv_sub hl [3, 0, 1, 4] rfl)
  obtain ⟨y8, e8, h⟩ := bd_some h
  refine hL8 1000 (-2 : Int32) (8 : Int32) (0 : Int32) v_trial_number v_trial_day v_trial_unmet v_trial_skill v_trial_pills v_trial_slept v_trial_woken v_trial_wanted v_inForce_stack v_inForce_thing y8  H locs ls e8 hS (lv_sub hl [3, 2, 1, 0] rfl) (fun y8_0 y8_1 y8_2 y8_3 y8_4 y8_5 y8_6 y8_7 y8_8 y8_9 y8_10 y8_11 ey8 H locs ls hS hl => ?_)
  subst ey8
  have h := un_r h
  have h := un_r h
  have h := un_r h
  have h := un_r h
  have h := un_r h
  have h := un_r h
  have h := un_r h
  have h := un_r h
  have h := un_r h
  have h := un_r h
  have h := un_r h
  refine lv_iload_n hx hb dX10_spares_76 rfl (lv_at hl 1 rfl) ?_
  refine lv_if_lt (tgt := 108) hx hb dX10_spares_77 (by decide) (fun c7 => ?_) (fun c7 => ?_)
  · have h := it_pos c7 h
    refine lv_iload_n hx hb dX10_spares_108 rfl (lv_at hl 1 rfl) ?_
    obtain rfl := Option.some.inj h
    exact rt_i E hQ (.null) hS dX10_spares_109
  · have h := it_neg c7 h
    refine lv_aload_n hx hb dX10_spares_80 rfl (lv_at hl 0 rfl) ?_
    refine r_get E frX10_19 hS 0 rfl rfl dX10_spares_81 ?_
    refine lv_iload_n hx hb dX10_spares_84 rfl (lv_at hl 2 rfl) ?_
    refine lv_i2l (v := (y8_1.toInt64)) hx hb dX10_spares_85 rfl ?_
    refine lv_aload_n hx hb dX10_spares_86 rfl (lv_at hl 0 rfl) ?_
    refine r_get E frX10_26 hS 0 rfl rfl dX10_spares_87 ?_
    refine lv_aload_n hx hb dX10_spares_90 rfl (lv_at hl 0 rfl) ?_
    refine r_get E frX10_50 hS 0 rfl rfl dX10_spares_91 ?_
    refine lv_aload_n hx hb dX10_spares_94 rfl (lv_at hl 0 rfl) ?_
    refine r_get E frX10_26 hS 0 rfl rfl dX10_spares_95 ?_
    obtain ⟨y98, e8, h⟩ := bd_some h
    refine ct_V (ws' := fun _ => [oX10 q0 u0_0 (.ref q1) (.ref q3) (.ref q9) u0_4 u0_5 (.ref q15) u0_7 u0_8 u0_9 u0_10 u0_11 u0_12, oX2 q1 (.ref q2) (.int v_told_size), aJ cy q2 16 v_told_number, oX0 q3 (.ref q4) (.ref q5) (.ref q6) (.ref q7) (.ref q8) (.int v_folk_number) (.int v_folk_day) (.int v_folk_unmet), aI cy q4 7 v_folk_skill, aI cy q5 7 v_folk_pills, aI cy q6 7 v_folk_slept, aI cy q7 7 v_folk_woken, aI cy q8 7 v_folk_wanted, oX0 q9 (.ref q10) (.ref q11) (.ref q12) (.ref q13) (.ref q14) (.int y8_2) (.int y8_3) (.int y8_4), aI cy q10 7 y8_5, aI cy q11 7 y8_6, aI cy q12 7 y8_7, aI cy q13 7 y8_8, aI cy q14 7 y8_9, oX5 q15 (.ref q16) (.ref q17) (.ref q18) (.int v_inForce_size), aI cy q16 40 v_inForce_code, aI cy q17 40 y98.2.1, aI cy q18 7 y98.2.2]) (st' := [.int y98.1, .ref q3, .long (y8_1.toInt64), .ref q1]) (rest := [.ref q3, .long (y8_1.toInt64), .ref q1]) E hS vlX10_234 (c_X5_wakers (l := l) (D := D) (cy := cy) (q0 := q15) (q1 := q16) (q2 := q17) (q3 := q18) (q4 := q3) (q5 := q4) (q6 := q5) (q7 := q6) (q8 := q8) (u4_3 := .ref q7) (u4_7 := .int v_folk_unmet) (v_size := v_inForce_size) (v_code := v_inForce_code) (v_stack := y8_10) (v_thing := y8_11) (w1_number := v_folk_number) (w1_day := v_folk_day) (w1_skill := v_folk_skill) (w1_pills := v_folk_pills) (w1_slept := v_folk_slept) (w1_wanted := v_folk_wanted) (r := y98) e8) [15, 16, 17, 18, 3, 4, 5, 6, 8] rfl rfl (fun _ => rfl) (fun _ => rfl) rfl rfl rfl rfl (Nat.le_of_ble_eq_true rfl) hl.1 (by rw [hRf]; exact Nat.le_of_ble_eq_true rfl) (by rw [hRl]; exact Nat.le_of_ble_eq_true rfl) ⟨Nat.zero_le _, Nat.zero_le _⟩ dX10_spares_98 rfl (fun H locs _ hS => ?_)
    obtain ⟨y101, e9, h⟩ := bd_some h
    refine ct_V (ws' := fun _ => [oX10 q0 u0_0 (.ref q1) (.ref q3) (.ref q9) u0_4 u0_5 (.ref q15) u0_7 u0_8 u0_9 u0_10 u0_11 u0_12, oX2 q1 (.ref q2) (.int v_told_size), aJ cy q2 16 v_told_number, oX0 q3 (.ref q4) (.ref q5) (.ref q6) (.ref q7) (.ref q8) (.int v_folk_number) (.int v_folk_day) (.int v_folk_unmet), aI cy q4 7 v_folk_skill, aI cy q5 7 v_folk_pills, aI cy q6 7 v_folk_slept, aI cy q7 7 v_folk_woken, aI cy q8 7 v_folk_wanted, oX0 q9 (.ref q10) (.ref q11) (.ref q12) (.ref q13) (.ref q14) (.int y8_2) (.int y8_3) (.int y8_4), aI cy q10 7 y8_5, aI cy q11 7 y8_6, aI cy q12 7 y8_7, aI cy q13 7 y8_8, aI cy q14 7 y8_9, oX5 q15 (.ref q16) (.ref q17) (.ref q18) (.int v_inForce_size), aI cy q16 40 v_inForce_code, aI cy q17 40 y98.2.1, aI cy q18 7 y98.2.2]) (st' := [.int y101, .long (y8_1.toInt64), .ref q1]) (rest := [.long (y8_1.toInt64), .ref q1]) E hS vlX10_246 (c_X0_unserved (l := l) (D := D) (cy := cy) (q0 := q3) (q1 := q8) (u0_0 := .ref q4) (u0_1 := .ref q5) (u0_2 := .ref q6) (u0_3 := .ref q7) (u0_6 := .int v_folk_day) (u0_7 := .int v_folk_unmet) (v_number := v_folk_number) (v_wanted := v_folk_wanted) (p1 := y98.1) (r := y101) e9) [3, 8] rfl rfl (fun _ => rfl) (fun _ => rfl) rfl rfl rfl rfl (Nat.le_of_ble_eq_true rfl) hl.1 (by rw [hRf]; exact Nat.le_of_ble_eq_true rfl) (by rw [hRl]; exact Nat.le_of_ble_eq_true rfl) ⟨Nat.zero_le _, Nat.zero_le _⟩ dX10_spares_101 rfl (fun H locs _ hS => ?_)
    refine lv_i2l (v := (y101.toInt64)) hx hb dX10_spares_104 rfl ?_
    obtain ⟨y105, e10, h⟩ := bd_some h
    refine ct_V (ws' := fun _ => [oX10 q0 u0_0 (.ref q1) (.ref q3) (.ref q9) u0_4 u0_5 (.ref q15) u0_7 u0_8 u0_9 u0_10 u0_11 u0_12, oX2 q1 (.ref q2) (.int y105.1), aJ cy q2 16 y105.2, oX0 q3 (.ref q4) (.ref q5) (.ref q6) (.ref q7) (.ref q8) (.int v_folk_number) (.int v_folk_day) (.int v_folk_unmet), aI cy q4 7 v_folk_skill, aI cy q5 7 v_folk_pills, aI cy q6 7 v_folk_slept, aI cy q7 7 v_folk_woken, aI cy q8 7 v_folk_wanted, oX0 q9 (.ref q10) (.ref q11) (.ref q12) (.ref q13) (.ref q14) (.int y8_2) (.int y8_3) (.int y8_4), aI cy q10 7 y8_5, aI cy q11 7 y8_6, aI cy q12 7 y8_7, aI cy q13 7 y8_8, aI cy q14 7 y8_9, oX5 q15 (.ref q16) (.ref q17) (.ref q18) (.int v_inForce_size), aI cy q16 40 v_inForce_code, aI cy q17 40 y98.2.1, aI cy q18 7 y98.2.2]) (st' := []) (rest := []) E hS vlX10_199 (c_X2_tellsBoth (l := l) (D := D) (cy := cy) (q0 := q1) (q1 := q2) (v_size := v_told_size) (v_number := v_told_number) (p1 := (y8_1.toInt64)) (p3 := (y101.toInt64)) (r := y105) e10) [1, 2] rfl rfl (fun _ => rfl) (fun _ => rfl) rfl rfl rfl rfl (Nat.le_of_ble_eq_true rfl) hl.1 (by rw [hRf]; exact Nat.le_of_ble_eq_true rfl) (by rw [hRl]; exact Nat.le_of_ble_eq_true rfl) ⟨Nat.zero_le _, Nat.zero_le _⟩ dX10_spares_105 rfl (fun H locs _ hS => ?_)
    refine lv_iload_n hx hb dX10_spares_108 rfl (lv_at hl 1 rfl) ?_
    obtain rfl := Option.some.inj h
    exact rt_i E hQ (.null) hS dX10_spares_109
set_option maxHeartbeats 4000000 in
set_option maxRecDepth 100000 in
theorem c_X10_follows {l : Launch} {D : va_G} {cy : Nat → ClassId} (q0 : Nat) (q1 : Nat) (q2 : Nat) (q3 : Nat) (q4 : Nat) (q5 : Nat) (q6 : Nat) (q7 : Nat) (u0_0 : Value) (u0_3 : Value) (u0_4 : Value) (u0_5 : Value) (u0_6 : Value) (u0_7 : Value) (u0_8 : Value) (u0_10 : Value) (u0_11 : Value) (u0_12 : Value) (u3_0 : Value) (u3_1 : Value) (u3_2 : Value) (u3_3 : Value) (u3_6 : Value) (u3_7 : Value) (u5_2 : Value) (v_told_size : Int32) (v_told_number : Nat → Int64) (v_folk_number : Int32) (v_folk_wanted : Nat → Int32) (v_paths_length : Int32) (v_paths_path : Nat → Int32) (v_paths_longest : Nat → Int32) (p1 : Int32) (r : Int32 × Int32 × (Nat → Int64) × Int32 × (Nat → Int32) × (Nat → Int32)) (h : X10_follows v_told_size v_told_number v_folk_number v_folk_wanted v_paths_length v_paths_path v_paths_longest p1 = some r) : Ct l yX10_follows cX10_follows 2 (some .int) 103 2772 D cy [.ref q0, .int p1] [oX10 q0 u0_0 (.ref q1) (.ref q3) u0_3 u0_4 u0_5 u0_6 u0_7 u0_8 (.ref q5) u0_10 u0_11 u0_12, oX2 q1 (.ref q2) (.int v_told_size), aJ cy q2 16 v_told_number, oX0 q3 u3_0 u3_1 u3_2 u3_3 (.ref q4) (.int v_folk_number) u3_6 u3_7, aI cy q4 7 v_folk_wanted, oX4 q5 (.ref q6) (.ref q7) u5_2 (.int v_paths_length), aI cy q6 7 v_paths_path, aI cy q7 7 v_paths_longest] (fun _ => [oX10 q0 u0_0 (.ref q1) (.ref q3) u0_3 u0_4 u0_5 u0_6 u0_7 u0_8 (.ref q5) u0_10 u0_11 u0_12, oX2 q1 (.ref q2) (.int r.2.1), aJ cy q2 16 r.2.2.1, oX0 q3 u3_0 u3_1 u3_2 u3_3 (.ref q4) (.int v_folk_number) u3_6 u3_7, aI cy q4 7 v_folk_wanted, oX4 q5 (.ref q6) (.ref q7) u5_2 (.int r.2.2.2.1), aI cy q6 7 r.2.2.2.2.1, aI cy q7 7 r.2.2.2.2.2]) (some (.int r.1)) := by
  refine Ct.mk kX10_follows (by decide +kernel) (Nat.le_of_ble_eq_true rfl) ?_
  intro p e s m below meth c A ls args R Q hRf hRl hQ E H locs hS hl
  have hx := E.x
  have hb := E.b
  have hl : lv_has ls 2 [(0, .ref q0), (1, .int p1)] := hl
  unfold X10_follows at h
  refine lv_aload_n hx hb dX10_follows_0 rfl (lv_at hl 0 rfl) ?_
  refine r_get E frX10_26 hS 0 rfl rfl dX10_follows_1 ?_
  refine lv_iload_n hx hb dX10_follows_4 rfl (lv_at hl 1 rfl) ?_
  refine ct_V (ws' := fun _ => [oX10 q0 u0_0 (.ref q1) (.ref q3) u0_3 u0_4 u0_5 u0_6 u0_7 u0_8 (.ref q5) u0_10 u0_11 u0_12, oX2 q1 (.ref q2) (.int v_told_size), aJ cy q2 16 v_told_number, oX0 q3 u3_0 u3_1 u3_2 u3_3 (.ref q4) (.int v_folk_number) u3_6 u3_7, aI cy q4 7 v_folk_wanted, oX4 q5 (.ref q6) (.ref q7) u5_2 (.int v_paths_length), aI cy q6 7 v_paths_path, aI cy q7 7 v_paths_longest]) (st' := [.int (X0_has v_folk_number p1)]) (rest := []) E hS vlX10_148 (c_X0_has (l := l) (D := D) (cy := cy) (q0 := q3) (u0_0 := u3_0) (u0_1 := u3_1) (u0_2 := u3_2) (u0_3 := u3_3) (u0_4 := .ref q4) (u0_6 := u3_6) (u0_7 := u3_7) (v_number := v_folk_number) (p1 := p1) (r := (X0_has v_folk_number p1)) rfl) [3] rfl rfl (fun _ => rfl) (fun _ => rfl) rfl rfl rfl rfl (Nat.le_of_ble_eq_true rfl) hl.1 (by rw [hRf]; exact Nat.le_of_ble_eq_true rfl) (by rw [hRl]; exact Nat.le_of_ble_eq_true rfl) ⟨Nat.zero_le _, Nat.zero_le _⟩ dX10_follows_5 rfl (fun H locs _ hS => ?_)
  refine lv_if_eq (tgt := 30) hx hb dX10_follows_8 (by decide) (fun c1 => ?_) (fun c1 => ?_)
  · have h := it_pos c1 h
    refine lv_iconst (v := -1) hx hb dX10_follows_30 (by decide) ?_
    obtain rfl := Option.some.inj h
    exact rt_i E hQ (.null) hS dX10_follows_31
  · have h := it_neg c1 h
    refine lv_aload_n hx hb dX10_follows_11 rfl (lv_at hl 0 rfl) ?_
    refine r_get E frX10_67 hS 0 rfl rfl dX10_follows_12 ?_
    refine lv_aload_n hx hb dX10_follows_15 rfl (lv_at hl 0 rfl) ?_
    refine r_get E frX10_26 hS 0 rfl rfl dX10_follows_16 ?_
    refine lv_iload_n hx hb dX10_follows_19 rfl (lv_at hl 1 rfl) ?_
    refine lv_aload_n hx hb dX10_follows_20 rfl (lv_at hl 0 rfl) ?_
    refine r_get E frX10_19 hS 0 rfl rfl dX10_follows_21 ?_
    obtain ⟨y24, e2, h⟩ := bd_some h
    refine ct_V (ws' := fun _ => [oX10 q0 u0_0 (.ref q1) (.ref q3) u0_3 u0_4 u0_5 u0_6 u0_7 u0_8 (.ref q5) u0_10 u0_11 u0_12, oX2 q1 (.ref q2) (.int y24.2.2.2.2.1), aJ cy q2 16 y24.2.2.2.2.2, oX0 q3 u3_0 u3_1 u3_2 u3_3 (.ref q4) (.int v_folk_number) u3_6 u3_7, aI cy q4 7 v_folk_wanted, oX4 q5 (.ref q6) (.ref q7) u5_2 (.int y24.2.1), aI cy q6 7 y24.2.2.1, aI cy q7 7 y24.2.2.2.1]) (st' := [.int y24.1]) (rest := []) E hS vlX10_297 (c_X4_tellsLongest (l := l) (D := D) (cy := cy) (q0 := q5) (q1 := q6) (q2 := q7) (q3 := q3) (q4 := q4) (q5 := q1) (q6 := q2) (u0_2 := u5_2) (u3_0 := u3_0) (u3_1 := u3_1) (u3_2 := u3_2) (u3_3 := u3_3) (u3_6 := u3_6) (u3_7 := u3_7) (v_length := v_paths_length) (v_path := v_paths_path) (v_longest := v_paths_longest) (w1_number := v_folk_number) (w1_wanted := v_folk_wanted) (w3_size := v_told_size) (w3_number := v_told_number) (p2 := p1) (r := y24) e2) [5, 6, 7, 3, 4, 1, 2] rfl rfl (fun _ => rfl) (fun _ => rfl) rfl rfl rfl rfl (Nat.le_of_ble_eq_true rfl) hl.1 (by rw [hRf]; exact Nat.le_of_ble_eq_true rfl) (by rw [hRl]; exact Nat.le_of_ble_eq_true rfl) ⟨Nat.zero_le _, Nat.zero_le _⟩ dX10_follows_24 rfl (fun H locs _ hS => ?_)
    refine lv_goto (tgt := 31) hx hb dX10_follows_27 (by decide) ?_
    obtain rfl := Option.some.inj h
    exact rt_i E hQ (.null) hS dX10_follows_31
set_option maxHeartbeats 4000000 in
set_option maxRecDepth 100000 in
theorem c_X10_ring {l : Launch} {D : va_G} {cy : Nat → ClassId} (q0 : Nat) (q1 : Nat) (q2 : Nat) (q3 : Nat) (q4 : Nat) (q5 : Nat) (q6 : Nat) (u0_0 : Value) (u0_3 : Value) (u0_4 : Value) (u0_5 : Value) (u0_6 : Value) (u0_7 : Value) (u0_8 : Value) (u0_10 : Value) (u0_11 : Value) (u0_12 : Value) (u3_0 : Value) (u3_1 : Value) (u3_2 : Value) (u3_3 : Value) (u3_6 : Value) (u3_7 : Value) (u5_0 : Value) (u5_1 : Value) (u5_3 : Value) (v_told_size : Int32) (v_told_number : Nat → Int64) (v_folk_number : Int32) (v_folk_wanted : Nat → Int32) (v_paths_far : Nat → Int32) (r : Int32 × Int32 × (Nat → Int64) × (Nat → Int32)) (h : X10_ring v_told_size v_told_number v_folk_number v_folk_wanted v_paths_far = some r) : Ct l yX10_ring cX10_ring 1 (some .int) 4 94 D cy [.ref q0] [oX10 q0 u0_0 (.ref q1) (.ref q3) u0_3 u0_4 u0_5 u0_6 u0_7 u0_8 (.ref q5) u0_10 u0_11 u0_12, oX2 q1 (.ref q2) (.int v_told_size), aJ cy q2 16 v_told_number, oX0 q3 u3_0 u3_1 u3_2 u3_3 (.ref q4) (.int v_folk_number) u3_6 u3_7, aI cy q4 7 v_folk_wanted, oX4 q5 u5_0 u5_1 (.ref q6) u5_3, aI cy q6 7 v_paths_far] (fun _ => [oX10 q0 u0_0 (.ref q1) (.ref q3) u0_3 u0_4 u0_5 u0_6 u0_7 u0_8 (.ref q5) u0_10 u0_11 u0_12, oX2 q1 (.ref q2) (.int r.2.1), aJ cy q2 16 r.2.2.1, oX0 q3 u3_0 u3_1 u3_2 u3_3 (.ref q4) (.int v_folk_number) u3_6 u3_7, aI cy q4 7 v_folk_wanted, oX4 q5 u5_0 u5_1 (.ref q6) u5_3, aI cy q6 7 r.2.2.2]) (some (.int r.1)) := by
  refine Ct.mk kX10_ring (by decide +kernel) (Nat.le_of_ble_eq_true rfl) ?_
  intro p e s m below meth c A ls args R Q hRf hRl hQ E H locs hS hl
  have hx := E.x
  have hb := E.b
  have hl : lv_has ls 1 [(0, .ref q0)] := hl
  unfold X10_ring at h
  refine lv_aload_n hx hb dX10_ring_0 rfl (lv_at hl 0 rfl) ?_
  refine r_get E frX10_67 hS 0 rfl rfl dX10_ring_1 ?_
  refine lv_aload_n hx hb dX10_ring_4 rfl (lv_at hl 0 rfl) ?_
  refine r_get E frX10_26 hS 0 rfl rfl dX10_ring_5 ?_
  refine lv_aload_n hx hb dX10_ring_8 rfl (lv_at hl 0 rfl) ?_
  refine r_get E frX10_19 hS 0 rfl rfl dX10_ring_9 ?_
  obtain ⟨y12, e1, h⟩ := bd_some h
  refine ct_V (ws' := fun _ => [oX10 q0 u0_0 (.ref q1) (.ref q3) u0_3 u0_4 u0_5 u0_6 u0_7 u0_8 (.ref q5) u0_10 u0_11 u0_12, oX2 q1 (.ref q2) (.int y12.2.2.1), aJ cy q2 16 y12.2.2.2, oX0 q3 u3_0 u3_1 u3_2 u3_3 (.ref q4) (.int v_folk_number) u3_6 u3_7, aI cy q4 7 v_folk_wanted, oX4 q5 u5_0 u5_1 (.ref q6) u5_3, aI cy q6 7 y12.2.1]) (st' := [.int y12.1]) (rest := []) E hS vlX10_300 (c_X4_tellsRing (l := l) (D := D) (cy := cy) (q0 := q5) (q1 := q6) (q2 := q3) (q3 := q4) (q4 := q1) (q5 := q2) (u0_0 := u5_0) (u0_1 := u5_1) (u0_3 := u5_3) (u2_0 := u3_0) (u2_1 := u3_1) (u2_2 := u3_2) (u2_3 := u3_3) (u2_6 := u3_6) (u2_7 := u3_7) (v_far := v_paths_far) (w1_number := v_folk_number) (w1_wanted := v_folk_wanted) (w2_size := v_told_size) (w2_number := v_told_number) (r := y12) e1) [5, 6, 3, 4, 1, 2] rfl rfl (fun _ => rfl) (fun _ => rfl) rfl rfl rfl rfl (Nat.le_of_ble_eq_true rfl) hl.1 (by rw [hRf]; exact Nat.le_of_ble_eq_true rfl) (by rw [hRl]; exact Nat.le_of_ble_eq_true rfl) ⟨Nat.zero_le _, Nat.zero_le _⟩ dX10_ring_12 rfl (fun H locs _ hS => ?_)
  obtain rfl := Option.some.inj h
  exact rt_i E hQ (.null) hS dX10_ring_15
set_option maxHeartbeats 4000000 in
set_option maxRecDepth 100000 in
theorem c_X10_friends {l : Launch} {D : va_G} {cy : Nat → ClassId} (q0 : Nat) (q1 : Nat) (q2 : Nat) (q3 : Nat) (q4 : Nat) (u0_0 : Value) (u0_3 : Value) (u0_4 : Value) (u0_5 : Value) (u0_6 : Value) (u0_7 : Value) (u0_8 : Value) (u0_9 : Value) (u0_10 : Value) (u0_11 : Value) (u0_12 : Value) (u3_0 : Value) (u3_1 : Value) (u3_2 : Value) (u3_3 : Value) (u3_6 : Value) (u3_7 : Value) (v_told_size : Int32) (v_told_number : Nat → Int64) (v_folk_number : Int32) (v_folk_wanted : Nat → Int32) (r : Int32 × Int32 × (Nat → Int64)) (h : X10_friends v_told_number v_folk_number v_folk_wanted = some r) : Ct l yX10_friends cX10_friends 6 (some .int) 2 46 D cy [.ref q0] [oX10 q0 u0_0 (.ref q1) (.ref q3) u0_3 u0_4 u0_5 u0_6 u0_7 u0_8 u0_9 u0_10 u0_11 u0_12, oX2 q1 (.ref q2) (.int v_told_size), aJ cy q2 16 v_told_number, oX0 q3 u3_0 u3_1 u3_2 u3_3 (.ref q4) (.int v_folk_number) u3_6 u3_7, aI cy q4 7 v_folk_wanted] (fun _ => [oX10 q0 u0_0 (.ref q1) (.ref q3) u0_3 u0_4 u0_5 u0_6 u0_7 u0_8 u0_9 u0_10 u0_11 u0_12, oX2 q1 (.ref q2) (.int r.2.1), aJ cy q2 16 r.2.2, oX0 q3 u3_0 u3_1 u3_2 u3_3 (.ref q4) (.int v_folk_number) u3_6 u3_7, aI cy q4 7 v_folk_wanted]) (some (.int r.1)) := by
  refine Ct.mk kX10_friends (by decide +kernel) (Nat.le_of_ble_eq_true rfl) ?_
  intro p e s m below meth c A ls args R Q hRf hRl hQ E H locs hS hl
  have hx := E.x
  have hb := E.b
  have hl : lv_has ls 6 [(0, .ref q0)] := hl
  unfold X10_friends at h
  refine lv_iconst (v := -1) hx hb dX10_friends_0 (by decide) ?_
  refine lv_istore_n (lv' := [(1, .int (-1 : Int32)), (0, .ref q0)]) hx hb dX10_friends_1 rfl hl (by decide) rfl (fun ls hl => ?_)
  refine lv_iconst (v := 0) hx hb dX10_friends_2 (by decide) ?_
  refine lv_istore_n (lv' := [(2, .int (0 : Int32)), (1, .int (-1 : Int32)), (0, .ref q0)]) hx hb dX10_friends_3 rfl hl (by decide) rfl (fun ls hl => ?_)
  refine lv_iconst (v := 0) hx hb dX10_friends_4 (by decide) ?_
  refine lv_istore_n (lv' := [(3, .int (0 : Int32)), (2, .int (0 : Int32)), (1, .int (-1 : Int32)), (0, .ref q0)]) hx hb dX10_friends_5 rfl hl (by decide) rfl (fun ls hl => ?_)
  refine lv_iconst (v := 0) hx hb dX10_friends_6 (by decide) ?_
  refine lv_istore (lv' := [(4, .int (0 : Int32)), (3, .int (0 : Int32)), (2, .int (0 : Int32)), (1, .int (-1 : Int32)), (0, .ref q0)]) hx hb dX10_friends_7 hl (by decide) rfl (fun ls hl => ?_)
  have hL9 : ∀ (n : Nat) (x9_0 : Int32) (x9_1 : Int32) (x9_2 : Int32) (x9_3 : Int32) (y9 : Int32 × Int32 × Int32) (H : Heap) (locs : List Loc) (ls : Array Slot), lp (fun x9 => X10_friends_s9 v_folk_number v_folk_wanted x9.1 x9.2.1 x9.2.2.1 x9.2.2.2) n (x9_0, x9_1, x9_2, x9_3) = some y9 → Sv D A s.heap [oX10 q0 u0_0 (.ref q1) (.ref q3) u0_3 u0_4 u0_5 u0_6 u0_7 u0_8 u0_9 u0_10 u0_11 u0_12, oX2 q1 (.ref q2) (.int v_told_size), aJ cy q2 16 v_told_number, oX0 q3 u3_0 u3_1 u3_2 u3_3 (.ref q4) (.int v_folk_number) u3_6 u3_7, aI cy q4 7 v_folk_wanted] H locs → lv_has ls 6 [(0, .ref q0), (1, .int x9_0), (2, .int x9_1), (3, .int x9_2), (4, .int x9_3)] → ( ∀ (y9_0 : Int32) (y9_1 : Int32) (y9_2 : Int32), (y9_0, y9_1, y9_2) = y9 → ∀ (H : Heap) (locs : List Loc) (ls : Array Slot), Sv D A s.heap [oX10 q0 u0_0 (.ref q1) (.ref q3) u0_3 u0_4 u0_5 u0_6 u0_7 u0_8 u0_9 u0_10 u0_11 u0_12, oX2 q1 (.ref q2) (.int v_told_size), aJ cy q2 16 v_told_number, oX0 q3 u3_0 u3_1 u3_2 u3_3 (.ref q4) (.int v_folk_number) u3_6 u3_7, aI cy q4 7 v_folk_wanted] H locs → lv_has ls 6 [(0, .ref q0), (1, .int y9_0), (2, .int y9_1), (3, .int y9_2)] → W p l e R s m args below meth c H locs 0 0 Q (F0 m 82 ls [])) → W p l e R s m args below meth c H locs 0 0 Q (F0 m 9 ls []) := by
    intro n
    induction n with
    | zero =>
      intro x9_0 x9_1 x9_2 x9_3 y9 H locs ls h
      exact lp_zero h
    | succ n ih9 =>
      intro x9_0 x9_1 x9_2 x9_3 y9 H locs ls h hS hl hk9_0
      obtain ⟨z9, h, hz9a, hz9b⟩ := lp_succ h
      have h : X10_friends_s9 v_folk_number v_folk_wanted x9_0 x9_1 x9_2 x9_3 = some z9 := h
      unfold X10_friends_s9 at h
      refine lv_iload hx hb dX10_friends_9 (lv_at hl 4 rfl) ?_
      refine lv_aload_n hx hb dX10_friends_11 rfl (lv_at hl 0 rfl) ?_
      refine r_get E frX10_26 hS 0 rfl rfl dX10_friends_12 ?_
      refine ct_V (ws' := fun _ => [oX10 q0 u0_0 (.ref q1) (.ref q3) u0_3 u0_4 u0_5 u0_6 u0_7 u0_8 u0_9 u0_10 u0_11 u0_12, oX2 q1 (.ref q2) (.int v_told_size), aJ cy q2 16 v_told_number, oX0 q3 u3_0 u3_1 u3_2 u3_3 (.ref q4) (.int v_folk_number) u3_6 u3_7, aI cy q4 7 v_folk_wanted]) (st' := [.int (X0_everybody v_folk_number), .int x9_3]) (rest := [.int x9_3]) E hS vlX10_259 (c_X0_everybody (l := l) (D := D) (cy := cy) (q0 := q3) (u0_0 := u3_0) (u0_1 := u3_1) (u0_2 := u3_2) (u0_3 := u3_3) (u0_4 := .ref q4) (u0_6 := u3_6) (u0_7 := u3_7) (v_number := v_folk_number) (r := (X0_everybody v_folk_number)) rfl) [3] rfl rfl (fun _ => rfl) (fun _ => rfl) rfl rfl rfl rfl (Nat.le_of_ble_eq_true rfl) hl.1 (by rw [hRf]; exact Nat.le_of_ble_eq_true rfl) (by rw [hRl]; exact Nat.le_of_ble_eq_true rfl) ⟨Nat.zero_le _, Nat.zero_le _⟩ dX10_friends_15 rfl (fun H locs _ hS => ?_)
      refine lv_icmp_gt (tgt := 82) hx hb dX10_friends_18 (by decide) (fun c1 => ?_) (fun c1 => ?_)
      · have h := it_pos c1 h
        exact hk9_0 x9_0 x9_1 x9_2 (hz9b _ (Option.some.inj h).symm)  H locs ls hS (lv_sub hl [0, 1, 2, 3] rfl)
      · have h := it_neg c1 h
        refine lv_iload hx hb dX10_friends_21 (lv_at hl 4 rfl) ?_
        refine ct_S (ws' := fun _ => [oX10 q0 u0_0 (.ref q1) (.ref q3) u0_3 u0_4 u0_5 u0_6 u0_7 u0_8 u0_9 u0_10 u0_11 u0_12, oX2 q1 (.ref q2) (.int v_told_size), aJ cy q2 16 v_told_number, oX0 q3 u3_0 u3_1 u3_2 u3_3 (.ref q4) (.int v_folk_number) u3_6 u3_7, aI cy q4 7 v_folk_wanted]) (st' := [.int (J6_bitCount_0f7a4 x9_3)]) (rest := []) E hS slX10_241 (c_J6_bitCount_0f7a4 (l := l) (D := D) (cy := cy) (p0 := x9_3) (r := (J6_bitCount_0f7a4 x9_3)) rfl) [] rfl rfl (fun _ => rfl) (fun _ => rfl) rfl rfl (Nat.le_of_ble_eq_true rfl) hl.1 (by rw [hRf]; exact Nat.le_of_ble_eq_true rfl) (by rw [hRl]; exact Nat.le_of_ble_eq_true rfl) ⟨Nat.zero_le _, Nat.zero_le _⟩ dX10_friends_23 rfl (fun H locs _ hS => ?_)
        refine lv_istore (lv' := [(5, .int (J6_bitCount_0f7a4 x9_3)), (0, .ref q0), (1, .int x9_0), (2, .int x9_1), (3, .int x9_2), (4, .int x9_3)]) hx hb dX10_friends_26 hl (by decide) rfl (fun ls hl => ?_)
        refine lv_iload hx hb dX10_friends_28 (lv_at hl 0 rfl) ?_
        refine lv_iload_n hx hb dX10_friends_30 rfl (lv_at hl 2 rfl) ?_
        refine lv_icmp_lt (tgt := 76) hx hb dX10_friends_31 (by decide) (fun c2 => ?_) (fun c2 => ?_)
        · have h := it_pos c2 h
          refine lv_iinc (v := (x9_3 + (1 : Int32))) (lv' := [(4, .int (x9_3 + (1 : Int32))), (5, .int (J6_bitCount_0f7a4 x9_3)), (0, .ref q0), (1, .int x9_0), (2, .int x9_1), (3, .int x9_2)]) hx hb dX10_friends_76 hl (k := 5) rfl rfl (by decide) rfl (fun ls hl => ?_)
          refine lv_goto (tgt := 9) hx hb dX10_friends_79 (by decide) ?_
          exact ih9 x9_0 x9_1 x9_2 (x9_3 + (1 : Int32)) y9  H locs ls (hz9a _ (Option.some.inj h).symm) hS (lv_sub hl [2, 3, 4, 5, 0] rfl) hk9_0
        · have h := it_neg c2 h
          refine lv_aload_n hx hb dX10_friends_34 rfl (lv_at hl 1 rfl) ?_
          refine r_get E frX10_26 hS 0 rfl rfl dX10_friends_35 ?_
          refine lv_iload hx hb dX10_friends_38 (lv_at hl 5 rfl) ?_
          obtain ⟨y40, e3, h⟩ := bd_some h
          refine ct_V (ws' := fun _ => [oX10 q0 u0_0 (.ref q1) (.ref q3) u0_3 u0_4 u0_5 u0_6 u0_7 u0_8 u0_9 u0_10 u0_11 u0_12, oX2 q1 (.ref q2) (.int v_told_size), aJ cy q2 16 v_told_number, oX0 q3 u3_0 u3_1 u3_2 u3_3 (.ref q4) (.int v_folk_number) u3_6 u3_7, aI cy q4 7 v_folk_wanted]) (st' := [.int y40]) (rest := []) E hS vlX10_304 (c_X0_areFriends (l := l) (D := D) (cy := cy) (q0 := q3) (q1 := q4) (u0_0 := u3_0) (u0_1 := u3_1) (u0_2 := u3_2) (u0_3 := u3_3) (u0_6 := u3_6) (u0_7 := u3_7) (v_number := v_folk_number) (v_wanted := v_folk_wanted) (p1 := x9_3) (r := y40) e3) [3, 4] rfl rfl (fun _ => rfl) (fun _ => rfl) rfl rfl rfl rfl (Nat.le_of_ble_eq_true rfl) hl.1 (by rw [hRf]; exact Nat.le_of_ble_eq_true rfl) (by rw [hRl]; exact Nat.le_of_ble_eq_true rfl) ⟨Nat.zero_le _, Nat.zero_le _⟩ dX10_friends_40 rfl (fun H locs _ hS => ?_)
          refine lv_if_eq (tgt := 76) hx hb dX10_friends_43 (by decide) (fun c4 => ?_) (fun c4 => ?_)
          · have h := it_pos c4 h
            refine lv_iinc (v := (x9_3 + (1 : Int32))) (lv' := [(4, .int (x9_3 + (1 : Int32))), (5, .int (J6_bitCount_0f7a4 x9_3)), (0, .ref q0), (1, .int x9_0), (2, .int x9_1), (3, .int x9_2)]) hx hb dX10_friends_76 hl (k := 5) rfl rfl (by decide) rfl (fun ls hl => ?_)
            refine lv_goto (tgt := 9) hx hb dX10_friends_79 (by decide) ?_
            exact ih9 x9_0 x9_1 x9_2 (x9_3 + (1 : Int32)) y9  H locs ls (hz9a _ (Option.some.inj h).symm) hS (lv_sub hl [2, 3, 4, 5, 0] rfl) hk9_0
          · have h := it_neg c4 h
            refine lv_iload hx hb dX10_friends_46 (lv_at hl 0 rfl) ?_
            refine lv_iload_n hx hb dX10_friends_48 rfl (lv_at hl 2 rfl) ?_
            have hJ58 : ∀ (s58_0 : Int32) (ls : Array Slot), s58_0 = (if (J6_bitCount_0f7a4 x9_3) ≤ x9_0 then x9_1 else x9_3) → lv_has ls 6 [(0, .ref q0), (1, .int x9_0), (3, .int x9_2), (4, .int x9_3), (5, .int (J6_bitCount_0f7a4 x9_3))] → W p l e R s m args below meth c H locs 0 0 Q (F0 m 58 ls [.int s58_0]) := by
              intro s58_0 ls es58_0 hl
              subst es58_0
              refine lv_istore_n (lv' := [(2, .int (if (J6_bitCount_0f7a4 x9_3) ≤ x9_0 then x9_1 else x9_3)), (0, .ref q0), (1, .int x9_0), (3, .int x9_2), (4, .int x9_3), (5, .int (J6_bitCount_0f7a4 x9_3))]) hx hb dX10_friends_58 rfl hl (by decide) rfl (fun ls hl => ?_)
              refine lv_iload hx hb dX10_friends_59 (lv_at hl 5 rfl) ?_
              refine lv_iload_n hx hb dX10_friends_61 rfl (lv_at hl 2 rfl) ?_
              have hJ72 : ∀ (s72_0 : Int32) (ls : Array Slot), s72_0 = (if (J6_bitCount_0f7a4 x9_3) ≤ x9_0 then (x9_2 + (1 : Int32)) else (1 : Int32)) → lv_has ls 6 [(0, .ref q0), (2, .int (if (J6_bitCount_0f7a4 x9_3) ≤ x9_0 then x9_1 else x9_3)), (4, .int x9_3), (5, .int (J6_bitCount_0f7a4 x9_3))] → W p l e R s m args below meth c H locs 0 0 Q (F0 m 72 ls [.int s72_0]) := by
                intro s72_0 ls es72_0 hl
                subst es72_0
                refine lv_istore_n (lv' := [(3, .int (if (J6_bitCount_0f7a4 x9_3) ≤ x9_0 then (x9_2 + (1 : Int32)) else (1 : Int32))), (0, .ref q0), (2, .int (if (J6_bitCount_0f7a4 x9_3) ≤ x9_0 then x9_1 else x9_3)), (4, .int x9_3), (5, .int (J6_bitCount_0f7a4 x9_3))]) hx hb dX10_friends_72 rfl hl (by decide) rfl (fun ls hl => ?_)
                refine lv_iload hx hb dX10_friends_73 (lv_at hl 4 rfl) ?_
                refine lv_istore_n (lv' := [(1, .int (J6_bitCount_0f7a4 x9_3)), (3, .int (if (J6_bitCount_0f7a4 x9_3) ≤ x9_0 then (x9_2 + (1 : Int32)) else (1 : Int32))), (0, .ref q0), (2, .int (if (J6_bitCount_0f7a4 x9_3) ≤ x9_0 then x9_1 else x9_3)), (4, .int x9_3), (5, .int (J6_bitCount_0f7a4 x9_3))]) hx hb dX10_friends_75 rfl hl (by decide) rfl (fun ls hl => ?_)
                refine lv_iinc (v := (x9_3 + (1 : Int32))) (lv' := [(4, .int (x9_3 + (1 : Int32))), (1, .int (J6_bitCount_0f7a4 x9_3)), (3, .int (if (J6_bitCount_0f7a4 x9_3) ≤ x9_0 then (x9_2 + (1 : Int32)) else (1 : Int32))), (0, .ref q0), (2, .int (if (J6_bitCount_0f7a4 x9_3) ≤ x9_0 then x9_1 else x9_3)), (5, .int (J6_bitCount_0f7a4 x9_3))]) hx hb dX10_friends_76 hl (k := 4) rfl rfl (by decide) rfl (fun ls hl => ?_)
                refine lv_goto (tgt := 9) hx hb dX10_friends_79 (by decide) ?_
                exact ih9 (J6_bitCount_0f7a4 x9_3) (if (J6_bitCount_0f7a4 x9_3) ≤ x9_0 then x9_1 else x9_3) (if (J6_bitCount_0f7a4 x9_3) ≤ x9_0 then (x9_2 + (1 : Int32)) else (1 : Int32)) (x9_3 + (1 : Int32)) y9  H locs ls (hz9a _ (Option.some.inj h).symm) hS (lv_sub hl [3, 1, 4, 2, 0] rfl) hk9_0
              refine lv_icmp_le (tgt := 69) hx hb dX10_friends_62 (by decide) (fun c5 => ?_) (fun c5 => ?_)
              · refine lv_iload_n hx hb dX10_friends_69 rfl (lv_at hl 3 rfl) ?_
                refine lv_iconst (v := 1) hx hb dX10_friends_70 (by decide) ?_
                refine lv_iadd hx hb dX10_friends_71 ?_
                exact hJ72 _ ls ((if_pos c5)).symm (lv_sub hl [1, 0, 4, 5] rfl)
              · refine lv_iconst (v := 1) hx hb dX10_friends_65 (by decide) ?_
                refine lv_goto (tgt := 72) hx hb dX10_friends_66 (by decide) ?_
                exact hJ72 _ ls ((if_neg c5)).symm (lv_sub hl [1, 0, 4, 5] rfl)
            refine lv_icmp_le (tgt := 57) hx hb dX10_friends_49 (by decide) (fun c6 => ?_) (fun c6 => ?_)
            · refine lv_iload_n hx hb dX10_friends_57 rfl (lv_at hl 3 rfl) ?_
              exact hJ58 _ ls ((if_pos c6)).symm (lv_sub hl [1, 2, 4, 5, 0] rfl)
            · refine lv_iload hx hb dX10_friends_52 (lv_at hl 5 rfl) ?_
              refine lv_goto (tgt := 58) hx hb dX10_friends_54 (by decide) ?_
              exact hJ58 _ ls ((if_neg c6)).symm (lv_sub hl [1, 2, 4, 5, 0] rfl)
  obtain ⟨y9, e9, h⟩ := bd_some h
  refine hL9 1000 (-1 : Int32) (0 : Int32) (0 : Int32) (0 : Int32) y9  H locs ls e9 hS (lv_sub hl [4, 3, 2, 1, 0] rfl) (fun y9_0 y9_1 y9_2 ey9 H locs ls hS hl => ?_)
  subst ey9
  have h := un_r h
  have h := un_r h
  refine lv_aload_n hx hb dX10_friends_82 rfl (lv_at hl 0 rfl) ?_
  refine r_get E frX10_19 hS 0 rfl rfl dX10_friends_83 ?_
  refine lv_iload_n hx hb dX10_friends_86 rfl (lv_at hl 2 rfl) ?_
  refine lv_i2l (v := (y9_1.toInt64)) hx hb dX10_friends_87 rfl ?_
  refine lv_iload_n hx hb dX10_friends_88 rfl (lv_at hl 3 rfl) ?_
  refine lv_i2l (v := (y9_2.toInt64)) hx hb dX10_friends_89 rfl ?_
  obtain ⟨y90, e7, h⟩ := bd_some h
  refine ct_V (ws' := fun _ => [oX10 q0 u0_0 (.ref q1) (.ref q3) u0_3 u0_4 u0_5 u0_6 u0_7 u0_8 u0_9 u0_10 u0_11 u0_12, oX2 q1 (.ref q2) (.int y90.1), aJ cy q2 16 y90.2, oX0 q3 u3_0 u3_1 u3_2 u3_3 (.ref q4) (.int v_folk_number) u3_6 u3_7, aI cy q4 7 v_folk_wanted]) (st' := []) (rest := []) E hS vlX10_199 (c_X2_tellsBoth (l := l) (D := D) (cy := cy) (q0 := q1) (q1 := q2) (v_size := v_told_size) (v_number := v_told_number) (p1 := (y9_1.toInt64)) (p3 := (y9_2.toInt64)) (r := y90) e7) [1, 2] rfl rfl (fun _ => rfl) (fun _ => rfl) rfl rfl rfl rfl (Nat.le_of_ble_eq_true rfl) hl.1 (by rw [hRf]; exact Nat.le_of_ble_eq_true rfl) (by rw [hRl]; exact Nat.le_of_ble_eq_true rfl) ⟨Nat.zero_le _, Nat.zero_le _⟩ dX10_friends_90 rfl (fun H locs _ hS => ?_)
  refine lv_iload_n hx hb dX10_friends_93 rfl (lv_at hl 1 rfl) ?_
  obtain rfl := Option.some.inj h
  exact rt_i E hQ (.null) hS dX10_friends_94
set_option maxHeartbeats 4000000 in
set_option maxRecDepth 100000 in
theorem c_X10_way {l : Launch} {D : va_G} {cy : Nat → ClassId} (q0 : Nat) (q1 : Nat) (q2 : Nat) (q3 : Nat) (q4 : Nat) (q5 : Nat) (q6 : Nat) (u0_0 : Value) (u0_3 : Value) (u0_4 : Value) (u0_5 : Value) (u0_6 : Value) (u0_7 : Value) (u0_8 : Value) (u0_10 : Value) (u0_11 : Value) (u0_12 : Value) (u3_0 : Value) (u3_1 : Value) (u3_2 : Value) (u3_3 : Value) (u3_6 : Value) (u3_7 : Value) (u5_0 : Value) (u5_1 : Value) (u5_3 : Value) (v_told_size : Int32) (v_told_number : Nat → Int64) (v_folk_number : Int32) (v_folk_wanted : Nat → Int32) (v_paths_far : Nat → Int32) (p1 : Int32) (p2 : Int32) (r : Int32 × Int32 × (Nat → Int64) × (Nat → Int32)) (h : X10_way v_told_size v_told_number v_folk_number v_folk_wanted v_paths_far p1 p2 = some r) : Ct l yX10_way cX10_way 3 (some .int) 3 72 D cy [.ref q0, .int p1, .int p2] [oX10 q0 u0_0 (.ref q1) (.ref q3) u0_3 u0_4 u0_5 u0_6 u0_7 u0_8 (.ref q5) u0_10 u0_11 u0_12, oX2 q1 (.ref q2) (.int v_told_size), aJ cy q2 16 v_told_number, oX0 q3 u3_0 u3_1 u3_2 u3_3 (.ref q4) (.int v_folk_number) u3_6 u3_7, aI cy q4 7 v_folk_wanted, oX4 q5 u5_0 u5_1 (.ref q6) u5_3, aI cy q6 7 v_paths_far] (fun _ => [oX10 q0 u0_0 (.ref q1) (.ref q3) u0_3 u0_4 u0_5 u0_6 u0_7 u0_8 (.ref q5) u0_10 u0_11 u0_12, oX2 q1 (.ref q2) (.int r.2.1), aJ cy q2 16 r.2.2.1, oX0 q3 u3_0 u3_1 u3_2 u3_3 (.ref q4) (.int v_folk_number) u3_6 u3_7, aI cy q4 7 v_folk_wanted, oX4 q5 u5_0 u5_1 (.ref q6) u5_3, aI cy q6 7 r.2.2.2]) (some (.int r.1)) := by
  refine Ct.mk kX10_way (by decide +kernel) (Nat.le_of_ble_eq_true rfl) ?_
  intro p e s m below meth c A ls args R Q hRf hRl hQ E H locs hS hl
  have hx := E.x
  have hb := E.b
  have hl : lv_has ls 3 [(0, .ref q0), (1, .int p1), (2, .int p2)] := hl
  unfold X10_way at h
  refine lv_aload_n hx hb dX10_way_0 rfl (lv_at hl 0 rfl) ?_
  refine r_get E frX10_26 hS 0 rfl rfl dX10_way_1 ?_
  refine lv_iload_n hx hb dX10_way_4 rfl (lv_at hl 1 rfl) ?_
  refine ct_V (ws' := fun _ => [oX10 q0 u0_0 (.ref q1) (.ref q3) u0_3 u0_4 u0_5 u0_6 u0_7 u0_8 (.ref q5) u0_10 u0_11 u0_12, oX2 q1 (.ref q2) (.int v_told_size), aJ cy q2 16 v_told_number, oX0 q3 u3_0 u3_1 u3_2 u3_3 (.ref q4) (.int v_folk_number) u3_6 u3_7, aI cy q4 7 v_folk_wanted, oX4 q5 u5_0 u5_1 (.ref q6) u5_3, aI cy q6 7 v_paths_far]) (st' := [.int (X0_has v_folk_number p1)]) (rest := []) E hS vlX10_148 (c_X0_has (l := l) (D := D) (cy := cy) (q0 := q3) (u0_0 := u3_0) (u0_1 := u3_1) (u0_2 := u3_2) (u0_3 := u3_3) (u0_4 := .ref q4) (u0_6 := u3_6) (u0_7 := u3_7) (v_number := v_folk_number) (p1 := p1) (r := (X0_has v_folk_number p1)) rfl) [3] rfl rfl (fun _ => rfl) (fun _ => rfl) rfl rfl rfl rfl (Nat.le_of_ble_eq_true rfl) hl.1 (by rw [hRf]; exact Nat.le_of_ble_eq_true rfl) (by rw [hRl]; exact Nat.le_of_ble_eq_true rfl) ⟨Nat.zero_le _, Nat.zero_le _⟩ dX10_way_5 rfl (fun H locs _ hS => ?_)
  refine lv_if_eq (tgt := 42) hx hb dX10_way_8 (by decide) (fun c1 => ?_) (fun c1 => ?_)
  · have h := it_pos c1 h
    refine lv_iconst (v := -1) hx hb dX10_way_42 (by decide) ?_
    obtain rfl := Option.some.inj h
    exact rt_i E hQ (.null) hS dX10_way_43
  · have h := it_neg c1 h
    refine lv_aload_n hx hb dX10_way_11 rfl (lv_at hl 0 rfl) ?_
    refine r_get E frX10_26 hS 0 rfl rfl dX10_way_12 ?_
    refine lv_iload_n hx hb dX10_way_15 rfl (lv_at hl 2 rfl) ?_
    refine ct_V (ws' := fun _ => [oX10 q0 u0_0 (.ref q1) (.ref q3) u0_3 u0_4 u0_5 u0_6 u0_7 u0_8 (.ref q5) u0_10 u0_11 u0_12, oX2 q1 (.ref q2) (.int v_told_size), aJ cy q2 16 v_told_number, oX0 q3 u3_0 u3_1 u3_2 u3_3 (.ref q4) (.int v_folk_number) u3_6 u3_7, aI cy q4 7 v_folk_wanted, oX4 q5 u5_0 u5_1 (.ref q6) u5_3, aI cy q6 7 v_paths_far]) (st' := [.int (X0_has v_folk_number p2)]) (rest := []) E hS vlX10_148 (c_X0_has (l := l) (D := D) (cy := cy) (q0 := q3) (u0_0 := u3_0) (u0_1 := u3_1) (u0_2 := u3_2) (u0_3 := u3_3) (u0_4 := .ref q4) (u0_6 := u3_6) (u0_7 := u3_7) (v_number := v_folk_number) (p1 := p2) (r := (X0_has v_folk_number p2)) rfl) [3] rfl rfl (fun _ => rfl) (fun _ => rfl) rfl rfl rfl rfl (Nat.le_of_ble_eq_true rfl) hl.1 (by rw [hRf]; exact Nat.le_of_ble_eq_true rfl) (by rw [hRl]; exact Nat.le_of_ble_eq_true rfl) ⟨Nat.zero_le _, Nat.zero_le _⟩ dX10_way_16 rfl (fun H locs _ hS => ?_)
    refine lv_if_eq (tgt := 42) hx hb dX10_way_19 (by decide) (fun c2 => ?_) (fun c2 => ?_)
    · have h := it_pos c2 h
      refine lv_iconst (v := -1) hx hb dX10_way_42 (by decide) ?_
      obtain rfl := Option.some.inj h
      exact rt_i E hQ (.null) hS dX10_way_43
    · have h := it_neg c2 h
      refine lv_aload_n hx hb dX10_way_22 rfl (lv_at hl 0 rfl) ?_
      refine r_get E frX10_67 hS 0 rfl rfl dX10_way_23 ?_
      refine lv_aload_n hx hb dX10_way_26 rfl (lv_at hl 0 rfl) ?_
      refine r_get E frX10_26 hS 0 rfl rfl dX10_way_27 ?_
      refine lv_iload_n hx hb dX10_way_30 rfl (lv_at hl 1 rfl) ?_
      refine lv_iload_n hx hb dX10_way_31 rfl (lv_at hl 2 rfl) ?_
      refine lv_aload_n hx hb dX10_way_32 rfl (lv_at hl 0 rfl) ?_
      refine r_get E frX10_19 hS 0 rfl rfl dX10_way_33 ?_
      obtain ⟨y36, e3, h⟩ := bd_some h
      refine ct_V (ws' := fun _ => [oX10 q0 u0_0 (.ref q1) (.ref q3) u0_3 u0_4 u0_5 u0_6 u0_7 u0_8 (.ref q5) u0_10 u0_11 u0_12, oX2 q1 (.ref q2) (.int y36.2.2.1), aJ cy q2 16 y36.2.2.2, oX0 q3 u3_0 u3_1 u3_2 u3_3 (.ref q4) (.int v_folk_number) u3_6 u3_7, aI cy q4 7 v_folk_wanted, oX4 q5 u5_0 u5_1 (.ref q6) u5_3, aI cy q6 7 y36.2.1]) (st' := [.int y36.1]) (rest := []) E hS vlX10_307 (c_X4_tellsWay (l := l) (D := D) (cy := cy) (q0 := q5) (q1 := q6) (q2 := q3) (q3 := q4) (q4 := q1) (q5 := q2) (u0_0 := u5_0) (u0_1 := u5_1) (u0_3 := u5_3) (u2_0 := u3_0) (u2_1 := u3_1) (u2_2 := u3_2) (u2_3 := u3_3) (u2_6 := u3_6) (u2_7 := u3_7) (v_far := v_paths_far) (w1_number := v_folk_number) (w1_wanted := v_folk_wanted) (w4_size := v_told_size) (w4_number := v_told_number) (p2 := p1) (p3 := p2) (r := y36) e3) [5, 6, 3, 4, 1, 2] rfl rfl (fun _ => rfl) (fun _ => rfl) rfl rfl rfl rfl (Nat.le_of_ble_eq_true rfl) hl.1 (by rw [hRf]; exact Nat.le_of_ble_eq_true rfl) (by rw [hRl]; exact Nat.le_of_ble_eq_true rfl) ⟨Nat.zero_le _, Nat.zero_le _⟩ dX10_way_36 rfl (fun H locs _ hS => ?_)
      refine lv_goto (tgt := 43) hx hb dX10_way_39 (by decide) ?_
      obtain rfl := Option.some.inj h
      exact rt_i E hQ (.null) hS dX10_way_43
set_option maxHeartbeats 4000000 in
set_option maxRecDepth 100000 in
theorem c_X10_heard {l : Launch} {D : va_G} {cy : Nat → ClassId} (q0 : Nat) (q1 : Nat) (q2 : Nat) (q3 : Nat) (u0_0 : Value) (u0_1 : Value) (u0_2 : Value) (u0_3 : Value) (u0_4 : Value) (u0_5 : Value) (u0_6 : Value) (u0_7 : Value) (u0_8 : Value) (u0_9 : Value) (u0_11 : Value) (u0_12 : Value) (v_hearsay_size : Int32) (v_hearsay_what : Nat → Int32) (v_hearsay_value : Nat → Int32) (p1 : Int32) (p2 : Int32) (r : Int32 × Int32 × (Nat → Int32) × (Nat → Int32)) (h : X10_heard v_hearsay_size v_hearsay_what v_hearsay_value p1 p2 = some r) : Ct l yX10_heard cX10_heard 3 (some .int) 3 63 D cy [.ref q0, .int p1, .int p2] [oX10 q0 u0_0 u0_1 u0_2 u0_3 u0_4 u0_5 u0_6 u0_7 u0_8 u0_9 (.ref q1) u0_11 u0_12, oX1 q1 (.ref q2) (.ref q3) (.int v_hearsay_size), aI cy q2 12 v_hearsay_what, aI cy q3 12 v_hearsay_value] (fun _ => [oX10 q0 u0_0 u0_1 u0_2 u0_3 u0_4 u0_5 u0_6 u0_7 u0_8 u0_9 (.ref q1) u0_11 u0_12, oX1 q1 (.ref q2) (.ref q3) (.int r.2.1), aI cy q2 12 r.2.2.1, aI cy q3 12 r.2.2.2]) (some (.int r.1)) := by
  refine Ct.mk kX10_heard (by decide +kernel) (Nat.le_of_ble_eq_true rfl) ?_
  intro p e s m below meth c A ls args R Q hRf hRl hQ E H locs hS hl
  have hx := E.x
  have hb := E.b
  have hl : lv_has ls 3 [(0, .ref q0), (1, .int p1), (2, .int p2)] := hl
  unfold X10_heard at h
  refine lv_aload_n hx hb dX10_heard_0 rfl (lv_at hl 0 rfl) ?_
  refine r_get E frX10_74 hS 0 rfl rfl dX10_heard_1 ?_
  refine lv_iload_n hx hb dX10_heard_4 rfl (lv_at hl 1 rfl) ?_
  refine lv_iload_n hx hb dX10_heard_5 rfl (lv_at hl 2 rfl) ?_
  obtain ⟨y6, e1, h⟩ := bd_some h
  refine ct_V (ws' := fun _ => [oX10 q0 u0_0 u0_1 u0_2 u0_3 u0_4 u0_5 u0_6 u0_7 u0_8 u0_9 (.ref q1) u0_11 u0_12, oX1 q1 (.ref q2) (.ref q3) (.int y6.2.1), aI cy q2 12 y6.2.2.1, aI cy q3 12 y6.2.2.2]) (st' := [.int y6.1]) (rest := []) E hS vlX10_311 (c_X1_takes (l := l) (D := D) (cy := cy) (q0 := q1) (q1 := q2) (q2 := q3) (v_size := v_hearsay_size) (v_what := v_hearsay_what) (v_value := v_hearsay_value) (p1 := p1) (p2 := p2) (r := y6) e1) [1, 2, 3] rfl rfl (fun _ => rfl) (fun _ => rfl) rfl rfl rfl rfl (Nat.le_of_ble_eq_true rfl) hl.1 (by rw [hRf]; exact Nat.le_of_ble_eq_true rfl) (by rw [hRl]; exact Nat.le_of_ble_eq_true rfl) ⟨Nat.zero_le _, Nat.zero_le _⟩ dX10_heard_6 rfl (fun H locs _ hS => ?_)
  have hJ23 : ∀ (s23_0 : Int32) (ls : Array Slot), s23_0 = (if y6.1 = 0 then (-1 : Int32) else y6.2.1) → lv_has ls 3 [] → W p l e R s m args below meth c H locs 0 0 Q (F0 m 23 ls [.int s23_0]) := by
    intro s23_0 ls es23_0 hl
    subst es23_0
    obtain rfl := Option.some.inj h
    exact rt_i E hQ (.null) hS dX10_heard_23
  refine lv_if_eq (tgt := 22) hx hb dX10_heard_9 (by decide) (fun c2 => ?_) (fun c2 => ?_)
  · refine lv_iconst (v := -1) hx hb dX10_heard_22 (by decide) ?_
    exact hJ23 _ ls ((if_pos c2)).symm (lv_sub hl [] rfl)
  · refine lv_aload_n hx hb dX10_heard_12 rfl (lv_at hl 0 rfl) ?_
    refine r_get E frX10_74 hS 0 rfl rfl dX10_heard_13 ?_
    refine r_get E frX10_314 hS 1 rfl rfl dX10_heard_16 ?_
    refine lv_goto (tgt := 23) hx hb dX10_heard_19 (by decide) ?_
    exact hJ23 _ ls ((if_neg c2)).symm (lv_sub hl [] rfl)
set_option maxHeartbeats 4000000 in
set_option maxRecDepth 100000 in
theorem c_X10_forget {l : Launch} {D : va_G} {cy : Nat → ClassId} (q0 : Nat) (q1 : Nat) (u0_0 : Value) (u0_1 : Value) (u0_2 : Value) (u0_3 : Value) (u0_4 : Value) (u0_5 : Value) (u0_6 : Value) (u0_7 : Value) (u0_8 : Value) (u0_9 : Value) (u0_11 : Value) (u0_12 : Value) (u1_0 : Value) (u1_1 : Value) (v_hearsay_size : Int32) (r : Int32 × Int32) (h : X10_forget v_hearsay_size = r) : Ct l yX10_forget cX10_forget 1 (some .int) 1 21 D cy [.ref q0] [oX10 q0 u0_0 u0_1 u0_2 u0_3 u0_4 u0_5 u0_6 u0_7 u0_8 u0_9 (.ref q1) u0_11 u0_12, oX1 q1 u1_0 u1_1 (.int v_hearsay_size)] (fun _ => [oX10 q0 u0_0 u0_1 u0_2 u0_3 u0_4 u0_5 u0_6 u0_7 u0_8 u0_9 (.ref q1) u0_11 u0_12, oX1 q1 u1_0 u1_1 (.int r.2)]) (some (.int r.1)) := by
  refine Ct.mk kX10_forget (by decide +kernel) (Nat.le_of_ble_eq_true rfl) ?_
  intro p e s m below meth c A ls args R Q hRf hRl hQ E H locs hS hl
  have hx := E.x
  have hb := E.b
  have hl : lv_has ls 1 [(0, .ref q0)] := hl
  unfold X10_forget at h
  refine lv_aload_n hx hb dX10_forget_0 rfl (lv_at hl 0 rfl) ?_
  refine r_get E frX10_74 hS 0 rfl rfl dX10_forget_1 ?_
  refine ct_V (ws' := fun _ => [oX10 q0 u0_0 u0_1 u0_2 u0_3 u0_4 u0_5 u0_6 u0_7 u0_8 u0_9 (.ref q1) u0_11 u0_12, oX1 q1 u1_0 u1_1 (.int ((X1_empties v_hearsay_size).2))]) (st' := [.int (X1_empties v_hearsay_size).1]) (rest := []) E hS vlX10_315 (c_X1_empties (l := l) (D := D) (cy := cy) (q0 := q1) (u0_0 := u1_0) (u0_1 := u1_1) (v_size := v_hearsay_size) (r := (X1_empties v_hearsay_size)) rfl) [1] rfl rfl (fun _ => rfl) (fun _ => rfl) rfl rfl rfl rfl (Nat.le_of_ble_eq_true rfl) hl.1 (by rw [hRf]; exact Nat.le_of_ble_eq_true rfl) (by rw [hRl]; exact Nat.le_of_ble_eq_true rfl) ⟨Nat.zero_le _, Nat.zero_le _⟩ dX10_forget_4 rfl (fun H locs _ hS => ?_)
  subst h
  exact rt_i E hQ (.null) hS dX10_forget_7
set_option maxHeartbeats 4000000 in
set_option maxRecDepth 100000 in
theorem c_X10_fits {l : Launch} {D : va_G} {cy : Nat → ClassId} (q0 : Nat) (q1 : Nat) (q2 : Nat) (q3 : Nat) (q4 : Nat) (q5 : Nat) (q6 : Nat) (q7 : Nat) (q8 : Nat) (q9 : Nat) (q10 : Nat) (q11 : Nat) (q12 : Nat) (q13 : Nat) (q14 : Nat) (u0_0 : Value) (u0_3 : Value) (u0_4 : Value) (u0_5 : Value) (u0_7 : Value) (u0_8 : Value) (u0_9 : Value) (u0_11 : Value) (u0_12 : Value) (u3_3 : Value) (u3_7 : Value) (v_told_size : Int32) (v_told_number : Nat → Int64) (v_folk_number : Int32) (v_folk_day : Int32) (v_folk_skill : Nat → Int32) (v_folk_pills : Nat → Int32) (v_folk_slept : Nat → Int32) (v_folk_wanted : Nat → Int32) (v_inForce_size : Int32) (v_inForce_code : Nat → Int32) (v_inForce_stack : Nat → Int32) (v_inForce_thing : Nat → Int32) (v_hearsay_size : Int32) (v_hearsay_what : Nat → Int32) (v_hearsay_value : Nat → Int32) (r : Int32 × Int32 × (Nat → Int64) × (Nat → Int32) × (Nat → Int32)) (h : X10_fits v_told_number v_folk_number v_folk_day v_folk_skill v_folk_pills v_folk_slept v_folk_wanted v_inForce_size v_inForce_code v_inForce_stack v_inForce_thing v_hearsay_size v_hearsay_what v_hearsay_value = some r) : Ct l yX10_fits cX10_fits 2 (some .int) 4 94 D cy [.ref q0] [oX10 q0 u0_0 (.ref q1) (.ref q3) u0_3 u0_4 u0_5 (.ref q8) u0_7 u0_8 u0_9 (.ref q12) u0_11 u0_12, oX2 q1 (.ref q2) (.int v_told_size), aJ cy q2 16 v_told_number, oX0 q3 (.ref q4) (.ref q5) (.ref q6) u3_3 (.ref q7) (.int v_folk_number) (.int v_folk_day) u3_7, aI cy q4 7 v_folk_skill, aI cy q5 7 v_folk_pills, aI cy q6 7 v_folk_slept, aI cy q7 7 v_folk_wanted, oX5 q8 (.ref q9) (.ref q10) (.ref q11) (.int v_inForce_size), aI cy q9 40 v_inForce_code, aI cy q10 40 v_inForce_stack, aI cy q11 7 v_inForce_thing, oX1 q12 (.ref q13) (.ref q14) (.int v_hearsay_size), aI cy q13 12 v_hearsay_what, aI cy q14 12 v_hearsay_value] (fun _ => [oX10 q0 u0_0 (.ref q1) (.ref q3) u0_3 u0_4 u0_5 (.ref q8) u0_7 u0_8 u0_9 (.ref q12) u0_11 u0_12, oX2 q1 (.ref q2) (.int r.2.1), aJ cy q2 16 r.2.2.1, oX0 q3 (.ref q4) (.ref q5) (.ref q6) u3_3 (.ref q7) (.int v_folk_number) (.int v_folk_day) u3_7, aI cy q4 7 v_folk_skill, aI cy q5 7 v_folk_pills, aI cy q6 7 v_folk_slept, aI cy q7 7 v_folk_wanted, oX5 q8 (.ref q9) (.ref q10) (.ref q11) (.int v_inForce_size), aI cy q9 40 v_inForce_code, aI cy q10 40 r.2.2.2.1, aI cy q11 7 r.2.2.2.2, oX1 q12 (.ref q13) (.ref q14) (.int v_hearsay_size), aI cy q13 12 v_hearsay_what, aI cy q14 12 v_hearsay_value]) (some (.int r.1)) := by
  refine Ct.mk kX10_fits (by decide +kernel) (Nat.le_of_ble_eq_true rfl) ?_
  intro p e s m below meth c A ls args R Q hRf hRl hQ E H locs hS hl
  have hx := E.x
  have hb := E.b
  have hl : lv_has ls 2 [(0, .ref q0)] := hl
  unfold X10_fits at h
  refine lv_aload_n hx hb dX10_fits_0 rfl (lv_at hl 0 rfl) ?_
  refine r_get E frX10_74 hS 0 rfl rfl dX10_fits_1 ?_
  refine lv_aload_n hx hb dX10_fits_4 rfl (lv_at hl 0 rfl) ?_
  refine r_get E frX10_26 hS 0 rfl rfl dX10_fits_5 ?_
  refine lv_aload_n hx hb dX10_fits_8 rfl (lv_at hl 0 rfl) ?_
  refine r_get E frX10_50 hS 0 rfl rfl dX10_fits_9 ?_
  refine lv_aload_n hx hb dX10_fits_12 rfl (lv_at hl 0 rfl) ?_
  refine r_get E frX10_26 hS 0 rfl rfl dX10_fits_13 ?_
  obtain ⟨y16, e1, h⟩ := bd_some h
  refine ct_V (ws' := fun _ => [oX10 q0 u0_0 (.ref q1) (.ref q3) u0_3 u0_4 u0_5 (.ref q8) u0_7 u0_8 u0_9 (.ref q12) u0_11 u0_12, oX2 q1 (.ref q2) (.int v_told_size), aJ cy q2 16 v_told_number, oX0 q3 (.ref q4) (.ref q5) (.ref q6) u3_3 (.ref q7) (.int v_folk_number) (.int v_folk_day) u3_7, aI cy q4 7 v_folk_skill, aI cy q5 7 v_folk_pills, aI cy q6 7 v_folk_slept, aI cy q7 7 v_folk_wanted, oX5 q8 (.ref q9) (.ref q10) (.ref q11) (.int v_inForce_size), aI cy q9 40 v_inForce_code, aI cy q10 40 y16.2.1, aI cy q11 7 y16.2.2, oX1 q12 (.ref q13) (.ref q14) (.int v_hearsay_size), aI cy q13 12 v_hearsay_what, aI cy q14 12 v_hearsay_value]) (st' := [.int y16.1, .ref q3, .ref q12]) (rest := [.ref q3, .ref q12]) E hS vlX10_234 (c_X5_wakers (l := l) (D := D) (cy := cy) (q0 := q8) (q1 := q9) (q2 := q10) (q3 := q11) (q4 := q3) (q5 := q4) (q6 := q5) (q7 := q6) (q8 := q7) (u4_3 := u3_3) (u4_7 := u3_7) (v_size := v_inForce_size) (v_code := v_inForce_code) (v_stack := v_inForce_stack) (v_thing := v_inForce_thing) (w1_number := v_folk_number) (w1_day := v_folk_day) (w1_skill := v_folk_skill) (w1_pills := v_folk_pills) (w1_slept := v_folk_slept) (w1_wanted := v_folk_wanted) (r := y16) e1) [8, 9, 10, 11, 3, 4, 5, 6, 7] rfl rfl (fun _ => rfl) (fun _ => rfl) rfl rfl rfl rfl (Nat.le_of_ble_eq_true rfl) hl.1 (by rw [hRf]; exact Nat.le_of_ble_eq_true rfl) (by rw [hRl]; exact Nat.le_of_ble_eq_true rfl) ⟨Nat.zero_le _, Nat.zero_le _⟩ dX10_fits_16 rfl (fun H locs _ hS => ?_)
  obtain ⟨y19, e2, h⟩ := bd_some h
  refine ct_V (ws' := fun _ => [oX10 q0 u0_0 (.ref q1) (.ref q3) u0_3 u0_4 u0_5 (.ref q8) u0_7 u0_8 u0_9 (.ref q12) u0_11 u0_12, oX2 q1 (.ref q2) (.int v_told_size), aJ cy q2 16 v_told_number, oX0 q3 (.ref q4) (.ref q5) (.ref q6) u3_3 (.ref q7) (.int v_folk_number) (.int v_folk_day) u3_7, aI cy q4 7 v_folk_skill, aI cy q5 7 v_folk_pills, aI cy q6 7 v_folk_slept, aI cy q7 7 v_folk_wanted, oX5 q8 (.ref q9) (.ref q10) (.ref q11) (.int v_inForce_size), aI cy q9 40 v_inForce_code, aI cy q10 40 y16.2.1, aI cy q11 7 y16.2.2, oX1 q12 (.ref q13) (.ref q14) (.int v_hearsay_size), aI cy q13 12 v_hearsay_what, aI cy q14 12 v_hearsay_value]) (st' := [.int y19]) (rest := []) E hS vlX10_317 (c_X1_fitting (l := l) (D := D) (cy := cy) (q0 := q12) (q1 := q13) (q2 := q14) (q3 := q3) (q4 := q4) (q5 := q6) (q6 := q7) (u3_1 := .ref q5) (u3_3 := u3_3) (u3_6 := .int v_folk_day) (u3_7 := u3_7) (v_size := v_hearsay_size) (v_what := v_hearsay_what) (v_value := v_hearsay_value) (w1_number := v_folk_number) (w1_skill := v_folk_skill) (w1_slept := v_folk_slept) (w1_wanted := v_folk_wanted) (p2 := y16.1) (r := y19) e2) [12, 13, 14, 3, 4, 6, 7] rfl rfl (fun _ => rfl) (fun _ => rfl) rfl rfl rfl rfl (Nat.le_of_ble_eq_true rfl) hl.1 (by rw [hRf]; exact Nat.le_of_ble_eq_true rfl) (by rw [hRl]; exact Nat.le_of_ble_eq_true rfl) ⟨Nat.zero_le _, Nat.zero_le _⟩ dX10_fits_19 rfl (fun H locs _ hS => ?_)
  refine lv_istore_n (lv' := [(1, .int y19), (0, .ref q0)]) hx hb dX10_fits_22 rfl hl (by decide) rfl (fun ls hl => ?_)
  refine lv_aload_n hx hb dX10_fits_23 rfl (lv_at hl 1 rfl) ?_
  refine r_get E frX10_19 hS 0 rfl rfl dX10_fits_24 ?_
  refine lv_iload_n hx hb dX10_fits_27 rfl (lv_at hl 0 rfl) ?_
  refine ct_S (ws' := fun _ => [oX10 q0 u0_0 (.ref q1) (.ref q3) u0_3 u0_4 u0_5 (.ref q8) u0_7 u0_8 u0_9 (.ref q12) u0_11 u0_12, oX2 q1 (.ref q2) (.int v_told_size), aJ cy q2 16 v_told_number, oX0 q3 (.ref q4) (.ref q5) (.ref q6) u3_3 (.ref q7) (.int v_folk_number) (.int v_folk_day) u3_7, aI cy q4 7 v_folk_skill, aI cy q5 7 v_folk_pills, aI cy q6 7 v_folk_slept, aI cy q7 7 v_folk_wanted, oX5 q8 (.ref q9) (.ref q10) (.ref q11) (.int v_inForce_size), aI cy q9 40 v_inForce_code, aI cy q10 40 y16.2.1, aI cy q11 7 y16.2.2, oX1 q12 (.ref q13) (.ref q14) (.int v_hearsay_size), aI cy q13 12 v_hearsay_what, aI cy q14 12 v_hearsay_value]) (st' := [.int (J6_bitCount_0f7a4 y19), .ref q1]) (rest := [.ref q1]) E hS slX10_241 (c_J6_bitCount_0f7a4 (l := l) (D := D) (cy := cy) (p0 := y19) (r := (J6_bitCount_0f7a4 y19)) rfl) [] rfl rfl (fun _ => rfl) (fun _ => rfl) rfl rfl (Nat.le_of_ble_eq_true rfl) hl.1 (by rw [hRf]; exact Nat.le_of_ble_eq_true rfl) (by rw [hRl]; exact Nat.le_of_ble_eq_true rfl) ⟨Nat.zero_le _, Nat.zero_le _⟩ dX10_fits_28 rfl (fun H locs _ hS => ?_)
  refine lv_i2l (v := ((J6_bitCount_0f7a4 y19).toInt64)) hx hb dX10_fits_31 rfl ?_
  obtain ⟨y32, e3, h⟩ := bd_some h
  refine ct_V (ws' := fun _ => [oX10 q0 u0_0 (.ref q1) (.ref q3) u0_3 u0_4 u0_5 (.ref q8) u0_7 u0_8 u0_9 (.ref q12) u0_11 u0_12, oX2 q1 (.ref q2) (.int y32.1), aJ cy q2 16 y32.2, oX0 q3 (.ref q4) (.ref q5) (.ref q6) u3_3 (.ref q7) (.int v_folk_number) (.int v_folk_day) u3_7, aI cy q4 7 v_folk_skill, aI cy q5 7 v_folk_pills, aI cy q6 7 v_folk_slept, aI cy q7 7 v_folk_wanted, oX5 q8 (.ref q9) (.ref q10) (.ref q11) (.int v_inForce_size), aI cy q9 40 v_inForce_code, aI cy q10 40 y16.2.1, aI cy q11 7 y16.2.2, oX1 q12 (.ref q13) (.ref q14) (.int v_hearsay_size), aI cy q13 12 v_hearsay_what, aI cy q14 12 v_hearsay_value]) (st' := []) (rest := []) E hS vlX10_255 (c_X2_tellsOne (l := l) (D := D) (cy := cy) (q0 := q1) (q1 := q2) (v_size := v_told_size) (v_number := v_told_number) (p1 := ((J6_bitCount_0f7a4 y19).toInt64)) (r := y32) e3) [1, 2] rfl rfl (fun _ => rfl) (fun _ => rfl) rfl rfl rfl rfl (Nat.le_of_ble_eq_true rfl) hl.1 (by rw [hRf]; exact Nat.le_of_ble_eq_true rfl) (by rw [hRl]; exact Nat.le_of_ble_eq_true rfl) ⟨Nat.zero_le _, Nat.zero_le _⟩ dX10_fits_32 rfl (fun H locs _ hS => ?_)
  refine lv_iload_n hx hb dX10_fits_35 rfl (lv_at hl 0 rfl) ?_
  obtain rfl := Option.some.inj h
  exact rt_i E hQ (.null) hS dX10_fits_36
set_option maxHeartbeats 4000000 in
set_option maxRecDepth 100000 in
theorem c_X10_asks {l : Launch} {D : va_G} {cy : Nat → ClassId} (q0 : Nat) (q1 : Nat) (q2 : Nat) (q3 : Nat) (q4 : Nat) (q5 : Nat) (q6 : Nat) (q7 : Nat) (q8 : Nat) (q9 : Nat) (q10 : Nat) (q11 : Nat) (q12 : Nat) (q13 : Nat) (q14 : Nat) (u0_0 : Value) (u0_3 : Value) (u0_4 : Value) (u0_5 : Value) (u0_7 : Value) (u0_8 : Value) (u0_9 : Value) (u0_11 : Value) (u0_12 : Value) (u3_3 : Value) (u3_7 : Value) (v_told_size : Int32) (v_told_number : Nat → Int64) (v_folk_number : Int32) (v_folk_day : Int32) (v_folk_skill : Nat → Int32) (v_folk_pills : Nat → Int32) (v_folk_slept : Nat → Int32) (v_folk_wanted : Nat → Int32) (v_inForce_size : Int32) (v_inForce_code : Nat → Int32) (v_inForce_stack : Nat → Int32) (v_inForce_thing : Nat → Int32) (v_hearsay_size : Int32) (v_hearsay_what : Nat → Int32) (v_hearsay_value : Nat → Int32) (r : Int32 × Int32 × (Nat → Int64) × (Nat → Int32) × (Nat → Int32)) (h : X10_asks v_told_size v_told_number v_folk_number v_folk_day v_folk_skill v_folk_pills v_folk_slept v_folk_wanted v_inForce_size v_inForce_code v_inForce_stack v_inForce_thing v_hearsay_size v_hearsay_what v_hearsay_value = some r) : Ct l yX10_asks cX10_asks 9 (some .int) 4 94 D cy [.ref q0] [oX10 q0 u0_0 (.ref q1) (.ref q3) u0_3 u0_4 u0_5 (.ref q8) u0_7 u0_8 u0_9 (.ref q12) u0_11 u0_12, oX2 q1 (.ref q2) (.int v_told_size), aJ cy q2 16 v_told_number, oX0 q3 (.ref q4) (.ref q5) (.ref q6) u3_3 (.ref q7) (.int v_folk_number) (.int v_folk_day) u3_7, aI cy q4 7 v_folk_skill, aI cy q5 7 v_folk_pills, aI cy q6 7 v_folk_slept, aI cy q7 7 v_folk_wanted, oX5 q8 (.ref q9) (.ref q10) (.ref q11) (.int v_inForce_size), aI cy q9 40 v_inForce_code, aI cy q10 40 v_inForce_stack, aI cy q11 7 v_inForce_thing, oX1 q12 (.ref q13) (.ref q14) (.int v_hearsay_size), aI cy q13 12 v_hearsay_what, aI cy q14 12 v_hearsay_value] (fun _ => [oX10 q0 u0_0 (.ref q1) (.ref q3) u0_3 u0_4 u0_5 (.ref q8) u0_7 u0_8 u0_9 (.ref q12) u0_11 u0_12, oX2 q1 (.ref q2) (.int r.2.1), aJ cy q2 16 r.2.2.1, oX0 q3 (.ref q4) (.ref q5) (.ref q6) u3_3 (.ref q7) (.int v_folk_number) (.int v_folk_day) u3_7, aI cy q4 7 v_folk_skill, aI cy q5 7 v_folk_pills, aI cy q6 7 v_folk_slept, aI cy q7 7 v_folk_wanted, oX5 q8 (.ref q9) (.ref q10) (.ref q11) (.int v_inForce_size), aI cy q9 40 v_inForce_code, aI cy q10 40 r.2.2.2.1, aI cy q11 7 r.2.2.2.2, oX1 q12 (.ref q13) (.ref q14) (.int v_hearsay_size), aI cy q13 12 v_hearsay_what, aI cy q14 12 v_hearsay_value]) (some (.int r.1)) := by
  refine Ct.mk kX10_asks (by decide +kernel) (Nat.le_of_ble_eq_true rfl) ?_
  intro p e s m below meth c A ls args R Q hRf hRl hQ E H locs hS hl
  have hx := E.x
  have hb := E.b
  have hl : lv_has ls 9 [(0, .ref q0)] := hl
  unfold X10_asks at h
  refine lv_aload_n hx hb dX10_asks_0 rfl (lv_at hl 0 rfl) ?_
  refine r_get E frX10_50 hS 0 rfl rfl dX10_asks_1 ?_
  refine lv_aload_n hx hb dX10_asks_4 rfl (lv_at hl 0 rfl) ?_
  refine r_get E frX10_26 hS 0 rfl rfl dX10_asks_5 ?_
  obtain ⟨y8, e1, h⟩ := bd_some h
  refine ct_V (ws' := fun _ => [oX10 q0 u0_0 (.ref q1) (.ref q3) u0_3 u0_4 u0_5 (.ref q8) u0_7 u0_8 u0_9 (.ref q12) u0_11 u0_12, oX2 q1 (.ref q2) (.int v_told_size), aJ cy q2 16 v_told_number, oX0 q3 (.ref q4) (.ref q5) (.ref q6) u3_3 (.ref q7) (.int v_folk_number) (.int v_folk_day) u3_7, aI cy q4 7 v_folk_skill, aI cy q5 7 v_folk_pills, aI cy q6 7 v_folk_slept, aI cy q7 7 v_folk_wanted, oX5 q8 (.ref q9) (.ref q10) (.ref q11) (.int v_inForce_size), aI cy q9 40 v_inForce_code, aI cy q10 40 y8.2.1, aI cy q11 7 y8.2.2, oX1 q12 (.ref q13) (.ref q14) (.int v_hearsay_size), aI cy q13 12 v_hearsay_what, aI cy q14 12 v_hearsay_value]) (st' := [.int y8.1]) (rest := []) E hS vlX10_234 (c_X5_wakers (l := l) (D := D) (cy := cy) (q0 := q8) (q1 := q9) (q2 := q10) (q3 := q11) (q4 := q3) (q5 := q4) (q6 := q5) (q7 := q6) (q8 := q7) (u4_3 := u3_3) (u4_7 := u3_7) (v_size := v_inForce_size) (v_code := v_inForce_code) (v_stack := v_inForce_stack) (v_thing := v_inForce_thing) (w1_number := v_folk_number) (w1_day := v_folk_day) (w1_skill := v_folk_skill) (w1_pills := v_folk_pills) (w1_slept := v_folk_slept) (w1_wanted := v_folk_wanted) (r := y8) e1) [8, 9, 10, 11, 3, 4, 5, 6, 7] rfl rfl (fun _ => rfl) (fun _ => rfl) rfl rfl rfl rfl (Nat.le_of_ble_eq_true rfl) hl.1 (by rw [hRf]; exact Nat.le_of_ble_eq_true rfl) (by rw [hRl]; exact Nat.le_of_ble_eq_true rfl) ⟨Nat.zero_le _, Nat.zero_le _⟩ dX10_asks_8 rfl (fun H locs _ hS => ?_)
  refine lv_istore_n (lv' := [(1, .int y8.1), (0, .ref q0)]) hx hb dX10_asks_11 rfl hl (by decide) rfl (fun ls hl => ?_)
  refine lv_aload_n hx hb dX10_asks_12 rfl (lv_at hl 1 rfl) ?_
  refine r_get E frX10_74 hS 0 rfl rfl dX10_asks_13 ?_
  refine lv_aload_n hx hb dX10_asks_16 rfl (lv_at hl 1 rfl) ?_
  refine r_get E frX10_26 hS 0 rfl rfl dX10_asks_17 ?_
  refine lv_iload_n hx hb dX10_asks_20 rfl (lv_at hl 0 rfl) ?_
  obtain ⟨y21, e2, h⟩ := bd_some h
  refine ct_V (ws' := fun _ => [oX10 q0 u0_0 (.ref q1) (.ref q3) u0_3 u0_4 u0_5 (.ref q8) u0_7 u0_8 u0_9 (.ref q12) u0_11 u0_12, oX2 q1 (.ref q2) (.int v_told_size), aJ cy q2 16 v_told_number, oX0 q3 (.ref q4) (.ref q5) (.ref q6) u3_3 (.ref q7) (.int v_folk_number) (.int v_folk_day) u3_7, aI cy q4 7 v_folk_skill, aI cy q5 7 v_folk_pills, aI cy q6 7 v_folk_slept, aI cy q7 7 v_folk_wanted, oX5 q8 (.ref q9) (.ref q10) (.ref q11) (.int v_inForce_size), aI cy q9 40 v_inForce_code, aI cy q10 40 y8.2.1, aI cy q11 7 y8.2.2, oX1 q12 (.ref q13) (.ref q14) (.int v_hearsay_size), aI cy q13 12 v_hearsay_what, aI cy q14 12 v_hearsay_value]) (st' := [.int y21]) (rest := []) E hS vlX10_317 (c_X1_fitting (l := l) (D := D) (cy := cy) (q0 := q12) (q1 := q13) (q2 := q14) (q3 := q3) (q4 := q4) (q5 := q6) (q6 := q7) (u3_1 := .ref q5) (u3_3 := u3_3) (u3_6 := .int v_folk_day) (u3_7 := u3_7) (v_size := v_hearsay_size) (v_what := v_hearsay_what) (v_value := v_hearsay_value) (w1_number := v_folk_number) (w1_skill := v_folk_skill) (w1_slept := v_folk_slept) (w1_wanted := v_folk_wanted) (p2 := y8.1) (r := y21) e2) [12, 13, 14, 3, 4, 6, 7] rfl rfl (fun _ => rfl) (fun _ => rfl) rfl rfl rfl rfl (Nat.le_of_ble_eq_true rfl) hl.1 (by rw [hRf]; exact Nat.le_of_ble_eq_true rfl) (by rw [hRl]; exact Nat.le_of_ble_eq_true rfl) ⟨Nat.zero_le _, Nat.zero_le _⟩ dX10_asks_21 rfl (fun H locs _ hS => ?_)
  refine lv_istore_n (lv' := [(2, .int y21), (1, .int y8.1), (0, .ref q0)]) hx hb dX10_asks_24 rfl hl (by decide) rfl (fun ls hl => ?_)
  refine lv_iload_n hx hb dX10_asks_25 rfl (lv_at hl 0 rfl) ?_
  refine lv_if_ne (tgt := 32) hx hb dX10_asks_26 (by decide) (fun c3 => ?_) (fun c3 => ?_)
  · have h := it_neg c3 h
    refine lv_iconst (v := 0) hx hb dX10_asks_32 (by decide) ?_
    refine lv_istore_n (lv' := [(3, .int (0 : Int32)), (2, .int y21), (1, .int y8.1), (0, .ref q0)]) hx hb dX10_asks_33 rfl hl (by decide) rfl (fun ls hl => ?_)
    refine lv_bipush (v := 8) hx hb dX10_asks_34 (by decide) ?_
    refine lv_istore (lv' := [(4, .int (8 : Int32)), (3, .int (0 : Int32)), (2, .int y21), (1, .int y8.1), (0, .ref q0)]) hx hb dX10_asks_36 hl (by decide) rfl (fun ls hl => ?_)
    refine lv_iconst (v := 0) hx hb dX10_asks_38 (by decide) ?_
    refine lv_istore (lv' := [(5, .int (0 : Int32)), (4, .int (8 : Int32)), (3, .int (0 : Int32)), (2, .int y21), (1, .int y8.1), (0, .ref q0)]) hx hb dX10_asks_39 hl (by decide) rfl (fun ls hl => ?_)
    have hL41 : ∀ (n : Nat) (x41_0 : Int32) (x41_1 : Int32) (x41_2 : Int32) (y41 : Int32 × Int32) (H : Heap) (locs : List Loc) (ls : Array Slot), lp (fun x41 => X10_asks_s41 v_folk_number v_folk_skill v_folk_slept v_folk_wanted y8 y21 x41.1 x41.2.1 x41.2.2) n (x41_0, x41_1, x41_2) = some y41 → Sv D A s.heap [oX10 q0 u0_0 (.ref q1) (.ref q3) u0_3 u0_4 u0_5 (.ref q8) u0_7 u0_8 u0_9 (.ref q12) u0_11 u0_12, oX2 q1 (.ref q2) (.int v_told_size), aJ cy q2 16 v_told_number, oX0 q3 (.ref q4) (.ref q5) (.ref q6) u3_3 (.ref q7) (.int v_folk_number) (.int v_folk_day) u3_7, aI cy q4 7 v_folk_skill, aI cy q5 7 v_folk_pills, aI cy q6 7 v_folk_slept, aI cy q7 7 v_folk_wanted, oX5 q8 (.ref q9) (.ref q10) (.ref q11) (.int v_inForce_size), aI cy q9 40 v_inForce_code, aI cy q10 40 y8.2.1, aI cy q11 7 y8.2.2, oX1 q12 (.ref q13) (.ref q14) (.int v_hearsay_size), aI cy q13 12 v_hearsay_what, aI cy q14 12 v_hearsay_value] H locs → lv_has ls 9 [(0, .ref q0), (1, .int y8.1), (2, .int y21), (3, .int x41_0), (4, .int x41_1), (5, .int x41_2)] → ( ∀ (y41_0 : Int32) (y41_1 : Int32), (y41_0, y41_1) = y41 → ∀ (H : Heap) (locs : List Loc) (ls : Array Slot), Sv D A s.heap [oX10 q0 u0_0 (.ref q1) (.ref q3) u0_3 u0_4 u0_5 (.ref q8) u0_7 u0_8 u0_9 (.ref q12) u0_11 u0_12, oX2 q1 (.ref q2) (.int v_told_size), aJ cy q2 16 v_told_number, oX0 q3 (.ref q4) (.ref q5) (.ref q6) u3_3 (.ref q7) (.int v_folk_number) (.int v_folk_day) u3_7, aI cy q4 7 v_folk_skill, aI cy q5 7 v_folk_pills, aI cy q6 7 v_folk_slept, aI cy q7 7 v_folk_wanted, oX5 q8 (.ref q9) (.ref q10) (.ref q11) (.int v_inForce_size), aI cy q9 40 v_inForce_code, aI cy q10 40 y8.2.1, aI cy q11 7 y8.2.2, oX1 q12 (.ref q13) (.ref q14) (.int v_hearsay_size), aI cy q13 12 v_hearsay_what, aI cy q14 12 v_hearsay_value] H locs → lv_has ls 9 [(0, .ref q0), (3, .int y41_0), (4, .int y41_1)] → W p l e R s m args below meth c H locs 0 0 Q (F0 m 132 ls [])) → W p l e R s m args below meth c H locs 0 0 Q (F0 m 41 ls []) := by
      intro n
      induction n with
      | zero =>
        intro x41_0 x41_1 x41_2 y41 H locs ls h
        exact lp_zero h
      | succ n ih41 =>
        intro x41_0 x41_1 x41_2 y41 H locs ls h hS hl hk41_0
        obtain ⟨z41, h, hz41a, hz41b⟩ := lp_succ h
        have h : X10_asks_s41 v_folk_number v_folk_skill v_folk_slept v_folk_wanted y8 y21 x41_0 x41_1 x41_2 = some z41 := h
        unfold X10_asks_s41 at h
        refine lv_iload hx hb dX10_asks_41 (lv_at hl 5 rfl) ?_
        refine lv_bipush (v := 50) hx hb dX10_asks_43 (by decide) ?_
        refine lv_icmp_ge (tgt := 132) hx hb dX10_asks_45 (by decide) (fun c4 => ?_) (fun c4 => ?_)
        · have h := it_pos c4 h
          exact hk41_0 x41_0 x41_1 (hz41b _ (Option.some.inj h).symm)  H locs ls hS (lv_sub hl [0, 3, 4] rfl)
        · have h := it_neg c4 h
          refine lv_iload hx hb dX10_asks_48 (lv_at hl 5 rfl) ?_
          refine lv_bipush (v := 10) hx hb dX10_asks_50 (by decide) ?_
          obtain ⟨g5, h⟩ := gz_some h
          refine lv_idiv hx hb dX10_asks_52 g5 ?_
          refine lv_istore (lv' := [(6, .int (x41_2 / (10 : Int32))), (0, .ref q0), (1, .int y8.1), (2, .int y21), (3, .int x41_0), (4, .int x41_1), (5, .int x41_2)]) hx hb dX10_asks_53 hl (by decide) rfl (fun ls hl => ?_)
          refine lv_iload hx hb dX10_asks_55 (lv_at hl 0 rfl) ?_
          refine lv_iconst (v := 1) hx hb dX10_asks_57 (by decide) ?_
          refine lv_icmp_eq (tgt := 126) hx hb dX10_asks_58 (by decide) (fun c6 => ?_) (fun c6 => ?_)
          · have h := it_pos c6 h
            refine lv_iinc (v := (x41_2 + (1 : Int32))) (lv' := [(5, .int (x41_2 + (1 : Int32))), (6, .int (x41_2 / (10 : Int32))), (0, .ref q0), (1, .int y8.1), (2, .int y21), (3, .int x41_0), (4, .int x41_1)]) hx hb dX10_asks_126 hl (k := 6) rfl rfl (by decide) rfl (fun ls hl => ?_)
            refine lv_goto (tgt := 41) hx hb dX10_asks_129 (by decide) ?_
            exact ih41 x41_0 x41_1 (x41_2 + (1 : Int32)) y41  H locs ls (hz41a _ (Option.some.inj h).symm) hS (lv_sub hl [2, 3, 4, 5, 6, 0] rfl) hk41_0
          · have h := it_neg c6 h
            refine lv_iload hx hb dX10_asks_61 (lv_at hl 0 rfl) ?_
            refine lv_iload hx hb dX10_asks_63 (lv_at hl 6 rfl) ?_
            refine lv_bipush (v := 10) hx hb dX10_asks_65 (by decide) ?_
            obtain ⟨g7, h⟩ := gz_some h
            refine lv_irem hx hb dX10_asks_67 g7 ?_
            refine ct_S (ws' := fun _ => [oX10 q0 u0_0 (.ref q1) (.ref q3) u0_3 u0_4 u0_5 (.ref q8) u0_7 u0_8 u0_9 (.ref q12) u0_11 u0_12, oX2 q1 (.ref q2) (.int v_told_size), aJ cy q2 16 v_told_number, oX0 q3 (.ref q4) (.ref q5) (.ref q6) u3_3 (.ref q7) (.int v_folk_number) (.int v_folk_day) u3_7, aI cy q4 7 v_folk_skill, aI cy q5 7 v_folk_pills, aI cy q6 7 v_folk_slept, aI cy q7 7 v_folk_wanted, oX5 q8 (.ref q9) (.ref q10) (.ref q11) (.int v_inForce_size), aI cy q9 40 v_inForce_code, aI cy q10 40 y8.2.1, aI cy q11 7 y8.2.2, oX1 q12 (.ref q13) (.ref q14) (.int v_hearsay_size), aI cy q13 12 v_hearsay_what, aI cy q14 12 v_hearsay_value]) (st' := [.int (X1_mayBe (x41_2 / (10 : Int32)) (irem x41_2 (10 : Int32)))]) (rest := []) E hS slX10_320 (c_X1_mayBe (l := l) (D := D) (cy := cy) (p0 := (x41_2 / (10 : Int32))) (p1 := (irem x41_2 (10 : Int32))) (r := (X1_mayBe (x41_2 / (10 : Int32)) (irem x41_2 (10 : Int32)))) rfl) [] rfl rfl (fun _ => rfl) (fun _ => rfl) rfl rfl (Nat.le_of_ble_eq_true rfl) hl.1 (by rw [hRf]; exact Nat.le_of_ble_eq_true rfl) (by rw [hRl]; exact Nat.le_of_ble_eq_true rfl) ⟨Nat.zero_le _, Nat.zero_le _⟩ dX10_asks_68 rfl (fun H locs _ hS => ?_)
            refine lv_if_eq (tgt := 126) hx hb dX10_asks_71 (by decide) (fun c8 => ?_) (fun c8 => ?_)
            · have h := it_pos c8 h
              refine lv_iinc (v := (x41_2 + (1 : Int32))) (lv' := [(5, .int (x41_2 + (1 : Int32))), (6, .int (x41_2 / (10 : Int32))), (0, .ref q0), (1, .int y8.1), (2, .int y21), (3, .int x41_0), (4, .int x41_1)]) hx hb dX10_asks_126 hl (k := 6) rfl rfl (by decide) rfl (fun ls hl => ?_)
              refine lv_goto (tgt := 41) hx hb dX10_asks_129 (by decide) ?_
              exact ih41 x41_0 x41_1 (x41_2 + (1 : Int32)) y41  H locs ls (hz41a _ (Option.some.inj h).symm) hS (lv_sub hl [2, 3, 4, 5, 6, 0] rfl) hk41_0
            · have h := it_neg c8 h
              refine lv_iload_n hx hb dX10_asks_74 rfl (lv_at hl 3 rfl) ?_
              refine lv_aload_n hx hb dX10_asks_75 rfl (lv_at hl 1 rfl) ?_
              refine r_get E frX10_26 hS 0 rfl rfl dX10_asks_76 ?_
              refine lv_iload_n hx hb dX10_asks_79 rfl (lv_at hl 2 rfl) ?_
              refine lv_iload hx hb dX10_asks_80 (lv_at hl 0 rfl) ?_
              refine lv_iload hx hb dX10_asks_82 (lv_at hl 6 rfl) ?_
              refine lv_bipush (v := 10) hx hb dX10_asks_84 (by decide) ?_
              obtain ⟨g9, h⟩ := gz_some h
              refine lv_irem hx hb dX10_asks_86 g9 ?_
              obtain ⟨y87, e10, h⟩ := bd_some h
              refine ct_S (ws' := fun _ => [oX10 q0 u0_0 (.ref q1) (.ref q3) u0_3 u0_4 u0_5 (.ref q8) u0_7 u0_8 u0_9 (.ref q12) u0_11 u0_12, oX2 q1 (.ref q2) (.int v_told_size), aJ cy q2 16 v_told_number, oX0 q3 (.ref q4) (.ref q5) (.ref q6) u3_3 (.ref q7) (.int v_folk_number) (.int v_folk_day) u3_7, aI cy q4 7 v_folk_skill, aI cy q5 7 v_folk_pills, aI cy q6 7 v_folk_slept, aI cy q7 7 v_folk_wanted, oX5 q8 (.ref q9) (.ref q10) (.ref q11) (.int v_inForce_size), aI cy q9 40 v_inForce_code, aI cy q10 40 y8.2.1, aI cy q11 7 y8.2.2, oX1 q12 (.ref q13) (.ref q14) (.int v_hearsay_size), aI cy q13 12 v_hearsay_what, aI cy q14 12 v_hearsay_value]) (st' := [.int y87, .int y21]) (rest := [.int y21]) E hS slX10_323 (c_X1_such (l := l) (D := D) (cy := cy) (q0 := q3) (q1 := q4) (q2 := q6) (q3 := q7) (u0_1 := .ref q5) (u0_3 := u3_3) (u0_6 := .int v_folk_day) (u0_7 := u3_7) (w1_number := v_folk_number) (w1_skill := v_folk_skill) (w1_slept := v_folk_slept) (w1_wanted := v_folk_wanted) (p1 := y8.1) (p2 := (x41_2 / (10 : Int32))) (p3 := (irem x41_2 (10 : Int32))) (r := y87) e10) [3, 4, 6, 7] rfl rfl (fun _ => rfl) (fun _ => rfl) rfl rfl (Nat.le_of_ble_eq_true rfl) hl.1 (by rw [hRf]; exact Nat.le_of_ble_eq_true rfl) (by rw [hRl]; exact Nat.le_of_ble_eq_true rfl) ⟨Nat.zero_le _, Nat.zero_le _⟩ dX10_asks_87 rfl (fun H locs _ hS => ?_)
              refine lv_iand hx hb dX10_asks_90 ?_
              refine lv_istore (lv' := [(7, .int (y21 &&& y87)), (6, .int (x41_2 / (10 : Int32))), (0, .ref q0), (1, .int y8.1), (2, .int y21), (3, .int x41_0), (4, .int x41_1), (5, .int x41_2)]) hx hb dX10_asks_91 hl (by decide) rfl (fun ls hl => ?_)
              refine lv_iload hx hb dX10_asks_93 (lv_at hl 0 rfl) ?_
              refine ct_S (ws' := fun _ => [oX10 q0 u0_0 (.ref q1) (.ref q3) u0_3 u0_4 u0_5 (.ref q8) u0_7 u0_8 u0_9 (.ref q12) u0_11 u0_12, oX2 q1 (.ref q2) (.int v_told_size), aJ cy q2 16 v_told_number, oX0 q3 (.ref q4) (.ref q5) (.ref q6) u3_3 (.ref q7) (.int v_folk_number) (.int v_folk_day) u3_7, aI cy q4 7 v_folk_skill, aI cy q5 7 v_folk_pills, aI cy q6 7 v_folk_slept, aI cy q7 7 v_folk_wanted, oX5 q8 (.ref q9) (.ref q10) (.ref q11) (.int v_inForce_size), aI cy q9 40 v_inForce_code, aI cy q10 40 y8.2.1, aI cy q11 7 y8.2.2, oX1 q12 (.ref q13) (.ref q14) (.int v_hearsay_size), aI cy q13 12 v_hearsay_what, aI cy q14 12 v_hearsay_value]) (st' := [.int (J6_bitCount_0f7a4 (y21 &&& y87))]) (rest := []) E hS slX10_241 (c_J6_bitCount_0f7a4 (l := l) (D := D) (cy := cy) (p0 := (y21 &&& y87)) (r := (J6_bitCount_0f7a4 (y21 &&& y87))) rfl) [] rfl rfl (fun _ => rfl) (fun _ => rfl) rfl rfl (Nat.le_of_ble_eq_true rfl) hl.1 (by rw [hRf]; exact Nat.le_of_ble_eq_true rfl) (by rw [hRl]; exact Nat.le_of_ble_eq_true rfl) ⟨Nat.zero_le _, Nat.zero_le _⟩ dX10_asks_95 rfl (fun H locs _ hS => ?_)
              refine lv_iload_n hx hb dX10_asks_98 rfl (lv_at hl 4 rfl) ?_
              refine lv_iload hx hb dX10_asks_99 (lv_at hl 0 rfl) ?_
              refine lv_iconst (v := -1) hx hb dX10_asks_101 (by decide) ?_
              refine lv_ixor hx hb dX10_asks_102 ?_
              refine lv_iand hx hb dX10_asks_103 ?_
              refine ct_S (ws' := fun _ => [oX10 q0 u0_0 (.ref q1) (.ref q3) u0_3 u0_4 u0_5 (.ref q8) u0_7 u0_8 u0_9 (.ref q12) u0_11 u0_12, oX2 q1 (.ref q2) (.int v_told_size), aJ cy q2 16 v_told_number, oX0 q3 (.ref q4) (.ref q5) (.ref q6) u3_3 (.ref q7) (.int v_folk_number) (.int v_folk_day) u3_7, aI cy q4 7 v_folk_skill, aI cy q5 7 v_folk_pills, aI cy q6 7 v_folk_slept, aI cy q7 7 v_folk_wanted, oX5 q8 (.ref q9) (.ref q10) (.ref q11) (.int v_inForce_size), aI cy q9 40 v_inForce_code, aI cy q10 40 y8.2.1, aI cy q11 7 y8.2.2, oX1 q12 (.ref q13) (.ref q14) (.int v_hearsay_size), aI cy q13 12 v_hearsay_what, aI cy q14 12 v_hearsay_value]) (st' := [.int (J6_bitCount_0f7a4 (y21 &&& ((y21 &&& y87) ^^^ (-1 : Int32)))), .int (J6_bitCount_0f7a4 (y21 &&& y87))]) (rest := [.int (J6_bitCount_0f7a4 (y21 &&& y87))]) E hS slX10_241 (c_J6_bitCount_0f7a4 (l := l) (D := D) (cy := cy) (p0 := (y21 &&& ((y21 &&& y87) ^^^ (-1 : Int32)))) (r := (J6_bitCount_0f7a4 (y21 &&& ((y21 &&& y87) ^^^ (-1 : Int32))))) rfl) [] rfl rfl (fun _ => rfl) (fun _ => rfl) rfl rfl (Nat.le_of_ble_eq_true rfl) hl.1 (by rw [hRf]; exact Nat.le_of_ble_eq_true rfl) (by rw [hRl]; exact Nat.le_of_ble_eq_true rfl) ⟨Nat.zero_le _, Nat.zero_le _⟩ dX10_asks_104 rfl (fun H locs _ hS => ?_)
              refine ct_S (ws' := fun _ => [oX10 q0 u0_0 (.ref q1) (.ref q3) u0_3 u0_4 u0_5 (.ref q8) u0_7 u0_8 u0_9 (.ref q12) u0_11 u0_12, oX2 q1 (.ref q2) (.int v_told_size), aJ cy q2 16 v_told_number, oX0 q3 (.ref q4) (.ref q5) (.ref q6) u3_3 (.ref q7) (.int v_folk_number) (.int v_folk_day) u3_7, aI cy q4 7 v_folk_skill, aI cy q5 7 v_folk_pills, aI cy q6 7 v_folk_slept, aI cy q7 7 v_folk_wanted, oX5 q8 (.ref q9) (.ref q10) (.ref q11) (.int v_inForce_size), aI cy q9 40 v_inForce_code, aI cy q10 40 y8.2.1, aI cy q11 7 y8.2.2, oX1 q12 (.ref q13) (.ref q14) (.int v_hearsay_size), aI cy q13 12 v_hearsay_what, aI cy q14 12 v_hearsay_value]) (st' := [.int (J9_max_7cf53 (J6_bitCount_0f7a4 (y21 &&& y87)) (J6_bitCount_0f7a4 (y21 &&& ((y21 &&& y87) ^^^ (-1 : Int32)))))]) (rest := []) E hS slX10_327 (c_J9_max_7cf53 (l := l) (D := D) (cy := cy) (p0 := (J6_bitCount_0f7a4 (y21 &&& y87))) (p1 := (J6_bitCount_0f7a4 (y21 &&& ((y21 &&& y87) ^^^ (-1 : Int32))))) (r := (J9_max_7cf53 (J6_bitCount_0f7a4 (y21 &&& y87)) (J6_bitCount_0f7a4 (y21 &&& ((y21 &&& y87) ^^^ (-1 : Int32)))))) rfl) [] rfl rfl (fun _ => rfl) (fun _ => rfl) rfl rfl (Nat.le_of_ble_eq_true rfl) hl.1 (by rw [hRf]; exact Nat.le_of_ble_eq_true rfl) (by rw [hRl]; exact Nat.le_of_ble_eq_true rfl) ⟨Nat.zero_le _, Nat.zero_le _⟩ dX10_asks_107 rfl (fun H locs _ hS => ?_)
              refine lv_istore (lv' := [(8, .int (J9_max_7cf53 (J6_bitCount_0f7a4 (y21 &&& y87)) (J6_bitCount_0f7a4 (y21 &&& ((y21 &&& y87) ^^^ (-1 : Int32)))))), (7, .int (y21 &&& y87)), (6, .int (x41_2 / (10 : Int32))), (0, .ref q0), (1, .int y8.1), (2, .int y21), (3, .int x41_0), (4, .int x41_1), (5, .int x41_2)]) hx hb dX10_asks_110 hl (by decide) rfl (fun ls hl => ?_)
              refine lv_iload hx hb dX10_asks_112 (lv_at hl 0 rfl) ?_
              refine lv_iload hx hb dX10_asks_114 (lv_at hl 7 rfl) ?_
              refine lv_icmp_ge (tgt := 126) hx hb dX10_asks_116 (by decide) (fun c11 => ?_) (fun c11 => ?_)
              · have h := it_pos c11 h
                refine lv_iinc (v := (x41_2 + (1 : Int32))) (lv' := [(5, .int (x41_2 + (1 : Int32))), (8, .int (J9_max_7cf53 (J6_bitCount_0f7a4 (y21 &&& y87)) (J6_bitCount_0f7a4 (y21 &&& ((y21 &&& y87) ^^^ (-1 : Int32)))))), (7, .int (y21 &&& y87)), (6, .int (x41_2 / (10 : Int32))), (0, .ref q0), (1, .int y8.1), (2, .int y21), (3, .int x41_0), (4, .int x41_1)]) hx hb dX10_asks_126 hl (k := 8) rfl rfl (by decide) rfl (fun ls hl => ?_)
                refine lv_goto (tgt := 41) hx hb dX10_asks_129 (by decide) ?_
                exact ih41 x41_0 x41_1 (x41_2 + (1 : Int32)) y41  H locs ls (hz41a _ (Option.some.inj h).symm) hS (lv_sub hl [4, 5, 6, 7, 8, 0] rfl) hk41_0
              · have h := it_neg c11 h
                refine lv_iload hx hb dX10_asks_119 (lv_at hl 0 rfl) ?_
                refine lv_istore (lv' := [(4, .int (J9_max_7cf53 (J6_bitCount_0f7a4 (y21 &&& y87)) (J6_bitCount_0f7a4 (y21 &&& ((y21 &&& y87) ^^^ (-1 : Int32)))))), (8, .int (J9_max_7cf53 (J6_bitCount_0f7a4 (y21 &&& y87)) (J6_bitCount_0f7a4 (y21 &&& ((y21 &&& y87) ^^^ (-1 : Int32)))))), (7, .int (y21 &&& y87)), (6, .int (x41_2 / (10 : Int32))), (0, .ref q0), (1, .int y8.1), (2, .int y21), (3, .int x41_0), (5, .int x41_2)]) hx hb dX10_asks_121 hl (by decide) rfl (fun ls hl => ?_)
                refine lv_iload hx hb dX10_asks_123 (lv_at hl 8 rfl) ?_
                refine lv_istore_n (lv' := [(3, .int x41_2), (4, .int (J9_max_7cf53 (J6_bitCount_0f7a4 (y21 &&& y87)) (J6_bitCount_0f7a4 (y21 &&& ((y21 &&& y87) ^^^ (-1 : Int32)))))), (8, .int (J9_max_7cf53 (J6_bitCount_0f7a4 (y21 &&& y87)) (J6_bitCount_0f7a4 (y21 &&& ((y21 &&& y87) ^^^ (-1 : Int32)))))), (7, .int (y21 &&& y87)), (6, .int (x41_2 / (10 : Int32))), (0, .ref q0), (1, .int y8.1), (2, .int y21), (5, .int x41_2)]) hx hb dX10_asks_125 rfl hl (by decide) rfl (fun ls hl => ?_)
                refine lv_iinc (v := (x41_2 + (1 : Int32))) (lv' := [(5, .int (x41_2 + (1 : Int32))), (3, .int x41_2), (4, .int (J9_max_7cf53 (J6_bitCount_0f7a4 (y21 &&& y87)) (J6_bitCount_0f7a4 (y21 &&& ((y21 &&& y87) ^^^ (-1 : Int32)))))), (8, .int (J9_max_7cf53 (J6_bitCount_0f7a4 (y21 &&& y87)) (J6_bitCount_0f7a4 (y21 &&& ((y21 &&& y87) ^^^ (-1 : Int32)))))), (7, .int (y21 &&& y87)), (6, .int (x41_2 / (10 : Int32))), (0, .ref q0), (1, .int y8.1), (2, .int y21)]) hx hb dX10_asks_126 hl (k := 8) rfl rfl (by decide) rfl (fun ls hl => ?_)
                refine lv_goto (tgt := 41) hx hb dX10_asks_129 (by decide) ?_
                exact ih41 x41_2 (J9_max_7cf53 (J6_bitCount_0f7a4 (y21 &&& y87)) (J6_bitCount_0f7a4 (y21 &&& ((y21 &&& y87) ^^^ (-1 : Int32))))) (x41_2 + (1 : Int32)) y41  H locs ls (hz41a _ (Option.some.inj h).symm) hS (lv_sub hl [6, 7, 8, 1, 2, 0] rfl) hk41_0
    obtain ⟨y41, e41, h⟩ := bd_some h
    refine hL41 1000 (0 : Int32) (8 : Int32) (0 : Int32) y41  H locs ls e41 hS (lv_sub hl [5, 4, 3, 2, 1, 0] rfl) (fun y41_0 y41_1 ey41 H locs ls hS hl => ?_)
    subst ey41
    have h := un_r h
    refine lv_aload_n hx hb dX10_asks_132 rfl (lv_at hl 0 rfl) ?_
    refine r_get E frX10_19 hS 0 rfl rfl dX10_asks_133 ?_
    refine lv_iload hx hb dX10_asks_136 (lv_at hl 2 rfl) ?_
    refine lv_i2l (v := (y41_1.toInt64)) hx hb dX10_asks_138 rfl ?_
    obtain ⟨y139, e12, h⟩ := bd_some h
    refine ct_V (ws' := fun _ => [oX10 q0 u0_0 (.ref q1) (.ref q3) u0_3 u0_4 u0_5 (.ref q8) u0_7 u0_8 u0_9 (.ref q12) u0_11 u0_12, oX2 q1 (.ref q2) (.int y139.1), aJ cy q2 16 y139.2, oX0 q3 (.ref q4) (.ref q5) (.ref q6) u3_3 (.ref q7) (.int v_folk_number) (.int v_folk_day) u3_7, aI cy q4 7 v_folk_skill, aI cy q5 7 v_folk_pills, aI cy q6 7 v_folk_slept, aI cy q7 7 v_folk_wanted, oX5 q8 (.ref q9) (.ref q10) (.ref q11) (.int v_inForce_size), aI cy q9 40 v_inForce_code, aI cy q10 40 y8.2.1, aI cy q11 7 y8.2.2, oX1 q12 (.ref q13) (.ref q14) (.int v_hearsay_size), aI cy q13 12 v_hearsay_what, aI cy q14 12 v_hearsay_value]) (st' := []) (rest := []) E hS vlX10_255 (c_X2_tellsOne (l := l) (D := D) (cy := cy) (q0 := q1) (q1 := q2) (v_size := v_told_size) (v_number := v_told_number) (p1 := (y41_1.toInt64)) (r := y139) e12) [1, 2] rfl rfl (fun _ => rfl) (fun _ => rfl) rfl rfl rfl rfl (Nat.le_of_ble_eq_true rfl) hl.1 (by rw [hRf]; exact Nat.le_of_ble_eq_true rfl) (by rw [hRl]; exact Nat.le_of_ble_eq_true rfl) ⟨Nat.zero_le _, Nat.zero_le _⟩ dX10_asks_139 rfl (fun H locs _ hS => ?_)
    refine lv_iload_n hx hb dX10_asks_142 rfl (lv_at hl 1 rfl) ?_
    obtain rfl := Option.some.inj h
    exact rt_i E hQ (.null) hS dX10_asks_143
  · have h := it_pos c3 h
    refine lv_bipush (v := -2) hx hb dX10_asks_29 (by decide) ?_
    obtain rfl := Option.some.inj h
    exact rt_i E hQ (.null) hS dX10_asks_31
set_option maxHeartbeats 4000000 in
set_option maxRecDepth 100000 in
theorem c_X10_saw {l : Launch} {D : va_G} {cy : Nat → ClassId} (q0 : Nat) (q1 : Nat) (q2 : Nat) (q3 : Nat) (q4 : Nat) (u0_0 : Value) (u0_1 : Value) (u0_2 : Value) (u0_3 : Value) (u0_4 : Value) (u0_5 : Value) (u0_6 : Value) (u0_7 : Value) (u0_8 : Value) (u0_9 : Value) (u0_10 : Value) (u0_12 : Value) (u1_3 : Value) (v_sightings_size : Int32) (v_sightings_skill : Nat → Int32) (v_sightings_wanting : Nat → Int32) (v_sightings_woke : Nat → Int32) (p1 : Int32) (p2 : Int32) (p3 : Int32) (r : Int32 × Int32 × (Nat → Int32) × (Nat → Int32) × (Nat → Int32)) (h : X10_saw v_sightings_size v_sightings_skill v_sightings_wanting v_sightings_woke p1 p2 p3 = some r) : Ct l yX10_saw cX10_saw 4 (some .int) 1 24 D cy [.ref q0, .int p1, .int p2, .int p3] [oX10 q0 u0_0 u0_1 u0_2 u0_3 u0_4 u0_5 u0_6 u0_7 u0_8 u0_9 u0_10 (.ref q1) u0_12, oX8 q1 (.ref q2) (.ref q3) (.ref q4) u1_3 (.int v_sightings_size), aI cy q2 10 v_sightings_skill, aI cy q3 10 v_sightings_wanting, aZ cy q4 10 v_sightings_woke] (fun _ => [oX10 q0 u0_0 u0_1 u0_2 u0_3 u0_4 u0_5 u0_6 u0_7 u0_8 u0_9 u0_10 (.ref q1) u0_12, oX8 q1 (.ref q2) (.ref q3) (.ref q4) u1_3 (.int r.2.1), aI cy q2 10 r.2.2.1, aI cy q3 10 r.2.2.2.1, aZ cy q4 10 r.2.2.2.2]) (some (.int r.1)) := by
  refine Ct.mk kX10_saw (by decide +kernel) (Nat.le_of_ble_eq_true rfl) ?_
  intro p e s m below meth c A ls args R Q hRf hRl hQ E H locs hS hl
  have hx := E.x
  have hb := E.b
  have hl : lv_has ls 4 [(0, .ref q0), (1, .int p1), (2, .int p2), (3, .int p3)] := hl
  unfold X10_saw at h
  refine lv_aload_n hx hb dX10_saw_0 rfl (lv_at hl 0 rfl) ?_
  refine r_get E frX10_81 hS 0 rfl rfl dX10_saw_1 ?_
  refine lv_iload_n hx hb dX10_saw_4 rfl (lv_at hl 1 rfl) ?_
  refine lv_iload_n hx hb dX10_saw_5 rfl (lv_at hl 2 rfl) ?_
  refine lv_iload_n hx hb dX10_saw_6 rfl (lv_at hl 3 rfl) ?_
  obtain ⟨y7, e1, h⟩ := bd_some h
  refine ct_V (ws' := fun _ => [oX10 q0 u0_0 u0_1 u0_2 u0_3 u0_4 u0_5 u0_6 u0_7 u0_8 u0_9 u0_10 (.ref q1) u0_12, oX8 q1 (.ref q2) (.ref q3) (.ref q4) u1_3 (.int y7.2.1), aI cy q2 10 y7.2.2.1, aI cy q3 10 y7.2.2.2.1, aZ cy q4 10 y7.2.2.2.2]) (st' := [.int y7.1]) (rest := []) E hS vlX10_332 (c_X8_takes (l := l) (D := D) (cy := cy) (q0 := q1) (q1 := q2) (q2 := q3) (q3 := q4) (u0_3 := u1_3) (v_size := v_sightings_size) (v_skill := v_sightings_skill) (v_wanting := v_sightings_wanting) (v_woke := v_sightings_woke) (p1 := p1) (p2 := p2) (p3 := p3) (r := y7) e1) [1, 2, 3, 4] rfl rfl (fun _ => rfl) (fun _ => rfl) rfl rfl rfl rfl (Nat.le_of_ble_eq_true rfl) hl.1 (by rw [hRf]; exact Nat.le_of_ble_eq_true rfl) (by rw [hRl]; exact Nat.le_of_ble_eq_true rfl) ⟨Nat.zero_le _, Nat.zero_le _⟩ dX10_saw_7 rfl (fun H locs _ hS => ?_)
  have hJ24 : ∀ (s24_0 : Int32) (ls : Array Slot), s24_0 = (if y7.1 = 0 then (-1 : Int32) else y7.2.1) → lv_has ls 4 [] → W p l e R s m args below meth c H locs 0 0 Q (F0 m 24 ls [.int s24_0]) := by
    intro s24_0 ls es24_0 hl
    subst es24_0
    obtain rfl := Option.some.inj h
    exact rt_i E hQ (.null) hS dX10_saw_24
  refine lv_if_eq (tgt := 23) hx hb dX10_saw_10 (by decide) (fun c2 => ?_) (fun c2 => ?_)
  · refine lv_iconst (v := -1) hx hb dX10_saw_23 (by decide) ?_
    exact hJ24 _ ls ((if_pos c2)).symm (lv_sub hl [] rfl)
  · refine lv_aload_n hx hb dX10_saw_13 rfl (lv_at hl 0 rfl) ?_
    refine r_get E frX10_81 hS 0 rfl rfl dX10_saw_14 ?_
    refine r_get E frX10_335 hS 1 rfl rfl dX10_saw_17 ?_
    refine lv_goto (tgt := 24) hx hb dX10_saw_20 (by decide) ?_
    exact hJ24 _ ls ((if_neg c2)).symm (lv_sub hl [] rfl)
set_option maxHeartbeats 4000000 in
set_option maxRecDepth 100000 in
theorem c_X10_denies {l : Launch} {D : va_G} {cy : Nat → ClassId} (q0 : Nat) (q1 : Nat) (u0_0 : Value) (u0_1 : Value) (u0_2 : Value) (u0_3 : Value) (u0_4 : Value) (u0_5 : Value) (u0_6 : Value) (u0_7 : Value) (u0_8 : Value) (u0_9 : Value) (u0_10 : Value) (u0_12 : Value) (u1_0 : Value) (u1_1 : Value) (u1_2 : Value) (u1_3 : Value) (v_sightings_size : Int32) (r : Int32 × Int32) (h : X10_denies v_sightings_size = r) : Ct l yX10_denies cX10_denies 1 (some .int) 1 21 D cy [.ref q0] [oX10 q0 u0_0 u0_1 u0_2 u0_3 u0_4 u0_5 u0_6 u0_7 u0_8 u0_9 u0_10 (.ref q1) u0_12, oX8 q1 u1_0 u1_1 u1_2 u1_3 (.int v_sightings_size)] (fun _ => [oX10 q0 u0_0 u0_1 u0_2 u0_3 u0_4 u0_5 u0_6 u0_7 u0_8 u0_9 u0_10 (.ref q1) u0_12, oX8 q1 u1_0 u1_1 u1_2 u1_3 (.int r.2)]) (some (.int r.1)) := by
  refine Ct.mk kX10_denies (by decide +kernel) (Nat.le_of_ble_eq_true rfl) ?_
  intro p e s m below meth c A ls args R Q hRf hRl hQ E H locs hS hl
  have hx := E.x
  have hb := E.b
  have hl : lv_has ls 1 [(0, .ref q0)] := hl
  unfold X10_denies at h
  refine lv_aload_n hx hb dX10_denies_0 rfl (lv_at hl 0 rfl) ?_
  refine r_get E frX10_81 hS 0 rfl rfl dX10_denies_1 ?_
  refine ct_V (ws' := fun _ => [oX10 q0 u0_0 u0_1 u0_2 u0_3 u0_4 u0_5 u0_6 u0_7 u0_8 u0_9 u0_10 (.ref q1) u0_12, oX8 q1 u1_0 u1_1 u1_2 u1_3 (.int ((X8_empties v_sightings_size).2))]) (st' := [.int (X8_empties v_sightings_size).1]) (rest := []) E hS vlX10_336 (c_X8_empties (l := l) (D := D) (cy := cy) (q0 := q1) (u0_0 := u1_0) (u0_1 := u1_1) (u0_2 := u1_2) (u0_3 := u1_3) (v_size := v_sightings_size) (r := (X8_empties v_sightings_size)) rfl) [1] rfl rfl (fun _ => rfl) (fun _ => rfl) rfl rfl rfl rfl (Nat.le_of_ble_eq_true rfl) hl.1 (by rw [hRf]; exact Nat.le_of_ble_eq_true rfl) (by rw [hRl]; exact Nat.le_of_ble_eq_true rfl) ⟨Nat.zero_le _, Nat.zero_le _⟩ dX10_denies_4 rfl (fun H locs _ hS => ?_)
  subst h
  exact rt_i E hQ (.null) hS dX10_denies_7
set_option maxHeartbeats 4000000 in
set_option maxRecDepth 100000 in
theorem c_X10_laws {l : Launch} {D : va_G} {cy : Nat → ClassId} (q0 : Nat) (q1 : Nat) (q2 : Nat) (q3 : Nat) (q4 : Nat) (q5 : Nat) (q6 : Nat) (q7 : Nat) (u0_0 : Value) (u0_2 : Value) (u0_3 : Value) (u0_4 : Value) (u0_5 : Value) (u0_6 : Value) (u0_7 : Value) (u0_8 : Value) (u0_9 : Value) (u0_10 : Value) (u0_12 : Value) (v_told_size : Int32) (v_told_number : Nat → Int64) (v_sightings_size : Int32) (v_sightings_skill : Nat → Int32) (v_sightings_wanting : Nat → Int32) (v_sightings_woke : Nat → Int32) (v_sightings_fits : Nat → Int32) (r : Int32 × Int32 × (Nat → Int64) × (Nat → Int32)) (h : X10_laws v_told_number v_sightings_size v_sightings_skill v_sightings_wanting v_sightings_woke v_sightings_fits = some r) : Ct l yX10_laws cX10_laws 3 (some .int) 2 45 D cy [.ref q0] [oX10 q0 u0_0 (.ref q1) u0_2 u0_3 u0_4 u0_5 u0_6 u0_7 u0_8 u0_9 u0_10 (.ref q3) u0_12, oX2 q1 (.ref q2) (.int v_told_size), aJ cy q2 16 v_told_number, oX8 q3 (.ref q4) (.ref q5) (.ref q6) (.ref q7) (.int v_sightings_size), aI cy q4 10 v_sightings_skill, aI cy q5 10 v_sightings_wanting, aZ cy q6 10 v_sightings_woke, aZ cy q7 160 v_sightings_fits] (fun _ => [oX10 q0 u0_0 (.ref q1) u0_2 u0_3 u0_4 u0_5 u0_6 u0_7 u0_8 u0_9 u0_10 (.ref q3) u0_12, oX2 q1 (.ref q2) (.int r.2.1), aJ cy q2 16 r.2.2.1, oX8 q3 (.ref q4) (.ref q5) (.ref q6) (.ref q7) (.int v_sightings_size), aI cy q4 10 v_sightings_skill, aI cy q5 10 v_sightings_wanting, aZ cy q6 10 v_sightings_woke, aZ cy q7 160 r.2.2.2]) (some (.int r.1)) := by
  refine Ct.mk kX10_laws (by decide +kernel) (Nat.le_of_ble_eq_true rfl) ?_
  intro p e s m below meth c A ls args R Q hRf hRl hQ E H locs hS hl
  have hx := E.x
  have hb := E.b
  have hl : lv_has ls 3 [(0, .ref q0)] := hl
  unfold X10_laws at h
  refine lv_aload_n hx hb dX10_laws_0 rfl (lv_at hl 0 rfl) ?_
  refine r_get E frX10_81 hS 0 rfl rfl dX10_laws_1 ?_
  obtain ⟨y4, e1, h⟩ := bd_some h
  refine ct_V (ws' := fun _ => [oX10 q0 u0_0 (.ref q1) u0_2 u0_3 u0_4 u0_5 u0_6 u0_7 u0_8 u0_9 u0_10 (.ref q3) u0_12, oX2 q1 (.ref q2) (.int v_told_size), aJ cy q2 16 v_told_number, oX8 q3 (.ref q4) (.ref q5) (.ref q6) (.ref q7) (.int v_sightings_size), aI cy q4 10 v_sightings_skill, aI cy q5 10 v_sightings_wanting, aZ cy q6 10 v_sightings_woke, aZ cy q7 160 y4.2]) (st' := [.int y4.1]) (rest := []) E hS vlX10_337 (c_X8_sifts (l := l) (D := D) (cy := cy) (q0 := q3) (q1 := q4) (q2 := q5) (q3 := q6) (q4 := q7) (v_size := v_sightings_size) (v_skill := v_sightings_skill) (v_wanting := v_sightings_wanting) (v_woke := v_sightings_woke) (v_fits := v_sightings_fits) (r := y4) e1) [3, 4, 5, 6, 7] rfl rfl (fun _ => rfl) (fun _ => rfl) rfl rfl rfl rfl (Nat.le_of_ble_eq_true rfl) hl.1 (by rw [hRf]; exact Nat.le_of_ble_eq_true rfl) (by rw [hRl]; exact Nat.le_of_ble_eq_true rfl) ⟨Nat.zero_le _, Nat.zero_le _⟩ dX10_laws_4 rfl (fun H locs _ hS => ?_)
  refine lv_istore_n (lv' := [(1, .int y4.1), (0, .ref q0)]) hx hb dX10_laws_7 rfl hl (by decide) rfl (fun ls hl => ?_)
  refine lv_aload_n hx hb dX10_laws_8 rfl (lv_at hl 1 rfl) ?_
  refine r_get E frX10_81 hS 0 rfl rfl dX10_laws_9 ?_
  obtain ⟨y12, e2, h⟩ := bd_some h
  refine ct_V (ws' := fun _ => [oX10 q0 u0_0 (.ref q1) u0_2 u0_3 u0_4 u0_5 u0_6 u0_7 u0_8 u0_9 u0_10 (.ref q3) u0_12, oX2 q1 (.ref q2) (.int v_told_size), aJ cy q2 16 v_told_number, oX8 q3 (.ref q4) (.ref q5) (.ref q6) (.ref q7) (.int v_sightings_size), aI cy q4 10 v_sightings_skill, aI cy q5 10 v_sightings_wanting, aZ cy q6 10 v_sightings_woke, aZ cy q7 160 y4.2]) (st' := [.int y12]) (rest := []) E hS vlX10_340 (c_X8_leastLaw (l := l) (D := D) (cy := cy) (q0 := q3) (q1 := q7) (u0_0 := .ref q4) (u0_1 := .ref q5) (u0_2 := .ref q6) (u0_4 := .int v_sightings_size) (v_fits := y4.2) (r := y12) e2) [3, 7] rfl rfl (fun _ => rfl) (fun _ => rfl) rfl rfl rfl rfl (Nat.le_of_ble_eq_true rfl) hl.1 (by rw [hRf]; exact Nat.le_of_ble_eq_true rfl) (by rw [hRl]; exact Nat.le_of_ble_eq_true rfl) ⟨Nat.zero_le _, Nat.zero_le _⟩ dX10_laws_12 rfl (fun H locs _ hS => ?_)
  refine lv_istore_n (lv' := [(2, .int y12), (1, .int y4.1), (0, .ref q0)]) hx hb dX10_laws_15 rfl hl (by decide) rfl (fun ls hl => ?_)
  refine lv_aload_n hx hb dX10_laws_16 rfl (lv_at hl 2 rfl) ?_
  refine r_get E frX10_19 hS 0 rfl rfl dX10_laws_17 ?_
  refine ct_V (ws' := fun _ => [oX10 q0 u0_0 (.ref q1) u0_2 u0_3 u0_4 u0_5 u0_6 u0_7 u0_8 u0_9 u0_10 (.ref q3) u0_12, oX2 q1 (.ref q2) (.int X2_clears), aJ cy q2 16 v_told_number, oX8 q3 (.ref q4) (.ref q5) (.ref q6) (.ref q7) (.int v_sightings_size), aI cy q4 10 v_sightings_skill, aI cy q5 10 v_sightings_wanting, aZ cy q6 10 v_sightings_woke, aZ cy q7 160 y4.2]) (st' := []) (rest := []) E hS vlX10_285 (c_X2_clears (l := l) (D := D) (cy := cy) (q0 := q1) (u0_0 := .ref q2) (v_size := v_told_size) (r := X2_clears) rfl) [1] rfl rfl (fun _ => rfl) (fun _ => rfl) rfl rfl rfl rfl (Nat.le_of_ble_eq_true rfl) hl.1 (by rw [hRf]; exact Nat.le_of_ble_eq_true rfl) (by rw [hRl]; exact Nat.le_of_ble_eq_true rfl) ⟨Nat.zero_le _, Nat.zero_le _⟩ dX10_laws_20 rfl (fun H locs _ hS => ?_)
  refine lv_iload_n hx hb dX10_laws_23 rfl (lv_at hl 0 rfl) ?_
  refine lv_if_lt (tgt := 65) hx hb dX10_laws_24 (by decide) (fun c3 => ?_) (fun c3 => ?_)
  · have h := it_pos c3 h
    refine lv_iload_n hx hb dX10_laws_65 rfl (lv_at hl 1 rfl) ?_
    obtain rfl := Option.some.inj h
    exact rt_i E hQ (.null) hS dX10_laws_66
  · have h := it_neg c3 h
    refine lv_aload_n hx hb dX10_laws_27 rfl (lv_at hl 2 rfl) ?_
    refine r_get E frX10_19 hS 0 rfl rfl dX10_laws_28 ?_
    refine lv_iload_n hx hb dX10_laws_31 rfl (lv_at hl 0 rfl) ?_
    refine lv_bipush (v := 40) hx hb dX10_laws_32 (by decide) ?_
    obtain ⟨g4, h⟩ := gz_some h
    refine lv_idiv hx hb dX10_laws_34 g4 ?_
    refine lv_i2l (v := ((y12 / (40 : Int32)).toInt64)) hx hb dX10_laws_35 rfl ?_
    obtain ⟨y36, e5, h⟩ := bd_some h
    refine ct_V (ws' := fun _ => [oX10 q0 u0_0 (.ref q1) u0_2 u0_3 u0_4 u0_5 u0_6 u0_7 u0_8 u0_9 u0_10 (.ref q3) u0_12, oX2 q1 (.ref q2) (.int y36.1), aJ cy q2 16 y36.2, oX8 q3 (.ref q4) (.ref q5) (.ref q6) (.ref q7) (.int v_sightings_size), aI cy q4 10 v_sightings_skill, aI cy q5 10 v_sightings_wanting, aZ cy q6 10 v_sightings_woke, aZ cy q7 160 y4.2]) (st' := []) (rest := []) E hS vlX10_343 (c_X2_adds (l := l) (D := D) (cy := cy) (q0 := q1) (q1 := q2) (v_size := X2_clears) (v_number := v_told_number) (p1 := ((y12 / (40 : Int32)).toInt64)) (r := y36) e5) [1, 2] rfl rfl (fun _ => rfl) (fun _ => rfl) rfl rfl rfl rfl (Nat.le_of_ble_eq_true rfl) hl.1 (by rw [hRf]; exact Nat.le_of_ble_eq_true rfl) (by rw [hRl]; exact Nat.le_of_ble_eq_true rfl) ⟨Nat.zero_le _, Nat.zero_le _⟩ dX10_laws_36 rfl (fun H locs _ hS => ?_)
    refine lv_aload_n hx hb dX10_laws_39 rfl (lv_at hl 2 rfl) ?_
    refine r_get E frX10_19 hS 0 rfl rfl dX10_laws_40 ?_
    refine lv_iload_n hx hb dX10_laws_43 rfl (lv_at hl 0 rfl) ?_
    refine lv_bipush (v := 10) hx hb dX10_laws_44 (by decide) ?_
    obtain ⟨g6, h⟩ := gz_some h
    refine lv_idiv hx hb dX10_laws_46 g6 ?_
    refine lv_iconst (v := 4) hx hb dX10_laws_47 (by decide) ?_
    obtain ⟨g7, h⟩ := gz_some h
    refine lv_irem hx hb dX10_laws_48 g7 ?_
    refine lv_i2l (v := ((irem (y12 / (10 : Int32)) (4 : Int32)).toInt64)) hx hb dX10_laws_49 rfl ?_
    obtain ⟨y50, e8, h⟩ := bd_some h
    refine ct_V (ws' := fun _ => [oX10 q0 u0_0 (.ref q1) u0_2 u0_3 u0_4 u0_5 u0_6 u0_7 u0_8 u0_9 u0_10 (.ref q3) u0_12, oX2 q1 (.ref q2) (.int y50.1), aJ cy q2 16 y50.2, oX8 q3 (.ref q4) (.ref q5) (.ref q6) (.ref q7) (.int v_sightings_size), aI cy q4 10 v_sightings_skill, aI cy q5 10 v_sightings_wanting, aZ cy q6 10 v_sightings_woke, aZ cy q7 160 y4.2]) (st' := []) (rest := []) E hS vlX10_343 (c_X2_adds (l := l) (D := D) (cy := cy) (q0 := q1) (q1 := q2) (v_size := y36.1) (v_number := y36.2) (p1 := ((irem (y12 / (10 : Int32)) (4 : Int32)).toInt64)) (r := y50) e8) [1, 2] rfl rfl (fun _ => rfl) (fun _ => rfl) rfl rfl rfl rfl (Nat.le_of_ble_eq_true rfl) hl.1 (by rw [hRf]; exact Nat.le_of_ble_eq_true rfl) (by rw [hRl]; exact Nat.le_of_ble_eq_true rfl) ⟨Nat.zero_le _, Nat.zero_le _⟩ dX10_laws_50 rfl (fun H locs _ hS => ?_)
    refine lv_aload_n hx hb dX10_laws_53 rfl (lv_at hl 2 rfl) ?_
    refine r_get E frX10_19 hS 0 rfl rfl dX10_laws_54 ?_
    refine lv_iload_n hx hb dX10_laws_57 rfl (lv_at hl 0 rfl) ?_
    refine lv_bipush (v := 10) hx hb dX10_laws_58 (by decide) ?_
    obtain ⟨g9, h⟩ := gz_some h
    refine lv_irem hx hb dX10_laws_60 g9 ?_
    refine lv_i2l (v := ((irem y12 (10 : Int32)).toInt64)) hx hb dX10_laws_61 rfl ?_
    obtain ⟨y62, e10, h⟩ := bd_some h
    refine ct_V (ws' := fun _ => [oX10 q0 u0_0 (.ref q1) u0_2 u0_3 u0_4 u0_5 u0_6 u0_7 u0_8 u0_9 u0_10 (.ref q3) u0_12, oX2 q1 (.ref q2) (.int y62.1), aJ cy q2 16 y62.2, oX8 q3 (.ref q4) (.ref q5) (.ref q6) (.ref q7) (.int v_sightings_size), aI cy q4 10 v_sightings_skill, aI cy q5 10 v_sightings_wanting, aZ cy q6 10 v_sightings_woke, aZ cy q7 160 y4.2]) (st' := []) (rest := []) E hS vlX10_343 (c_X2_adds (l := l) (D := D) (cy := cy) (q0 := q1) (q1 := q2) (v_size := y50.1) (v_number := y50.2) (p1 := ((irem y12 (10 : Int32)).toInt64)) (r := y62) e10) [1, 2] rfl rfl (fun _ => rfl) (fun _ => rfl) rfl rfl rfl rfl (Nat.le_of_ble_eq_true rfl) hl.1 (by rw [hRf]; exact Nat.le_of_ble_eq_true rfl) (by rw [hRl]; exact Nat.le_of_ble_eq_true rfl) ⟨Nat.zero_le _, Nat.zero_le _⟩ dX10_laws_62 rfl (fun H locs _ hS => ?_)
    refine lv_iload_n hx hb dX10_laws_65 rfl (lv_at hl 1 rfl) ?_
    obtain rfl := Option.some.inj h
    exact rt_i E hQ (.null) hS dX10_laws_66
set_option maxHeartbeats 4000000 in
set_option maxRecDepth 100000 in
theorem c_X10_looks {l : Launch} {D : va_G} {cy : Nat → ClassId} (q0 : Nat) (q1 : Nat) (q2 : Nat) (q3 : Nat) (q4 : Nat) (q5 : Nat) (q6 : Nat) (q7 : Nat) (u0_0 : Value) (u0_2 : Value) (u0_3 : Value) (u0_4 : Value) (u0_5 : Value) (u0_6 : Value) (u0_7 : Value) (u0_8 : Value) (u0_9 : Value) (u0_10 : Value) (u0_12 : Value) (v_told_size : Int32) (v_told_number : Nat → Int64) (v_sightings_size : Int32) (v_sightings_skill : Nat → Int32) (v_sightings_wanting : Nat → Int32) (v_sightings_woke : Nat → Int32) (v_sightings_fits : Nat → Int32) (r : Int32 × Int32 × (Nat → Int64) × (Nat → Int32)) (h : X10_looks v_told_size v_told_number v_sightings_size v_sightings_skill v_sightings_wanting v_sightings_woke v_sightings_fits = some r) : Ct l yX10_looks cX10_looks 7 (some .int) 2 46 D cy [.ref q0] [oX10 q0 u0_0 (.ref q1) u0_2 u0_3 u0_4 u0_5 u0_6 u0_7 u0_8 u0_9 u0_10 (.ref q3) u0_12, oX2 q1 (.ref q2) (.int v_told_size), aJ cy q2 16 v_told_number, oX8 q3 (.ref q4) (.ref q5) (.ref q6) (.ref q7) (.int v_sightings_size), aI cy q4 10 v_sightings_skill, aI cy q5 10 v_sightings_wanting, aZ cy q6 10 v_sightings_woke, aZ cy q7 160 v_sightings_fits] (fun _ => [oX10 q0 u0_0 (.ref q1) u0_2 u0_3 u0_4 u0_5 u0_6 u0_7 u0_8 u0_9 u0_10 (.ref q3) u0_12, oX2 q1 (.ref q2) (.int r.2.1), aJ cy q2 16 r.2.2.1, oX8 q3 (.ref q4) (.ref q5) (.ref q6) (.ref q7) (.int v_sightings_size), aI cy q4 10 v_sightings_skill, aI cy q5 10 v_sightings_wanting, aZ cy q6 10 v_sightings_woke, aZ cy q7 160 r.2.2.2]) (some (.int r.1)) := by
  refine Ct.mk kX10_looks (by decide +kernel) (Nat.le_of_ble_eq_true rfl) ?_
  intro p e s m below meth c A ls args R Q hRf hRl hQ E H locs hS hl
  have hx := E.x
  have hb := E.b
  have hl : lv_has ls 7 [(0, .ref q0)] := hl
  unfold X10_looks at h
  refine lv_aload_n hx hb dX10_looks_0 rfl (lv_at hl 0 rfl) ?_
  refine r_get E frX10_81 hS 0 rfl rfl dX10_looks_1 ?_
  obtain ⟨y4, e1, h⟩ := bd_some h
  refine ct_V (ws' := fun _ => [oX10 q0 u0_0 (.ref q1) u0_2 u0_3 u0_4 u0_5 u0_6 u0_7 u0_8 u0_9 u0_10 (.ref q3) u0_12, oX2 q1 (.ref q2) (.int v_told_size), aJ cy q2 16 v_told_number, oX8 q3 (.ref q4) (.ref q5) (.ref q6) (.ref q7) (.int v_sightings_size), aI cy q4 10 v_sightings_skill, aI cy q5 10 v_sightings_wanting, aZ cy q6 10 v_sightings_woke, aZ cy q7 160 y4.2]) (st' := [.int y4.1]) (rest := []) E hS vlX10_337 (c_X8_sifts (l := l) (D := D) (cy := cy) (q0 := q3) (q1 := q4) (q2 := q5) (q3 := q6) (q4 := q7) (v_size := v_sightings_size) (v_skill := v_sightings_skill) (v_wanting := v_sightings_wanting) (v_woke := v_sightings_woke) (v_fits := v_sightings_fits) (r := y4) e1) [3, 4, 5, 6, 7] rfl rfl (fun _ => rfl) (fun _ => rfl) rfl rfl rfl rfl (Nat.le_of_ble_eq_true rfl) hl.1 (by rw [hRf]; exact Nat.le_of_ble_eq_true rfl) (by rw [hRl]; exact Nat.le_of_ble_eq_true rfl) ⟨Nat.zero_le _, Nat.zero_le _⟩ dX10_looks_4 rfl (fun H locs _ hS => ?_)
  refine lv_istore_n (lv' := [(1, .int y4.1), (0, .ref q0)]) hx hb dX10_looks_7 rfl hl (by decide) rfl (fun ls hl => ?_)
  refine lv_iload_n hx hb dX10_looks_8 rfl (lv_at hl 0 rfl) ?_
  refine lv_if_ne (tgt := 15) hx hb dX10_looks_9 (by decide) (fun c2 => ?_) (fun c2 => ?_)
  · have h := it_neg c2 h
    refine lv_iconst (v := 0) hx hb dX10_looks_15 (by decide) ?_
    refine lv_istore_n (lv' := [(2, .int (0 : Int32)), (1, .int y4.1), (0, .ref q0)]) hx hb dX10_looks_16 rfl hl (by decide) rfl (fun ls hl => ?_)
    refine lv_iload_n hx hb dX10_looks_17 rfl (lv_at hl 1 rfl) ?_
    refine lv_iconst (v := 1) hx hb dX10_looks_18 (by decide) ?_
    refine lv_iadd hx hb dX10_looks_19 ?_
    refine lv_istore_n (lv' := [(3, .int (y4.1 + (1 : Int32))), (2, .int (0 : Int32)), (1, .int y4.1), (0, .ref q0)]) hx hb dX10_looks_20 rfl hl (by decide) rfl (fun ls hl => ?_)
    refine lv_iconst (v := 0) hx hb dX10_looks_21 (by decide) ?_
    refine lv_istore (lv' := [(4, .int (0 : Int32)), (3, .int (y4.1 + (1 : Int32))), (2, .int (0 : Int32)), (1, .int y4.1), (0, .ref q0)]) hx hb dX10_looks_22 hl (by decide) rfl (fun ls hl => ?_)
    have hL24 : ∀ (n : Nat) (x24_0 : Int32) (x24_1 : Int32) (x24_2 : Int32) (y24 : Int32 × Int32) (H : Heap) (locs : List Loc) (ls : Array Slot), lp (fun x24 => X10_looks_s24 y4 x24.1 x24.2.1 x24.2.2) n (x24_0, x24_1, x24_2) = some y24 → Sv D A s.heap [oX10 q0 u0_0 (.ref q1) u0_2 u0_3 u0_4 u0_5 u0_6 u0_7 u0_8 u0_9 u0_10 (.ref q3) u0_12, oX2 q1 (.ref q2) (.int v_told_size), aJ cy q2 16 v_told_number, oX8 q3 (.ref q4) (.ref q5) (.ref q6) (.ref q7) (.int v_sightings_size), aI cy q4 10 v_sightings_skill, aI cy q5 10 v_sightings_wanting, aZ cy q6 10 v_sightings_woke, aZ cy q7 160 y4.2] H locs → lv_has ls 7 [(0, .ref q0), (1, .int y4.1), (2, .int x24_0), (3, .int x24_1), (4, .int x24_2)] → ( ∀ (y24_0 : Int32) (y24_1 : Int32), (y24_0, y24_1) = y24 → ∀ (H : Heap) (locs : List Loc) (ls : Array Slot), Sv D A s.heap [oX10 q0 u0_0 (.ref q1) u0_2 u0_3 u0_4 u0_5 u0_6 u0_7 u0_8 u0_9 u0_10 (.ref q3) u0_12, oX2 q1 (.ref q2) (.int v_told_size), aJ cy q2 16 v_told_number, oX8 q3 (.ref q4) (.ref q5) (.ref q6) (.ref q7) (.int v_sightings_size), aI cy q4 10 v_sightings_skill, aI cy q5 10 v_sightings_wanting, aZ cy q6 10 v_sightings_woke, aZ cy q7 160 y4.2] H locs → lv_has ls 7 [(0, .ref q0), (2, .int y24_0), (3, .int y24_1)] → W p l e R s m args below meth c H locs 0 0 Q (F0 m 89 ls [])) → W p l e R s m args below meth c H locs 0 0 Q (F0 m 24 ls []) := by
      intro n
      induction n with
      | zero =>
        intro x24_0 x24_1 x24_2 y24 H locs ls h
        exact lp_zero h
      | succ n ih24 =>
        intro x24_0 x24_1 x24_2 y24 H locs ls h hS hl hk24_0
        obtain ⟨z24, h, hz24a, hz24b⟩ := lp_succ h
        have h : X10_looks_s24 y4 x24_0 x24_1 x24_2 = some z24 := h
        unfold X10_looks_s24 at h
        refine lv_iload hx hb dX10_looks_24 (lv_at hl 4 rfl) ?_
        refine lv_bipush (v := 100) hx hb dX10_looks_26 (by decide) ?_
        refine lv_icmp_ge (tgt := 89) hx hb dX10_looks_28 (by decide) (fun c3 => ?_) (fun c3 => ?_)
        · have h := it_pos c3 h
          exact hk24_0 x24_0 x24_1 (hz24b _ (Option.some.inj h).symm)  H locs ls hS (lv_sub hl [0, 2, 3] rfl)
        · have h := it_neg c3 h
          refine lv_iload hx hb dX10_looks_31 (lv_at hl 4 rfl) ?_
          refine lv_bipush (v := 10) hx hb dX10_looks_33 (by decide) ?_
          obtain ⟨g4, h⟩ := gz_some h
          refine lv_irem hx hb dX10_looks_35 g4 ?_
          refine lv_bipush (v := 7) hx hb dX10_looks_36 (by decide) ?_
          refine lv_icmp_ge (tgt := 83) hx hb dX10_looks_38 (by decide) (fun c5 => ?_) (fun c5 => ?_)
          · have h := it_pos c5 h
            refine lv_iinc (v := (x24_2 + (1 : Int32))) (lv' := [(4, .int (x24_2 + (1 : Int32))), (0, .ref q0), (1, .int y4.1), (2, .int x24_0), (3, .int x24_1)]) hx hb dX10_looks_83 hl (k := 4) rfl rfl (by decide) rfl (fun ls hl => ?_)
            refine lv_goto (tgt := 24) hx hb dX10_looks_86 (by decide) ?_
            exact ih24 x24_0 x24_1 (x24_2 + (1 : Int32)) y24  H locs ls (hz24a _ (Option.some.inj h).symm) hS (lv_sub hl [1, 2, 3, 4, 0] rfl) hk24_0
          · have h := it_neg c5 h
            refine lv_aload_n hx hb dX10_looks_41 rfl (lv_at hl 0 rfl) ?_
            refine r_get E frX10_81 hS 0 rfl rfl dX10_looks_42 ?_
            refine lv_iload hx hb dX10_looks_45 (lv_at hl 4 rfl) ?_
            refine lv_bipush (v := 10) hx hb dX10_looks_47 (by decide) ?_
            obtain ⟨g6, h⟩ := gz_some h
            refine lv_idiv hx hb dX10_looks_49 g6 ?_
            refine lv_iload hx hb dX10_looks_50 (lv_at hl 4 rfl) ?_
            refine lv_bipush (v := 10) hx hb dX10_looks_52 (by decide) ?_
            obtain ⟨g7, h⟩ := gz_some h
            refine lv_irem hx hb dX10_looks_54 g7 ?_
            obtain ⟨y55, e8, h⟩ := bd_some h
            refine ct_V (ws' := fun _ => [oX10 q0 u0_0 (.ref q1) u0_2 u0_3 u0_4 u0_5 u0_6 u0_7 u0_8 u0_9 u0_10 (.ref q3) u0_12, oX2 q1 (.ref q2) (.int v_told_size), aJ cy q2 16 v_told_number, oX8 q3 (.ref q4) (.ref q5) (.ref q6) (.ref q7) (.int v_sightings_size), aI cy q4 10 v_sightings_skill, aI cy q5 10 v_sightings_wanting, aZ cy q6 10 v_sightings_woke, aZ cy q7 160 y4.2]) (st' := [.int y55]) (rest := []) E hS vlX10_346 (c_X8_waking (l := l) (D := D) (cy := cy) (q0 := q3) (q1 := q7) (u0_0 := .ref q4) (u0_1 := .ref q5) (u0_2 := .ref q6) (u0_4 := .int v_sightings_size) (v_fits := y4.2) (p1 := (x24_2 / (10 : Int32))) (p2 := (irem x24_2 (10 : Int32))) (r := y55) e8) [3, 7] rfl rfl (fun _ => rfl) (fun _ => rfl) rfl rfl rfl rfl (Nat.le_of_ble_eq_true rfl) hl.1 (by rw [hRf]; exact Nat.le_of_ble_eq_true rfl) (by rw [hRl]; exact Nat.le_of_ble_eq_true rfl) ⟨Nat.zero_le _, Nat.zero_le _⟩ dX10_looks_55 rfl (fun H locs _ hS => ?_)
            refine lv_istore (lv' := [(5, .int y55), (0, .ref q0), (1, .int y4.1), (2, .int x24_0), (3, .int x24_1), (4, .int x24_2)]) hx hb dX10_looks_58 hl (by decide) rfl (fun ls hl => ?_)
            refine lv_iload hx hb dX10_looks_60 (lv_at hl 0 rfl) ?_
            refine lv_iload_n hx hb dX10_looks_62 rfl (lv_at hl 2 rfl) ?_
            refine lv_iload hx hb dX10_looks_63 (lv_at hl 0 rfl) ?_
            refine lv_isub hx hb dX10_looks_65 ?_
            refine ct_S (ws' := fun _ => [oX10 q0 u0_0 (.ref q1) u0_2 u0_3 u0_4 u0_5 u0_6 u0_7 u0_8 u0_9 u0_10 (.ref q3) u0_12, oX2 q1 (.ref q2) (.int v_told_size), aJ cy q2 16 v_told_number, oX8 q3 (.ref q4) (.ref q5) (.ref q6) (.ref q7) (.int v_sightings_size), aI cy q4 10 v_sightings_skill, aI cy q5 10 v_sightings_wanting, aZ cy q6 10 v_sightings_woke, aZ cy q7 160 y4.2]) (st' := [.int (J9_max_7cf53 y55 (y4.1 - y55))]) (rest := []) E hS slX10_327 (c_J9_max_7cf53 (l := l) (D := D) (cy := cy) (p0 := y55) (p1 := (y4.1 - y55)) (r := (J9_max_7cf53 y55 (y4.1 - y55))) rfl) [] rfl rfl (fun _ => rfl) (fun _ => rfl) rfl rfl (Nat.le_of_ble_eq_true rfl) hl.1 (by rw [hRf]; exact Nat.le_of_ble_eq_true rfl) (by rw [hRl]; exact Nat.le_of_ble_eq_true rfl) ⟨Nat.zero_le _, Nat.zero_le _⟩ dX10_looks_66 rfl (fun H locs _ hS => ?_)
            refine lv_istore (lv' := [(6, .int (J9_max_7cf53 y55 (y4.1 - y55))), (5, .int y55), (0, .ref q0), (1, .int y4.1), (2, .int x24_0), (3, .int x24_1), (4, .int x24_2)]) hx hb dX10_looks_69 hl (by decide) rfl (fun ls hl => ?_)
            refine lv_iload hx hb dX10_looks_71 (lv_at hl 0 rfl) ?_
            refine lv_iload_n hx hb dX10_looks_73 rfl (lv_at hl 5 rfl) ?_
            refine lv_icmp_ge (tgt := 83) hx hb dX10_looks_74 (by decide) (fun c9 => ?_) (fun c9 => ?_)
            · have h := it_pos c9 h
              refine lv_iinc (v := (x24_2 + (1 : Int32))) (lv' := [(4, .int (x24_2 + (1 : Int32))), (6, .int (J9_max_7cf53 y55 (y4.1 - y55))), (5, .int y55), (0, .ref q0), (1, .int y4.1), (2, .int x24_0), (3, .int x24_1)]) hx hb dX10_looks_83 hl (k := 6) rfl rfl (by decide) rfl (fun ls hl => ?_)
              refine lv_goto (tgt := 24) hx hb dX10_looks_86 (by decide) ?_
              exact ih24 x24_0 x24_1 (x24_2 + (1 : Int32)) y24  H locs ls (hz24a _ (Option.some.inj h).symm) hS (lv_sub hl [3, 4, 5, 6, 0] rfl) hk24_0
            · have h := it_neg c9 h
              refine lv_iload hx hb dX10_looks_77 (lv_at hl 0 rfl) ?_
              refine lv_istore_n (lv' := [(3, .int (J9_max_7cf53 y55 (y4.1 - y55))), (6, .int (J9_max_7cf53 y55 (y4.1 - y55))), (5, .int y55), (0, .ref q0), (1, .int y4.1), (2, .int x24_0), (4, .int x24_2)]) hx hb dX10_looks_79 rfl hl (by decide) rfl (fun ls hl => ?_)
              refine lv_iload hx hb dX10_looks_80 (lv_at hl 6 rfl) ?_
              refine lv_istore_n (lv' := [(2, .int x24_2), (3, .int (J9_max_7cf53 y55 (y4.1 - y55))), (6, .int (J9_max_7cf53 y55 (y4.1 - y55))), (5, .int y55), (0, .ref q0), (1, .int y4.1), (4, .int x24_2)]) hx hb dX10_looks_82 rfl hl (by decide) rfl (fun ls hl => ?_)
              refine lv_iinc (v := (x24_2 + (1 : Int32))) (lv' := [(4, .int (x24_2 + (1 : Int32))), (2, .int x24_2), (3, .int (J9_max_7cf53 y55 (y4.1 - y55))), (6, .int (J9_max_7cf53 y55 (y4.1 - y55))), (5, .int y55), (0, .ref q0), (1, .int y4.1)]) hx hb dX10_looks_83 hl (k := 6) rfl rfl (by decide) rfl (fun ls hl => ?_)
              refine lv_goto (tgt := 24) hx hb dX10_looks_86 (by decide) ?_
              exact ih24 x24_2 (J9_max_7cf53 y55 (y4.1 - y55)) (x24_2 + (1 : Int32)) y24  H locs ls (hz24a _ (Option.some.inj h).symm) hS (lv_sub hl [5, 6, 1, 2, 0] rfl) hk24_0
    obtain ⟨y24, e24, h⟩ := bd_some h
    refine hL24 1000 (0 : Int32) (y4.1 + (1 : Int32)) (0 : Int32) y24  H locs ls e24 hS (lv_sub hl [4, 3, 2, 1, 0] rfl) (fun y24_0 y24_1 ey24 H locs ls hS hl => ?_)
    subst ey24
    have h := un_r h
    refine lv_aload_n hx hb dX10_looks_89 rfl (lv_at hl 0 rfl) ?_
    refine r_get E frX10_19 hS 0 rfl rfl dX10_looks_90 ?_
    refine lv_iload_n hx hb dX10_looks_93 rfl (lv_at hl 2 rfl) ?_
    refine lv_i2l (v := (y24_1.toInt64)) hx hb dX10_looks_94 rfl ?_
    obtain ⟨y95, e10, h⟩ := bd_some h
    refine ct_V (ws' := fun _ => [oX10 q0 u0_0 (.ref q1) u0_2 u0_3 u0_4 u0_5 u0_6 u0_7 u0_8 u0_9 u0_10 (.ref q3) u0_12, oX2 q1 (.ref q2) (.int y95.1), aJ cy q2 16 y95.2, oX8 q3 (.ref q4) (.ref q5) (.ref q6) (.ref q7) (.int v_sightings_size), aI cy q4 10 v_sightings_skill, aI cy q5 10 v_sightings_wanting, aZ cy q6 10 v_sightings_woke, aZ cy q7 160 y4.2]) (st' := []) (rest := []) E hS vlX10_255 (c_X2_tellsOne (l := l) (D := D) (cy := cy) (q0 := q1) (q1 := q2) (v_size := v_told_size) (v_number := v_told_number) (p1 := (y24_1.toInt64)) (r := y95) e10) [1, 2] rfl rfl (fun _ => rfl) (fun _ => rfl) rfl rfl rfl rfl (Nat.le_of_ble_eq_true rfl) hl.1 (by rw [hRf]; exact Nat.le_of_ble_eq_true rfl) (by rw [hRl]; exact Nat.le_of_ble_eq_true rfl) ⟨Nat.zero_le _, Nat.zero_le _⟩ dX10_looks_95 rfl (fun H locs _ hS => ?_)
    refine lv_iload_n hx hb dX10_looks_98 rfl (lv_at hl 1 rfl) ?_
    obtain rfl := Option.some.inj h
    exact rt_i E hQ (.null) hS dX10_looks_99
  · have h := it_pos c2 h
    refine lv_bipush (v := -2) hx hb dX10_looks_12 (by decide) ?_
    obtain rfl := Option.some.inj h
    exact rt_i E hQ (.null) hS dX10_looks_14
set_option maxHeartbeats 4000000 in
set_option maxRecDepth 100000 in
theorem c_X10_power {l : Launch} {D : va_G} {cy : Nat → ClassId} (p0 : Int32) (p1 : Int32) (r : Int32) (h : X10_power p0 p1 = some r) : Ct l yX10_power cX10_power 4 (some .int) 0 0 D cy [.int p0, .int p1] [] (fun _ => []) (some (.int r)) := by
  refine Ct.mk kX10_power (by decide +kernel) (Nat.le_of_ble_eq_true rfl) ?_
  intro p e s m below meth c A ls args R Q hRf hRl hQ E H locs hS hl
  have hx := E.x
  have hb := E.b
  have hl : lv_has ls 4 [(0, .int p0), (1, .int p1)] := hl
  unfold X10_power at h
  refine lv_iconst (v := 1) hx hb dX10_power_0 (by decide) ?_
  refine lv_istore_n (lv' := [(2, .int (1 : Int32)), (0, .int p0), (1, .int p1)]) hx hb dX10_power_1 rfl hl (by decide) rfl (fun ls hl => ?_)
  refine lv_iconst (v := 0) hx hb dX10_power_2 (by decide) ?_
  refine lv_istore_n (lv' := [(3, .int (0 : Int32)), (2, .int (1 : Int32)), (0, .int p0), (1, .int p1)]) hx hb dX10_power_3 rfl hl (by decide) rfl (fun ls hl => ?_)
  have hL4 : ∀ (n : Nat) (x4_0 : Int32) (x4_1 : Int32) (y4 : Int32) (H : Heap) (locs : List Loc) (ls : Array Slot), lp (fun x4 => X10_power_s4 p0 p1 x4.1 x4.2) n (x4_0, x4_1) = some y4 → Sv D A s.heap [] H locs → lv_has ls 4 [(0, .int p0), (1, .int p1), (2, .int x4_0), (3, .int x4_1)] → ( ∀ (y4_0 : Int32), y4_0 = y4 → ∀ (H : Heap) (locs : List Loc) (ls : Array Slot), Sv D A s.heap [] H locs → lv_has ls 4 [(2, .int y4_0)] → W p l e R s m args below meth c H locs 0 0 Q (F0 m 19 ls [])) → W p l e R s m args below meth c H locs 0 0 Q (F0 m 4 ls []) := by
    intro n
    induction n with
    | zero =>
      intro x4_0 x4_1 y4 H locs ls h
      exact lp_zero h
    | succ n ih4 =>
      intro x4_0 x4_1 y4 H locs ls h hS hl hk4_0
      obtain ⟨z4, h, hz4a, hz4b⟩ := lp_succ h
      have h : X10_power_s4 p0 p1 x4_0 x4_1 = some z4 := h
      unfold X10_power_s4 at h
      refine lv_iload_n hx hb dX10_power_4 rfl (lv_at hl 3 rfl) ?_
      refine lv_iload_n hx hb dX10_power_5 rfl (lv_at hl 1 rfl) ?_
      refine lv_icmp_ge (tgt := 19) hx hb dX10_power_6 (by decide) (fun c1 => ?_) (fun c1 => ?_)
      · have h := it_pos c1 h
        exact hk4_0 x4_0 (hz4b _ (Option.some.inj h).symm)  H locs ls hS (lv_sub hl [2] rfl)
      · have h := it_neg c1 h
        refine lv_iload_n hx hb dX10_power_9 rfl (lv_at hl 2 rfl) ?_
        refine lv_iload_n hx hb dX10_power_10 rfl (lv_at hl 0 rfl) ?_
        refine lv_imul hx hb dX10_power_11 ?_
        refine lv_istore_n (lv' := [(2, .int (x4_0 * p0)), (0, .int p0), (1, .int p1), (3, .int x4_1)]) hx hb dX10_power_12 rfl hl (by decide) rfl (fun ls hl => ?_)
        refine lv_iinc (v := (x4_1 + (1 : Int32))) (lv' := [(3, .int (x4_1 + (1 : Int32))), (2, .int (x4_0 * p0)), (0, .int p0), (1, .int p1)]) hx hb dX10_power_13 hl (k := 3) rfl rfl (by decide) rfl (fun ls hl => ?_)
        refine lv_goto (tgt := 4) hx hb dX10_power_16 (by decide) ?_
        exact ih4 (x4_0 * p0) (x4_1 + (1 : Int32)) y4  H locs ls (hz4a _ (Option.some.inj h).symm) hS (lv_sub hl [2, 3, 1, 0] rfl) hk4_0
  obtain ⟨y4, e4, h⟩ := bd_some h
  refine hL4 1000 (1 : Int32) (0 : Int32) y4  H locs ls e4 hS (lv_sub hl [2, 3, 1, 0] rfl) (fun y4_0 ey4 H locs ls hS hl => ?_)
  subst ey4
  refine lv_iload_n hx hb dX10_power_19 rfl (lv_at hl 0 rfl) ?_
  obtain rfl := Option.some.inj h
  exact rt_i E hQ (.null) hS dX10_power_20

