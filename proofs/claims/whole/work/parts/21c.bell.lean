set_option maxHeartbeats 4000000 in
set_option maxRecDepth 100000 in
theorem c_X10_tellsFraction {l : Launch} {D : va_G} {cy : Nat → ClassId} (q0 : Nat) (q1 : Nat) (q2 : Nat) (u0_0 : Value) (u0_2 : Value) (u0_3 : Value) (u0_4 : Value) (u0_5 : Value) (u0_6 : Value) (u0_7 : Value) (u0_8 : Value) (u0_9 : Value) (u0_10 : Value) (u0_11 : Value) (u0_12 : Value) (v_told_size : Int32) (v_told_number : Nat → Int64) (p1 : Int32) (p2 : Int32) (r : Int32 × (Nat → Int64)) (h : X10_tellsFraction v_told_size v_told_number p1 p2 = some r) : Ct l yX10_tellsFraction cX10_tellsFraction 7 none 2 46 D cy [.ref q0, .int p1, .int p2] [oX10 q0 u0_0 (.ref q1) u0_2 u0_3 u0_4 u0_5 u0_6 u0_7 u0_8 u0_9 u0_10 u0_11 u0_12, oX2 q1 (.ref q2) (.int v_told_size), aJ cy q2 16 v_told_number] (fun _ => [oX10 q0 u0_0 (.ref q1) u0_2 u0_3 u0_4 u0_5 u0_6 u0_7 u0_8 u0_9 u0_10 u0_11 u0_12, oX2 q1 (.ref q2) (.int r.1), aJ cy q2 16 r.2]) (none) := by
  refine Ct.mk kX10_tellsFraction (by decide +kernel) (Nat.le_of_ble_eq_true rfl) ?_
  intro p e s m below meth c A ls args R Q hRf hRl hQ E H locs hS hl
  have hx := E.x
  have hb := E.b
  have hl : lv_has ls 7 [(0, .ref q0), (1, .int p1), (2, .int p2)] := hl
  unfold X10_tellsFraction at h
  refine lv_iload_n hx hb dX10_tellsFraction_0 rfl (lv_at hl 2 rfl) ?_
  refine lv_istore_n (lv' := [(3, .int p2), (0, .ref q0), (1, .int p1), (2, .int p2)]) hx hb dX10_tellsFraction_1 rfl hl (by decide) rfl (fun ls hl => ?_)
  refine lv_iload_n hx hb dX10_tellsFraction_2 rfl (lv_at hl 2 rfl) ?_
  refine lv_istore (lv' := [(4, .int p1), (3, .int p2), (0, .ref q0), (1, .int p1), (2, .int p2)]) hx hb dX10_tellsFraction_3 hl (by decide) rfl (fun ls hl => ?_)
  refine lv_iconst (v := 0) hx hb dX10_tellsFraction_5 (by decide) ?_
  refine lv_istore (lv' := [(5, .int (0 : Int32)), (4, .int p1), (3, .int p2), (0, .ref q0), (1, .int p1), (2, .int p2)]) hx hb dX10_tellsFraction_6 hl (by decide) rfl (fun ls hl => ?_)
  have hL8 : ∀ (n : Nat) (x8_0 : Int32) (x8_1 : Int32) (x8_2 : Int32) (y8 : Int32) (H : Heap) (locs : List Loc) (ls : Array Slot), lp (fun x8 => X10_tellsFraction_s8 x8.1 x8.2.1 x8.2.2) n (x8_0, x8_1, x8_2) = some y8 → Sv D A s.heap [oX10 q0 u0_0 (.ref q1) u0_2 u0_3 u0_4 u0_5 u0_6 u0_7 u0_8 u0_9 u0_10 u0_11 u0_12, oX2 q1 (.ref q2) (.int v_told_size), aJ cy q2 16 v_told_number] H locs → lv_has ls 7 [(0, .ref q0), (1, .int p1), (2, .int p2), (3, .int x8_0), (4, .int x8_1), (5, .int x8_2)] → ( ∀ (y8_0 : Int32), y8_0 = y8 → ∀ (H : Heap) (locs : List Loc) (ls : Array Slot), Sv D A s.heap [oX10 q0 u0_0 (.ref q1) u0_2 u0_3 u0_4 u0_5 u0_6 u0_7 u0_8 u0_9 u0_10 u0_11 u0_12, oX2 q1 (.ref q2) (.int v_told_size), aJ cy q2 16 v_told_number] H locs → lv_has ls 7 [(0, .ref q0), (1, .int p1), (2, .int p2), (3, .int y8_0)] → W p l e R s m args below meth c H locs 0 0 Q (F0 m 39 ls [])) → W p l e R s m args below meth c H locs 0 0 Q (F0 m 8 ls []) := by
    intro n
    induction n with
    | zero =>
      intro x8_0 x8_1 x8_2 y8 H locs ls h
      exact lp_zero h
    | succ n ih8 =>
      intro x8_0 x8_1 x8_2 y8 H locs ls h hS hl hk8_0
      obtain ⟨z8, h, hz8a, hz8b⟩ := lp_succ h
      have h : X10_tellsFraction_s8 x8_0 x8_1 x8_2 = some z8 := h
      unfold X10_tellsFraction_s8 at h
      refine lv_iload hx hb dX10_tellsFraction_8 (lv_at hl 5 rfl) ?_
      refine lv_bipush (v := 64) hx hb dX10_tellsFraction_10 (by decide) ?_
      refine lv_icmp_ge (tgt := 39) hx hb dX10_tellsFraction_12 (by decide) (fun c1 => ?_) (fun c1 => ?_)
      · have h := it_pos c1 h
        exact hk8_0 x8_0 (hz8b _ (Option.some.inj h).symm)  H locs ls hS (lv_sub hl [0, 1, 2, 3] rfl)
      · have h := it_neg c1 h
        refine lv_iload hx hb dX10_tellsFraction_15 (lv_at hl 4 rfl) ?_
        refine lv_if_eq (tgt := 39) hx hb dX10_tellsFraction_17 (by decide) (fun c2 => ?_) (fun c2 => ?_)
        · have h := it_pos c2 h
          exact hk8_0 x8_0 (hz8b _ (Option.some.inj h).symm)  H locs ls hS (lv_sub hl [0, 1, 2, 3] rfl)
        · have h := it_neg c2 h
          refine lv_iload_n hx hb dX10_tellsFraction_20 rfl (lv_at hl 3 rfl) ?_
          refine lv_iload hx hb dX10_tellsFraction_21 (lv_at hl 4 rfl) ?_
          obtain ⟨g3, h⟩ := gz_some h
          refine lv_irem hx hb dX10_tellsFraction_23 g3 ?_
          refine lv_istore (lv' := [(6, .int (irem x8_0 x8_1)), (0, .ref q0), (1, .int p1), (2, .int p2), (3, .int x8_0), (4, .int x8_1), (5, .int x8_2)]) hx hb dX10_tellsFraction_24 hl (by decide) rfl (fun ls hl => ?_)
          refine lv_iload hx hb dX10_tellsFraction_26 (lv_at hl 5 rfl) ?_
          refine lv_istore_n (lv' := [(3, .int x8_1), (6, .int (irem x8_0 x8_1)), (0, .ref q0), (1, .int p1), (2, .int p2), (4, .int x8_1), (5, .int x8_2)]) hx hb dX10_tellsFraction_28 rfl hl (by decide) rfl (fun ls hl => ?_)
          refine lv_iload hx hb dX10_tellsFraction_29 (lv_at hl 1 rfl) ?_
          refine lv_istore (lv' := [(4, .int (irem x8_0 x8_1)), (3, .int x8_1), (6, .int (irem x8_0 x8_1)), (0, .ref q0), (1, .int p1), (2, .int p2), (5, .int x8_2)]) hx hb dX10_tellsFraction_31 hl (by decide) rfl (fun ls hl => ?_)
          refine lv_iinc (v := (x8_2 + (1 : Int32))) (lv' := [(5, .int (x8_2 + (1 : Int32))), (4, .int (irem x8_0 x8_1)), (3, .int x8_1), (6, .int (irem x8_0 x8_1)), (0, .ref q0), (1, .int p1), (2, .int p2)]) hx hb dX10_tellsFraction_33 hl (k := 6) rfl rfl (by decide) rfl (fun ls hl => ?_)
          refine lv_goto (tgt := 8) hx hb dX10_tellsFraction_36 (by decide) ?_
          exact ih8 x8_1 (irem x8_0 x8_1) (x8_2 + (1 : Int32)) y8  H locs ls (hz8a _ (Option.some.inj h).symm) hS (lv_sub hl [4, 5, 6, 2, 1, 0] rfl) hk8_0
  obtain ⟨y8, e8, h⟩ := bd_some h
  refine hL8 1000 p2 p1 (0 : Int32) y8  H locs ls e8 hS (lv_sub hl [3, 4, 5, 2, 1, 0] rfl) (fun y8_0 ey8 H locs ls hS hl => ?_)
  subst ey8
  refine lv_iload_n hx hb dX10_tellsFraction_39 rfl (lv_at hl 3 rfl) ?_
  refine lv_if_eq (tgt := 58) hx hb dX10_tellsFraction_40 (by decide) (fun c4 => ?_) (fun c4 => ?_)
  · have h := it_pos c4 h
    obtain rfl := Option.some.inj h
    exact rt_v E hQ (.null) hS dX10_tellsFraction_58
  · have h := it_neg c4 h
    refine lv_aload_n hx hb dX10_tellsFraction_43 rfl (lv_at hl 0 rfl) ?_
    refine r_get E frX10_19 hS 0 rfl rfl dX10_tellsFraction_44 ?_
    refine lv_iload_n hx hb dX10_tellsFraction_47 rfl (lv_at hl 1 rfl) ?_
    refine lv_iload_n hx hb dX10_tellsFraction_48 rfl (lv_at hl 3 rfl) ?_
    obtain ⟨g5, h⟩ := gz_some h
    refine lv_idiv hx hb dX10_tellsFraction_49 g5 ?_
    refine lv_i2l (v := ((p1 / y8_0).toInt64)) hx hb dX10_tellsFraction_50 rfl ?_
    refine lv_iload_n hx hb dX10_tellsFraction_51 rfl (lv_at hl 2 rfl) ?_
    refine lv_iload_n hx hb dX10_tellsFraction_52 rfl (lv_at hl 3 rfl) ?_
    obtain ⟨g6, h⟩ := gz_some h
    refine lv_idiv hx hb dX10_tellsFraction_53 g6 ?_
    refine lv_i2l (v := ((p2 / y8_0).toInt64)) hx hb dX10_tellsFraction_54 rfl ?_
    obtain ⟨y55, e7, h⟩ := bd_some h
    refine ct_V (ws' := fun _ => [oX10 q0 u0_0 (.ref q1) u0_2 u0_3 u0_4 u0_5 u0_6 u0_7 u0_8 u0_9 u0_10 u0_11 u0_12, oX2 q1 (.ref q2) (.int y55.1), aJ cy q2 16 y55.2]) (st' := []) (rest := []) E hS vlX10_199 (c_X2_tellsBoth (l := l) (D := D) (cy := cy) (q0 := q1) (q1 := q2) (v_size := v_told_size) (v_number := v_told_number) (p1 := ((p1 / y8_0).toInt64)) (p3 := ((p2 / y8_0).toInt64)) (r := y55) e7) [1, 2] rfl rfl (fun _ => rfl) (fun _ => rfl) rfl rfl rfl rfl (Nat.le_of_ble_eq_true rfl) hl.1 (by rw [hRf]; exact Nat.le_of_ble_eq_true rfl) (by rw [hRl]; exact Nat.le_of_ble_eq_true rfl) ⟨Nat.zero_le _, Nat.zero_le _⟩ dX10_tellsFraction_55 rfl (fun H locs _ hS => ?_)
    obtain rfl := Option.some.inj h
    exact rt_v E hQ (.null) hS dX10_tellsFraction_58
set_option maxHeartbeats 4000000 in
set_option maxRecDepth 100000 in
theorem c_X10_odds {l : Launch} {D : va_G} {cy : Nat → ClassId} (q0 : Nat) (q1 : Nat) (q2 : Nat) (q3 : Nat) (q4 : Nat) (q5 : Nat) (q6 : Nat) (q7 : Nat) (q8 : Nat) (q9 : Nat) (q10 : Nat) (q11 : Nat) (u0_0 : Value) (u0_3 : Value) (u0_4 : Value) (u0_5 : Value) (u0_7 : Value) (u0_8 : Value) (u0_9 : Value) (u0_10 : Value) (u0_11 : Value) (u0_12 : Value) (u3_3 : Value) (u3_7 : Value) (v_told_size : Int32) (v_told_number : Nat → Int64) (v_folk_number : Int32) (v_folk_day : Int32) (v_folk_skill : Nat → Int32) (v_folk_pills : Nat → Int32) (v_folk_slept : Nat → Int32) (v_folk_wanted : Nat → Int32) (v_inForce_size : Int32) (v_inForce_code : Nat → Int32) (v_inForce_stack : Nat → Int32) (v_inForce_thing : Nat → Int32) (p1 : Int32) (p2 : Int32) (r : Int32 × Int32 × (Nat → Int64) × (Nat → Int32) × (Nat → Int32)) (h : X10_odds v_told_size v_told_number v_folk_number v_folk_day v_folk_skill v_folk_pills v_folk_slept v_folk_wanted v_inForce_size v_inForce_code v_inForce_stack v_inForce_thing p1 p2 = some r) : Ct l yX10_odds cX10_odds 8 (some .int) 4 94 D cy [.ref q0, .int p1, .int p2] [oX10 q0 u0_0 (.ref q1) (.ref q3) u0_3 u0_4 u0_5 (.ref q8) u0_7 u0_8 u0_9 u0_10 u0_11 u0_12, oX2 q1 (.ref q2) (.int v_told_size), aJ cy q2 16 v_told_number, oX0 q3 (.ref q4) (.ref q5) (.ref q6) u3_3 (.ref q7) (.int v_folk_number) (.int v_folk_day) u3_7, aI cy q4 7 v_folk_skill, aI cy q5 7 v_folk_pills, aI cy q6 7 v_folk_slept, aI cy q7 7 v_folk_wanted, oX5 q8 (.ref q9) (.ref q10) (.ref q11) (.int v_inForce_size), aI cy q9 40 v_inForce_code, aI cy q10 40 v_inForce_stack, aI cy q11 7 v_inForce_thing] (fun _ => [oX10 q0 u0_0 (.ref q1) (.ref q3) u0_3 u0_4 u0_5 (.ref q8) u0_7 u0_8 u0_9 u0_10 u0_11 u0_12, oX2 q1 (.ref q2) (.int r.2.1), aJ cy q2 16 r.2.2.1, oX0 q3 (.ref q4) (.ref q5) (.ref q6) u3_3 (.ref q7) (.int v_folk_number) (.int v_folk_day) u3_7, aI cy q4 7 v_folk_skill, aI cy q5 7 v_folk_pills, aI cy q6 7 v_folk_slept, aI cy q7 7 v_folk_wanted, oX5 q8 (.ref q9) (.ref q10) (.ref q11) (.int v_inForce_size), aI cy q9 40 v_inForce_code, aI cy q10 40 r.2.2.2.1, aI cy q11 7 r.2.2.2.2]) (some (.int r.1)) := by
  refine Ct.mk kX10_odds (by decide +kernel) (Nat.le_of_ble_eq_true rfl) ?_
  intro p e s m below meth c A ls args R Q hRf hRl hQ E H locs hS hl
  have hx := E.x
  have hb := E.b
  have hl : lv_has ls 8 [(0, .ref q0), (1, .int p1), (2, .int p2)] := hl
  unfold X10_odds at h
  refine lv_aload_n hx hb dX10_odds_0 rfl (lv_at hl 0 rfl) ?_
  refine r_get E frX10_26 hS 0 rfl rfl dX10_odds_1 ?_
  refine lv_iload_n hx hb dX10_odds_4 rfl (lv_at hl 1 rfl) ?_
  refine ct_V (ws' := fun _ => [oX10 q0 u0_0 (.ref q1) (.ref q3) u0_3 u0_4 u0_5 (.ref q8) u0_7 u0_8 u0_9 u0_10 u0_11 u0_12, oX2 q1 (.ref q2) (.int v_told_size), aJ cy q2 16 v_told_number, oX0 q3 (.ref q4) (.ref q5) (.ref q6) u3_3 (.ref q7) (.int v_folk_number) (.int v_folk_day) u3_7, aI cy q4 7 v_folk_skill, aI cy q5 7 v_folk_pills, aI cy q6 7 v_folk_slept, aI cy q7 7 v_folk_wanted, oX5 q8 (.ref q9) (.ref q10) (.ref q11) (.int v_inForce_size), aI cy q9 40 v_inForce_code, aI cy q10 40 v_inForce_stack, aI cy q11 7 v_inForce_thing]) (st' := [.int (X0_has v_folk_number p1)]) (rest := []) E hS vlX10_148 (c_X0_has (l := l) (D := D) (cy := cy) (q0 := q3) (u0_0 := .ref q4) (u0_1 := .ref q5) (u0_2 := .ref q6) (u0_3 := u3_3) (u0_4 := .ref q7) (u0_6 := .int v_folk_day) (u0_7 := u3_7) (v_number := v_folk_number) (p1 := p1) (r := (X0_has v_folk_number p1)) rfl) [3] rfl rfl (fun _ => rfl) (fun _ => rfl) rfl rfl rfl rfl (Nat.le_of_ble_eq_true rfl) hl.1 (by rw [hRf]; exact Nat.le_of_ble_eq_true rfl) (by rw [hRl]; exact Nat.le_of_ble_eq_true rfl) ⟨Nat.zero_le _, Nat.zero_le _⟩ dX10_odds_5 rfl (fun H locs _ hS => ?_)
  refine lv_if_eq (tgt := 21) hx hb dX10_odds_8 (by decide) (fun c1 => ?_) (fun c1 => ?_)
  · have h := it_pos c1 h
    refine lv_iconst (v := -1) hx hb dX10_odds_21 (by decide) ?_
    obtain rfl := Option.some.inj h
    exact rt_i E hQ (.null) hS dX10_odds_22
  · have h := it_neg c1 h
    refine lv_iload_n hx hb dX10_odds_11 rfl (lv_at hl 2 rfl) ?_
    refine lv_if_lt (tgt := 21) hx hb dX10_odds_12 (by decide) (fun c2 => ?_) (fun c2 => ?_)
    · have h := it_pos c2 h
      refine lv_iconst (v := -1) hx hb dX10_odds_21 (by decide) ?_
      obtain rfl := Option.some.inj h
      exact rt_i E hQ (.null) hS dX10_odds_22
    · have h := it_neg c2 h
      refine lv_iload_n hx hb dX10_odds_15 rfl (lv_at hl 2 rfl) ?_
      refine lv_bipush (v := 10) hx hb dX10_odds_16 (by decide) ?_
      refine lv_icmp_le (tgt := 23) hx hb dX10_odds_18 (by decide) (fun c3 => ?_) (fun c3 => ?_)
      · have h := it_pos c3 h
        refine lv_aload_n hx hb dX10_odds_23 rfl (lv_at hl 0 rfl) ?_
        refine r_get E frX10_26 hS 0 rfl rfl dX10_odds_24 ?_
        refine lv_iload_n hx hb dX10_odds_27 rfl (lv_at hl 1 rfl) ?_
        obtain ⟨y28, e4, h⟩ := bd_some h
        refine ct_V (ws' := fun _ => [oX10 q0 u0_0 (.ref q1) (.ref q3) u0_3 u0_4 u0_5 (.ref q8) u0_7 u0_8 u0_9 u0_10 u0_11 u0_12, oX2 q1 (.ref q2) (.int v_told_size), aJ cy q2 16 v_told_number, oX0 q3 (.ref q4) (.ref q5) (.ref q6) u3_3 (.ref q7) (.int v_folk_number) (.int v_folk_day) u3_7, aI cy q4 7 v_folk_skill, aI cy q5 7 v_folk_pills, aI cy q6 7 v_folk_slept, aI cy q7 7 v_folk_wanted, oX5 q8 (.ref q9) (.ref q10) (.ref q11) (.int v_inForce_size), aI cy q9 40 v_inForce_code, aI cy q10 40 v_inForce_stack, aI cy q11 7 v_inForce_thing]) (st' := [.int y28]) (rest := []) E hS vlX10_170 (c_X0_wanting (l := l) (D := D) (cy := cy) (q0 := q3) (q1 := q7) (u0_0 := .ref q4) (u0_1 := .ref q5) (u0_2 := .ref q6) (u0_3 := u3_3) (u0_6 := .int v_folk_day) (u0_7 := u3_7) (v_number := v_folk_number) (v_wanted := v_folk_wanted) (p1 := p1) (r := y28) e4) [3, 7] rfl rfl (fun _ => rfl) (fun _ => rfl) rfl rfl rfl rfl (Nat.le_of_ble_eq_true rfl) hl.1 (by rw [hRf]; exact Nat.le_of_ble_eq_true rfl) (by rw [hRl]; exact Nat.le_of_ble_eq_true rfl) ⟨Nat.zero_le _, Nat.zero_le _⟩ dX10_odds_28 rfl (fun H locs _ hS => ?_)
        refine lv_istore_n (lv' := [(3, .int y28), (0, .ref q0), (1, .int p1), (2, .int p2)]) hx hb dX10_odds_31 rfl hl (by decide) rfl (fun ls hl => ?_)
        refine lv_iload_n hx hb dX10_odds_32 rfl (lv_at hl 0 rfl) ?_
        refine ct_S (ws' := fun _ => [oX10 q0 u0_0 (.ref q1) (.ref q3) u0_3 u0_4 u0_5 (.ref q8) u0_7 u0_8 u0_9 u0_10 u0_11 u0_12, oX2 q1 (.ref q2) (.int v_told_size), aJ cy q2 16 v_told_number, oX0 q3 (.ref q4) (.ref q5) (.ref q6) u3_3 (.ref q7) (.int v_folk_number) (.int v_folk_day) u3_7, aI cy q4 7 v_folk_skill, aI cy q5 7 v_folk_pills, aI cy q6 7 v_folk_slept, aI cy q7 7 v_folk_wanted, oX5 q8 (.ref q9) (.ref q10) (.ref q11) (.int v_inForce_size), aI cy q9 40 v_inForce_code, aI cy q10 40 v_inForce_stack, aI cy q11 7 v_inForce_thing]) (st' := [.int (J6_bitCount_0f7a4 y28)]) (rest := []) E hS slX10_241 (c_J6_bitCount_0f7a4 (l := l) (D := D) (cy := cy) (p0 := y28) (r := (J6_bitCount_0f7a4 y28)) rfl) [] rfl rfl (fun _ => rfl) (fun _ => rfl) rfl rfl (Nat.le_of_ble_eq_true rfl) hl.1 (by rw [hRf]; exact Nat.le_of_ble_eq_true rfl) (by rw [hRl]; exact Nat.le_of_ble_eq_true rfl) ⟨Nat.zero_le _, Nat.zero_le _⟩ dX10_odds_33 rfl (fun H locs _ hS => ?_)
        refine lv_istore (lv' := [(4, .int (J6_bitCount_0f7a4 y28)), (3, .int y28), (0, .ref q0), (1, .int p1), (2, .int p2)]) hx hb dX10_odds_36 hl (by decide) rfl (fun ls hl => ?_)
        refine lv_iconst (v := 0) hx hb dX10_odds_38 (by decide) ?_
        refine lv_istore (lv' := [(5, .int (0 : Int32)), (4, .int (J6_bitCount_0f7a4 y28)), (3, .int y28), (0, .ref q0), (1, .int p1), (2, .int p2)]) hx hb dX10_odds_39 hl (by decide) rfl (fun ls hl => ?_)
        refine lv_iconst (v := 0) hx hb dX10_odds_41 (by decide) ?_
        refine lv_istore (lv' := [(6, .int (0 : Int32)), (5, .int (0 : Int32)), (4, .int (J6_bitCount_0f7a4 y28)), (3, .int y28), (0, .ref q0), (1, .int p1), (2, .int p2)]) hx hb dX10_odds_42 hl (by decide) rfl (fun ls hl => ?_)
        have hL44 : ∀ (n : Nat) (x44_0 : Int32) (x44_1 : Int32) (x44_2 : Nat → Int32) (x44_3 : Nat → Int32) (y44 : Int32 × (Nat → Int32) × (Nat → Int32)) (H : Heap) (locs : List Loc) (ls : Array Slot), lp (fun x44 => X10_odds_s44 v_folk_number v_folk_day v_folk_skill v_folk_pills v_folk_slept v_folk_wanted v_inForce_size v_inForce_code p1 p2 y28 x44.1 x44.2.1 x44.2.2.1 x44.2.2.2) n (x44_0, x44_1, x44_2, x44_3) = some y44 → Sv D A s.heap [oX10 q0 u0_0 (.ref q1) (.ref q3) u0_3 u0_4 u0_5 (.ref q8) u0_7 u0_8 u0_9 u0_10 u0_11 u0_12, oX2 q1 (.ref q2) (.int v_told_size), aJ cy q2 16 v_told_number, oX0 q3 (.ref q4) (.ref q5) (.ref q6) u3_3 (.ref q7) (.int v_folk_number) (.int v_folk_day) u3_7, aI cy q4 7 v_folk_skill, aI cy q5 7 v_folk_pills, aI cy q6 7 v_folk_slept, aI cy q7 7 v_folk_wanted, oX5 q8 (.ref q9) (.ref q10) (.ref q11) (.int v_inForce_size), aI cy q9 40 v_inForce_code, aI cy q10 40 x44_2, aI cy q11 7 x44_3] H locs → lv_has ls 8 [(0, .ref q0), (1, .int p1), (2, .int p2), (3, .int y28), (4, .int (J6_bitCount_0f7a4 y28)), (5, .int x44_0), (6, .int x44_1)] → ( ∀ (y44_0 : Int32) (y44_1 : Nat → Int32) (y44_2 : Nat → Int32), (y44_0, y44_1, y44_2) = y44 → ∀ (H : Heap) (locs : List Loc) (ls : Array Slot), Sv D A s.heap [oX10 q0 u0_0 (.ref q1) (.ref q3) u0_3 u0_4 u0_5 (.ref q8) u0_7 u0_8 u0_9 u0_10 u0_11 u0_12, oX2 q1 (.ref q2) (.int v_told_size), aJ cy q2 16 v_told_number, oX0 q3 (.ref q4) (.ref q5) (.ref q6) u3_3 (.ref q7) (.int v_folk_number) (.int v_folk_day) u3_7, aI cy q4 7 v_folk_skill, aI cy q5 7 v_folk_pills, aI cy q6 7 v_folk_slept, aI cy q7 7 v_folk_wanted, oX5 q8 (.ref q9) (.ref q10) (.ref q11) (.int v_inForce_size), aI cy q9 40 v_inForce_code, aI cy q10 40 y44_1, aI cy q11 7 y44_2] H locs → lv_has ls 8 [(0, .ref q0), (4, .int (J6_bitCount_0f7a4 y28)), (5, .int y44_0)] → W p l e R s m args below meth c H locs 0 0 Q (F0 m 115 ls [])) → W p l e R s m args below meth c H locs 0 0 Q (F0 m 44 ls []) := by
          intro n
          induction n with
          | zero =>
            intro x44_0 x44_1 x44_2 x44_3 y44 H locs ls h
            exact lp_zero h
          | succ n ih44 =>
            intro x44_0 x44_1 x44_2 x44_3 y44 H locs ls h hS hl hk44_0
            obtain ⟨z44, h, hz44a, hz44b⟩ := lp_succ h
            have h : X10_odds_s44 v_folk_number v_folk_day v_folk_skill v_folk_pills v_folk_slept v_folk_wanted v_inForce_size v_inForce_code p1 p2 y28 x44_0 x44_1 x44_2 x44_3 = some z44 := h
            unfold X10_odds_s44 at h
            refine lv_iload hx hb dX10_odds_44 (lv_at hl 6 rfl) ?_
            refine lv_sipush (v := 128) hx hb dX10_odds_46 (by decide) ?_
            refine lv_icmp_ge (tgt := 115) hx hb dX10_odds_49 (by decide) (fun c5 => ?_) (fun c5 => ?_)
            · have h := it_pos c5 h
              exact hk44_0 x44_0 x44_2 x44_3 (hz44b _ (Option.some.inj h).symm)  H locs ls hS (lv_sub hl [0, 4, 5] rfl)
            · have h := it_neg c5 h
              refine lv_iload hx hb dX10_odds_52 (lv_at hl 6 rfl) ?_
              refine lv_iload_n hx hb dX10_odds_54 rfl (lv_at hl 3 rfl) ?_
              refine lv_iconst (v := -1) hx hb dX10_odds_55 (by decide) ?_
              refine lv_ixor hx hb dX10_odds_56 ?_
              refine lv_iand hx hb dX10_odds_57 ?_
              refine lv_if_ne (tgt := 109) hx hb dX10_odds_58 (by decide) (fun c6 => ?_) (fun c6 => ?_)
              · have h := it_neg c6 h
                refine lv_iinc (v := (x44_1 + (1 : Int32))) (lv' := [(6, .int (x44_1 + (1 : Int32))), (0, .ref q0), (1, .int p1), (2, .int p2), (3, .int y28), (4, .int (J6_bitCount_0f7a4 y28)), (5, .int x44_0)]) hx hb dX10_odds_109 hl (k := 6) rfl rfl (by decide) rfl (fun ls hl => ?_)
                refine lv_goto (tgt := 44) hx hb dX10_odds_112 (by decide) ?_
                exact ih44 x44_0 (x44_1 + (1 : Int32)) x44_2 x44_3 y44  H locs ls (hz44a _ (Option.some.inj h).symm) hS (lv_sub hl [1, 2, 3, 4, 5, 6, 0] rfl) hk44_0
              · have h := it_pos c6 h
                refine lv_aload_n hx hb dX10_odds_61 rfl (lv_at hl 0 rfl) ?_
                refine r_get E frX10_50 hS 0 rfl rfl dX10_odds_62 ?_
                refine lv_aload_n hx hb dX10_odds_65 rfl (lv_at hl 0 rfl) ?_
                refine r_get E frX10_26 hS 0 rfl rfl dX10_odds_66 ?_
                refine lv_iload_n hx hb dX10_odds_69 rfl (lv_at hl 1 rfl) ?_
                refine lv_iload hx hb dX10_odds_70 (lv_at hl 6 rfl) ?_
                obtain ⟨y72, e7, h⟩ := bd_some h
                refine ct_V (ws' := fun _ => [oX10 q0 u0_0 (.ref q1) (.ref q3) u0_3 u0_4 u0_5 (.ref q8) u0_7 u0_8 u0_9 u0_10 u0_11 u0_12, oX2 q1 (.ref q2) (.int v_told_size), aJ cy q2 16 v_told_number, oX0 q3 (.ref q4) (.ref q5) (.ref q6) u3_3 (.ref q7) (.int v_folk_number) (.int v_folk_day) u3_7, aI cy q4 7 v_folk_skill, aI cy q5 7 v_folk_pills, aI cy q6 7 v_folk_slept, aI cy q7 7 v_folk_wanted, oX5 q8 (.ref q9) (.ref q10) (.ref q11) (.int v_inForce_size), aI cy q9 40 v_inForce_code, aI cy q10 40 y72.2.1, aI cy q11 7 y72.2.2]) (st' := [.int y72.1]) (rest := []) E hS vlX10_281 (c_X5_rouses (l := l) (D := D) (cy := cy) (q0 := q8) (q1 := q9) (q2 := q10) (q3 := q11) (q4 := q3) (q5 := q4) (q6 := q5) (q7 := q6) (q8 := q7) (u4_3 := u3_3) (u4_7 := u3_7) (v_size := v_inForce_size) (v_code := v_inForce_code) (v_stack := x44_2) (v_thing := x44_3) (w1_number := v_folk_number) (w1_day := v_folk_day) (w1_skill := v_folk_skill) (w1_pills := v_folk_pills) (w1_slept := v_folk_slept) (w1_wanted := v_folk_wanted) (p2 := p1) (p3 := x44_1) (r := y72) e7) [8, 9, 10, 11, 3, 4, 5, 6, 7] rfl rfl (fun _ => rfl) (fun _ => rfl) rfl rfl rfl rfl (Nat.le_of_ble_eq_true rfl) hl.1 (by rw [hRf]; exact Nat.le_of_ble_eq_true rfl) (by rw [hRl]; exact Nat.le_of_ble_eq_true rfl) ⟨Nat.zero_le _, Nat.zero_le _⟩ dX10_odds_72 rfl (fun H locs _ hS => ?_)
                refine lv_if_eq (tgt := 109) hx hb dX10_odds_75 (by decide) (fun c8 => ?_) (fun c8 => ?_)
                · have h := it_pos c8 h
                  refine lv_iinc (v := (x44_1 + (1 : Int32))) (lv' := [(6, .int (x44_1 + (1 : Int32))), (0, .ref q0), (1, .int p1), (2, .int p2), (3, .int y28), (4, .int (J6_bitCount_0f7a4 y28)), (5, .int x44_0)]) hx hb dX10_odds_109 hl (k := 6) rfl rfl (by decide) rfl (fun ls hl => ?_)
                  refine lv_goto (tgt := 44) hx hb dX10_odds_112 (by decide) ?_
                  exact ih44 x44_0 (x44_1 + (1 : Int32)) y72.2.1 y72.2.2 y44  H locs ls (hz44a _ (Option.some.inj h).symm) hS (lv_sub hl [1, 2, 3, 4, 5, 6, 0] rfl) hk44_0
                · have h := it_neg c8 h
                  refine lv_iload hx hb dX10_odds_78 (lv_at hl 6 rfl) ?_
                  refine ct_S (ws' := fun _ => [oX10 q0 u0_0 (.ref q1) (.ref q3) u0_3 u0_4 u0_5 (.ref q8) u0_7 u0_8 u0_9 u0_10 u0_11 u0_12, oX2 q1 (.ref q2) (.int v_told_size), aJ cy q2 16 v_told_number, oX0 q3 (.ref q4) (.ref q5) (.ref q6) u3_3 (.ref q7) (.int v_folk_number) (.int v_folk_day) u3_7, aI cy q4 7 v_folk_skill, aI cy q5 7 v_folk_pills, aI cy q6 7 v_folk_slept, aI cy q7 7 v_folk_wanted, oX5 q8 (.ref q9) (.ref q10) (.ref q11) (.int v_inForce_size), aI cy q9 40 v_inForce_code, aI cy q10 40 y72.2.1, aI cy q11 7 y72.2.2]) (st' := [.int (J6_bitCount_0f7a4 x44_1)]) (rest := []) E hS slX10_241 (c_J6_bitCount_0f7a4 (l := l) (D := D) (cy := cy) (p0 := x44_1) (r := (J6_bitCount_0f7a4 x44_1)) rfl) [] rfl rfl (fun _ => rfl) (fun _ => rfl) rfl rfl (Nat.le_of_ble_eq_true rfl) hl.1 (by rw [hRf]; exact Nat.le_of_ble_eq_true rfl) (by rw [hRl]; exact Nat.le_of_ble_eq_true rfl) ⟨Nat.zero_le _, Nat.zero_le _⟩ dX10_odds_80 rfl (fun H locs _ hS => ?_)
                  refine lv_istore (lv' := [(7, .int (J6_bitCount_0f7a4 x44_1)), (0, .ref q0), (1, .int p1), (2, .int p2), (3, .int y28), (4, .int (J6_bitCount_0f7a4 y28)), (5, .int x44_0), (6, .int x44_1)]) hx hb dX10_odds_83 hl (by decide) rfl (fun ls hl => ?_)
                  refine lv_iload hx hb dX10_odds_85 (lv_at hl 6 rfl) ?_
                  refine lv_iload_n hx hb dX10_odds_87 rfl (lv_at hl 3 rfl) ?_
                  refine lv_iload hx hb dX10_odds_88 (lv_at hl 0 rfl) ?_
                  obtain ⟨y90, e9, h⟩ := bd_some h
                  refine ct_S (ws' := fun _ => [oX10 q0 u0_0 (.ref q1) (.ref q3) u0_3 u0_4 u0_5 (.ref q8) u0_7 u0_8 u0_9 u0_10 u0_11 u0_12, oX2 q1 (.ref q2) (.int v_told_size), aJ cy q2 16 v_told_number, oX0 q3 (.ref q4) (.ref q5) (.ref q6) u3_3 (.ref q7) (.int v_folk_number) (.int v_folk_day) u3_7, aI cy q4 7 v_folk_skill, aI cy q5 7 v_folk_pills, aI cy q6 7 v_folk_slept, aI cy q7 7 v_folk_wanted, oX5 q8 (.ref q9) (.ref q10) (.ref q11) (.int v_inForce_size), aI cy q9 40 v_inForce_code, aI cy q10 40 y72.2.1, aI cy q11 7 y72.2.2]) (st' := [.int y90, .int x44_0]) (rest := [.int x44_0]) E hS slX10_349 (c_X10_power (l := l) (D := D) (cy := cy) (p0 := p2) (p1 := (J6_bitCount_0f7a4 x44_1)) (r := y90) e9) [] rfl rfl (fun _ => rfl) (fun _ => rfl) rfl rfl (Nat.le_of_ble_eq_true rfl) hl.1 (by rw [hRf]; exact Nat.le_of_ble_eq_true rfl) (by rw [hRl]; exact Nat.le_of_ble_eq_true rfl) ⟨Nat.zero_le _, Nat.zero_le _⟩ dX10_odds_90 rfl (fun H locs _ hS => ?_)
                  refine lv_bipush (v := 10) hx hb dX10_odds_93 (by decide) ?_
                  refine lv_iload_n hx hb dX10_odds_95 rfl (lv_at hl 3 rfl) ?_
                  refine lv_isub hx hb dX10_odds_96 ?_
                  refine lv_iload hx hb dX10_odds_97 (lv_at hl 5 rfl) ?_
                  refine lv_iload hx hb dX10_odds_99 (lv_at hl 0 rfl) ?_
                  refine lv_isub hx hb dX10_odds_101 ?_
                  obtain ⟨y102, e10, h⟩ := bd_some h
                  refine ct_S (ws' := fun _ => [oX10 q0 u0_0 (.ref q1) (.ref q3) u0_3 u0_4 u0_5 (.ref q8) u0_7 u0_8 u0_9 u0_10 u0_11 u0_12, oX2 q1 (.ref q2) (.int v_told_size), aJ cy q2 16 v_told_number, oX0 q3 (.ref q4) (.ref q5) (.ref q6) u3_3 (.ref q7) (.int v_folk_number) (.int v_folk_day) u3_7, aI cy q4 7 v_folk_skill, aI cy q5 7 v_folk_pills, aI cy q6 7 v_folk_slept, aI cy q7 7 v_folk_wanted, oX5 q8 (.ref q9) (.ref q10) (.ref q11) (.int v_inForce_size), aI cy q9 40 v_inForce_code, aI cy q10 40 y72.2.1, aI cy q11 7 y72.2.2]) (st' := [.int y102, .int y90, .int x44_0]) (rest := [.int y90, .int x44_0]) E hS slX10_349 (c_X10_power (l := l) (D := D) (cy := cy) (p0 := ((10 : Int32) - p2)) (p1 := ((J6_bitCount_0f7a4 y28) - (J6_bitCount_0f7a4 x44_1))) (r := y102) e10) [] rfl rfl (fun _ => rfl) (fun _ => rfl) rfl rfl (Nat.le_of_ble_eq_true rfl) hl.1 (by rw [hRf]; exact Nat.le_of_ble_eq_true rfl) (by rw [hRl]; exact Nat.le_of_ble_eq_true rfl) ⟨Nat.zero_le _, Nat.zero_le _⟩ dX10_odds_102 rfl (fun H locs _ hS => ?_)
                  refine lv_imul hx hb dX10_odds_105 ?_
                  refine lv_iadd hx hb dX10_odds_106 ?_
                  refine lv_istore (lv' := [(5, .int (x44_0 + (y90 * y102))), (7, .int (J6_bitCount_0f7a4 x44_1)), (0, .ref q0), (1, .int p1), (2, .int p2), (3, .int y28), (4, .int (J6_bitCount_0f7a4 y28)), (6, .int x44_1)]) hx hb dX10_odds_107 hl (by decide) rfl (fun ls hl => ?_)
                  refine lv_iinc (v := (x44_1 + (1 : Int32))) (lv' := [(6, .int (x44_1 + (1 : Int32))), (5, .int (x44_0 + (y90 * y102))), (7, .int (J6_bitCount_0f7a4 x44_1)), (0, .ref q0), (1, .int p1), (2, .int p2), (3, .int y28), (4, .int (J6_bitCount_0f7a4 y28))]) hx hb dX10_odds_109 hl (k := 7) rfl rfl (by decide) rfl (fun ls hl => ?_)
                  refine lv_goto (tgt := 44) hx hb dX10_odds_112 (by decide) ?_
                  exact ih44 (x44_0 + (y90 * y102)) (x44_1 + (1 : Int32)) y72.2.1 y72.2.2 y44  H locs ls (hz44a _ (Option.some.inj h).symm) hS (lv_sub hl [3, 4, 5, 6, 7, 1, 0] rfl) hk44_0
        obtain ⟨y44, e44, h⟩ := bd_some h
        refine hL44 1000 (0 : Int32) (0 : Int32) v_inForce_stack v_inForce_thing y44  H locs ls e44 hS (lv_sub hl [4, 5, 6, 3, 2, 1, 0] rfl) (fun y44_0 y44_1 y44_2 ey44 H locs ls hS hl => ?_)
        subst ey44
        have h := un_r h
        have h := un_r h
        refine lv_aload_n hx hb dX10_odds_115 rfl (lv_at hl 0 rfl) ?_
        refine lv_iload hx hb dX10_odds_116 (lv_at hl 2 rfl) ?_
        refine lv_bipush (v := 10) hx hb dX10_odds_118 (by decide) ?_
        refine lv_iload hx hb dX10_odds_120 (lv_at hl 1 rfl) ?_
        obtain ⟨y122, e11, h⟩ := bd_some h
        refine ct_S (ws' := fun _ => [oX10 q0 u0_0 (.ref q1) (.ref q3) u0_3 u0_4 u0_5 (.ref q8) u0_7 u0_8 u0_9 u0_10 u0_11 u0_12, oX2 q1 (.ref q2) (.int v_told_size), aJ cy q2 16 v_told_number, oX0 q3 (.ref q4) (.ref q5) (.ref q6) u3_3 (.ref q7) (.int v_folk_number) (.int v_folk_day) u3_7, aI cy q4 7 v_folk_skill, aI cy q5 7 v_folk_pills, aI cy q6 7 v_folk_slept, aI cy q7 7 v_folk_wanted, oX5 q8 (.ref q9) (.ref q10) (.ref q11) (.int v_inForce_size), aI cy q9 40 v_inForce_code, aI cy q10 40 y44_1, aI cy q11 7 y44_2]) (st' := [.int y122, .int y44_0, .ref q0]) (rest := [.int y44_0, .ref q0]) E hS slX10_349 (c_X10_power (l := l) (D := D) (cy := cy) (p0 := (10 : Int32)) (p1 := (J6_bitCount_0f7a4 y28)) (r := y122) e11) [] rfl rfl (fun _ => rfl) (fun _ => rfl) rfl rfl (Nat.le_of_ble_eq_true rfl) hl.1 (by rw [hRf]; exact Nat.le_of_ble_eq_true rfl) (by rw [hRl]; exact Nat.le_of_ble_eq_true rfl) ⟨Nat.zero_le _, Nat.zero_le _⟩ dX10_odds_122 rfl (fun H locs _ hS => ?_)
        obtain ⟨y125, e12, h⟩ := bd_some h
        refine ct_V (ws' := fun _ => [oX10 q0 u0_0 (.ref q1) (.ref q3) u0_3 u0_4 u0_5 (.ref q8) u0_7 u0_8 u0_9 u0_10 u0_11 u0_12, oX2 q1 (.ref q2) (.int y125.1), aJ cy q2 16 y125.2, oX0 q3 (.ref q4) (.ref q5) (.ref q6) u3_3 (.ref q7) (.int v_folk_number) (.int v_folk_day) u3_7, aI cy q4 7 v_folk_skill, aI cy q5 7 v_folk_pills, aI cy q6 7 v_folk_slept, aI cy q7 7 v_folk_wanted, oX5 q8 (.ref q9) (.ref q10) (.ref q11) (.int v_inForce_size), aI cy q9 40 v_inForce_code, aI cy q10 40 y44_1, aI cy q11 7 y44_2]) (st' := []) (rest := []) E hS vlX10_352 (c_X10_tellsFraction (l := l) (D := D) (cy := cy) (q0 := q0) (q1 := q1) (q2 := q2) (u0_0 := u0_0) (u0_2 := .ref q3) (u0_3 := u0_3) (u0_4 := u0_4) (u0_5 := u0_5) (u0_6 := .ref q8) (u0_7 := u0_7) (u0_8 := u0_8) (u0_9 := u0_9) (u0_10 := u0_10) (u0_11 := u0_11) (u0_12 := u0_12) (v_told_size := v_told_size) (v_told_number := v_told_number) (p1 := y44_0) (p2 := y122) (r := y125) e12) [0, 1, 2] rfl rfl (fun _ => rfl) (fun _ => rfl) rfl rfl rfl rfl (Nat.le_of_ble_eq_true rfl) hl.1 (by rw [hRf]; exact Nat.le_of_ble_eq_true rfl) (by rw [hRl]; exact Nat.le_of_ble_eq_true rfl) ⟨Nat.zero_le _, Nat.zero_le _⟩ dX10_odds_125 rfl (fun H locs _ hS => ?_)
        refine lv_iconst (v := 0) hx hb dX10_odds_128 (by decide) ?_
        obtain rfl := Option.some.inj h
        exact rt_i E hQ (.null) hS dX10_odds_129
      · have h := it_neg c3 h
        refine lv_iconst (v := -1) hx hb dX10_odds_21 (by decide) ?_
        obtain rfl := Option.some.inj h
        exact rt_i E hQ (.null) hS dX10_odds_22
set_option maxHeartbeats 4000000 in
set_option maxRecDepth 100000 in
theorem c_X10_leastTurn {l : Launch} {D : va_G} {cy : Nat → ClassId} (p0 : Int64) (p2 : Int32) (r : Int32) (h : X10_leastTurn p0 p2 = some r) : Ct l yX10_leastTurn cX10_leastTurn 5 (some .int) 0 0 D cy [.long p0, .int p2] [] (fun _ => []) (some (.int r)) := by
  refine Ct.mk kX10_leastTurn (by decide +kernel) (Nat.le_of_ble_eq_true rfl) ?_
  intro p e s m below meth c A ls args R Q hRf hRl hQ E H locs hS hl
  have hx := E.x
  have hb := E.b
  have hl : lv_has ls 5 [(0, .long p0), (2, .int p2)] := hl
  unfold X10_leastTurn at h
  refine lv_iload_n hx hb dX10_leastTurn_0 rfl (lv_at hl 1 rfl) ?_
  refine lv_iconst (v := 1) hx hb dX10_leastTurn_1 (by decide) ?_
  refine lv_icmp_ge (tgt := 7) hx hb dX10_leastTurn_2 (by decide) (fun c1 => ?_) (fun c1 => ?_)
  · have h := it_pos c1 h
    refine lv_bipush (v := 32) hx hb dX10_leastTurn_7 (by decide) ?_
    refine lv_istore_n (lv' := [(3, .int (32 : Int32)), (0, .long p0), (2, .int p2)]) hx hb dX10_leastTurn_9 rfl hl (by decide) rfl (fun ls hl => ?_)
    refine lv_iconst (v := 0) hx hb dX10_leastTurn_10 (by decide) ?_
    refine lv_istore (lv' := [(4, .int (0 : Int32)), (3, .int (32 : Int32)), (0, .long p0), (2, .int p2)]) hx hb dX10_leastTurn_11 hl (by decide) rfl (fun ls hl => ?_)
    have hL13 : ∀ (n : Nat) (x13_0 : Int32) (x13_1 : Int32) (y13 : Int32) (H : Heap) (locs : List Loc) (ls : Array Slot), lp (fun x13 => X10_leastTurn_s13 p2 x13.1 x13.2) n (x13_0, x13_1) = some y13 → Sv D A s.heap [] H locs → lv_has ls 5 [(0, .long p0), (2, .int p2), (3, .int x13_0), (4, .int x13_1)] → ( ∀ (y13_0 : Int32), y13_0 = y13 → ∀ (H : Heap) (locs : List Loc) (ls : Array Slot), Sv D A s.heap [] H locs → lv_has ls 5 [(0, .long p0), (2, .int p2), (3, .int y13_0)] → W p l e R s m args below meth c H locs 0 0 Q (F0 m 35 ls [])) → W p l e R s m args below meth c H locs 0 0 Q (F0 m 13 ls []) := by
      intro n
      induction n with
      | zero =>
        intro x13_0 x13_1 y13 H locs ls h
        exact lp_zero h
      | succ n ih13 =>
        intro x13_0 x13_1 y13 H locs ls h hS hl hk13_0
        obtain ⟨z13, h, hz13a, hz13b⟩ := lp_succ h
        have h : X10_leastTurn_s13 p2 x13_0 x13_1 = some z13 := h
        unfold X10_leastTurn_s13 at h
        refine lv_iload hx hb dX10_leastTurn_13 (lv_at hl 3 rfl) ?_
        refine lv_bipush (v := 6) hx hb dX10_leastTurn_15 (by decide) ?_
        refine lv_icmp_ge (tgt := 35) hx hb dX10_leastTurn_17 (by decide) (fun c2 => ?_) (fun c2 => ?_)
        · have h := it_pos c2 h
          exact hk13_0 x13_0 (hz13b _ (Option.some.inj h).symm)  H locs ls hS (lv_sub hl [0, 1, 2] rfl)
        · have h := it_neg c2 h
          refine lv_iload_n hx hb dX10_leastTurn_20 rfl (lv_at hl 2 rfl) ?_
          refine lv_iload_n hx hb dX10_leastTurn_21 rfl (lv_at hl 1 rfl) ?_
          refine lv_icmp_le (tgt := 35) hx hb dX10_leastTurn_22 (by decide) (fun c3 => ?_) (fun c3 => ?_)
          · have h := it_pos c3 h
            exact hk13_0 x13_0 (hz13b _ (Option.some.inj h).symm)  H locs ls hS (lv_sub hl [0, 1, 2] rfl)
          · have h := it_neg c3 h
            refine lv_iload_n hx hb dX10_leastTurn_25 rfl (lv_at hl 2 rfl) ?_
            refine lv_iconst (v := 2) hx hb dX10_leastTurn_26 (by decide) ?_
            obtain ⟨g4, h⟩ := gz_some h
            refine lv_idiv hx hb dX10_leastTurn_27 g4 ?_
            refine lv_istore_n (lv' := [(3, .int (x13_0 / (2 : Int32))), (0, .long p0), (2, .int p2), (4, .int x13_1)]) hx hb dX10_leastTurn_28 rfl hl (by decide) rfl (fun ls hl => ?_)
            refine lv_iinc (v := (x13_1 + (1 : Int32))) (lv' := [(4, .int (x13_1 + (1 : Int32))), (3, .int (x13_0 / (2 : Int32))), (0, .long p0), (2, .int p2)]) hx hb dX10_leastTurn_29 hl (k := 3) rfl rfl (by decide) rfl (fun ls hl => ?_)
            refine lv_goto (tgt := 13) hx hb dX10_leastTurn_32 (by decide) ?_
            exact ih13 (x13_0 / (2 : Int32)) (x13_1 + (1 : Int32)) y13  H locs ls (hz13a _ (Option.some.inj h).symm) hS (lv_sub hl [2, 3, 1, 0] rfl) hk13_0
    obtain ⟨y13, e13, h⟩ := bd_some h
    refine hL13 1000 (32 : Int32) (0 : Int32) y13  H locs ls e13 hS (lv_sub hl [2, 3, 1, 0] rfl) (fun y13_0 ey13 H locs ls hS hl => ?_)
    subst ey13
    refine lv_lload_n hx hb dX10_leastTurn_35 rfl (lv_at hl 0 rfl) ?_
    refine lv_iload_n hx hb dX10_leastTurn_36 rfl (lv_at hl 1 rfl) ?_
    refine lv_iconst (v := 1) hx hb dX10_leastTurn_37 (by decide) ?_
    refine lv_isub hx hb dX10_leastTurn_38 ?_
    refine lv_lshr (v := (p0 >>> ((p2 - (1 : Int32)).toInt64 &&& 63))) hx hb dX10_leastTurn_39 rfl ?_
    refine lv_lconst (v := 1) hx hb dX10_leastTurn_40 (by decide) ?_
    refine lv_land hx hb dX10_leastTurn_41 ?_
    refine lv_lconst (v := 0) hx hb dX10_leastTurn_42 (by decide) ?_
    refine W.lcmp hx hb dX10_leastTurn_43 ?_
    refine lv_if_ne (tgt := 49) hx hb dX10_leastTurn_44 (by decide) (fun c5 => ?_) (fun c5 => ?_)
    · have h := it_neg c5 h
      refine lv_lload_n hx hb dX10_leastTurn_49 rfl (lv_at hl 0 rfl) ?_
      refine lv_iload_n hx hb dX10_leastTurn_50 rfl (lv_at hl 1 rfl) ?_
      refine lv_iload_n hx hb dX10_leastTurn_51 rfl (lv_at hl 2 rfl) ?_
      refine lv_isub hx hb dX10_leastTurn_52 ?_
      refine lv_lshr (v := (p0 >>> ((p2 - y13_0).toInt64 &&& 63))) hx hb dX10_leastTurn_53 rfl ?_
      refine lv_lconst (v := 1) hx hb dX10_leastTurn_54 (by decide) ?_
      refine lv_land hx hb dX10_leastTurn_55 ?_
      refine lv_lconst (v := 0) hx hb dX10_leastTurn_56 (by decide) ?_
      refine W.lcmp hx hb dX10_leastTurn_57 ?_
      have hJ66 : ∀ (s66_0 : Int32) (ls : Array Slot), s66_0 = (if (lg_cmp ((p0 >>> ((p2 - y13_0).toInt64 &&& 63)) &&& (1 : Int64)) (0 : Int64)) = 0 then y13_0 else (0 : Int32)) → lv_has ls 5 [] → W p l e R s m args below meth c H locs 0 0 Q (F0 m 66 ls [.int s66_0]) := by
        intro s66_0 ls es66_0 hl
        subst es66_0
        obtain rfl := Option.some.inj h
        exact rt_i E hQ (.null) hS dX10_leastTurn_66
      refine lv_if_ne (tgt := 65) hx hb dX10_leastTurn_58 (by decide) (fun c6 => ?_) (fun c6 => ?_)
      · refine lv_iconst (v := 0) hx hb dX10_leastTurn_65 (by decide) ?_
        exact hJ66 _ ls ((if_neg c6)).symm (lv_sub hl [] rfl)
      · refine lv_iload_n hx hb dX10_leastTurn_61 rfl (lv_at hl 2 rfl) ?_
        refine lv_goto (tgt := 66) hx hb dX10_leastTurn_62 (by decide) ?_
        exact hJ66 _ ls ((if_pos c6)).symm (lv_sub hl [] rfl)
    · have h := it_pos c5 h
      refine lv_iconst (v := 1) hx hb dX10_leastTurn_47 (by decide) ?_
      obtain rfl := Option.some.inj h
      exact rt_i E hQ (.null) hS dX10_leastTurn_48
  · have h := it_neg c1 h
    refine lv_iconst (v := 0) hx hb dX10_leastTurn_5 (by decide) ?_
    obtain rfl := Option.some.inj h
    exact rt_i E hQ (.null) hS dX10_leastTurn_6
set_option maxHeartbeats 4000000 in
set_option maxRecDepth 100000 in
theorem c_X10_vigil {l : Launch} {D : va_G} {cy : Nat → ClassId} (q0 : Nat) (q1 : Nat) (q2 : Nat) (u0_0 : Value) (u0_2 : Value) (u0_3 : Value) (u0_4 : Value) (u0_5 : Value) (u0_6 : Value) (u0_7 : Value) (u0_8 : Value) (u0_9 : Value) (u0_10 : Value) (u0_11 : Value) (u0_12 : Value) (v_told_size : Int32) (v_told_number : Nat → Int64) (p1 : Int32) (r : Int32 × Int32 × (Nat → Int64)) (h : X10_vigil v_told_size v_told_number p1 = some r) : Ct l yX10_vigil cX10_vigil 5 (some .int) 1 24 D cy [.ref q0, .int p1] [oX10 q0 u0_0 (.ref q1) u0_2 u0_3 u0_4 u0_5 u0_6 u0_7 u0_8 u0_9 u0_10 u0_11 u0_12, oX2 q1 (.ref q2) (.int v_told_size), aJ cy q2 16 v_told_number] (fun _ => [oX10 q0 u0_0 (.ref q1) u0_2 u0_3 u0_4 u0_5 u0_6 u0_7 u0_8 u0_9 u0_10 u0_11 u0_12, oX2 q1 (.ref q2) (.int r.2.1), aJ cy q2 16 r.2.2]) (some (.int r.1)) := by
  refine Ct.mk kX10_vigil (by decide +kernel) (Nat.le_of_ble_eq_true rfl) ?_
  intro p e s m below meth c A ls args R Q hRf hRl hQ E H locs hS hl
  have hx := E.x
  have hb := E.b
  have hl : lv_has ls 5 [(0, .ref q0), (1, .int p1)] := hl
  unfold X10_vigil at h
  refine lv_iload_n hx hb dX10_vigil_0 rfl (lv_at hl 1 rfl) ?_
  refine lv_if_lt (tgt := 10) hx hb dX10_vigil_1 (by decide) (fun c1 => ?_) (fun c1 => ?_)
  · have h := it_pos c1 h
    refine lv_iconst (v := -1) hx hb dX10_vigil_10 (by decide) ?_
    obtain rfl := Option.some.inj h
    exact rt_i E hQ (.null) hS dX10_vigil_11
  · have h := it_neg c1 h
    refine lv_iload_n hx hb dX10_vigil_4 rfl (lv_at hl 1 rfl) ?_
    refine lv_bipush (v := 60) hx hb dX10_vigil_5 (by decide) ?_
    refine lv_icmp_le (tgt := 12) hx hb dX10_vigil_7 (by decide) (fun c2 => ?_) (fun c2 => ?_)
    · have h := it_pos c2 h
      refine lv_lconst (v := 0) hx hb dX10_vigil_12 (by decide) ?_
      refine lv_lstore_n (lv' := [(2, .long (0 : Int64)), (0, .ref q0), (1, .int p1)]) hx hb dX10_vigil_13 rfl hl (by decide) rfl (fun ls hl => ?_)
      refine lv_iconst (v := 1) hx hb dX10_vigil_14 (by decide) ?_
      refine lv_istore (lv' := [(4, .int (1 : Int32)), (2, .long (0 : Int64)), (0, .ref q0), (1, .int p1)]) hx hb dX10_vigil_15 hl (by decide) rfl (fun ls hl => ?_)
      have hL17 : ∀ (n : Nat) (x17_0 : Int64) (x17_1 : Int32) (y17 : Int64) (H : Heap) (locs : List Loc) (ls : Array Slot), lp (fun x17 => X10_vigil_s17 p1 x17.1 x17.2) n (x17_0, x17_1) = some y17 → Sv D A s.heap [oX10 q0 u0_0 (.ref q1) u0_2 u0_3 u0_4 u0_5 u0_6 u0_7 u0_8 u0_9 u0_10 u0_11 u0_12, oX2 q1 (.ref q2) (.int v_told_size), aJ cy q2 16 v_told_number] H locs → lv_has ls 5 [(0, .ref q0), (1, .int p1), (2, .long x17_0), (4, .int x17_1)] → ( ∀ (y17_0 : Int64), y17_0 = y17 → ∀ (H : Heap) (locs : List Loc) (ls : Array Slot), Sv D A s.heap [oX10 q0 u0_0 (.ref q1) u0_2 u0_3 u0_4 u0_5 u0_6 u0_7 u0_8 u0_9 u0_10 u0_11 u0_12, oX2 q1 (.ref q2) (.int v_told_size), aJ cy q2 16 v_told_number] H locs → lv_has ls 5 [(0, .ref q0), (1, .int p1), (2, .long y17_0)] → W p l e R s m args below meth c H locs 0 0 Q (F0 m 49 ls [])) → W p l e R s m args below meth c H locs 0 0 Q (F0 m 17 ls []) := by
        intro n
        induction n with
        | zero =>
          intro x17_0 x17_1 y17 H locs ls h
          exact lp_zero h
        | succ n ih17 =>
          intro x17_0 x17_1 y17 H locs ls h hS hl hk17_0
          obtain ⟨z17, h, hz17a, hz17b⟩ := lp_succ h
          have h : X10_vigil_s17 p1 x17_0 x17_1 = some z17 := h
          unfold X10_vigil_s17 at h
          refine lv_iload hx hb dX10_vigil_17 (lv_at hl 3 rfl) ?_
          refine lv_iload_n hx hb dX10_vigil_19 rfl (lv_at hl 1 rfl) ?_
          refine lv_icmp_gt (tgt := 49) hx hb dX10_vigil_20 (by decide) (fun c3 => ?_) (fun c3 => ?_)
          · have h := it_pos c3 h
            exact hk17_0 x17_0 (hz17b _ (Option.some.inj h).symm)  H locs ls hS (lv_sub hl [0, 1, 2] rfl)
          · have h := it_neg c3 h
            refine lv_lload_n hx hb dX10_vigil_23 rfl (lv_at hl 2 rfl) ?_
            refine lv_lload_n hx hb dX10_vigil_24 rfl (lv_at hl 2 rfl) ?_
            refine lv_iload hx hb dX10_vigil_25 (lv_at hl 3 rfl) ?_
            obtain ⟨y27, e4, h⟩ := bd_some h
            refine ct_S (ws' := fun _ => [oX10 q0 u0_0 (.ref q1) u0_2 u0_3 u0_4 u0_5 u0_6 u0_7 u0_8 u0_9 u0_10 u0_11 u0_12, oX2 q1 (.ref q2) (.int v_told_size), aJ cy q2 16 v_told_number]) (st' := [.int y27, .long x17_0]) (rest := [.long x17_0]) E hS slX10_355 (c_X10_leastTurn (l := l) (D := D) (cy := cy) (p0 := x17_0) (p2 := x17_1) (r := y27) e4) [] rfl rfl (fun _ => rfl) (fun _ => rfl) rfl rfl (Nat.le_of_ble_eq_true rfl) hl.1 (by rw [hRf]; exact Nat.le_of_ble_eq_true rfl) (by rw [hRl]; exact Nat.le_of_ble_eq_true rfl) ⟨Nat.zero_le _, Nat.zero_le _⟩ dX10_vigil_27 rfl (fun H locs _ hS => ?_)
            have hJ41 : ∀ (s41_1 : Int64) (ls : Array Slot), s41_1 = (if y27 ≤ 0 then (0 : Int64) else ((1 : Int64) <<< (x17_1.toInt64 &&& 63))) → lv_has ls 5 [(0, .ref q0), (1, .int p1), (4, .int x17_1)] → W p l e R s m args below meth c H locs 0 0 Q (F0 m 41 ls [.long s41_1, .long x17_0]) := by
              intro s41_1 ls es41_1 hl
              subst es41_1
              refine lv_lor hx hb dX10_vigil_41 ?_
              refine lv_lstore_n (lv' := [(2, .long (x17_0 ||| (if y27 ≤ 0 then (0 : Int64) else ((1 : Int64) <<< (x17_1.toInt64 &&& 63))))), (0, .ref q0), (1, .int p1), (4, .int x17_1)]) hx hb dX10_vigil_42 rfl hl (by decide) rfl (fun ls hl => ?_)
              refine lv_iinc (v := (x17_1 + (1 : Int32))) (lv' := [(4, .int (x17_1 + (1 : Int32))), (2, .long (x17_0 ||| (if y27 ≤ 0 then (0 : Int64) else ((1 : Int64) <<< (x17_1.toInt64 &&& 63))))), (0, .ref q0), (1, .int p1)]) hx hb dX10_vigil_43 hl (k := 3) rfl rfl (by decide) rfl (fun ls hl => ?_)
              refine lv_goto (tgt := 17) hx hb dX10_vigil_46 (by decide) ?_
              exact ih17 (x17_0 ||| (if y27 ≤ 0 then (0 : Int64) else ((1 : Int64) <<< (x17_1.toInt64 &&& 63)))) (x17_1 + (1 : Int32)) y17  H locs ls (hz17a _ (Option.some.inj h).symm) hS (lv_sub hl [2, 3, 1, 0] rfl) hk17_0
            refine lv_if_le (tgt := 40) hx hb dX10_vigil_30 (by decide) (fun c5 => ?_) (fun c5 => ?_)
            · refine lv_lconst (v := 0) hx hb dX10_vigil_40 (by decide) ?_
              exact hJ41 _ ls ((if_pos c5)).symm (lv_sub hl [0, 1, 3] rfl)
            · refine lv_lconst (v := 1) hx hb dX10_vigil_33 (by decide) ?_
              refine lv_iload hx hb dX10_vigil_34 (lv_at hl 3 rfl) ?_
              refine lv_lshl (v := ((1 : Int64) <<< (x17_1.toInt64 &&& 63))) hx hb dX10_vigil_36 rfl ?_
              refine lv_goto (tgt := 41) hx hb dX10_vigil_37 (by decide) ?_
              exact hJ41 _ ls ((if_neg c5)).symm (lv_sub hl [0, 1, 3] rfl)
      obtain ⟨y17, e17, h⟩ := bd_some h
      refine hL17 1000 (0 : Int64) (1 : Int32) y17  H locs ls e17 hS (lv_sub hl [2, 3, 1, 0] rfl) (fun y17_0 ey17 H locs ls hS hl => ?_)
      subst ey17
      refine lv_lload_n hx hb dX10_vigil_49 rfl (lv_at hl 2 rfl) ?_
      refine lv_iload_n hx hb dX10_vigil_50 rfl (lv_at hl 1 rfl) ?_
      obtain ⟨y51, e6, h⟩ := bd_some h
      refine ct_S (ws' := fun _ => [oX10 q0 u0_0 (.ref q1) u0_2 u0_3 u0_4 u0_5 u0_6 u0_7 u0_8 u0_9 u0_10 u0_11 u0_12, oX2 q1 (.ref q2) (.int v_told_size), aJ cy q2 16 v_told_number]) (st' := [.int y51]) (rest := []) E hS slX10_355 (c_X10_leastTurn (l := l) (D := D) (cy := cy) (p0 := y17_0) (p2 := p1) (r := y51) e6) [] rfl rfl (fun _ => rfl) (fun _ => rfl) rfl rfl (Nat.le_of_ble_eq_true rfl) hl.1 (by rw [hRf]; exact Nat.le_of_ble_eq_true rfl) (by rw [hRl]; exact Nat.le_of_ble_eq_true rfl) ⟨Nat.zero_le _, Nat.zero_le _⟩ dX10_vigil_51 rfl (fun H locs _ hS => ?_)
      refine lv_istore (lv' := [(4, .int y51), (0, .ref q0), (1, .int p1), (2, .long y17_0)]) hx hb dX10_vigil_54 hl (by decide) rfl (fun ls hl => ?_)
      refine lv_aload_n hx hb dX10_vigil_56 rfl (lv_at hl 1 rfl) ?_
      refine r_get E frX10_19 hS 0 rfl rfl dX10_vigil_57 ?_
      refine ct_V (ws' := fun _ => [oX10 q0 u0_0 (.ref q1) u0_2 u0_3 u0_4 u0_5 u0_6 u0_7 u0_8 u0_9 u0_10 u0_11 u0_12, oX2 q1 (.ref q2) (.int X2_clears), aJ cy q2 16 v_told_number]) (st' := []) (rest := []) E hS vlX10_285 (c_X2_clears (l := l) (D := D) (cy := cy) (q0 := q1) (u0_0 := .ref q2) (v_size := v_told_size) (r := X2_clears) rfl) [1] rfl rfl (fun _ => rfl) (fun _ => rfl) rfl rfl rfl rfl (Nat.le_of_ble_eq_true rfl) hl.1 (by rw [hRf]; exact Nat.le_of_ble_eq_true rfl) (by rw [hRl]; exact Nat.le_of_ble_eq_true rfl) ⟨Nat.zero_le _, Nat.zero_le _⟩ dX10_vigil_60 rfl (fun H locs _ hS => ?_)
      refine lv_iload hx hb dX10_vigil_63 (lv_at hl 0 rfl) ?_
      have hJ78 : ∀ (j78_v_told_size : Int32) (j78_v_told_number : Nat → Int64) (H : Heap) (locs : List Loc) (ls : Array Slot), X10_vigil_k78 y51 j78_v_told_size j78_v_told_number = some r → Sv D A s.heap [oX10 q0 u0_0 (.ref q1) u0_2 u0_3 u0_4 u0_5 u0_6 u0_7 u0_8 u0_9 u0_10 u0_11 u0_12, oX2 q1 (.ref q2) (.int j78_v_told_size), aJ cy q2 16 j78_v_told_number] H locs → lv_has ls 5 [(4, .int y51)] → W p l e R s m args below meth c H locs 0 0 Q (F0 m 78 ls []) := by
        intro j78_v_told_size j78_v_told_number H locs ls h hS hl
        unfold X10_vigil_k78 at h
        refine lv_iload hx hb dX10_vigil_78 (lv_at hl 0 rfl) ?_
        have hJ88 : ∀ (s88_0 : Int32) (ls : Array Slot), s88_0 = (if y51 ≤ 0 then (0 : Int32) else (1 : Int32)) → lv_has ls 5 [] → W p l e R s m args below meth c H locs 0 0 Q (F0 m 88 ls [.int s88_0]) := by
          intro s88_0 ls es88_0 hl
          subst es88_0
          obtain rfl := Option.some.inj h
          exact rt_i E hQ (.null) hS dX10_vigil_88
        refine lv_if_le (tgt := 87) hx hb dX10_vigil_80 (by decide) (fun c7 => ?_) (fun c7 => ?_)
        · refine lv_iconst (v := 0) hx hb dX10_vigil_87 (by decide) ?_
          exact hJ88 _ ls ((if_pos c7)).symm (lv_sub hl [] rfl)
        · refine lv_iconst (v := 1) hx hb dX10_vigil_83 (by decide) ?_
          refine lv_goto (tgt := 88) hx hb dX10_vigil_84 (by decide) ?_
          exact hJ88 _ ls ((if_neg c7)).symm (lv_sub hl [] rfl)
      refine lv_if_le (tgt := 78) hx hb dX10_vigil_65 (by decide) (fun c8 => ?_) (fun c8 => ?_)
      · have h := it_pos c8 h
        exact hJ78 X2_clears v_told_number  H locs ls h hS (lv_sub hl [0] rfl)
      · have h := it_neg c8 h
        refine lv_aload_n hx hb dX10_vigil_68 rfl (lv_at hl 1 rfl) ?_
        refine r_get E frX10_19 hS 0 rfl rfl dX10_vigil_69 ?_
        refine lv_iload hx hb dX10_vigil_72 (lv_at hl 0 rfl) ?_
        refine lv_i2l (v := (y51.toInt64)) hx hb dX10_vigil_74 rfl ?_
        obtain ⟨y75, e9, h⟩ := bd_some h
        refine ct_V (ws' := fun _ => [oX10 q0 u0_0 (.ref q1) u0_2 u0_3 u0_4 u0_5 u0_6 u0_7 u0_8 u0_9 u0_10 u0_11 u0_12, oX2 q1 (.ref q2) (.int y75.1), aJ cy q2 16 y75.2]) (st' := []) (rest := []) E hS vlX10_343 (c_X2_adds (l := l) (D := D) (cy := cy) (q0 := q1) (q1 := q2) (v_size := X2_clears) (v_number := v_told_number) (p1 := (y51.toInt64)) (r := y75) e9) [1, 2] rfl rfl (fun _ => rfl) (fun _ => rfl) rfl rfl rfl rfl (Nat.le_of_ble_eq_true rfl) hl.1 (by rw [hRf]; exact Nat.le_of_ble_eq_true rfl) (by rw [hRl]; exact Nat.le_of_ble_eq_true rfl) ⟨Nat.zero_le _, Nat.zero_le _⟩ dX10_vigil_75 rfl (fun H locs _ hS => ?_)
        exact hJ78 y75.1 y75.2  H locs ls h hS (lv_sub hl [0] rfl)
    · have h := it_neg c2 h
      refine lv_iconst (v := -1) hx hb dX10_vigil_10 (by decide) ?_
      obtain rfl := Option.some.inj h
      exact rt_i E hQ (.null) hS dX10_vigil_11
set_option maxHeartbeats 4000000 in
set_option maxRecDepth 100000 in
theorem c_X10_gain {l : Launch} {D : va_G} {cy : Nat → ClassId} (p0 : Int32) (p1 : Int32) (p2 : Int32) (r : Int32) (h : X10_gain p0 p1 p2 = r) : Ct l yX10_gain cX10_gain 3 (some .int) 1 21 D cy [.int p0, .int p1, .int p2] [] (fun _ => []) (some (.int r)) := by
  refine Ct.mk kX10_gain (by decide +kernel) (Nat.le_of_ble_eq_true rfl) ?_
  intro p e s m below meth c A ls args R Q hRf hRl hQ E H locs hS hl
  have hx := E.x
  have hb := E.b
  have hl : lv_has ls 3 [(0, .int p0), (1, .int p1), (2, .int p2)] := hl
  unfold X10_gain at h
  refine lv_iconst (v := 2) hx hb dX10_gain_0 (by decide) ?_
  refine lv_iload_n hx hb dX10_gain_1 rfl (lv_at hl 0 rfl) ?_
  refine lv_imul hx hb dX10_gain_2 ?_
  refine lv_iload_n hx hb dX10_gain_3 rfl (lv_at hl 0 rfl) ?_
  refine lv_iload_n hx hb dX10_gain_4 rfl (lv_at hl 1 rfl) ?_
  have hJ13 : ∀ (s13_1 : Int32) (ls : Array Slot), s13_1 = (if p1 < p0 then (0 : Int32) else p2) → lv_has ls 3 [(0, .int p0), (1, .int p1)] → W p l e R s m args below meth c H locs 0 0 Q (F0 m 13 ls [.int s13_1, .int ((2 : Int32) * p0)]) := by
    intro s13_1 ls es13_1 hl
    subst es13_1
    refine lv_iadd hx hb dX10_gain_13 ?_
    refine lv_iconst (v := 0) hx hb dX10_gain_14 (by decide) ?_
    refine lv_iload_n hx hb dX10_gain_15 rfl (lv_at hl 0 rfl) ?_
    refine lv_iload_n hx hb dX10_gain_16 rfl (lv_at hl 1 rfl) ?_
    refine lv_iadd hx hb dX10_gain_17 ?_
    refine lv_bipush (v := 8) hx hb dX10_gain_18 (by decide) ?_
    refine lv_isub hx hb dX10_gain_20 ?_
    refine ct_S (ws' := fun _ => []) (st' := [.int (J9_max_7cf53 (0 : Int32) ((p0 + p1) - (8 : Int32))), .int (((2 : Int32) * p0) + (if p1 < p0 then (0 : Int32) else p2))]) (rest := [.int (((2 : Int32) * p0) + (if p1 < p0 then (0 : Int32) else p2))]) E hS slX10_327 (c_J9_max_7cf53 (l := l) (D := D) (cy := cy) (p0 := (0 : Int32)) (p1 := ((p0 + p1) - (8 : Int32))) (r := (J9_max_7cf53 (0 : Int32) ((p0 + p1) - (8 : Int32)))) rfl) [] rfl rfl (fun _ => rfl) (fun _ => rfl) rfl rfl (Nat.le_of_ble_eq_true rfl) hl.1 (by rw [hRf]; exact Nat.le_of_ble_eq_true rfl) (by rw [hRl]; exact Nat.le_of_ble_eq_true rfl) ⟨Nat.zero_le _, Nat.zero_le _⟩ dX10_gain_21 rfl (fun H locs _ hS => ?_)
    refine lv_isub hx hb dX10_gain_24 ?_
    subst h
    exact rt_i E hQ (.null) hS dX10_gain_25
  refine lv_icmp_gt (tgt := 12) hx hb dX10_gain_5 (by decide) (fun c1 => ?_) (fun c1 => ?_)
  · refine lv_iconst (v := 0) hx hb dX10_gain_12 (by decide) ?_
    exact hJ13 _ ls ((if_pos c1)).symm (lv_sub hl [0, 1] rfl)
  · refine lv_iload_n hx hb dX10_gain_8 rfl (lv_at hl 2 rfl) ?_
    refine lv_goto (tgt := 13) hx hb dX10_gain_9 (by decide) ?_
    exact hJ13 _ ls ((if_neg c1)).symm (lv_sub hl [0, 1] rfl)
set_option maxHeartbeats 4000000 in
set_option maxRecDepth 100000 in
theorem c_X10_isContent {l : Launch} {D : va_G} {cy : Nat → ClassId} (p0 : Int32) (p1 : Int32) (p2 : Int32) (r : Int32) (h : X10_isContent p0 p1 p2 = some r) : Ct l yX10_isContent cX10_isContent 5 (some .boolean) 2 43 D cy [.int p0, .int p1, .int p2] [] (fun _ => []) (some (.int r)) := by
  refine Ct.mk kX10_isContent (by decide +kernel) (Nat.le_of_ble_eq_true rfl) ?_
  intro p e s m below meth c A ls args R Q hRf hRl hQ E H locs hS hl
  have hx := E.x
  have hb := E.b
  have hl : lv_has ls 5 [(0, .int p0), (1, .int p1), (2, .int p2)] := hl
  unfold X10_isContent at h
  refine lv_iload_n hx hb dX10_isContent_0 rfl (lv_at hl 0 rfl) ?_
  refine lv_iload_n hx hb dX10_isContent_1 rfl (lv_at hl 1 rfl) ?_
  refine lv_iload_n hx hb dX10_isContent_2 rfl (lv_at hl 2 rfl) ?_
  refine ct_S (ws' := fun _ => []) (st' := [.int (X10_gain p0 p1 p2)]) (rest := []) E hS slX10_362 (c_X10_gain (l := l) (D := D) (cy := cy) (p0 := p0) (p1 := p1) (p2 := p2) (r := (X10_gain p0 p1 p2)) rfl) [] rfl rfl (fun _ => rfl) (fun _ => rfl) rfl rfl (Nat.le_of_ble_eq_true rfl) hl.1 (by rw [hRf]; exact Nat.le_of_ble_eq_true rfl) (by rw [hRl]; exact Nat.le_of_ble_eq_true rfl) ⟨Nat.zero_le _, Nat.zero_le _⟩ dX10_isContent_3 rfl (fun H locs _ hS => ?_)
  refine lv_istore_n (lv' := [(3, .int (X10_gain p0 p1 p2)), (0, .int p0), (1, .int p1), (2, .int p2)]) hx hb dX10_isContent_6 rfl hl (by decide) rfl (fun ls hl => ?_)
  refine lv_iconst (v := 0) hx hb dX10_isContent_7 (by decide) ?_
  refine lv_istore (lv' := [(4, .int (0 : Int32)), (3, .int (X10_gain p0 p1 p2)), (0, .int p0), (1, .int p1), (2, .int p2)]) hx hb dX10_isContent_8 hl (by decide) rfl (fun ls hl => ?_)
  have hL10 : ∀ (n : Nat) (x10_0 : Int32) (y10 : (Unit) ⊕ (Unit)) (H : Heap) (locs : List Loc) (ls : Array Slot), lp (fun x10 => X10_isContent_s10 p0 p1 p2 x10) n x10_0 = some y10 → Sv D A s.heap [] H locs → lv_has ls 5 [(1, .int p1), (2, .int p2), (3, .int (X10_gain p0 p1 p2)), (4, .int x10_0)] → ( .inl () = y10 → ∀ (H : Heap) (locs : List Loc) (ls : Array Slot), Sv D A s.heap [] H locs → lv_has ls 5 [] → W p l e R s m args below meth c H locs 0 0 Q (F0 m 36 ls [])) → ( .inr () = y10 → ∀ (H : Heap) (locs : List Loc) (ls : Array Slot), Sv D A s.heap [] H locs → lv_has ls 5 [] → W p l e R s m args below meth c H locs 0 0 Q (F0 m 28 ls [])) → W p l e R s m args below meth c H locs 0 0 Q (F0 m 10 ls []) := by
    intro n
    induction n with
    | zero =>
      intro x10_0 y10 H locs ls h
      exact lp_zero h
    | succ n ih10 =>
      intro x10_0 y10 H locs ls h hS hl hk10_0 hk10_1
      obtain ⟨z10, h, hz10a, hz10b⟩ := lp_succ h
      have h : X10_isContent_s10 p0 p1 p2 x10_0 = some z10 := h
      unfold X10_isContent_s10 at h
      refine lv_iload hx hb dX10_isContent_10 (lv_at hl 3 rfl) ?_
      refine lv_bipush (v := 9) hx hb dX10_isContent_12 (by decide) ?_
      refine lv_icmp_gt (tgt := 36) hx hb dX10_isContent_14 (by decide) (fun c1 => ?_) (fun c1 => ?_)
      · have h := it_pos c1 h
        exact hk10_0  (hz10b _ (Option.some.inj h).symm)  H locs ls hS (lv_sub hl [] rfl)
      · have h := it_neg c1 h
        refine lv_iload hx hb dX10_isContent_17 (lv_at hl 3 rfl) ?_
        refine lv_iload_n hx hb dX10_isContent_19 rfl (lv_at hl 0 rfl) ?_
        refine lv_iload_n hx hb dX10_isContent_20 rfl (lv_at hl 1 rfl) ?_
        refine ct_S (ws' := fun _ => []) (st' := [.int (X10_gain x10_0 p1 p2)]) (rest := []) E hS slX10_362 (c_X10_gain (l := l) (D := D) (cy := cy) (p0 := x10_0) (p1 := p1) (p2 := p2) (r := (X10_gain x10_0 p1 p2)) rfl) [] rfl rfl (fun _ => rfl) (fun _ => rfl) rfl rfl (Nat.le_of_ble_eq_true rfl) hl.1 (by rw [hRf]; exact Nat.le_of_ble_eq_true rfl) (by rw [hRl]; exact Nat.le_of_ble_eq_true rfl) ⟨Nat.zero_le _, Nat.zero_le _⟩ dX10_isContent_21 rfl (fun H locs _ hS => ?_)
        refine lv_iload_n hx hb dX10_isContent_24 rfl (lv_at hl 2 rfl) ?_
        refine lv_icmp_le (tgt := 30) hx hb dX10_isContent_25 (by decide) (fun c2 => ?_) (fun c2 => ?_)
        · have h := it_pos c2 h
          refine lv_iinc (v := (x10_0 + (1 : Int32))) (lv' := [(4, .int (x10_0 + (1 : Int32))), (1, .int p1), (2, .int p2), (3, .int (X10_gain p0 p1 p2))]) hx hb dX10_isContent_30 hl (k := 3) rfl rfl (by decide) rfl (fun ls hl => ?_)
          refine lv_goto (tgt := 10) hx hb dX10_isContent_33 (by decide) ?_
          exact ih10 (x10_0 + (1 : Int32)) y10  H locs ls (hz10a _ (Option.some.inj h).symm) hS (lv_sub hl [1, 2, 3, 0] rfl) hk10_0 hk10_1
        · have h := it_neg c2 h
          exact hk10_1  (hz10b _ (Option.some.inj h).symm)  H locs ls hS (lv_sub hl [] rfl)
  obtain ⟨y10, e10, h⟩ := bd_some h
  refine hL10 1000 (0 : Int32) y10  H locs ls e10 hS (lv_sub hl [3, 4, 1, 0] rfl) (fun ey10 H locs ls hS hl => ?_) (fun ey10 H locs ls hS hl => ?_)
  · subst ey10
    have h := sm_l h
    refine lv_iconst (v := 1) hx hb dX10_isContent_36 (by decide) ?_
    obtain rfl := Option.some.inj h
    exact rt_n E rfl hQ (.null) hS dX10_isContent_37
  · subst ey10
    have h := sm_r h
    refine lv_iconst (v := 0) hx hb dX10_isContent_28 (by decide) ?_
    obtain rfl := Option.some.inj h
    exact rt_n E rfl hQ (.null) hS dX10_isContent_29
set_option maxHeartbeats 4000000 in
set_option maxRecDepth 100000 in
theorem c_X10_rests {l : Launch} {D : va_G} {cy : Nat → ClassId} (q0 : Nat) (q1 : Nat) (q2 : Nat) (u0_0 : Value) (u0_2 : Value) (u0_3 : Value) (u0_4 : Value) (u0_5 : Value) (u0_6 : Value) (u0_7 : Value) (u0_8 : Value) (u0_9 : Value) (u0_10 : Value) (u0_11 : Value) (u0_12 : Value) (v_told_size : Int32) (v_told_number : Nat → Int64) (p1 : Int32) (r : Int32 × Int32 × (Nat → Int64)) (h : X10_rests v_told_size v_told_number p1 = some r) : Ct l yX10_rests cX10_rests 5 (some .int) 3 67 D cy [.ref q0, .int p1] [oX10 q0 u0_0 (.ref q1) u0_2 u0_3 u0_4 u0_5 u0_6 u0_7 u0_8 u0_9 u0_10 u0_11 u0_12, oX2 q1 (.ref q2) (.int v_told_size), aJ cy q2 16 v_told_number] (fun _ => [oX10 q0 u0_0 (.ref q1) u0_2 u0_3 u0_4 u0_5 u0_6 u0_7 u0_8 u0_9 u0_10 u0_11 u0_12, oX2 q1 (.ref q2) (.int r.2.1), aJ cy q2 16 r.2.2]) (some (.int r.1)) := by
  refine Ct.mk kX10_rests (by decide +kernel) (Nat.le_of_ble_eq_true rfl) ?_
  intro p e s m below meth c A ls args R Q hRf hRl hQ E H locs hS hl
  have hx := E.x
  have hb := E.b
  have hl : lv_has ls 5 [(0, .ref q0), (1, .int p1)] := hl
  unfold X10_rests at h
  refine lv_iload_n hx hb dX10_rests_0 rfl (lv_at hl 1 rfl) ?_
  refine lv_if_lt (tgt := 10) hx hb dX10_rests_1 (by decide) (fun c1 => ?_) (fun c1 => ?_)
  · have h := it_pos c1 h
    refine lv_iconst (v := -1) hx hb dX10_rests_10 (by decide) ?_
    obtain rfl := Option.some.inj h
    exact rt_i E hQ (.null) hS dX10_rests_11
  · have h := it_neg c1 h
    refine lv_iload_n hx hb dX10_rests_4 rfl (lv_at hl 1 rfl) ?_
    refine lv_bipush (v := 20) hx hb dX10_rests_5 (by decide) ?_
    refine lv_icmp_le (tgt := 12) hx hb dX10_rests_7 (by decide) (fun c2 => ?_) (fun c2 => ?_)
    · have h := it_pos c2 h
      refine lv_aload_n hx hb dX10_rests_12 rfl (lv_at hl 0 rfl) ?_
      refine r_get E frX10_19 hS 0 rfl rfl dX10_rests_13 ?_
      refine ct_V (ws' := fun _ => [oX10 q0 u0_0 (.ref q1) u0_2 u0_3 u0_4 u0_5 u0_6 u0_7 u0_8 u0_9 u0_10 u0_11 u0_12, oX2 q1 (.ref q2) (.int X2_clears), aJ cy q2 16 v_told_number]) (st' := []) (rest := []) E hS vlX10_285 (c_X2_clears (l := l) (D := D) (cy := cy) (q0 := q1) (u0_0 := .ref q2) (v_size := v_told_size) (r := X2_clears) rfl) [1] rfl rfl (fun _ => rfl) (fun _ => rfl) rfl rfl rfl rfl (Nat.le_of_ble_eq_true rfl) hl.1 (by rw [hRf]; exact Nat.le_of_ble_eq_true rfl) (by rw [hRl]; exact Nat.le_of_ble_eq_true rfl) ⟨Nat.zero_le _, Nat.zero_le _⟩ dX10_rests_16 rfl (fun H locs _ hS => ?_)
      refine lv_iconst (v := 0) hx hb dX10_rests_19 (by decide) ?_
      refine lv_istore_n (lv' := [(2, .int (0 : Int32)), (0, .ref q0), (1, .int p1)]) hx hb dX10_rests_20 rfl hl (by decide) rfl (fun ls hl => ?_)
      refine lv_iconst (v := 0) hx hb dX10_rests_21 (by decide) ?_
      refine lv_istore_n (lv' := [(3, .int (0 : Int32)), (2, .int (0 : Int32)), (0, .ref q0), (1, .int p1)]) hx hb dX10_rests_22 rfl hl (by decide) rfl (fun ls hl => ?_)
      have hL23 : ∀ (n : Nat) (x23_0 : Int32) (x23_1 : Int32) (x23_2 : Int32) (x23_3 : Nat → Int64) (y23 : Int32 × Int32 × (Nat → Int64)) (H : Heap) (locs : List Loc) (ls : Array Slot), lp (fun x23 => X10_rests_s23 p1 x23.1 x23.2.1 x23.2.2.1 x23.2.2.2) n (x23_0, x23_1, x23_2, x23_3) = some y23 → Sv D A s.heap [oX10 q0 u0_0 (.ref q1) u0_2 u0_3 u0_4 u0_5 u0_6 u0_7 u0_8 u0_9 u0_10 u0_11 u0_12, oX2 q1 (.ref q2) (.int x23_2), aJ cy q2 16 x23_3] H locs → lv_has ls 5 [(0, .ref q0), (1, .int p1), (2, .int x23_0), (3, .int x23_1)] → ( ∀ (y23_0 : Int32) (y23_1 : Int32) (y23_2 : Nat → Int64), (y23_0, y23_1, y23_2) = y23 → ∀ (H : Heap) (locs : List Loc) (ls : Array Slot), Sv D A s.heap [oX10 q0 u0_0 (.ref q1) u0_2 u0_3 u0_4 u0_5 u0_6 u0_7 u0_8 u0_9 u0_10 u0_11 u0_12, oX2 q1 (.ref q2) (.int y23_1), aJ cy q2 16 y23_2] H locs → lv_has ls 5 [(2, .int y23_0)] → W p l e R s m args below meth c H locs 0 0 Q (F0 m 90 ls [])) → W p l e R s m args below meth c H locs 0 0 Q (F0 m 23 ls []) := by
        intro n
        induction n with
        | zero =>
          intro x23_0 x23_1 x23_2 x23_3 y23 H locs ls h
          exact lp_zero h
        | succ n ih23 =>
          intro x23_0 x23_1 x23_2 x23_3 y23 H locs ls h hS hl hk23_0
          obtain ⟨z23, h, hz23a, hz23b⟩ := lp_succ h
          have h : X10_rests_s23 p1 x23_0 x23_1 x23_2 x23_3 = some z23 := h
          unfold X10_rests_s23 at h
          refine lv_iload_n hx hb dX10_rests_23 rfl (lv_at hl 3 rfl) ?_
          refine lv_bipush (v := 9) hx hb dX10_rests_24 (by decide) ?_
          refine lv_icmp_gt (tgt := 90) hx hb dX10_rests_26 (by decide) (fun c3 => ?_) (fun c3 => ?_)
          · have h := it_pos c3 h
            exact hk23_0 x23_0 x23_2 x23_3 (hz23b _ (Option.some.inj h).symm)  H locs ls hS (lv_sub hl [2] rfl)
          · have h := it_neg c3 h
            refine lv_iconst (v := 0) hx hb dX10_rests_29 (by decide) ?_
            refine lv_istore (lv' := [(4, .int (0 : Int32)), (0, .ref q0), (1, .int p1), (2, .int x23_0), (3, .int x23_1)]) hx hb dX10_rests_30 hl (by decide) rfl (fun ls hl => ?_)
            have hL32 : ∀ (n : Nat) (x32_0 : Int32) (x32_1 : Int32) (x32_2 : Int32) (x32_3 : Nat → Int64) (y32 : Int32 × Int32 × (Nat → Int64)) (H : Heap) (locs : List Loc) (ls : Array Slot), lp (fun x32 => X10_rests_s32 p1 x23_1 x32.1 x32.2.1 x32.2.2.1 x32.2.2.2) n (x32_0, x32_1, x32_2, x32_3) = some y32 → Sv D A s.heap [oX10 q0 u0_0 (.ref q1) u0_2 u0_3 u0_4 u0_5 u0_6 u0_7 u0_8 u0_9 u0_10 u0_11 u0_12, oX2 q1 (.ref q2) (.int x32_2), aJ cy q2 16 x32_3] H locs → lv_has ls 5 [(0, .ref q0), (1, .int p1), (2, .int x32_0), (3, .int x23_1), (4, .int x32_1)] → ( ∀ (y32_0 : Int32) (y32_1 : Int32) (y32_2 : Nat → Int64), (y32_0, y32_1, y32_2) = y32 → ∀ (H : Heap) (locs : List Loc) (ls : Array Slot), Sv D A s.heap [oX10 q0 u0_0 (.ref q1) u0_2 u0_3 u0_4 u0_5 u0_6 u0_7 u0_8 u0_9 u0_10 u0_11 u0_12, oX2 q1 (.ref q2) (.int y32_1), aJ cy q2 16 y32_2] H locs → lv_has ls 5 [(0, .ref q0), (1, .int p1), (2, .int y32_0), (3, .int x23_1)] → W p l e R s m args below meth c H locs 0 0 Q (F0 m 84 ls [])) → W p l e R s m args below meth c H locs 0 0 Q (F0 m 32 ls []) := by
              intro n
              induction n with
              | zero =>
                intro x32_0 x32_1 x32_2 x32_3 y32 H locs ls h
                exact lp_zero h
              | succ n ih32 =>
                intro x32_0 x32_1 x32_2 x32_3 y32 H locs ls h hS hl hk32_0
                obtain ⟨z32, h, hz32a, hz32b⟩ := lp_succ h
                have h : X10_rests_s32 p1 x23_1 x32_0 x32_1 x32_2 x32_3 = some z32 := h
                unfold X10_rests_s32 at h
                refine lv_iload hx hb dX10_rests_32 (lv_at hl 4 rfl) ?_
                refine lv_bipush (v := 9) hx hb dX10_rests_34 (by decide) ?_
                refine lv_icmp_gt (tgt := 84) hx hb dX10_rests_36 (by decide) (fun c4 => ?_) (fun c4 => ?_)
                · have h := it_pos c4 h
                  exact hk32_0 x32_0 x32_2 x32_3 (hz32b _ (Option.some.inj h).symm)  H locs ls hS (lv_sub hl [0, 1, 2, 3] rfl)
                · have h := it_neg c4 h
                  refine lv_iload_n hx hb dX10_rests_39 rfl (lv_at hl 3 rfl) ?_
                  refine lv_iload hx hb dX10_rests_40 (lv_at hl 4 rfl) ?_
                  refine lv_iload_n hx hb dX10_rests_42 rfl (lv_at hl 1 rfl) ?_
                  obtain ⟨y43, e5, h⟩ := bd_some h
                  refine ct_S (ws' := fun _ => [oX10 q0 u0_0 (.ref q1) u0_2 u0_3 u0_4 u0_5 u0_6 u0_7 u0_8 u0_9 u0_10 u0_11 u0_12, oX2 q1 (.ref q2) (.int x32_2), aJ cy q2 16 x32_3]) (st' := [.int y43]) (rest := []) E hS slX10_359 (c_X10_isContent (l := l) (D := D) (cy := cy) (p0 := x23_1) (p1 := x32_1) (p2 := p1) (r := y43) e5) [] rfl rfl (fun _ => rfl) (fun _ => rfl) rfl rfl (Nat.le_of_ble_eq_true rfl) hl.1 (by rw [hRf]; exact Nat.le_of_ble_eq_true rfl) (by rw [hRl]; exact Nat.le_of_ble_eq_true rfl) ⟨Nat.zero_le _, Nat.zero_le _⟩ dX10_rests_43 rfl (fun H locs _ hS => ?_)
                  refine lv_if_eq (tgt := 78) hx hb dX10_rests_46 (by decide) (fun c6 => ?_) (fun c6 => ?_)
                  · have h := it_pos c6 h
                    refine lv_iinc (v := (x32_1 + (1 : Int32))) (lv' := [(4, .int (x32_1 + (1 : Int32))), (0, .ref q0), (1, .int p1), (2, .int x32_0), (3, .int x23_1)]) hx hb dX10_rests_78 hl (k := 4) rfl rfl (by decide) rfl (fun ls hl => ?_)
                    refine lv_goto (tgt := 32) hx hb dX10_rests_81 (by decide) ?_
                    exact ih32 x32_0 (x32_1 + (1 : Int32)) x32_2 x32_3 y32  H locs ls (hz32a _ (Option.some.inj h).symm) hS (lv_sub hl [1, 2, 3, 4, 0] rfl) hk32_0
                  · have h := it_neg c6 h
                    refine lv_iload hx hb dX10_rests_49 (lv_at hl 4 rfl) ?_
                    refine lv_iload_n hx hb dX10_rests_51 rfl (lv_at hl 3 rfl) ?_
                    refine lv_iload_n hx hb dX10_rests_52 rfl (lv_at hl 1 rfl) ?_
                    obtain ⟨y53, e7, h⟩ := bd_some h
                    refine ct_S (ws' := fun _ => [oX10 q0 u0_0 (.ref q1) u0_2 u0_3 u0_4 u0_5 u0_6 u0_7 u0_8 u0_9 u0_10 u0_11 u0_12, oX2 q1 (.ref q2) (.int x32_2), aJ cy q2 16 x32_3]) (st' := [.int y53]) (rest := []) E hS slX10_359 (c_X10_isContent (l := l) (D := D) (cy := cy) (p0 := x32_1) (p1 := x23_1) (p2 := p1) (r := y53) e7) [] rfl rfl (fun _ => rfl) (fun _ => rfl) rfl rfl (Nat.le_of_ble_eq_true rfl) hl.1 (by rw [hRf]; exact Nat.le_of_ble_eq_true rfl) (by rw [hRl]; exact Nat.le_of_ble_eq_true rfl) ⟨Nat.zero_le _, Nat.zero_le _⟩ dX10_rests_53 rfl (fun H locs _ hS => ?_)
                    refine lv_if_eq (tgt := 78) hx hb dX10_rests_56 (by decide) (fun c8 => ?_) (fun c8 => ?_)
                    · have h := it_pos c8 h
                      refine lv_iinc (v := (x32_1 + (1 : Int32))) (lv' := [(4, .int (x32_1 + (1 : Int32))), (0, .ref q0), (1, .int p1), (2, .int x32_0), (3, .int x23_1)]) hx hb dX10_rests_78 hl (k := 4) rfl rfl (by decide) rfl (fun ls hl => ?_)
                      refine lv_goto (tgt := 32) hx hb dX10_rests_81 (by decide) ?_
                      exact ih32 x32_0 (x32_1 + (1 : Int32)) x32_2 x32_3 y32  H locs ls (hz32a _ (Option.some.inj h).symm) hS (lv_sub hl [1, 2, 3, 4, 0] rfl) hk32_0
                    · have h := it_neg c8 h
                      refine lv_iload_n hx hb dX10_rests_59 rfl (lv_at hl 2 rfl) ?_
                      refine lv_if_ne (tgt := 75) hx hb dX10_rests_60 (by decide) (fun c9 => ?_) (fun c9 => ?_)
                      · have h := it_neg c9 h
                        refine lv_iinc (v := (x32_0 + (1 : Int32))) (lv' := [(2, .int (x32_0 + (1 : Int32))), (0, .ref q0), (1, .int p1), (3, .int x23_1), (4, .int x32_1)]) hx hb dX10_rests_75 hl (k := 2) rfl rfl (by decide) rfl (fun ls hl => ?_)
                        refine lv_iinc (v := (x32_1 + (1 : Int32))) (lv' := [(4, .int (x32_1 + (1 : Int32))), (2, .int (x32_0 + (1 : Int32))), (0, .ref q0), (1, .int p1), (3, .int x23_1)]) hx hb dX10_rests_78 hl (k := 4) rfl rfl (by decide) rfl (fun ls hl => ?_)
                        refine lv_goto (tgt := 32) hx hb dX10_rests_81 (by decide) ?_
                        exact ih32 (x32_0 + (1 : Int32)) (x32_1 + (1 : Int32)) x32_2 x32_3 y32  H locs ls (hz32a _ (Option.some.inj h).symm) hS (lv_sub hl [2, 3, 1, 4, 0] rfl) hk32_0
                      · have h := it_pos c9 h
                        refine lv_aload_n hx hb dX10_rests_63 rfl (lv_at hl 0 rfl) ?_
                        refine r_get E frX10_19 hS 0 rfl rfl dX10_rests_64 ?_
                        refine lv_iload_n hx hb dX10_rests_67 rfl (lv_at hl 3 rfl) ?_
                        refine lv_i2l (v := (x23_1.toInt64)) hx hb dX10_rests_68 rfl ?_
                        refine lv_iload hx hb dX10_rests_69 (lv_at hl 4 rfl) ?_
                        refine lv_i2l (v := (x32_1.toInt64)) hx hb dX10_rests_71 rfl ?_
                        obtain ⟨y72, e10, h⟩ := bd_some h
                        refine ct_V (ws' := fun _ => [oX10 q0 u0_0 (.ref q1) u0_2 u0_3 u0_4 u0_5 u0_6 u0_7 u0_8 u0_9 u0_10 u0_11 u0_12, oX2 q1 (.ref q2) (.int y72.1), aJ cy q2 16 y72.2]) (st' := []) (rest := []) E hS vlX10_199 (c_X2_tellsBoth (l := l) (D := D) (cy := cy) (q0 := q1) (q1 := q2) (v_size := x32_2) (v_number := x32_3) (p1 := (x23_1.toInt64)) (p3 := (x32_1.toInt64)) (r := y72) e10) [1, 2] rfl rfl (fun _ => rfl) (fun _ => rfl) rfl rfl rfl rfl (Nat.le_of_ble_eq_true rfl) hl.1 (by rw [hRf]; exact Nat.le_of_ble_eq_true rfl) (by rw [hRl]; exact Nat.le_of_ble_eq_true rfl) ⟨Nat.zero_le _, Nat.zero_le _⟩ dX10_rests_72 rfl (fun H locs _ hS => ?_)
                        refine lv_iinc (v := (x32_0 + (1 : Int32))) (lv' := [(2, .int (x32_0 + (1 : Int32))), (0, .ref q0), (1, .int p1), (3, .int x23_1), (4, .int x32_1)]) hx hb dX10_rests_75 hl (k := 2) rfl rfl (by decide) rfl (fun ls hl => ?_)
                        refine lv_iinc (v := (x32_1 + (1 : Int32))) (lv' := [(4, .int (x32_1 + (1 : Int32))), (2, .int (x32_0 + (1 : Int32))), (0, .ref q0), (1, .int p1), (3, .int x23_1)]) hx hb dX10_rests_78 hl (k := 4) rfl rfl (by decide) rfl (fun ls hl => ?_)
                        refine lv_goto (tgt := 32) hx hb dX10_rests_81 (by decide) ?_
                        exact ih32 (x32_0 + (1 : Int32)) (x32_1 + (1 : Int32)) y72.1 y72.2 y32  H locs ls (hz32a _ (Option.some.inj h).symm) hS (lv_sub hl [2, 3, 1, 4, 0] rfl) hk32_0
            obtain ⟨y32, e32, h⟩ := bd_some h
            refine hL32 1000 x23_0 (0 : Int32) x23_2 x23_3 y32  H locs ls e32 hS (lv_sub hl [1, 2, 3, 4, 0] rfl) (fun y32_0 y32_1 y32_2 ey32 H locs ls hS hl => ?_)
            subst ey32
            have h := un_r h
            have h := un_r h
            refine lv_iinc (v := (x23_1 + (1 : Int32))) (lv' := [(3, .int (x23_1 + (1 : Int32))), (0, .ref q0), (1, .int p1), (2, .int y32_0)]) hx hb dX10_rests_84 hl (k := 3) rfl rfl (by decide) rfl (fun ls hl => ?_)
            refine lv_goto (tgt := 23) hx hb dX10_rests_87 (by decide) ?_
            exact ih23 y32_0 (x23_1 + (1 : Int32)) y32_1 y32_2 y23  H locs ls (hz23a _ (Option.some.inj h).symm) hS (lv_sub hl [1, 2, 3, 0] rfl) hk23_0
      obtain ⟨y23, e23, h⟩ := bd_some h
      refine hL23 1000 (0 : Int32) (0 : Int32) X2_clears v_told_number y23  H locs ls e23 hS (lv_sub hl [2, 3, 1, 0] rfl) (fun y23_0 y23_1 y23_2 ey23 H locs ls hS hl => ?_)
      subst ey23
      have h := un_r h
      have h := un_r h
      refine lv_iload_n hx hb dX10_rests_90 rfl (lv_at hl 0 rfl) ?_
      obtain rfl := Option.some.inj h
      exact rt_i E hQ (.null) hS dX10_rests_91
    · have h := it_neg c2 h
      refine lv_iconst (v := -1) hx hb dX10_rests_10 (by decide) ?_
      obtain rfl := Option.some.inj h
      exact rt_i E hQ (.null) hS dX10_rests_11
set_option maxHeartbeats 4000000 in
set_option maxRecDepth 100000 in
theorem c_X10_draw {l : Launch} {D : va_G} {cy : Nat → ClassId} (q0 : Nat) (u0_0 : Value) (u0_1 : Value) (u0_2 : Value) (u0_3 : Value) (u0_4 : Value) (u0_5 : Value) (u0_6 : Value) (u0_7 : Value) (u0_8 : Value) (u0_9 : Value) (u0_10 : Value) (u0_11 : Value) (v_drawn : Int32) (p1 : Int32) (r : Int32 × Int32) (h : X10_draw v_drawn p1 = some r) : Ct l yX10_draw cX10_draw 2 (some .int) 0 0 D cy [.ref q0, .int p1] [oX10 q0 u0_0 u0_1 u0_2 u0_3 u0_4 u0_5 u0_6 u0_7 u0_8 u0_9 u0_10 u0_11 (.int v_drawn)] (fun _ => [oX10 q0 u0_0 u0_1 u0_2 u0_3 u0_4 u0_5 u0_6 u0_7 u0_8 u0_9 u0_10 u0_11 (.int r.2)]) (some (.int r.1)) := by
  refine Ct.mk kX10_draw (by decide +kernel) (Nat.le_of_ble_eq_true rfl) ?_
  intro p e s m below meth c A ls args R Q hRf hRl hQ E H locs hS hl
  have hx := E.x
  have hb := E.b
  have hl : lv_has ls 2 [(0, .ref q0), (1, .int p1)] := hl
  unfold X10_draw at h
  refine lv_aload_n hx hb dX10_draw_0 rfl (lv_at hl 0 rfl) ?_
  refine lv_aload_n hx hb dX10_draw_1 rfl (lv_at hl 0 rfl) ?_
  refine r_get E frX10_85 hS 0 rfl rfl dX10_draw_2 ?_
  refine lv_ldcw hx hb E.ow (E.ts _ cnX10_369) dX10_draw_5 ?_
  refine lv_imul hx hb dX10_draw_8 ?_
  refine lv_sipush (v := 12345) hx hb dX10_draw_9 (by decide) ?_
  refine lv_iadd hx hb dX10_draw_12 ?_
  refine r_put (ws' := [oX10 q0 u0_0 u0_1 u0_2 u0_3 u0_4 u0_5 u0_6 u0_7 u0_8 u0_9 u0_10 u0_11 (.int ((v_drawn * (1103515245 : Int32)) + (12345 : Int32)))]) E frX10_85 hS 0 rfl (Nat.le_of_ble_eq_true rfl) rfl rfl rfl rfl dX10_draw_13 (fun H locs hS => ?_)
  refine lv_iload_n hx hb dX10_draw_16 rfl (lv_at hl 1 rfl) ?_
  refine lv_if_le (tgt := 32) hx hb dX10_draw_17 (by decide) (fun c1 => ?_) (fun c1 => ?_)
  · have h := it_pos c1 h
    refine lv_iconst (v := 0) hx hb dX10_draw_32 (by decide) ?_
    obtain rfl := Option.some.inj h
    exact rt_i E hQ (.null) hS dX10_draw_33
  · have h := it_neg c1 h
    refine lv_aload_n hx hb dX10_draw_20 rfl (lv_at hl 0 rfl) ?_
    refine r_get E frX10_85 hS 0 rfl rfl dX10_draw_21 ?_
    refine lv_bipush (v := 16) hx hb dX10_draw_24 (by decide) ?_
    refine lv_iushr (v := iushr ((v_drawn * (1103515245 : Int32)) + (12345 : Int32)) (16 : Int32)) hx hb dX10_draw_26 rfl ?_
    refine lv_iload_n hx hb dX10_draw_27 rfl (lv_at hl 1 rfl) ?_
    obtain ⟨g2, h⟩ := gz_some h
    refine lv_irem hx hb dX10_draw_28 g2 ?_
    refine lv_goto (tgt := 33) hx hb dX10_draw_29 (by decide) ?_
    obtain rfl := Option.some.inj h
    exact rt_i E hQ (.null) hS dX10_draw_33
set_option maxHeartbeats 4000000 in
set_option maxRecDepth 100000 in
theorem c_X10_years {l : Launch} {D : va_G} {cy : Nat → ClassId} (q0 : Nat) (q1 : Nat) (q2 : Nat) (q3 : Nat) (q4 : Nat) (q5 : Nat) (q6 : Nat) (q7 : Nat) (q8 : Nat) (q9 : Nat) (q10 : Nat) (q11 : Nat) (q12 : Nat) (q13 : Nat) (q14 : Nat) (q15 : Nat) (q16 : Nat) (q17 : Nat) (q18 : Nat) (u0_0 : Value) (u0_4 : Value) (u0_5 : Value) (u0_7 : Value) (u0_8 : Value) (u0_9 : Value) (u0_10 : Value) (u0_11 : Value) (v_drawn : Int32) (v_told_size : Int32) (v_told_number : Nat → Int64) (v_folk_number : Int32) (v_folk_day : Int32) (v_folk_unmet : Int32) (v_folk_skill : Nat → Int32) (v_folk_pills : Nat → Int32) (v_folk_slept : Nat → Int32) (v_folk_woken : Nat → Int32) (v_folk_wanted : Nat → Int32) (v_trial_number : Int32) (v_trial_day : Int32) (v_trial_unmet : Int32) (v_trial_skill : Nat → Int32) (v_trial_pills : Nat → Int32) (v_trial_slept : Nat → Int32) (v_trial_woken : Nat → Int32) (v_trial_wanted : Nat → Int32) (v_inForce_size : Int32) (v_inForce_code : Nat → Int32) (v_inForce_stack : Nat → Int32) (v_inForce_thing : Nat → Int32) (p1 : Int32) (p2 : Int32) (r : Int32 × Int32 × Int32 × (Nat → Int64) × Int32 × Int32 × Int32 × (Nat → Int32) × (Nat → Int32) × (Nat → Int32) × (Nat → Int32) × (Nat → Int32) × (Nat → Int32) × (Nat → Int32)) (h : X10_years v_drawn v_told_size v_told_number v_folk_number v_folk_day v_folk_unmet v_folk_skill v_folk_pills v_folk_slept v_folk_woken v_folk_wanted v_trial_number v_trial_day v_trial_unmet v_trial_skill v_trial_pills v_trial_slept v_trial_woken v_trial_wanted v_inForce_size v_inForce_code v_inForce_stack v_inForce_thing p1 p2 = some r) : Ct l yX10_years cX10_years 7 (some .int) 5 118 D cy [.ref q0, .int p1, .int p2] [oX10 q0 u0_0 (.ref q1) (.ref q3) (.ref q9) u0_4 u0_5 (.ref q15) u0_7 u0_8 u0_9 u0_10 u0_11 (.int v_drawn), oX2 q1 (.ref q2) (.int v_told_size), aJ cy q2 16 v_told_number, oX0 q3 (.ref q4) (.ref q5) (.ref q6) (.ref q7) (.ref q8) (.int v_folk_number) (.int v_folk_day) (.int v_folk_unmet), aI cy q4 7 v_folk_skill, aI cy q5 7 v_folk_pills, aI cy q6 7 v_folk_slept, aI cy q7 7 v_folk_woken, aI cy q8 7 v_folk_wanted, oX0 q9 (.ref q10) (.ref q11) (.ref q12) (.ref q13) (.ref q14) (.int v_trial_number) (.int v_trial_day) (.int v_trial_unmet), aI cy q10 7 v_trial_skill, aI cy q11 7 v_trial_pills, aI cy q12 7 v_trial_slept, aI cy q13 7 v_trial_woken, aI cy q14 7 v_trial_wanted, oX5 q15 (.ref q16) (.ref q17) (.ref q18) (.int v_inForce_size), aI cy q16 40 v_inForce_code, aI cy q17 40 v_inForce_stack, aI cy q18 7 v_inForce_thing] (fun _ => [oX10 q0 u0_0 (.ref q1) (.ref q3) (.ref q9) u0_4 u0_5 (.ref q15) u0_7 u0_8 u0_9 u0_10 u0_11 (.int r.2.1), oX2 q1 (.ref q2) (.int r.2.2.1), aJ cy q2 16 r.2.2.2.1, oX0 q3 (.ref q4) (.ref q5) (.ref q6) (.ref q7) (.ref q8) (.int v_folk_number) (.int v_folk_day) (.int v_folk_unmet), aI cy q4 7 v_folk_skill, aI cy q5 7 v_folk_pills, aI cy q6 7 v_folk_slept, aI cy q7 7 v_folk_woken, aI cy q8 7 v_folk_wanted, oX0 q9 (.ref q10) (.ref q11) (.ref q12) (.ref q13) (.ref q14) (.int r.2.2.2.2.1) (.int r.2.2.2.2.2.1) (.int r.2.2.2.2.2.2.1), aI cy q10 7 r.2.2.2.2.2.2.2.1, aI cy q11 7 r.2.2.2.2.2.2.2.2.1, aI cy q12 7 r.2.2.2.2.2.2.2.2.2.1, aI cy q13 7 r.2.2.2.2.2.2.2.2.2.2.1, aI cy q14 7 r.2.2.2.2.2.2.2.2.2.2.2.1, oX5 q15 (.ref q16) (.ref q17) (.ref q18) (.int v_inForce_size), aI cy q16 40 v_inForce_code, aI cy q17 40 r.2.2.2.2.2.2.2.2.2.2.2.2.1, aI cy q18 7 r.2.2.2.2.2.2.2.2.2.2.2.2.2]) (some (.int r.1)) := by
  refine Ct.mk kX10_years (by decide +kernel) (Nat.le_of_ble_eq_true rfl) ?_
  intro p e s m below meth c A ls args R Q hRf hRl hQ E H locs hS hl
  have hx := E.x
  have hb := E.b
  have hl : lv_has ls 7 [(0, .ref q0), (1, .int p1), (2, .int p2)] := hl
  unfold X10_years at h
  refine lv_iload_n hx hb dX10_years_0 rfl (lv_at hl 2 rfl) ?_
  refine lv_iconst (v := 1) hx hb dX10_years_1 (by decide) ?_
  refine lv_icmp_lt (tgt := 11) hx hb dX10_years_2 (by decide) (fun c1 => ?_) (fun c1 => ?_)
  · have h := it_pos c1 h
    refine lv_iconst (v := -1) hx hb dX10_years_11 (by decide) ?_
    obtain rfl := Option.some.inj h
    exact rt_i E hQ (.null) hS dX10_years_12
  · have h := it_neg c1 h
    refine lv_iload_n hx hb dX10_years_5 rfl (lv_at hl 2 rfl) ?_
    refine lv_bipush (v := 60) hx hb dX10_years_6 (by decide) ?_
    refine lv_icmp_le (tgt := 13) hx hb dX10_years_8 (by decide) (fun c2 => ?_) (fun c2 => ?_)
    · have h := it_pos c2 h
      refine lv_aload_n hx hb dX10_years_13 rfl (lv_at hl 0 rfl) ?_
      refine r_get E frX10_30 hS 0 rfl rfl dX10_years_14 ?_
      refine lv_aload_n hx hb dX10_years_17 rfl (lv_at hl 0 rfl) ?_
      refine r_get E frX10_26 hS 0 rfl rfl dX10_years_18 ?_
      obtain ⟨y21, e3, h⟩ := bd_some h
      refine ct_V (ws' := fun _ => [oX10 q0 u0_0 (.ref q1) (.ref q3) (.ref q9) u0_4 u0_5 (.ref q15) u0_7 u0_8 u0_9 u0_10 u0_11 (.int v_drawn), oX2 q1 (.ref q2) (.int v_told_size), aJ cy q2 16 v_told_number, oX0 q3 (.ref q4) (.ref q5) (.ref q6) (.ref q7) (.ref q8) (.int v_folk_number) (.int v_folk_day) (.int v_folk_unmet), aI cy q4 7 v_folk_skill, aI cy q5 7 v_folk_pills, aI cy q6 7 v_folk_slept, aI cy q7 7 v_folk_woken, aI cy q8 7 v_folk_wanted, oX0 q9 (.ref q10) (.ref q11) (.ref q12) (.ref q13) (.ref q14) (.int y21.1) (.int y21.2.1) (.int y21.2.2.1), aI cy q10 7 y21.2.2.2.1, aI cy q11 7 y21.2.2.2.2.1, aI cy q12 7 y21.2.2.2.2.2.1, aI cy q13 7 y21.2.2.2.2.2.2.1, aI cy q14 7 y21.2.2.2.2.2.2.2, oX5 q15 (.ref q16) (.ref q17) (.ref q18) (.int v_inForce_size), aI cy q16 40 v_inForce_code, aI cy q17 40 v_inForce_stack, aI cy q18 7 v_inForce_thing]) (st' := []) (rest := []) E hS vlX10_249 (c_X0_becomes (l := l) (D := D) (cy := cy) (q0 := q9) (q1 := q10) (q2 := q11) (q3 := q12) (q4 := q13) (q5 := q14) (q6 := q3) (q7 := q4) (q8 := q5) (q9 := q6) (q10 := q7) (q11 := q8) (v_number := v_trial_number) (v_day := v_trial_day) (v_unmet := v_trial_unmet) (v_skill := v_trial_skill) (v_pills := v_trial_pills) (v_slept := v_trial_slept) (v_woken := v_trial_woken) (v_wanted := v_trial_wanted) (w1_number := v_folk_number) (w1_day := v_folk_day) (w1_unmet := v_folk_unmet) (w1_skill := v_folk_skill) (w1_pills := v_folk_pills) (w1_slept := v_folk_slept) (w1_woken := v_folk_woken) (w1_wanted := v_folk_wanted) (r := y21) e3) [9, 10, 11, 12, 13, 14, 3, 4, 5, 6, 7, 8] rfl rfl (fun _ => rfl) (fun _ => rfl) rfl rfl rfl rfl (Nat.le_of_ble_eq_true rfl) hl.1 (by rw [hRf]; exact Nat.le_of_ble_eq_true rfl) (by rw [hRl]; exact Nat.le_of_ble_eq_true rfl) ⟨Nat.zero_le _, Nat.zero_le _⟩ dX10_years_21 rfl (fun H locs _ hS => ?_)
      refine lv_aload_n hx hb dX10_years_24 rfl (lv_at hl 0 rfl) ?_
      refine lv_iload_n hx hb dX10_years_25 rfl (lv_at hl 1 rfl) ?_
      refine r_put (ws' := [oX10 q0 u0_0 (.ref q1) (.ref q3) (.ref q9) u0_4 u0_5 (.ref q15) u0_7 u0_8 u0_9 u0_10 u0_11 (.int p1), oX2 q1 (.ref q2) (.int v_told_size), aJ cy q2 16 v_told_number, oX0 q3 (.ref q4) (.ref q5) (.ref q6) (.ref q7) (.ref q8) (.int v_folk_number) (.int v_folk_day) (.int v_folk_unmet), aI cy q4 7 v_folk_skill, aI cy q5 7 v_folk_pills, aI cy q6 7 v_folk_slept, aI cy q7 7 v_folk_woken, aI cy q8 7 v_folk_wanted, oX0 q9 (.ref q10) (.ref q11) (.ref q12) (.ref q13) (.ref q14) (.int y21.1) (.int y21.2.1) (.int y21.2.2.1), aI cy q10 7 y21.2.2.2.1, aI cy q11 7 y21.2.2.2.2.1, aI cy q12 7 y21.2.2.2.2.2.1, aI cy q13 7 y21.2.2.2.2.2.2.1, aI cy q14 7 y21.2.2.2.2.2.2.2, oX5 q15 (.ref q16) (.ref q17) (.ref q18) (.int v_inForce_size), aI cy q16 40 v_inForce_code, aI cy q17 40 v_inForce_stack, aI cy q18 7 v_inForce_thing]) E frX10_85 hS 0 rfl (Nat.le_of_ble_eq_true rfl) rfl rfl rfl rfl dX10_years_26 (fun H locs hS => ?_)
      refine lv_iconst (v := 0) hx hb dX10_years_29 (by decide) ?_
      refine lv_istore_n (lv' := [(3, .int (0 : Int32)), (0, .ref q0), (1, .int p1), (2, .int p2)]) hx hb dX10_years_30 rfl hl (by decide) rfl (fun ls hl => ?_)
      refine lv_iconst (v := 0) hx hb dX10_years_31 (by decide) ?_
      refine lv_istore (lv' := [(4, .int (0 : Int32)), (3, .int (0 : Int32)), (0, .ref q0), (1, .int p1), (2, .int p2)]) hx hb dX10_years_32 hl (by decide) rfl (fun ls hl => ?_)
      have hL34 : ∀ (n : Nat) (x34_0 : Int32) (x34_1 : Int32) (x34_2 : Int32) (x34_3 : Int32) (x34_4 : Int32) (x34_5 : Nat → Int32) (x34_6 : Nat → Int32) (x34_7 : Nat → Int32) (x34_8 : Nat → Int32) (x34_9 : Nat → Int32) (x34_10 : Nat → Int32) (x34_11 : Nat → Int32) (y34 : Int32 × Int32 × Int32 × Int32 × (Nat → Int32) × (Nat → Int32) × (Nat → Int32) × (Nat → Int32) × (Nat → Int32) × (Nat → Int32) × (Nat → Int32)) (H : Heap) (locs : List Loc) (ls : Array Slot), lp (fun x34 => X10_years_s34 v_inForce_size v_inForce_code p2 y21 x34.1 x34.2.1 x34.2.2.1 x34.2.2.2.1 x34.2.2.2.2.1 x34.2.2.2.2.2.1 x34.2.2.2.2.2.2.1 x34.2.2.2.2.2.2.2.1 x34.2.2.2.2.2.2.2.2.1 x34.2.2.2.2.2.2.2.2.2.1 x34.2.2.2.2.2.2.2.2.2.2.1 x34.2.2.2.2.2.2.2.2.2.2.2) n (x34_0, x34_1, x34_2, x34_3, x34_4, x34_5, x34_6, x34_7, x34_8, x34_9, x34_10, x34_11) = some y34 → Sv D A s.heap [oX10 q0 u0_0 (.ref q1) (.ref q3) (.ref q9) u0_4 u0_5 (.ref q15) u0_7 u0_8 u0_9 u0_10 u0_11 (.int x34_2), oX2 q1 (.ref q2) (.int v_told_size), aJ cy q2 16 v_told_number, oX0 q3 (.ref q4) (.ref q5) (.ref q6) (.ref q7) (.ref q8) (.int v_folk_number) (.int v_folk_day) (.int v_folk_unmet), aI cy q4 7 v_folk_skill, aI cy q5 7 v_folk_pills, aI cy q6 7 v_folk_slept, aI cy q7 7 v_folk_woken, aI cy q8 7 v_folk_wanted, oX0 q9 (.ref q10) (.ref q11) (.ref q12) (.ref q13) (.ref q14) (.int y21.1) (.int x34_3) (.int x34_4), aI cy q10 7 x34_5, aI cy q11 7 x34_6, aI cy q12 7 x34_7, aI cy q13 7 x34_8, aI cy q14 7 x34_9, oX5 q15 (.ref q16) (.ref q17) (.ref q18) (.int v_inForce_size), aI cy q16 40 v_inForce_code, aI cy q17 40 x34_10, aI cy q18 7 x34_11] H locs → lv_has ls 7 [(0, .ref q0), (2, .int p2), (3, .int x34_0), (4, .int x34_1)] → ( ∀ (y34_0 : Int32) (y34_1 : Int32) (y34_2 : Int32) (y34_3 : Int32) (y34_4 : Nat → Int32) (y34_5 : Nat → Int32) (y34_6 : Nat → Int32) (y34_7 : Nat → Int32) (y34_8 : Nat → Int32) (y34_9 : Nat → Int32) (y34_10 : Nat → Int32), (y34_0, y34_1, y34_2, y34_3, y34_4, y34_5, y34_6, y34_7, y34_8, y34_9, y34_10) = y34 → ∀ (H : Heap) (locs : List Loc) (ls : Array Slot), Sv D A s.heap [oX10 q0 u0_0 (.ref q1) (.ref q3) (.ref q9) u0_4 u0_5 (.ref q15) u0_7 u0_8 u0_9 u0_10 u0_11 (.int y34_1), oX2 q1 (.ref q2) (.int v_told_size), aJ cy q2 16 v_told_number, oX0 q3 (.ref q4) (.ref q5) (.ref q6) (.ref q7) (.ref q8) (.int v_folk_number) (.int v_folk_day) (.int v_folk_unmet), aI cy q4 7 v_folk_skill, aI cy q5 7 v_folk_pills, aI cy q6 7 v_folk_slept, aI cy q7 7 v_folk_woken, aI cy q8 7 v_folk_wanted, oX0 q9 (.ref q10) (.ref q11) (.ref q12) (.ref q13) (.ref q14) (.int y21.1) (.int y34_2) (.int y34_3), aI cy q10 7 y34_4, aI cy q11 7 y34_5, aI cy q12 7 y34_6, aI cy q13 7 y34_7, aI cy q14 7 y34_8, oX5 q15 (.ref q16) (.ref q17) (.ref q18) (.int v_inForce_size), aI cy q16 40 v_inForce_code, aI cy q17 40 y34_9, aI cy q18 7 y34_10] H locs → lv_has ls 7 [(0, .ref q0), (3, .int y34_0)] → W p l e R s m args below meth c H locs 0 0 Q (F0 m 146 ls [])) → W p l e R s m args below meth c H locs 0 0 Q (F0 m 34 ls []) := by
        intro n
        induction n with
        | zero =>
          intro x34_0 x34_1 x34_2 x34_3 x34_4 x34_5 x34_6 x34_7 x34_8 x34_9 x34_10 x34_11 y34 H locs ls h
          exact lp_zero h
        | succ n ih34 =>
          intro x34_0 x34_1 x34_2 x34_3 x34_4 x34_5 x34_6 x34_7 x34_8 x34_9 x34_10 x34_11 y34 H locs ls h hS hl hk34_0
          obtain ⟨z34, h, hz34a, hz34b⟩ := lp_succ h
          have h : X10_years_s34 v_inForce_size v_inForce_code p2 y21 x34_0 x34_1 x34_2 x34_3 x34_4 x34_5 x34_6 x34_7 x34_8 x34_9 x34_10 x34_11 = some z34 := h
          unfold X10_years_s34 at h
          refine lv_iload hx hb dX10_years_34 (lv_at hl 3 rfl) ?_
          refine lv_iload_n hx hb dX10_years_36 rfl (lv_at hl 1 rfl) ?_
          refine lv_icmp_ge (tgt := 146) hx hb dX10_years_37 (by decide) (fun c4 => ?_) (fun c4 => ?_)
          · have h := it_pos c4 h
            exact hk34_0 x34_0 x34_2 x34_3 x34_4 x34_5 x34_6 x34_7 x34_8 x34_9 x34_10 x34_11 (hz34b _ (Option.some.inj h).symm)  H locs ls hS (lv_sub hl [0, 2] rfl)
          · have h := it_neg c4 h
            refine lv_aload_n hx hb dX10_years_40 rfl (lv_at hl 0 rfl) ?_
            refine lv_iconst (v := 4) hx hb dX10_years_41 (by decide) ?_
            obtain ⟨y42, e5, h⟩ := bd_some h
            refine ct_V (ws' := fun _ => [oX10 q0 u0_0 (.ref q1) (.ref q3) (.ref q9) u0_4 u0_5 (.ref q15) u0_7 u0_8 u0_9 u0_10 u0_11 (.int y42.2), oX2 q1 (.ref q2) (.int v_told_size), aJ cy q2 16 v_told_number, oX0 q3 (.ref q4) (.ref q5) (.ref q6) (.ref q7) (.ref q8) (.int v_folk_number) (.int v_folk_day) (.int v_folk_unmet), aI cy q4 7 v_folk_skill, aI cy q5 7 v_folk_pills, aI cy q6 7 v_folk_slept, aI cy q7 7 v_folk_woken, aI cy q8 7 v_folk_wanted, oX0 q9 (.ref q10) (.ref q11) (.ref q12) (.ref q13) (.ref q14) (.int y21.1) (.int x34_3) (.int x34_4), aI cy q10 7 x34_5, aI cy q11 7 x34_6, aI cy q12 7 x34_7, aI cy q13 7 x34_8, aI cy q14 7 x34_9, oX5 q15 (.ref q16) (.ref q17) (.ref q18) (.int v_inForce_size), aI cy q16 40 v_inForce_code, aI cy q17 40 x34_10, aI cy q18 7 x34_11]) (st' := [.int y42.1]) (rest := []) E hS vlX10_366 (c_X10_draw (l := l) (D := D) (cy := cy) (q0 := q0) (u0_0 := u0_0) (u0_1 := .ref q1) (u0_2 := .ref q3) (u0_3 := .ref q9) (u0_4 := u0_4) (u0_5 := u0_5) (u0_6 := .ref q15) (u0_7 := u0_7) (u0_8 := u0_8) (u0_9 := u0_9) (u0_10 := u0_10) (u0_11 := u0_11) (v_drawn := x34_2) (p1 := (4 : Int32)) (r := y42) e5) [0] rfl rfl (fun _ => rfl) (fun _ => rfl) rfl rfl rfl rfl (Nat.le_of_ble_eq_true rfl) hl.1 (by rw [hRf]; exact Nat.le_of_ble_eq_true rfl) (by rw [hRl]; exact Nat.le_of_ble_eq_true rfl) ⟨Nat.zero_le _, Nat.zero_le _⟩ dX10_years_42 rfl (fun H locs _ hS => ?_)
            refine lv_istore (lv' := [(5, .int y42.1), (0, .ref q0), (2, .int p2), (3, .int x34_0), (4, .int x34_1)]) hx hb dX10_years_45 hl (by decide) rfl (fun ls hl => ?_)
            refine lv_iload hx hb dX10_years_47 (lv_at hl 0 rfl) ?_
            refine lv_iconst (v := 2) hx hb dX10_years_49 (by decide) ?_
            refine lv_icmp_ge (tgt := 71) hx hb dX10_years_50 (by decide) (fun c6 => ?_) (fun c6 => ?_)
            · have h := it_pos c6 h
              refine lv_aload_n hx hb dX10_years_71 rfl (lv_at hl 1 rfl) ?_
              refine r_get E frX10_30 hS 0 rfl rfl dX10_years_72 ?_
              refine r_get E frX10_107 hS 9 rfl rfl dX10_years_75 ?_
              refine lv_if_le (tgt := 140) hx hb dX10_years_78 (by decide) (fun c7 => ?_) (fun c7 => ?_)
              · have h := it_pos c7 h
                refine lv_iinc (v := (x34_1 + (1 : Int32))) (lv' := [(4, .int (x34_1 + (1 : Int32))), (5, .int y42.1), (0, .ref q0), (2, .int p2), (3, .int x34_0)]) hx hb dX10_years_140 hl (k := 4) rfl rfl (by decide) rfl (fun ls hl => ?_)
                refine lv_goto (tgt := 34) hx hb dX10_years_143 (by decide) ?_
                exact ih34 x34_0 (x34_1 + (1 : Int32)) y42.2 x34_3 x34_4 x34_5 x34_6 x34_7 x34_8 x34_9 x34_10 x34_11 y34  H locs ls (hz34a _ (Option.some.inj h).symm) hS (lv_sub hl [2, 3, 4, 0] rfl) hk34_0
              · have h := it_neg c7 h
                refine lv_aload_n hx hb dX10_years_81 rfl (lv_at hl 1 rfl) ?_
                refine lv_aload_n hx hb dX10_years_82 rfl (lv_at hl 1 rfl) ?_
                refine r_get E frX10_30 hS 0 rfl rfl dX10_years_83 ?_
                refine r_get E frX10_107 hS 9 rfl rfl dX10_years_86 ?_
                obtain ⟨y89, e8, h⟩ := bd_some h
                refine ct_V (ws' := fun _ => [oX10 q0 u0_0 (.ref q1) (.ref q3) (.ref q9) u0_4 u0_5 (.ref q15) u0_7 u0_8 u0_9 u0_10 u0_11 (.int y89.2), oX2 q1 (.ref q2) (.int v_told_size), aJ cy q2 16 v_told_number, oX0 q3 (.ref q4) (.ref q5) (.ref q6) (.ref q7) (.ref q8) (.int v_folk_number) (.int v_folk_day) (.int v_folk_unmet), aI cy q4 7 v_folk_skill, aI cy q5 7 v_folk_pills, aI cy q6 7 v_folk_slept, aI cy q7 7 v_folk_woken, aI cy q8 7 v_folk_wanted, oX0 q9 (.ref q10) (.ref q11) (.ref q12) (.ref q13) (.ref q14) (.int y21.1) (.int x34_3) (.int x34_4), aI cy q10 7 x34_5, aI cy q11 7 x34_6, aI cy q12 7 x34_7, aI cy q13 7 x34_8, aI cy q14 7 x34_9, oX5 q15 (.ref q16) (.ref q17) (.ref q18) (.int v_inForce_size), aI cy q16 40 v_inForce_code, aI cy q17 40 x34_10, aI cy q18 7 x34_11]) (st' := [.int y89.1]) (rest := []) E hS vlX10_366 (c_X10_draw (l := l) (D := D) (cy := cy) (q0 := q0) (u0_0 := u0_0) (u0_1 := .ref q1) (u0_2 := .ref q3) (u0_3 := .ref q9) (u0_4 := u0_4) (u0_5 := u0_5) (u0_6 := .ref q15) (u0_7 := u0_7) (u0_8 := u0_8) (u0_9 := u0_9) (u0_10 := u0_10) (u0_11 := u0_11) (v_drawn := y42.2) (p1 := y21.1) (r := y89) e8) [0] rfl rfl (fun _ => rfl) (fun _ => rfl) rfl rfl rfl rfl (Nat.le_of_ble_eq_true rfl) hl.1 (by rw [hRf]; exact Nat.le_of_ble_eq_true rfl) (by rw [hRl]; exact Nat.le_of_ble_eq_true rfl) ⟨Nat.zero_le _, Nat.zero_le _⟩ dX10_years_89 rfl (fun H locs _ hS => ?_)
                refine lv_istore (lv' := [(6, .int y89.1), (5, .int y42.1), (0, .ref q0), (2, .int p2), (3, .int x34_0), (4, .int x34_1)]) hx hb dX10_years_92 hl (by decide) rfl (fun ls hl => ?_)
                refine lv_iload hx hb dX10_years_94 (lv_at hl 1 rfl) ?_
                refine lv_iconst (v := 2) hx hb dX10_years_96 (by decide) ?_
                refine lv_icmp_ne (tgt := 124) hx hb dX10_years_97 (by decide) (fun c9 => ?_) (fun c9 => ?_)
                · have h := it_neg c9 h
                  refine lv_aload_n hx hb dX10_years_124 rfl (lv_at hl 2 rfl) ?_
                  refine r_get E frX10_30 hS 0 rfl rfl dX10_years_125 ?_
                  refine lv_iload hx hb dX10_years_128 (lv_at hl 0 rfl) ?_
                  refine lv_aload_n hx hb dX10_years_130 rfl (lv_at hl 2 rfl) ?_
                  refine lv_bipush (v := 10) hx hb dX10_years_131 (by decide) ?_
                  obtain ⟨y133, e10, h⟩ := bd_some h
                  refine ct_V (ws' := fun _ => [oX10 q0 u0_0 (.ref q1) (.ref q3) (.ref q9) u0_4 u0_5 (.ref q15) u0_7 u0_8 u0_9 u0_10 u0_11 (.int y133.2), oX2 q1 (.ref q2) (.int v_told_size), aJ cy q2 16 v_told_number, oX0 q3 (.ref q4) (.ref q5) (.ref q6) (.ref q7) (.ref q8) (.int v_folk_number) (.int v_folk_day) (.int v_folk_unmet), aI cy q4 7 v_folk_skill, aI cy q5 7 v_folk_pills, aI cy q6 7 v_folk_slept, aI cy q7 7 v_folk_woken, aI cy q8 7 v_folk_wanted, oX0 q9 (.ref q10) (.ref q11) (.ref q12) (.ref q13) (.ref q14) (.int y21.1) (.int x34_3) (.int x34_4), aI cy q10 7 x34_5, aI cy q11 7 x34_6, aI cy q12 7 x34_7, aI cy q13 7 x34_8, aI cy q14 7 x34_9, oX5 q15 (.ref q16) (.ref q17) (.ref q18) (.int v_inForce_size), aI cy q16 40 v_inForce_code, aI cy q17 40 x34_10, aI cy q18 7 x34_11]) (st' := [.int y133.1, .int y89.1, .ref q9]) (rest := [.int y89.1, .ref q9]) E hS vlX10_366 (c_X10_draw (l := l) (D := D) (cy := cy) (q0 := q0) (u0_0 := u0_0) (u0_1 := .ref q1) (u0_2 := .ref q3) (u0_3 := .ref q9) (u0_4 := u0_4) (u0_5 := u0_5) (u0_6 := .ref q15) (u0_7 := u0_7) (u0_8 := u0_8) (u0_9 := u0_9) (u0_10 := u0_10) (u0_11 := u0_11) (v_drawn := y89.2) (p1 := (10 : Int32)) (r := y133) e10) [0] rfl rfl (fun _ => rfl) (fun _ => rfl) rfl rfl rfl rfl (Nat.le_of_ble_eq_true rfl) hl.1 (by rw [hRf]; exact Nat.le_of_ble_eq_true rfl) (by rw [hRl]; exact Nat.le_of_ble_eq_true rfl) ⟨Nat.zero_le _, Nat.zero_le _⟩ dX10_years_133 rfl (fun H locs _ hS => ?_)
                  obtain ⟨y136, e11, h⟩ := bd_some h
                  refine ct_V (ws' := fun _ => [oX10 q0 u0_0 (.ref q1) (.ref q3) (.ref q9) u0_4 u0_5 (.ref q15) u0_7 u0_8 u0_9 u0_10 u0_11 (.int y133.2), oX2 q1 (.ref q2) (.int v_told_size), aJ cy q2 16 v_told_number, oX0 q3 (.ref q4) (.ref q5) (.ref q6) (.ref q7) (.ref q8) (.int v_folk_number) (.int v_folk_day) (.int v_folk_unmet), aI cy q4 7 v_folk_skill, aI cy q5 7 v_folk_pills, aI cy q6 7 v_folk_slept, aI cy q7 7 v_folk_woken, aI cy q8 7 v_folk_wanted, oX0 q9 (.ref q10) (.ref q11) (.ref q12) (.ref q13) (.ref q14) (.int y21.1) (.int x34_3) (.int x34_4), aI cy q10 7 y136.2, aI cy q11 7 x34_6, aI cy q12 7 x34_7, aI cy q13 7 x34_8, aI cy q14 7 x34_9, oX5 q15 (.ref q16) (.ref q17) (.ref q18) (.int v_inForce_size), aI cy q16 40 v_inForce_code, aI cy q17 40 x34_10, aI cy q18 7 x34_11]) (st' := [.int y136.1]) (rest := []) E hS vlX10_213 (c_X0_becomesSkilled (l := l) (D := D) (cy := cy) (q0 := q9) (q1 := q10) (u0_1 := .ref q11) (u0_2 := .ref q12) (u0_3 := .ref q13) (u0_4 := .ref q14) (u0_6 := .int x34_3) (u0_7 := .int x34_4) (v_number := y21.1) (v_skill := x34_5) (p1 := y89.1) (p2 := y133.1) (r := y136) e11) [9, 10] rfl rfl (fun _ => rfl) (fun _ => rfl) rfl rfl rfl rfl (Nat.le_of_ble_eq_true rfl) hl.1 (by rw [hRf]; exact Nat.le_of_ble_eq_true rfl) (by rw [hRl]; exact Nat.le_of_ble_eq_true rfl) ⟨Nat.zero_le _, Nat.zero_le _⟩ dX10_years_136 rfl (fun H locs _ hS => ?_)
                  refine lv_pop hx hb dX10_years_139 rfl ?_
                  refine lv_iinc (v := (x34_1 + (1 : Int32))) (lv' := [(4, .int (x34_1 + (1 : Int32))), (6, .int y89.1), (5, .int y42.1), (0, .ref q0), (2, .int p2), (3, .int x34_0)]) hx hb dX10_years_140 hl (k := 5) rfl rfl (by decide) rfl (fun ls hl => ?_)
                  refine lv_goto (tgt := 34) hx hb dX10_years_143 (by decide) ?_
                  exact ih34 x34_0 (x34_1 + (1 : Int32)) y133.2 x34_3 x34_4 y136.2 x34_6 x34_7 x34_8 x34_9 x34_10 x34_11 y34  H locs ls (hz34a _ (Option.some.inj h).symm) hS (lv_sub hl [3, 4, 5, 0] rfl) hk34_0
                · have h := it_pos c9 h
                  refine lv_aload_n hx hb dX10_years_100 rfl (lv_at hl 2 rfl) ?_
                  refine r_get E frX10_30 hS 0 rfl rfl dX10_years_101 ?_
                  refine lv_iload hx hb dX10_years_104 (lv_at hl 0 rfl) ?_
                  refine lv_aload_n hx hb dX10_years_106 rfl (lv_at hl 2 rfl) ?_
                  refine lv_aload_n hx hb dX10_years_107 rfl (lv_at hl 2 rfl) ?_
                  refine r_get E frX10_30 hS 0 rfl rfl dX10_years_108 ?_
                  refine r_get E frX10_107 hS 9 rfl rfl dX10_years_111 ?_
                  obtain ⟨y114, e12, h⟩ := bd_some h
                  refine ct_V (ws' := fun _ => [oX10 q0 u0_0 (.ref q1) (.ref q3) (.ref q9) u0_4 u0_5 (.ref q15) u0_7 u0_8 u0_9 u0_10 u0_11 (.int y114.2), oX2 q1 (.ref q2) (.int v_told_size), aJ cy q2 16 v_told_number, oX0 q3 (.ref q4) (.ref q5) (.ref q6) (.ref q7) (.ref q8) (.int v_folk_number) (.int v_folk_day) (.int v_folk_unmet), aI cy q4 7 v_folk_skill, aI cy q5 7 v_folk_pills, aI cy q6 7 v_folk_slept, aI cy q7 7 v_folk_woken, aI cy q8 7 v_folk_wanted, oX0 q9 (.ref q10) (.ref q11) (.ref q12) (.ref q13) (.ref q14) (.int y21.1) (.int x34_3) (.int x34_4), aI cy q10 7 x34_5, aI cy q11 7 x34_6, aI cy q12 7 x34_7, aI cy q13 7 x34_8, aI cy q14 7 x34_9, oX5 q15 (.ref q16) (.ref q17) (.ref q18) (.int v_inForce_size), aI cy q16 40 v_inForce_code, aI cy q17 40 x34_10, aI cy q18 7 x34_11]) (st' := [.int y114.1, .int y89.1, .ref q9]) (rest := [.int y89.1, .ref q9]) E hS vlX10_366 (c_X10_draw (l := l) (D := D) (cy := cy) (q0 := q0) (u0_0 := u0_0) (u0_1 := .ref q1) (u0_2 := .ref q3) (u0_3 := .ref q9) (u0_4 := u0_4) (u0_5 := u0_5) (u0_6 := .ref q15) (u0_7 := u0_7) (u0_8 := u0_8) (u0_9 := u0_9) (u0_10 := u0_10) (u0_11 := u0_11) (v_drawn := y89.2) (p1 := y21.1) (r := y114) e12) [0] rfl rfl (fun _ => rfl) (fun _ => rfl) rfl rfl rfl rfl (Nat.le_of_ble_eq_true rfl) hl.1 (by rw [hRf]; exact Nat.le_of_ble_eq_true rfl) (by rw [hRl]; exact Nat.le_of_ble_eq_true rfl) ⟨Nat.zero_le _, Nat.zero_le _⟩ dX10_years_114 rfl (fun H locs _ hS => ?_)
                  obtain ⟨y117, e13, h⟩ := bd_some h
                  refine ct_V (ws' := fun _ => [oX10 q0 u0_0 (.ref q1) (.ref q3) (.ref q9) u0_4 u0_5 (.ref q15) u0_7 u0_8 u0_9 u0_10 u0_11 (.int y114.2), oX2 q1 (.ref q2) (.int v_told_size), aJ cy q2 16 v_told_number, oX0 q3 (.ref q4) (.ref q5) (.ref q6) (.ref q7) (.ref q8) (.int v_folk_number) (.int v_folk_day) (.int v_folk_unmet), aI cy q4 7 v_folk_skill, aI cy q5 7 v_folk_pills, aI cy q6 7 v_folk_slept, aI cy q7 7 v_folk_woken, aI cy q8 7 v_folk_wanted, oX0 q9 (.ref q10) (.ref q11) (.ref q12) (.ref q13) (.ref q14) (.int y21.1) (.int x34_3) (.int x34_4), aI cy q10 7 x34_5, aI cy q11 7 x34_6, aI cy q12 7 x34_7, aI cy q13 7 x34_8, aI cy q14 7 y117.2, oX5 q15 (.ref q16) (.ref q17) (.ref q18) (.int v_inForce_size), aI cy q16 40 v_inForce_code, aI cy q17 40 x34_10, aI cy q18 7 x34_11]) (st' := [.int y117.1]) (rest := []) E hS vlX10_203 (c_X0_turns (l := l) (D := D) (cy := cy) (q0 := q9) (q1 := q14) (u0_0 := .ref q10) (u0_1 := .ref q11) (u0_2 := .ref q12) (u0_3 := .ref q13) (u0_6 := .int x34_3) (u0_7 := .int x34_4) (v_number := y21.1) (v_wanted := x34_9) (p1 := y89.1) (p2 := y114.1) (r := y117) e13) [9, 14] rfl rfl (fun _ => rfl) (fun _ => rfl) rfl rfl rfl rfl (Nat.le_of_ble_eq_true rfl) hl.1 (by rw [hRf]; exact Nat.le_of_ble_eq_true rfl) (by rw [hRl]; exact Nat.le_of_ble_eq_true rfl) ⟨Nat.zero_le _, Nat.zero_le _⟩ dX10_years_117 rfl (fun H locs _ hS => ?_)
                  refine lv_pop hx hb dX10_years_120 rfl ?_
                  refine lv_goto (tgt := 140) hx hb dX10_years_121 (by decide) ?_
                  refine lv_iinc (v := (x34_1 + (1 : Int32))) (lv' := [(4, .int (x34_1 + (1 : Int32))), (6, .int y89.1), (5, .int y42.1), (0, .ref q0), (2, .int p2), (3, .int x34_0)]) hx hb dX10_years_140 hl (k := 5) rfl rfl (by decide) rfl (fun ls hl => ?_)
                  refine lv_goto (tgt := 34) hx hb dX10_years_143 (by decide) ?_
                  exact ih34 x34_0 (x34_1 + (1 : Int32)) y114.2 x34_3 x34_4 x34_5 x34_6 x34_7 x34_8 y117.2 x34_10 x34_11 y34  H locs ls (hz34a _ (Option.some.inj h).symm) hS (lv_sub hl [3, 4, 5, 0] rfl) hk34_0
            · have h := it_neg c6 h
              refine lv_iload_n hx hb dX10_years_53 rfl (lv_at hl 3 rfl) ?_
              refine lv_aload_n hx hb dX10_years_54 rfl (lv_at hl 1 rfl) ?_
              refine lv_aload_n hx hb dX10_years_55 rfl (lv_at hl 1 rfl) ?_
              refine r_get E frX10_30 hS 0 rfl rfl dX10_years_56 ?_
              refine lv_iconst (v := 1) hx hb dX10_years_59 (by decide) ?_
              obtain ⟨y60, e14, h⟩ := bd_some h
              refine ct_V (ws' := fun _ => [oX10 q0 u0_0 (.ref q1) (.ref q3) (.ref q9) u0_4 u0_5 (.ref q15) u0_7 u0_8 u0_9 u0_10 u0_11 (.int y42.2), oX2 q1 (.ref q2) (.int v_told_size), aJ cy q2 16 v_told_number, oX0 q3 (.ref q4) (.ref q5) (.ref q6) (.ref q7) (.ref q8) (.int v_folk_number) (.int v_folk_day) (.int v_folk_unmet), aI cy q4 7 v_folk_skill, aI cy q5 7 v_folk_pills, aI cy q6 7 v_folk_slept, aI cy q7 7 v_folk_woken, aI cy q8 7 v_folk_wanted, oX0 q9 (.ref q10) (.ref q11) (.ref q12) (.ref q13) (.ref q14) (.int y21.1) (.int y60.2.2.2.1) (.int y60.2.2.2.2.1), aI cy q10 7 x34_5, aI cy q11 7 y60.2.2.2.2.2.1, aI cy q12 7 y60.2.2.2.2.2.2.1, aI cy q13 7 y60.2.2.2.2.2.2.2, aI cy q14 7 x34_9, oX5 q15 (.ref q16) (.ref q17) (.ref q18) (.int v_inForce_size), aI cy q16 40 v_inForce_code, aI cy q17 40 y60.2.1, aI cy q18 7 y60.2.2.1]) (st' := [.int y60.1, .int x34_0]) (rest := [.int x34_0]) E hS vlX10_192 (c_X10_goBy (l := l) (D := D) (cy := cy) (q0 := q0) (q1 := q15) (q2 := q16) (q3 := q17) (q4 := q18) (q5 := q9) (q6 := q10) (q7 := q11) (q8 := q12) (q9 := q13) (q10 := q14) (u0_0 := u0_0) (u0_1 := .ref q1) (u0_2 := .ref q3) (u0_3 := .ref q9) (u0_4 := u0_4) (u0_5 := u0_5) (u0_7 := u0_7) (u0_8 := u0_8) (u0_9 := u0_9) (u0_10 := u0_10) (u0_11 := u0_11) (u0_12 := .int y42.2) (v_inForce_size := v_inForce_size) (v_inForce_code := v_inForce_code) (v_inForce_stack := x34_10) (v_inForce_thing := x34_11) (w1_number := y21.1) (w1_day := x34_3) (w1_unmet := x34_4) (w1_skill := x34_5) (w1_pills := x34_6) (w1_slept := x34_7) (w1_woken := x34_8) (w1_wanted := x34_9) (p2 := (1 : Int32)) (r := y60) e14) [0, 15, 16, 17, 18, 9, 10, 11, 12, 13, 14] rfl rfl (fun _ => rfl) (fun _ => rfl) rfl rfl rfl rfl (Nat.le_of_ble_eq_true rfl) hl.1 (by rw [hRf]; exact Nat.le_of_ble_eq_true rfl) (by rw [hRl]; exact Nat.le_of_ble_eq_true rfl) ⟨Nat.zero_le _, Nat.zero_le _⟩ dX10_years_60 rfl (fun H locs _ hS => ?_)
              refine ct_S (ws' := fun _ => [oX10 q0 u0_0 (.ref q1) (.ref q3) (.ref q9) u0_4 u0_5 (.ref q15) u0_7 u0_8 u0_9 u0_10 u0_11 (.int y42.2), oX2 q1 (.ref q2) (.int v_told_size), aJ cy q2 16 v_told_number, oX0 q3 (.ref q4) (.ref q5) (.ref q6) (.ref q7) (.ref q8) (.int v_folk_number) (.int v_folk_day) (.int v_folk_unmet), aI cy q4 7 v_folk_skill, aI cy q5 7 v_folk_pills, aI cy q6 7 v_folk_slept, aI cy q7 7 v_folk_woken, aI cy q8 7 v_folk_wanted, oX0 q9 (.ref q10) (.ref q11) (.ref q12) (.ref q13) (.ref q14) (.int y21.1) (.int y60.2.2.2.1) (.int y60.2.2.2.2.1), aI cy q10 7 x34_5, aI cy q11 7 y60.2.2.2.2.2.1, aI cy q12 7 y60.2.2.2.2.2.2.1, aI cy q13 7 y60.2.2.2.2.2.2.2, aI cy q14 7 x34_9, oX5 q15 (.ref q16) (.ref q17) (.ref q18) (.int v_inForce_size), aI cy q16 40 v_inForce_code, aI cy q17 40 y60.2.1, aI cy q18 7 y60.2.2.1]) (st' := [.int (J6_bitCount_0f7a4 y60.1), .int x34_0]) (rest := [.int x34_0]) E hS slX10_241 (c_J6_bitCount_0f7a4 (l := l) (D := D) (cy := cy) (p0 := y60.1) (r := (J6_bitCount_0f7a4 y60.1)) rfl) [] rfl rfl (fun _ => rfl) (fun _ => rfl) rfl rfl (Nat.le_of_ble_eq_true rfl) hl.1 (by rw [hRf]; exact Nat.le_of_ble_eq_true rfl) (by rw [hRl]; exact Nat.le_of_ble_eq_true rfl) ⟨Nat.zero_le _, Nat.zero_le _⟩ dX10_years_63 rfl (fun H locs _ hS => ?_)
              refine lv_iadd hx hb dX10_years_66 ?_
              refine lv_istore_n (lv' := [(3, .int (x34_0 + (J6_bitCount_0f7a4 y60.1))), (5, .int y42.1), (0, .ref q0), (2, .int p2), (4, .int x34_1)]) hx hb dX10_years_67 rfl hl (by decide) rfl (fun ls hl => ?_)
              refine lv_goto (tgt := 140) hx hb dX10_years_68 (by decide) ?_
              refine lv_iinc (v := (x34_1 + (1 : Int32))) (lv' := [(4, .int (x34_1 + (1 : Int32))), (3, .int (x34_0 + (J6_bitCount_0f7a4 y60.1))), (5, .int y42.1), (0, .ref q0), (2, .int p2)]) hx hb dX10_years_140 hl (k := 4) rfl rfl (by decide) rfl (fun ls hl => ?_)
              refine lv_goto (tgt := 34) hx hb dX10_years_143 (by decide) ?_
              exact ih34 (x34_0 + (J6_bitCount_0f7a4 y60.1)) (x34_1 + (1 : Int32)) y42.2 y60.2.2.2.1 y60.2.2.2.2.1 x34_5 y60.2.2.2.2.2.1 y60.2.2.2.2.2.2.1 y60.2.2.2.2.2.2.2 x34_9 y60.2.1 y60.2.2.1 y34  H locs ls (hz34a _ (Option.some.inj h).symm) hS (lv_sub hl [3, 4, 1, 0] rfl) hk34_0
      obtain ⟨y34, e34, h⟩ := bd_some h
      refine hL34 1000 (0 : Int32) (0 : Int32) p1 y21.2.1 y21.2.2.1 y21.2.2.2.1 y21.2.2.2.2.1 y21.2.2.2.2.2.1 y21.2.2.2.2.2.2.1 y21.2.2.2.2.2.2.2 v_inForce_stack v_inForce_thing y34  H locs ls e34 hS (lv_sub hl [2, 4, 1, 0] rfl) (fun y34_0 y34_1 y34_2 y34_3 y34_4 y34_5 y34_6 y34_7 y34_8 y34_9 y34_10 ey34 H locs ls hS hl => ?_)
      subst ey34
      have h := un_r h
      have h := un_r h
      have h := un_r h
      have h := un_r h
      have h := un_r h
      have h := un_r h
      have h := un_r h
      have h := un_r h
      have h := un_r h
      have h := un_r h
      refine lv_aload_n hx hb dX10_years_146 rfl (lv_at hl 0 rfl) ?_
      refine r_get E frX10_19 hS 0 rfl rfl dX10_years_147 ?_
      refine lv_aload_n hx hb dX10_years_150 rfl (lv_at hl 0 rfl) ?_
      refine r_get E frX10_30 hS 0 rfl rfl dX10_years_151 ?_
      refine r_get E frX10_189 hS 9 rfl rfl dX10_years_154 ?_
      refine lv_aload_n hx hb dX10_years_157 rfl (lv_at hl 0 rfl) ?_
      refine r_get E frX10_26 hS 0 rfl rfl dX10_years_158 ?_
      refine r_get E frX10_189 hS 3 rfl rfl dX10_years_161 ?_
      refine lv_isub hx hb dX10_years_164 ?_
      refine lv_i2l (v := ((y34_3 - v_folk_unmet).toInt64)) hx hb dX10_years_165 rfl ?_
      refine lv_aload_n hx hb dX10_years_166 rfl (lv_at hl 0 rfl) ?_
      refine r_get E frX10_50 hS 0 rfl rfl dX10_years_167 ?_
      refine lv_aload_n hx hb dX10_years_170 rfl (lv_at hl 0 rfl) ?_
      refine r_get E frX10_30 hS 0 rfl rfl dX10_years_171 ?_
      obtain ⟨y174, e15, h⟩ := bd_some h
      refine ct_V (ws' := fun _ => [oX10 q0 u0_0 (.ref q1) (.ref q3) (.ref q9) u0_4 u0_5 (.ref q15) u0_7 u0_8 u0_9 u0_10 u0_11 (.int y34_1), oX2 q1 (.ref q2) (.int v_told_size), aJ cy q2 16 v_told_number, oX0 q3 (.ref q4) (.ref q5) (.ref q6) (.ref q7) (.ref q8) (.int v_folk_number) (.int v_folk_day) (.int v_folk_unmet), aI cy q4 7 v_folk_skill, aI cy q5 7 v_folk_pills, aI cy q6 7 v_folk_slept, aI cy q7 7 v_folk_woken, aI cy q8 7 v_folk_wanted, oX0 q9 (.ref q10) (.ref q11) (.ref q12) (.ref q13) (.ref q14) (.int y21.1) (.int y34_2) (.int y34_3), aI cy q10 7 y34_4, aI cy q11 7 y34_5, aI cy q12 7 y34_6, aI cy q13 7 y34_7, aI cy q14 7 y34_8, oX5 q15 (.ref q16) (.ref q17) (.ref q18) (.int v_inForce_size), aI cy q16 40 v_inForce_code, aI cy q17 40 y174.2.1, aI cy q18 7 y174.2.2]) (st' := [.int y174.1, .long ((y34_3 - v_folk_unmet).toInt64), .ref q1]) (rest := [.long ((y34_3 - v_folk_unmet).toInt64), .ref q1]) E hS vlX10_234 (c_X5_wakers (l := l) (D := D) (cy := cy) (q0 := q15) (q1 := q16) (q2 := q17) (q3 := q18) (q4 := q9) (q5 := q10) (q6 := q11) (q7 := q12) (q8 := q14) (u4_3 := .ref q13) (u4_7 := .int y34_3) (v_size := v_inForce_size) (v_code := v_inForce_code) (v_stack := y34_9) (v_thing := y34_10) (w1_number := y21.1) (w1_day := y34_2) (w1_skill := y34_4) (w1_pills := y34_5) (w1_slept := y34_6) (w1_wanted := y34_8) (r := y174) e15) [15, 16, 17, 18, 9, 10, 11, 12, 14] rfl rfl (fun _ => rfl) (fun _ => rfl) rfl rfl rfl rfl (Nat.le_of_ble_eq_true rfl) hl.1 (by rw [hRf]; exact Nat.le_of_ble_eq_true rfl) (by rw [hRl]; exact Nat.le_of_ble_eq_true rfl) ⟨Nat.zero_le _, Nat.zero_le _⟩ dX10_years_174 rfl (fun H locs _ hS => ?_)
      refine lv_i2l (v := (y174.1.toInt64)) hx hb dX10_years_177 rfl ?_
      obtain ⟨y178, e16, h⟩ := bd_some h
      refine ct_V (ws' := fun _ => [oX10 q0 u0_0 (.ref q1) (.ref q3) (.ref q9) u0_4 u0_5 (.ref q15) u0_7 u0_8 u0_9 u0_10 u0_11 (.int y34_1), oX2 q1 (.ref q2) (.int y178.1), aJ cy q2 16 y178.2, oX0 q3 (.ref q4) (.ref q5) (.ref q6) (.ref q7) (.ref q8) (.int v_folk_number) (.int v_folk_day) (.int v_folk_unmet), aI cy q4 7 v_folk_skill, aI cy q5 7 v_folk_pills, aI cy q6 7 v_folk_slept, aI cy q7 7 v_folk_woken, aI cy q8 7 v_folk_wanted, oX0 q9 (.ref q10) (.ref q11) (.ref q12) (.ref q13) (.ref q14) (.int y21.1) (.int y34_2) (.int y34_3), aI cy q10 7 y34_4, aI cy q11 7 y34_5, aI cy q12 7 y34_6, aI cy q13 7 y34_7, aI cy q14 7 y34_8, oX5 q15 (.ref q16) (.ref q17) (.ref q18) (.int v_inForce_size), aI cy q16 40 v_inForce_code, aI cy q17 40 y174.2.1, aI cy q18 7 y174.2.2]) (st' := []) (rest := []) E hS vlX10_199 (c_X2_tellsBoth (l := l) (D := D) (cy := cy) (q0 := q1) (q1 := q2) (v_size := v_told_size) (v_number := v_told_number) (p1 := ((y34_3 - v_folk_unmet).toInt64)) (p3 := (y174.1.toInt64)) (r := y178) e16) [1, 2] rfl rfl (fun _ => rfl) (fun _ => rfl) rfl rfl rfl rfl (Nat.le_of_ble_eq_true rfl) hl.1 (by rw [hRf]; exact Nat.le_of_ble_eq_true rfl) (by rw [hRl]; exact Nat.le_of_ble_eq_true rfl) ⟨Nat.zero_le _, Nat.zero_le _⟩ dX10_years_178 rfl (fun H locs _ hS => ?_)
      refine lv_iload_n hx hb dX10_years_181 rfl (lv_at hl 1 rfl) ?_
      obtain rfl := Option.some.inj h
      exact rt_i E hQ (.null) hS dX10_years_182
    · have h := it_neg c2 h
      refine lv_iconst (v := -1) hx hb dX10_years_11 (by decide) ?_
      obtain rfl := Option.some.inj h
      exact rt_i E hQ (.null) hS dX10_years_12
set_option maxHeartbeats 4000000 in
set_option maxRecDepth 100000 in
theorem c_X10_count {l : Launch} {D : va_G} {cy : Nat → ClassId} (q0 : Nat) (q1 : Nat) (q2 : Nat) (q3 : Nat) (q4 : Nat) (q5 : Nat) (q6 : Nat) (q7 : Nat) (q8 : Nat) (q9 : Nat) (q10 : Nat) (q11 : Nat) (u0_3 : Value) (u0_5 : Value) (u0_6 : Value) (u0_7 : Value) (u0_8 : Value) (u0_9 : Value) (u0_12 : Value) (u1_0 : Value) (u2_0 : Value) (u9_0 : Value) (u9_1 : Value) (u9_2 : Value) (u9_3 : Value) (u10_0 : Value) (u10_1 : Value) (u11_0 : Value) (u11_1 : Value) (u11_2 : Value) (u11_3 : Value) (v_text_size : Int32) (v_told_size : Int32) (v_folk_number : Int32) (v_folk_day : Int32) (v_folk_unmet : Int32) (v_folk_skill : Nat → Int32) (v_folk_pills : Nat → Int32) (v_folk_slept : Nat → Int32) (v_folk_woken : Nat → Int32) (v_folk_wanted : Nat → Int32) (v_past_size : Int32) (v_hearsay_size : Int32) (v_sightings_size : Int32) (p1 : Int32) (r : Int32) (h : X10_count v_text_size v_told_size v_folk_number v_folk_day v_folk_unmet v_folk_skill v_folk_pills v_folk_slept v_folk_woken v_folk_wanted v_past_size v_hearsay_size v_sightings_size p1 = some r) : Ct l yX10_count cX10_count 2 (some .int) 2 42 D cy [.ref q0, .int p1] [oX10 q0 (.ref q1) (.ref q2) (.ref q3) u0_3 (.ref q9) u0_5 u0_6 u0_7 u0_8 u0_9 (.ref q10) (.ref q11) u0_12, oX9 q1 u1_0 (.int v_text_size), oX2 q2 u2_0 (.int v_told_size), oX0 q3 (.ref q4) (.ref q5) (.ref q6) (.ref q7) (.ref q8) (.int v_folk_number) (.int v_folk_day) (.int v_folk_unmet), aI cy q4 7 v_folk_skill, aI cy q5 7 v_folk_pills, aI cy q6 7 v_folk_slept, aI cy q7 7 v_folk_woken, aI cy q8 7 v_folk_wanted, oX3 q9 u9_0 u9_1 u9_2 u9_3 (.int v_past_size), oX1 q10 u10_0 u10_1 (.int v_hearsay_size), oX8 q11 u11_0 u11_1 u11_2 u11_3 (.int v_sightings_size)] (fun _ => [oX10 q0 (.ref q1) (.ref q2) (.ref q3) u0_3 (.ref q9) u0_5 u0_6 u0_7 u0_8 u0_9 (.ref q10) (.ref q11) u0_12, oX9 q1 u1_0 (.int v_text_size), oX2 q2 u2_0 (.int v_told_size), oX0 q3 (.ref q4) (.ref q5) (.ref q6) (.ref q7) (.ref q8) (.int v_folk_number) (.int v_folk_day) (.int v_folk_unmet), aI cy q4 7 v_folk_skill, aI cy q5 7 v_folk_pills, aI cy q6 7 v_folk_slept, aI cy q7 7 v_folk_woken, aI cy q8 7 v_folk_wanted, oX3 q9 u9_0 u9_1 u9_2 u9_3 (.int v_past_size), oX1 q10 u10_0 u10_1 (.int v_hearsay_size), oX8 q11 u11_0 u11_1 u11_2 u11_3 (.int v_sightings_size)]) (some (.int r)) := by
  refine Ct.mk kX10_count (by decide +kernel) (Nat.le_of_ble_eq_true rfl) ?_
  intro p e s m below meth c A ls args R Q hRf hRl hQ E H locs hS hl
  have hx := E.x
  have hb := E.b
  have hl : lv_has ls 2 [(0, .ref q0), (1, .int p1)] := hl
  unfold X10_count at h
  refine lv_iload_n hx hb dX10_count_0 rfl (lv_at hl 1 rfl) ?_
  rcases Decidable.em (p1 = 0) with c1 | c1
  · have h := it_pos c1 h
    refine lv_tableIn (off := 67) (tgt := 68) hx hb dX10_count_1 (by rw [c1]; decide) (by rw [c1]; decide) (by rw [c1]; rfl) (by decide) ?_
    refine lv_aload_n hx hb dX10_count_68 rfl (lv_at hl 0 rfl) ?_
    refine r_get E frX10_26 hS 0 rfl rfl dX10_count_69 ?_
    refine r_get E frX10_107 hS 3 rfl rfl dX10_count_72 ?_
    obtain rfl := Option.some.inj h
    exact rt_i E hQ (.null) hS dX10_count_75
  · have h := it_neg c1 h
    rcases Decidable.em (p1 = 1) with c2 | c2
    · have h := it_pos c2 h
      refine lv_tableIn (off := 75) (tgt := 76) hx hb dX10_count_1 (by rw [c2]; decide) (by rw [c2]; decide) (by rw [c2]; rfl) (by decide) ?_
      refine lv_aload_n hx hb dX10_count_76 rfl (lv_at hl 0 rfl) ?_
      refine r_get E frX10_26 hS 0 rfl rfl dX10_count_77 ?_
      refine r_get E frX10_377 hS 3 rfl rfl dX10_count_80 ?_
      obtain rfl := Option.some.inj h
      exact rt_i E hQ (.null) hS dX10_count_83
    · have h := it_neg c2 h
      rcases Decidable.em (p1 = 2) with c3 | c3
      · have h := it_pos c3 h
        refine lv_tableIn (off := 83) (tgt := 84) hx hb dX10_count_1 (by rw [c3]; decide) (by rw [c3]; decide) (by rw [c3]; rfl) (by decide) ?_
        refine lv_aload_n hx hb dX10_count_84 rfl (lv_at hl 0 rfl) ?_
        refine r_get E frX10_26 hS 0 rfl rfl dX10_count_85 ?_
        refine r_get E frX10_189 hS 3 rfl rfl dX10_count_88 ?_
        obtain rfl := Option.some.inj h
        exact rt_i E hQ (.null) hS dX10_count_91
      · have h := it_neg c3 h
        rcases Decidable.em (p1 = 3) with c4 | c4
        · have h := it_pos c4 h
          refine lv_tableIn (off := 91) (tgt := 92) hx hb dX10_count_1 (by rw [c4]; decide) (by rw [c4]; decide) (by rw [c4]; rfl) (by decide) ?_
          refine lv_aload_n hx hb dX10_count_92 rfl (lv_at hl 0 rfl) ?_
          refine r_get E frX10_26 hS 0 rfl rfl dX10_count_93 ?_
          obtain ⟨y96, e5, h⟩ := bd_some h
          refine ct_V (ws' := fun _ => [oX10 q0 (.ref q1) (.ref q2) (.ref q3) u0_3 (.ref q9) u0_5 u0_6 u0_7 u0_8 u0_9 (.ref q10) (.ref q11) u0_12, oX9 q1 u1_0 (.int v_text_size), oX2 q2 u2_0 (.int v_told_size), oX0 q3 (.ref q4) (.ref q5) (.ref q6) (.ref q7) (.ref q8) (.int v_folk_number) (.int v_folk_day) (.int v_folk_unmet), aI cy q4 7 v_folk_skill, aI cy q5 7 v_folk_pills, aI cy q6 7 v_folk_slept, aI cy q7 7 v_folk_woken, aI cy q8 7 v_folk_wanted, oX3 q9 u9_0 u9_1 u9_2 u9_3 (.int v_past_size), oX1 q10 u10_0 u10_1 (.int v_hearsay_size), oX8 q11 u11_0 u11_1 u11_2 u11_3 (.int v_sightings_size)]) (st' := [.int y96]) (rest := []) E hS vlX10_380 (c_X0_wantsOfAll (l := l) (D := D) (cy := cy) (q0 := q3) (q1 := q8) (u0_0 := .ref q4) (u0_1 := .ref q5) (u0_2 := .ref q6) (u0_3 := .ref q7) (u0_6 := .int v_folk_day) (u0_7 := .int v_folk_unmet) (v_number := v_folk_number) (v_wanted := v_folk_wanted) (r := y96) e5) [3, 8] rfl rfl (fun _ => rfl) (fun _ => rfl) rfl rfl rfl rfl (Nat.le_of_ble_eq_true rfl) hl.1 (by rw [hRf]; exact Nat.le_of_ble_eq_true rfl) (by rw [hRl]; exact Nat.le_of_ble_eq_true rfl) ⟨Nat.zero_le _, Nat.zero_le _⟩ dX10_count_96 rfl (fun H locs _ hS => ?_)
          obtain rfl := Option.some.inj h
          exact rt_i E hQ (.null) hS dX10_count_99
        · have h := it_neg c4 h
          rcases Decidable.em (p1 = 4) with c6 | c6
          · have h := it_pos c6 h
            refine lv_tableIn (off := 99) (tgt := 100) hx hb dX10_count_1 (by rw [c6]; decide) (by rw [c6]; decide) (by rw [c6]; rfl) (by decide) ?_
            refine lv_aload_n hx hb dX10_count_100 rfl (lv_at hl 0 rfl) ?_
            refine r_get E frX10_26 hS 0 rfl rfl dX10_count_101 ?_
            refine lv_aload_n hx hb dX10_count_104 rfl (lv_at hl 0 rfl) ?_
            refine r_get E frX10_26 hS 0 rfl rfl dX10_count_105 ?_
            refine r_get E frX10_154 hS 3 rfl rfl dX10_count_108 ?_
            obtain ⟨y111, e7, h⟩ := bd_some h
            refine ct_V (ws' := fun _ => [oX10 q0 (.ref q1) (.ref q2) (.ref q3) u0_3 (.ref q9) u0_5 u0_6 u0_7 u0_8 u0_9 (.ref q10) (.ref q11) u0_12, oX9 q1 u1_0 (.int v_text_size), oX2 q2 u2_0 (.int v_told_size), oX0 q3 (.ref q4) (.ref q5) (.ref q6) (.ref q7) (.ref q8) (.int v_folk_number) (.int v_folk_day) (.int v_folk_unmet), aI cy q4 7 v_folk_skill, aI cy q5 7 v_folk_pills, aI cy q6 7 v_folk_slept, aI cy q7 7 v_folk_woken, aI cy q8 7 v_folk_wanted, oX3 q9 u9_0 u9_1 u9_2 u9_3 (.int v_past_size), oX1 q10 u10_0 u10_1 (.int v_hearsay_size), oX8 q11 u11_0 u11_1 u11_2 u11_3 (.int v_sightings_size)]) (st' := [.int y111]) (rest := []) E hS vlX10_181 (c_X0_sum (l := l) (D := D) (cy := cy) (q0 := q3) (q1 := q4) (u0_0 := .ref q4) (u0_1 := .ref q5) (u0_2 := .ref q6) (u0_3 := .ref q7) (u0_4 := .ref q8) (u0_6 := .int v_folk_day) (u0_7 := .int v_folk_unmet) (v_number := v_folk_number) (nw1_ := 7) (w1_ := v_folk_skill) (r := y111) e7) [3, 4] rfl rfl (fun _ => rfl) (fun _ => rfl) rfl rfl rfl rfl (Nat.le_of_ble_eq_true rfl) hl.1 (by rw [hRf]; exact Nat.le_of_ble_eq_true rfl) (by rw [hRl]; exact Nat.le_of_ble_eq_true rfl) ⟨Nat.zero_le _, Nat.zero_le _⟩ dX10_count_111 rfl (fun H locs _ hS => ?_)
            obtain rfl := Option.some.inj h
            exact rt_i E hQ (.null) hS dX10_count_114
          · have h := it_neg c6 h
            rcases Decidable.em (p1 = 5) with c8 | c8
            · have h := it_pos c8 h
              refine lv_tableIn (off := 114) (tgt := 115) hx hb dX10_count_1 (by rw [c8]; decide) (by rw [c8]; decide) (by rw [c8]; rfl) (by decide) ?_
              refine lv_aload_n hx hb dX10_count_115 rfl (lv_at hl 0 rfl) ?_
              refine r_get E frX10_26 hS 0 rfl rfl dX10_count_116 ?_
              refine lv_aload_n hx hb dX10_count_119 rfl (lv_at hl 0 rfl) ?_
              refine r_get E frX10_26 hS 0 rfl rfl dX10_count_120 ?_
              refine r_get E frX10_158 hS 3 rfl rfl dX10_count_123 ?_
              obtain ⟨y126, e9, h⟩ := bd_some h
              refine ct_V (ws' := fun _ => [oX10 q0 (.ref q1) (.ref q2) (.ref q3) u0_3 (.ref q9) u0_5 u0_6 u0_7 u0_8 u0_9 (.ref q10) (.ref q11) u0_12, oX9 q1 u1_0 (.int v_text_size), oX2 q2 u2_0 (.int v_told_size), oX0 q3 (.ref q4) (.ref q5) (.ref q6) (.ref q7) (.ref q8) (.int v_folk_number) (.int v_folk_day) (.int v_folk_unmet), aI cy q4 7 v_folk_skill, aI cy q5 7 v_folk_pills, aI cy q6 7 v_folk_slept, aI cy q7 7 v_folk_woken, aI cy q8 7 v_folk_wanted, oX3 q9 u9_0 u9_1 u9_2 u9_3 (.int v_past_size), oX1 q10 u10_0 u10_1 (.int v_hearsay_size), oX8 q11 u11_0 u11_1 u11_2 u11_3 (.int v_sightings_size)]) (st' := [.int y126]) (rest := []) E hS vlX10_181 (c_X0_sum (l := l) (D := D) (cy := cy) (q0 := q3) (q1 := q5) (u0_0 := .ref q4) (u0_1 := .ref q5) (u0_2 := .ref q6) (u0_3 := .ref q7) (u0_4 := .ref q8) (u0_6 := .int v_folk_day) (u0_7 := .int v_folk_unmet) (v_number := v_folk_number) (nw1_ := 7) (w1_ := v_folk_pills) (r := y126) e9) [3, 5] rfl rfl (fun _ => rfl) (fun _ => rfl) rfl rfl rfl rfl (Nat.le_of_ble_eq_true rfl) hl.1 (by rw [hRf]; exact Nat.le_of_ble_eq_true rfl) (by rw [hRl]; exact Nat.le_of_ble_eq_true rfl) ⟨Nat.zero_le _, Nat.zero_le _⟩ dX10_count_126 rfl (fun H locs _ hS => ?_)
              obtain rfl := Option.some.inj h
              exact rt_i E hQ (.null) hS dX10_count_129
            · have h := it_neg c8 h
              rcases Decidable.em (p1 = 6) with c10 | c10
              · have h := it_pos c10 h
                refine lv_tableIn (off := 129) (tgt := 130) hx hb dX10_count_1 (by rw [c10]; decide) (by rw [c10]; decide) (by rw [c10]; rfl) (by decide) ?_
                refine lv_aload_n hx hb dX10_count_130 rfl (lv_at hl 0 rfl) ?_
                refine r_get E frX10_26 hS 0 rfl rfl dX10_count_131 ?_
                refine lv_aload_n hx hb dX10_count_134 rfl (lv_at hl 0 rfl) ?_
                refine r_get E frX10_26 hS 0 rfl rfl dX10_count_135 ?_
                refine r_get E frX10_161 hS 3 rfl rfl dX10_count_138 ?_
                obtain ⟨y141, e11, h⟩ := bd_some h
                refine ct_V (ws' := fun _ => [oX10 q0 (.ref q1) (.ref q2) (.ref q3) u0_3 (.ref q9) u0_5 u0_6 u0_7 u0_8 u0_9 (.ref q10) (.ref q11) u0_12, oX9 q1 u1_0 (.int v_text_size), oX2 q2 u2_0 (.int v_told_size), oX0 q3 (.ref q4) (.ref q5) (.ref q6) (.ref q7) (.ref q8) (.int v_folk_number) (.int v_folk_day) (.int v_folk_unmet), aI cy q4 7 v_folk_skill, aI cy q5 7 v_folk_pills, aI cy q6 7 v_folk_slept, aI cy q7 7 v_folk_woken, aI cy q8 7 v_folk_wanted, oX3 q9 u9_0 u9_1 u9_2 u9_3 (.int v_past_size), oX1 q10 u10_0 u10_1 (.int v_hearsay_size), oX8 q11 u11_0 u11_1 u11_2 u11_3 (.int v_sightings_size)]) (st' := [.int y141]) (rest := []) E hS vlX10_181 (c_X0_sum (l := l) (D := D) (cy := cy) (q0 := q3) (q1 := q6) (u0_0 := .ref q4) (u0_1 := .ref q5) (u0_2 := .ref q6) (u0_3 := .ref q7) (u0_4 := .ref q8) (u0_6 := .int v_folk_day) (u0_7 := .int v_folk_unmet) (v_number := v_folk_number) (nw1_ := 7) (w1_ := v_folk_slept) (r := y141) e11) [3, 6] rfl rfl (fun _ => rfl) (fun _ => rfl) rfl rfl rfl rfl (Nat.le_of_ble_eq_true rfl) hl.1 (by rw [hRf]; exact Nat.le_of_ble_eq_true rfl) (by rw [hRl]; exact Nat.le_of_ble_eq_true rfl) ⟨Nat.zero_le _, Nat.zero_le _⟩ dX10_count_141 rfl (fun H locs _ hS => ?_)
                obtain rfl := Option.some.inj h
                exact rt_i E hQ (.null) hS dX10_count_144
              · have h := it_neg c10 h
                rcases Decidable.em (p1 = 7) with c12 | c12
                · have h := it_pos c12 h
                  refine lv_tableIn (off := 144) (tgt := 145) hx hb dX10_count_1 (by rw [c12]; decide) (by rw [c12]; decide) (by rw [c12]; rfl) (by decide) ?_
                  refine lv_aload_n hx hb dX10_count_145 rfl (lv_at hl 0 rfl) ?_
                  refine r_get E frX10_26 hS 0 rfl rfl dX10_count_146 ?_
                  refine lv_aload_n hx hb dX10_count_149 rfl (lv_at hl 0 rfl) ?_
                  refine r_get E frX10_26 hS 0 rfl rfl dX10_count_150 ?_
                  refine r_get E frX10_164 hS 3 rfl rfl dX10_count_153 ?_
                  obtain ⟨y156, e13, h⟩ := bd_some h
                  refine ct_V (ws' := fun _ => [oX10 q0 (.ref q1) (.ref q2) (.ref q3) u0_3 (.ref q9) u0_5 u0_6 u0_7 u0_8 u0_9 (.ref q10) (.ref q11) u0_12, oX9 q1 u1_0 (.int v_text_size), oX2 q2 u2_0 (.int v_told_size), oX0 q3 (.ref q4) (.ref q5) (.ref q6) (.ref q7) (.ref q8) (.int v_folk_number) (.int v_folk_day) (.int v_folk_unmet), aI cy q4 7 v_folk_skill, aI cy q5 7 v_folk_pills, aI cy q6 7 v_folk_slept, aI cy q7 7 v_folk_woken, aI cy q8 7 v_folk_wanted, oX3 q9 u9_0 u9_1 u9_2 u9_3 (.int v_past_size), oX1 q10 u10_0 u10_1 (.int v_hearsay_size), oX8 q11 u11_0 u11_1 u11_2 u11_3 (.int v_sightings_size)]) (st' := [.int y156]) (rest := []) E hS vlX10_181 (c_X0_sum (l := l) (D := D) (cy := cy) (q0 := q3) (q1 := q7) (u0_0 := .ref q4) (u0_1 := .ref q5) (u0_2 := .ref q6) (u0_3 := .ref q7) (u0_4 := .ref q8) (u0_6 := .int v_folk_day) (u0_7 := .int v_folk_unmet) (v_number := v_folk_number) (nw1_ := 7) (w1_ := v_folk_woken) (r := y156) e13) [3, 7] rfl rfl (fun _ => rfl) (fun _ => rfl) rfl rfl rfl rfl (Nat.le_of_ble_eq_true rfl) hl.1 (by rw [hRf]; exact Nat.le_of_ble_eq_true rfl) (by rw [hRl]; exact Nat.le_of_ble_eq_true rfl) ⟨Nat.zero_le _, Nat.zero_le _⟩ dX10_count_156 rfl (fun H locs _ hS => ?_)
                  obtain rfl := Option.some.inj h
                  exact rt_i E hQ (.null) hS dX10_count_159
                · have h := it_neg c12 h
                  rcases Decidable.em (p1 = 8) with c14 | c14
                  · have h := it_pos c14 h
                    refine lv_tableIn (off := 159) (tgt := 160) hx hb dX10_count_1 (by rw [c14]; decide) (by rw [c14]; decide) (by rw [c14]; rfl) (by decide) ?_
                    refine lv_aload_n hx hb dX10_count_160 rfl (lv_at hl 0 rfl) ?_
                    refine r_get E frX10_74 hS 0 rfl rfl dX10_count_161 ?_
                    refine r_get E frX10_314 hS 10 rfl rfl dX10_count_164 ?_
                    obtain rfl := Option.some.inj h
                    exact rt_i E hQ (.null) hS dX10_count_167
                  · have h := it_neg c14 h
                    rcases Decidable.em (p1 = 9) with c15 | c15
                    · have h := it_pos c15 h
                      refine lv_tableIn (off := 167) (tgt := 168) hx hb dX10_count_1 (by rw [c15]; decide) (by rw [c15]; decide) (by rw [c15]; rfl) (by decide) ?_
                      refine lv_aload_n hx hb dX10_count_168 rfl (lv_at hl 0 rfl) ?_
                      refine r_get E frX10_81 hS 0 rfl rfl dX10_count_169 ?_
                      refine r_get E frX10_335 hS 11 rfl rfl dX10_count_172 ?_
                      obtain rfl := Option.some.inj h
                      exact rt_i E hQ (.null) hS dX10_count_175
                    · have h := it_neg c15 h
                      rcases Decidable.em (p1 = 10) with c16 | c16
                      · have h := it_pos c16 h
                        refine lv_tableIn (off := 175) (tgt := 176) hx hb dX10_count_1 (by rw [c16]; decide) (by rw [c16]; decide) (by rw [c16]; rfl) (by decide) ?_
                        refine lv_aload_n hx hb dX10_count_176 rfl (lv_at hl 0 rfl) ?_
                        refine r_get E frX10_36 hS 0 rfl rfl dX10_count_177 ?_
                        refine r_get E frX10_233 hS 9 rfl rfl dX10_count_180 ?_
                        obtain rfl := Option.some.inj h
                        exact rt_i E hQ (.null) hS dX10_count_183
                      · have h := it_neg c16 h
                        rcases Decidable.em (p1 = 11) with c17 | c17
                        · have h := it_pos c17 h
                          refine lv_tableIn (off := 183) (tgt := 184) hx hb dX10_count_1 (by rw [c17]; decide) (by rw [c17]; decide) (by rw [c17]; rfl) (by decide) ?_
                          refine lv_aload_n hx hb dX10_count_184 rfl (lv_at hl 0 rfl) ?_
                          refine r_get E frX10_19 hS 0 rfl rfl dX10_count_185 ?_
                          refine r_get E frX10_383 hS 2 rfl rfl dX10_count_188 ?_
                          obtain rfl := Option.some.inj h
                          exact rt_i E hQ (.null) hS dX10_count_191
                        · have h := it_neg c17 h
                          rcases Decidable.em (p1 = 12) with c18 | c18
                          · have h := it_pos c18 h
                            refine lv_tableIn (off := 191) (tgt := 192) hx hb dX10_count_1 (by rw [c18]; decide) (by rw [c18]; decide) (by rw [c18]; rfl) (by decide) ?_
                            refine lv_aload_n hx hb dX10_count_192 rfl (lv_at hl 0 rfl) ?_
                            refine r_get E frX10_12 hS 0 rfl rfl dX10_count_193 ?_
                            refine r_get E frX10_101 hS 1 rfl rfl dX10_count_196 ?_
                            obtain rfl := Option.some.inj h
                            exact rt_i E hQ (.null) hS dX10_count_199
                          · have h := it_neg c18 h
                            have ht : p1.toInt < 0 ∨ (12 : Int) < p1.toInt := by
                              refine tb_neg (fun k h1 h2 => ?_)
                              have hh : k = 0 ∨ k = 1 ∨ k = 2 ∨ k = 3 ∨ k = 4 ∨ k = 5 ∨ k = 6 ∨ k = 7 ∨ k = 8 ∨ k = 9 ∨ k = 10 ∨ k = 11 ∨ k = 12 := by omega
                              rcases hh with rfl | rfl | rfl | rfl | rfl | rfl | rfl | rfl | rfl | rfl | rfl | rfl | rfl
                              · exact c1
                              · exact c2
                              · exact c3
                              · exact c4
                              · exact c6
                              · exact c8
                              · exact c10
                              · exact c12
                              · exact c14
                              · exact c15
                              · exact c16
                              · exact c17
                              · exact c18
                            refine lv_tableOut (tgt := 200) hx hb dX10_count_1 ht (by decide) ?_
                            refine lv_iconst (v := -1) hx hb dX10_count_200 (by decide) ?_
                            obtain rfl := Option.some.inj h
                            exact rt_i E hQ (.null) hS dX10_count_201

