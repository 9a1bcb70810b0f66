set_option maxHeartbeats 4000000 in
set_option maxRecDepth 100000 in
theorem c_X10_row {l : Launch} {D : va_G} {cy : Nat → ClassId} (q0 : Nat) (q1 : Nat) (q2 : Nat) (u0_0 : Value) (u0_2 : Value) (u0_3 : Value) (u0_4 : Value) (u0_5 : Value) (u0_6 : Value) (u0_7 : Value) (u0_8 : Value) (u0_9 : Value) (u0_10 : Value) (u0_11 : Value) (u0_12 : Value) (v_told_size : Int32) (v_told_number : Nat → Int64) (p1 : Int32) (r : Int64) (h : X10_row v_told_size v_told_number p1 = some r) : Ct l yX10_row cX10_row 2 (some .long) 0 0 D cy [.ref q0, .int p1] [oX10 q0 u0_0 (.ref q1) u0_2 u0_3 u0_4 u0_5 u0_6 u0_7 u0_8 u0_9 u0_10 u0_11 u0_12, oX2 q1 (.ref q2) (.int v_told_size), aJ cy q2 16 v_told_number] (fun _ => [oX10 q0 u0_0 (.ref q1) u0_2 u0_3 u0_4 u0_5 u0_6 u0_7 u0_8 u0_9 u0_10 u0_11 u0_12, oX2 q1 (.ref q2) (.int v_told_size), aJ cy q2 16 v_told_number]) (some (.long r)) := by
  refine Ct.mk kX10_row (by decide +kernel) (Nat.le_of_ble_eq_true rfl) ?_
  intro p e s m below meth c A ls args R Q hRf hRl hQ E H locs hS hl
  have hx := E.x
  have hb := E.b
  have hl : lv_has ls 2 [(0, .ref q0), (1, .int p1)] := hl
  unfold X10_row at h
  refine lv_iload_n hx hb dX10_row_0 rfl (lv_at hl 1 rfl) ?_
  have hJ15 : ∀ (H : Heap) (locs : List Loc) (ls : Array Slot), X10_row_k15 = some r → Sv D A s.heap [oX10 q0 u0_0 (.ref q1) u0_2 u0_3 u0_4 u0_5 u0_6 u0_7 u0_8 u0_9 u0_10 u0_11 u0_12, oX2 q1 (.ref q2) (.int v_told_size), aJ cy q2 16 v_told_number] H locs → lv_has ls 2 [] → W p l e R s m args below meth c H locs 0 0 Q (F0 m 15 ls []) := by
    intro H locs ls h hS hl
    unfold X10_row_k15 at h
    cases h
  refine lv_if_lt (tgt := 15) hx hb dX10_row_1 (by decide) (fun c1 => ?_) (fun c1 => ?_)
  · have h := it_pos c1 h
    exact hJ15   H locs ls h hS (lv_sub hl [] rfl)
  · have h := it_neg c1 h
    refine lv_iload_n hx hb dX10_row_4 rfl (lv_at hl 1 rfl) ?_
    refine lv_aload_n hx hb dX10_row_5 rfl (lv_at hl 0 rfl) ?_
    refine r_get E frX10_19 hS 0 rfl rfl dX10_row_6 ?_
    refine r_get E frX10_383 hS 1 rfl rfl dX10_row_9 ?_
    refine lv_icmp_lt (tgt := 23) hx hb dX10_row_12 (by decide) (fun c2 => ?_) (fun c2 => ?_)
    · have h := it_pos c2 h
      refine lv_aload_n hx hb dX10_row_23 rfl (lv_at hl 0 rfl) ?_
      refine r_get E frX10_19 hS 0 rfl rfl dX10_row_24 ?_
      refine r_get E frX10_384 hS 1 rfl rfl dX10_row_27 ?_
      refine lv_iload_n hx hb dX10_row_30 rfl (lv_at hl 1 rfl) ?_
      obtain ⟨g3, h⟩ := gi_some h
      refine r_lald E hS 2 rfl g3 dX10_row_31 ?_
      obtain rfl := Option.some.inj h
      exact rt_l E hQ (.null) hS dX10_row_32
    · have h := it_neg c2 h
      exact hJ15   H locs ls h hS (lv_sub hl [] rfl)
set_option maxHeartbeats 4000000 in
set_option maxRecDepth 100000 in
theorem c_X10_one {l : Launch} {D : va_G} {cy : Nat → ClassId} (q0 : Nat) (q1 : Nat) (q2 : Nat) (q3 : Nat) (q4 : Nat) (q5 : Nat) (q6 : Nat) (q7 : Nat) (q8 : Nat) (q9 : Nat) (q10 : Nat) (u0_0 : Value) (u0_1 : Value) (u0_3 : Value) (u0_4 : Value) (u0_5 : Value) (u0_7 : Value) (u0_8 : Value) (u0_9 : Value) (u0_10 : Value) (u0_11 : Value) (u0_12 : Value) (u1_7 : Value) (v_folk_number : Int32) (v_folk_day : Int32) (v_folk_skill : Nat → Int32) (v_folk_pills : Nat → Int32) (v_folk_slept : Nat → Int32) (v_folk_woken : Nat → Int32) (v_folk_wanted : Nat → Int32) (v_inForce_size : Int32) (v_inForce_code : Nat → Int32) (v_inForce_stack : Nat → Int32) (v_inForce_thing : Nat → Int32) (p1 : Int32) (p2 : Int32) (r : Int32 × (Nat → Int32) × (Nat → Int32)) (h : X10_one v_folk_number v_folk_day v_folk_skill v_folk_pills v_folk_slept v_folk_woken v_folk_wanted v_inForce_size v_inForce_code v_inForce_stack v_inForce_thing p1 p2 = some r) : Ct l yX10_one cX10_one 3 (some .int) 3 71 D cy [.ref q0, .int p1, .int p2] [oX10 q0 u0_0 u0_1 (.ref q1) u0_3 u0_4 u0_5 (.ref q7) u0_7 u0_8 u0_9 u0_10 u0_11 u0_12, oX0 q1 (.ref q2) (.ref q3) (.ref q4) (.ref q5) (.ref q6) (.int v_folk_number) (.int v_folk_day) u1_7, aI cy q2 7 v_folk_skill, aI cy q3 7 v_folk_pills, aI cy q4 7 v_folk_slept, aI cy q5 7 v_folk_woken, aI cy q6 7 v_folk_wanted, oX5 q7 (.ref q8) (.ref q9) (.ref q10) (.int v_inForce_size), aI cy q8 40 v_inForce_code, aI cy q9 40 v_inForce_stack, aI cy q10 7 v_inForce_thing] (fun _ => [oX10 q0 u0_0 u0_1 (.ref q1) u0_3 u0_4 u0_5 (.ref q7) u0_7 u0_8 u0_9 u0_10 u0_11 u0_12, oX0 q1 (.ref q2) (.ref q3) (.ref q4) (.ref q5) (.ref q6) (.int v_folk_number) (.int v_folk_day) u1_7, aI cy q2 7 v_folk_skill, aI cy q3 7 v_folk_pills, aI cy q4 7 v_folk_slept, aI cy q5 7 v_folk_woken, aI cy q6 7 v_folk_wanted, oX5 q7 (.ref q8) (.ref q9) (.ref q10) (.int v_inForce_size), aI cy q8 40 v_inForce_code, aI cy q9 40 r.2.1, aI cy q10 7 r.2.2]) (some (.int r.1)) := by
  refine Ct.mk kX10_one (by decide +kernel) (Nat.le_of_ble_eq_true rfl) ?_
  intro p e s m below meth c A ls args R Q hRf hRl hQ E H locs hS hl
  have hx := E.x
  have hb := E.b
  have hl : lv_has ls 3 [(0, .ref q0), (1, .int p1), (2, .int p2)] := hl
  unfold X10_one at h
  refine lv_aload_n hx hb dX10_one_0 rfl (lv_at hl 0 rfl) ?_
  refine r_get E frX10_26 hS 0 rfl rfl dX10_one_1 ?_
  refine lv_iload_n hx hb dX10_one_4 rfl (lv_at hl 1 rfl) ?_
  refine ct_V (ws' := fun _ => [oX10 q0 u0_0 u0_1 (.ref q1) u0_3 u0_4 u0_5 (.ref q7) u0_7 u0_8 u0_9 u0_10 u0_11 u0_12, oX0 q1 (.ref q2) (.ref q3) (.ref q4) (.ref q5) (.ref q6) (.int v_folk_number) (.int v_folk_day) u1_7, aI cy q2 7 v_folk_skill, aI cy q3 7 v_folk_pills, aI cy q4 7 v_folk_slept, aI cy q5 7 v_folk_woken, aI cy q6 7 v_folk_wanted, oX5 q7 (.ref q8) (.ref q9) (.ref q10) (.int v_inForce_size), aI cy q8 40 v_inForce_code, aI cy q9 40 v_inForce_stack, aI cy q10 7 v_inForce_thing]) (st' := [.int (X0_has v_folk_number p1)]) (rest := []) E hS vlX10_148 (c_X0_has (l := l) (D := D) (cy := cy) (q0 := q1) (u0_0 := .ref q2) (u0_1 := .ref q3) (u0_2 := .ref q4) (u0_3 := .ref q5) (u0_4 := .ref q6) (u0_6 := .int v_folk_day) (u0_7 := u1_7) (v_number := v_folk_number) (p1 := p1) (r := (X0_has v_folk_number p1)) rfl) [1] rfl rfl (fun _ => rfl) (fun _ => rfl) rfl rfl rfl rfl (Nat.le_of_ble_eq_true rfl) hl.1 (by rw [hRf]; exact Nat.le_of_ble_eq_true rfl) (by rw [hRl]; exact Nat.le_of_ble_eq_true rfl) ⟨Nat.zero_le _, Nat.zero_le _⟩ dX10_one_5 rfl (fun H locs _ hS => ?_)
  have hJ21 : ∀ (H : Heap) (locs : List Loc) (ls : Array Slot), X10_one_k21 = some r → Sv D A s.heap [oX10 q0 u0_0 u0_1 (.ref q1) u0_3 u0_4 u0_5 (.ref q7) u0_7 u0_8 u0_9 u0_10 u0_11 u0_12, oX0 q1 (.ref q2) (.ref q3) (.ref q4) (.ref q5) (.ref q6) (.int v_folk_number) (.int v_folk_day) u1_7, aI cy q2 7 v_folk_skill, aI cy q3 7 v_folk_pills, aI cy q4 7 v_folk_slept, aI cy q5 7 v_folk_woken, aI cy q6 7 v_folk_wanted, oX5 q7 (.ref q8) (.ref q9) (.ref q10) (.int v_inForce_size), aI cy q8 40 v_inForce_code, aI cy q9 40 v_inForce_stack, aI cy q10 7 v_inForce_thing] H locs → lv_has ls 3 [] → W p l e R s m args below meth c H locs 0 0 Q (F0 m 21 ls []) := by
    intro H locs ls h hS hl
    unfold X10_one_k21 at h
    cases h
  refine lv_if_eq (tgt := 21) hx hb dX10_one_8 (by decide) (fun c1 => ?_) (fun c1 => ?_)
  · have h := it_pos c1 h
    exact hJ21   H locs ls h hS (lv_sub hl [] rfl)
  · have h := it_neg c1 h
    refine lv_iload_n hx hb dX10_one_11 rfl (lv_at hl 2 rfl) ?_
    refine lv_if_lt (tgt := 21) hx hb dX10_one_12 (by decide) (fun c2 => ?_) (fun c2 => ?_)
    · have h := it_pos c2 h
      exact hJ21   H locs ls h hS (lv_sub hl [] rfl)
    · have h := it_neg c2 h
      refine lv_iload_n hx hb dX10_one_15 rfl (lv_at hl 2 rfl) ?_
      refine lv_bipush (v := 6) hx hb dX10_one_16 (by decide) ?_
      refine lv_icmp_le (tgt := 29) hx hb dX10_one_18 (by decide) (fun c3 => ?_) (fun c3 => ?_)
      · have h := it_pos c3 h
        refine lv_iload_n hx hb dX10_one_29 rfl (lv_at hl 2 rfl) ?_
        rcases Decidable.em (p2 = 0) with c4 | c4
        · have h := it_pos c4 h
          refine lv_tableIn (off := 38) (tgt := 68) hx hb dX10_one_30 (by rw [c4]; decide) (by rw [c4]; decide) (by rw [c4]; rfl) (by decide) ?_
          refine lv_aload_n hx hb dX10_one_68 rfl (lv_at hl 0 rfl) ?_
          refine r_get E frX10_26 hS 0 rfl rfl dX10_one_69 ?_
          refine r_get E frX10_154 hS 1 rfl rfl dX10_one_72 ?_
          refine lv_iload_n hx hb dX10_one_75 rfl (lv_at hl 1 rfl) ?_
          obtain ⟨g5, h⟩ := gi_some h
          refine r_iald E hS 2 rfl g5 dX10_one_76 ?_
          obtain rfl := Option.some.inj h
          exact rt_i E hQ (.null) hS dX10_one_77
        · have h := it_neg c4 h
          rcases Decidable.em (p2 = 1) with c6 | c6
          · have h := it_pos c6 h
            refine lv_tableIn (off := 48) (tgt := 78) hx hb dX10_one_30 (by rw [c6]; decide) (by rw [c6]; decide) (by rw [c6]; rfl) (by decide) ?_
            refine lv_aload_n hx hb dX10_one_78 rfl (lv_at hl 0 rfl) ?_
            refine r_get E frX10_26 hS 0 rfl rfl dX10_one_79 ?_
            refine r_get E frX10_158 hS 1 rfl rfl dX10_one_82 ?_
            refine lv_iload_n hx hb dX10_one_85 rfl (lv_at hl 1 rfl) ?_
            obtain ⟨g7, h⟩ := gi_some h
            refine r_iald E hS 3 rfl g7 dX10_one_86 ?_
            obtain rfl := Option.some.inj h
            exact rt_i E hQ (.null) hS dX10_one_87
          · have h := it_neg c6 h
            rcases Decidable.em (p2 = 2) with c8 | c8
            · have h := it_pos c8 h
              refine lv_tableIn (off := 58) (tgt := 88) hx hb dX10_one_30 (by rw [c8]; decide) (by rw [c8]; decide) (by rw [c8]; rfl) (by decide) ?_
              refine lv_aload_n hx hb dX10_one_88 rfl (lv_at hl 0 rfl) ?_
              refine r_get E frX10_26 hS 0 rfl rfl dX10_one_89 ?_
              refine r_get E frX10_161 hS 1 rfl rfl dX10_one_92 ?_
              refine lv_iload_n hx hb dX10_one_95 rfl (lv_at hl 1 rfl) ?_
              obtain ⟨g9, h⟩ := gi_some h
              refine r_iald E hS 4 rfl g9 dX10_one_96 ?_
              obtain rfl := Option.some.inj h
              exact rt_i E hQ (.null) hS dX10_one_97
            · have h := it_neg c8 h
              rcases Decidable.em (p2 = 3) with c10 | c10
              · have h := it_pos c10 h
                refine lv_tableIn (off := 68) (tgt := 98) hx hb dX10_one_30 (by rw [c10]; decide) (by rw [c10]; decide) (by rw [c10]; rfl) (by decide) ?_
                refine lv_aload_n hx hb dX10_one_98 rfl (lv_at hl 0 rfl) ?_
                refine r_get E frX10_26 hS 0 rfl rfl dX10_one_99 ?_
                refine r_get E frX10_164 hS 1 rfl rfl dX10_one_102 ?_
                refine lv_iload_n hx hb dX10_one_105 rfl (lv_at hl 1 rfl) ?_
                obtain ⟨g11, h⟩ := gi_some h
                refine r_iald E hS 5 rfl g11 dX10_one_106 ?_
                obtain rfl := Option.some.inj h
                exact rt_i E hQ (.null) hS dX10_one_107
              · have h := it_neg c10 h
                rcases Decidable.em (p2 = 4) with c12 | c12
                · have h := it_pos c12 h
                  refine lv_tableIn (off := 78) (tgt := 108) hx hb dX10_one_30 (by rw [c12]; decide) (by rw [c12]; decide) (by rw [c12]; rfl) (by decide) ?_
                  refine lv_aload_n hx hb dX10_one_108 rfl (lv_at hl 0 rfl) ?_
                  refine r_get E frX10_26 hS 0 rfl rfl dX10_one_109 ?_
                  refine r_get E frX10_167 hS 1 rfl rfl dX10_one_112 ?_
                  refine lv_iload_n hx hb dX10_one_115 rfl (lv_at hl 1 rfl) ?_
                  obtain ⟨g13, h⟩ := gi_some h
                  refine r_iald E hS 6 rfl g13 dX10_one_116 ?_
                  obtain rfl := Option.some.inj h
                  exact rt_i E hQ (.null) hS dX10_one_117
                · have h := it_neg c12 h
                  rcases Decidable.em (p2 = 5) with c14 | c14
                  · have h := it_pos c14 h
                    refine lv_tableIn (off := 88) (tgt := 118) hx hb dX10_one_30 (by rw [c14]; decide) (by rw [c14]; decide) (by rw [c14]; rfl) (by decide) ?_
                    refine lv_aload_n hx hb dX10_one_118 rfl (lv_at hl 0 rfl) ?_
                    refine r_get E frX10_26 hS 0 rfl rfl dX10_one_119 ?_
                    refine lv_iload_n hx hb dX10_one_122 rfl (lv_at hl 1 rfl) ?_
                    obtain ⟨y123, e15, h⟩ := bd_some h
                    refine ct_V (ws' := fun _ => [oX10 q0 u0_0 u0_1 (.ref q1) u0_3 u0_4 u0_5 (.ref q7) u0_7 u0_8 u0_9 u0_10 u0_11 u0_12, oX0 q1 (.ref q2) (.ref q3) (.ref q4) (.ref q5) (.ref q6) (.int v_folk_number) (.int v_folk_day) u1_7, aI cy q2 7 v_folk_skill, aI cy q3 7 v_folk_pills, aI cy q4 7 v_folk_slept, aI cy q5 7 v_folk_woken, aI cy q6 7 v_folk_wanted, oX5 q7 (.ref q8) (.ref q9) (.ref q10) (.int v_inForce_size), aI cy q8 40 v_inForce_code, aI cy q9 40 v_inForce_stack, aI cy q10 7 v_inForce_thing]) (st' := [.int y123]) (rest := []) E hS vlX10_170 (c_X0_wanting (l := l) (D := D) (cy := cy) (q0 := q1) (q1 := q6) (u0_0 := .ref q2) (u0_1 := .ref q3) (u0_2 := .ref q4) (u0_3 := .ref q5) (u0_6 := .int v_folk_day) (u0_7 := u1_7) (v_number := v_folk_number) (v_wanted := v_folk_wanted) (p1 := p1) (r := y123) e15) [1, 6] rfl rfl (fun _ => rfl) (fun _ => rfl) rfl rfl rfl rfl (Nat.le_of_ble_eq_true rfl) hl.1 (by rw [hRf]; exact Nat.le_of_ble_eq_true rfl) (by rw [hRl]; exact Nat.le_of_ble_eq_true rfl) ⟨Nat.zero_le _, Nat.zero_le _⟩ dX10_one_123 rfl (fun H locs _ hS => ?_)
                    obtain rfl := Option.some.inj h
                    exact rt_i E hQ (.null) hS dX10_one_126
                  · have h := it_neg c14 h
                    have ht : p2.toInt < 0 ∨ (5 : Int) < p2.toInt := by
                      refine tb_neg (fun k h1 h2 => ?_)
                      have hh : k = 0 ∨ k = 1 ∨ k = 2 ∨ k = 3 ∨ k = 4 ∨ k = 5 := by omega
                      rcases hh with rfl | rfl | rfl | rfl | rfl | rfl
                      · exact c4
                      · exact c6
                      · exact c8
                      · exact c10
                      · exact c12
                      · exact c14
                    refine lv_tableOut (tgt := 127) hx hb dX10_one_30 ht (by decide) ?_
                    refine lv_aload_n hx hb dX10_one_127 rfl (lv_at hl 0 rfl) ?_
                    refine r_get E frX10_50 hS 0 rfl rfl dX10_one_128 ?_
                    refine lv_aload_n hx hb dX10_one_131 rfl (lv_at hl 0 rfl) ?_
                    refine r_get E frX10_26 hS 0 rfl rfl dX10_one_132 ?_
                    refine lv_iload_n hx hb dX10_one_135 rfl (lv_at hl 1 rfl) ?_
                    refine lv_aload_n hx hb dX10_one_136 rfl (lv_at hl 0 rfl) ?_
                    refine r_get E frX10_26 hS 0 rfl rfl dX10_one_137 ?_
                    refine lv_iload_n hx hb dX10_one_140 rfl (lv_at hl 1 rfl) ?_
                    obtain ⟨y141, e16, h⟩ := bd_some h
                    refine ct_V (ws' := fun _ => [oX10 q0 u0_0 u0_1 (.ref q1) u0_3 u0_4 u0_5 (.ref q7) u0_7 u0_8 u0_9 u0_10 u0_11 u0_12, oX0 q1 (.ref q2) (.ref q3) (.ref q4) (.ref q5) (.ref q6) (.int v_folk_number) (.int v_folk_day) u1_7, aI cy q2 7 v_folk_skill, aI cy q3 7 v_folk_pills, aI cy q4 7 v_folk_slept, aI cy q5 7 v_folk_woken, aI cy q6 7 v_folk_wanted, oX5 q7 (.ref q8) (.ref q9) (.ref q10) (.int v_inForce_size), aI cy q8 40 v_inForce_code, aI cy q9 40 v_inForce_stack, aI cy q10 7 v_inForce_thing]) (st' := [.int y141, .int p1, .ref q1, .ref q7]) (rest := [.int p1, .ref q1, .ref q7]) E hS vlX10_170 (c_X0_wanting (l := l) (D := D) (cy := cy) (q0 := q1) (q1 := q6) (u0_0 := .ref q2) (u0_1 := .ref q3) (u0_2 := .ref q4) (u0_3 := .ref q5) (u0_6 := .int v_folk_day) (u0_7 := u1_7) (v_number := v_folk_number) (v_wanted := v_folk_wanted) (p1 := p1) (r := y141) e16) [1, 6] rfl rfl (fun _ => rfl) (fun _ => rfl) rfl rfl rfl rfl (Nat.le_of_ble_eq_true rfl) hl.1 (by rw [hRf]; exact Nat.le_of_ble_eq_true rfl) (by rw [hRl]; exact Nat.le_of_ble_eq_true rfl) ⟨Nat.zero_le _, Nat.zero_le _⟩ dX10_one_141 rfl (fun H locs _ hS => ?_)
                    obtain ⟨y144, e17, h⟩ := bd_some h
                    refine ct_V (ws' := fun _ => [oX10 q0 u0_0 u0_1 (.ref q1) u0_3 u0_4 u0_5 (.ref q7) u0_7 u0_8 u0_9 u0_10 u0_11 u0_12, oX0 q1 (.ref q2) (.ref q3) (.ref q4) (.ref q5) (.ref q6) (.int v_folk_number) (.int v_folk_day) u1_7, aI cy q2 7 v_folk_skill, aI cy q3 7 v_folk_pills, aI cy q4 7 v_folk_slept, aI cy q5 7 v_folk_woken, aI cy q6 7 v_folk_wanted, oX5 q7 (.ref q8) (.ref q9) (.ref q10) (.int v_inForce_size), aI cy q8 40 v_inForce_code, aI cy q9 40 y144.2.1, aI cy q10 7 y144.2.2]) (st' := [.int y144.1]) (rest := []) E hS vlX10_173 (c_X5_needers (l := l) (D := D) (cy := cy) (q0 := q7) (q1 := q8) (q2 := q9) (q3 := q10) (q4 := q1) (q5 := q2) (q6 := q4) (q7 := q6) (u4_1 := .ref q3) (u4_3 := .ref q5) (u4_7 := u1_7) (v_size := v_inForce_size) (v_code := v_inForce_code) (v_stack := v_inForce_stack) (v_thing := v_inForce_thing) (w1_number := v_folk_number) (w1_day := v_folk_day) (w1_skill := v_folk_skill) (w1_slept := v_folk_slept) (w1_wanted := v_folk_wanted) (p2 := p1) (p3 := y141) (r := y144) e17) [7, 8, 9, 10, 1, 2, 4, 6] rfl rfl (fun _ => rfl) (fun _ => rfl) rfl rfl rfl rfl (Nat.le_of_ble_eq_true rfl) hl.1 (by rw [hRf]; exact Nat.le_of_ble_eq_true rfl) (by rw [hRl]; exact Nat.le_of_ble_eq_true rfl) ⟨Nat.zero_le _, Nat.zero_le _⟩ dX10_one_144 rfl (fun H locs _ hS => ?_)
                    obtain rfl := Option.some.inj h
                    exact rt_i E hQ (.null) hS dX10_one_147
      · have h := it_neg c3 h
        exact hJ21   H locs ls h hS (lv_sub hl [] rfl)
