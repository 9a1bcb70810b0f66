set_option maxHeartbeats 4000000 in
set_option maxRecDepth 100000 in
theorem c_X10_done {l : Launch} {D : va_G} {cy : Nat → ClassId} (q0 : Nat) (q1 : Nat) (u0_0 : Value) (u0_1 : Value) (u0_2 : Value) (u0_3 : Value) (u0_5 : Value) (u0_6 : Value) (u0_7 : Value) (u0_8 : Value) (u0_9 : Value) (u0_10 : Value) (u0_11 : Value) (u0_12 : Value) (u1_0 : Value) (u1_1 : Value) (u1_2 : Value) (v_past_next : Int32) (v_past_size : Int32) (p1 : Int32) (r : Int32 × Int32 × Int32) (h : X10_done v_past_next v_past_size p1 = some r) : Ct l yX10_done cX10_done 2 (some .int) 2 41 D cy [.ref q0, .int p1] [oX10 q0 u0_0 u0_1 u0_2 u0_3 (.ref q1) u0_5 u0_6 u0_7 u0_8 u0_9 u0_10 u0_11 u0_12, oX3 q1 u1_0 u1_1 u1_2 (.int v_past_next) (.int v_past_size)] (fun _ => [oX10 q0 u0_0 u0_1 u0_2 u0_3 (.ref q1) u0_5 u0_6 u0_7 u0_8 u0_9 u0_10 u0_11 u0_12, oX3 q1 u1_0 u1_1 u1_2 (.int r.2.1) (.int r.2.2)]) (some (.int r.1)) := by
  refine Ct.mk kX10_done (by decide +kernel) (Nat.le_of_ble_eq_true rfl) ?_
  intro p e s m below meth c A ls args R Q hRf hRl hQ E H locs hS hl
  have hx := E.x
  have hb := E.b
  have hl : lv_has ls 2 [(0, .ref q0), (1, .int p1)] := hl
  unfold X10_done at h
  refine lv_iload_n hx hb dX10_done_0 rfl (lv_at hl 1 rfl) ?_
  refine lv_if_lt (tgt := 11) hx hb dX10_done_1 (by decide) (fun c1 => ?_) (fun c1 => ?_)
  · have h := it_pos c1 h
    refine lv_iload_n hx hb dX10_done_11 rfl (lv_at hl 1 rfl) ?_
    obtain rfl := Option.some.inj h
    exact rt_i E hQ (.null) hS dX10_done_12
  · have h := it_neg c1 h
    refine lv_aload_n hx hb dX10_done_4 rfl (lv_at hl 0 rfl) ?_
    refine r_get E frX10_36 hS 0 rfl rfl dX10_done_5 ?_
    obtain ⟨y8, e2, h⟩ := bd_some h
    refine ct_V (ws' := fun _ => [oX10 q0 u0_0 u0_1 u0_2 u0_3 (.ref q1) u0_5 u0_6 u0_7 u0_8 u0_9 u0_10 u0_11 u0_12, oX3 q1 u1_0 u1_1 u1_2 (.int y8.1) (.int y8.2)]) (st' := []) (rest := []) E hS vlX10_196 (c_X3_keepsMark (l := l) (D := D) (cy := cy) (q0 := q1) (u0_0 := u1_0) (u0_1 := u1_1) (u0_2 := u1_2) (v_next := v_past_next) (v_size := v_past_size) (r := y8) e2) [1] rfl rfl (fun _ => rfl) (fun _ => rfl) rfl rfl rfl rfl (Nat.le_of_ble_eq_true rfl) hl.1 (by rw [hRf]; exact Nat.le_of_ble_eq_true rfl) (by rw [hRl]; exact Nat.le_of_ble_eq_true rfl) ⟨Nat.zero_le _, Nat.zero_le _⟩ dX10_done_8 rfl (fun H locs _ hS => ?_)
    refine lv_iload_n hx hb dX10_done_11 rfl (lv_at hl 1 rfl) ?_
    obtain rfl := Option.some.inj h
    exact rt_i E hQ (.null) hS dX10_done_12
set_option maxHeartbeats 4000000 in
set_option maxRecDepth 100000 in
theorem c_X10_people {l : Launch} {D : va_G} {cy : Nat → ClassId} (q0 : Nat) (q1 : Nat) (q2 : Nat) (q3 : Nat) (q4 : Nat) (q5 : Nat) (q6 : Nat) (q7 : Nat) (q8 : Nat) (q9 : Nat) (q10 : Nat) (u0_1 : Value) (u0_3 : Value) (u0_5 : Value) (u0_6 : Value) (u0_7 : Value) (u0_8 : Value) (u0_9 : Value) (u0_10 : Value) (u0_11 : Value) (u0_12 : Value) (u3_6 : Value) (u3_7 : Value) (u9_0 : Value) (u9_1 : Value) (u9_3 : Value) (v_text_size : Int32) (v_text_signs : Nat → Int32) (v_folk_number : Int32) (v_folk_skill : Nat → Int32) (v_folk_pills : Nat → Int32) (v_folk_slept : Nat → Int32) (v_folk_woken : Nat → Int32) (v_folk_wanted : Nat → Int32) (v_past_size : Int32) (v_past_valid : Nat → Int32) (r : Int32 × Int32 × Int32 × (Nat → Int32) × (Nat → Int32) × (Nat → Int32) × (Nat → Int32) × (Nat → Int32) × Int32 × (Nat → Int32)) (h : X10_people v_text_size v_text_signs v_folk_number v_folk_skill v_folk_pills v_folk_slept v_folk_woken v_folk_wanted v_past_size v_past_valid = some r) : Ct l yX10_people cX10_people 5 (some .int) 3 66 D cy [.ref q0] [oX10 q0 (.ref q1) u0_1 (.ref q3) u0_3 (.ref q9) u0_5 u0_6 u0_7 u0_8 u0_9 u0_10 u0_11 u0_12, oX9 q1 (.ref q2) (.int v_text_size), aC cy q2 80 v_text_signs, oX0 q3 (.ref q4) (.ref q5) (.ref q6) (.ref q7) (.ref q8) (.int v_folk_number) u3_6 u3_7, aI cy q4 7 v_folk_skill, aI cy q5 7 v_folk_pills, aI cy q6 7 v_folk_slept, aI cy q7 7 v_folk_woken, aI cy q8 7 v_folk_wanted, oX3 q9 u9_0 u9_1 (.ref q10) u9_3 (.int v_past_size), aZ cy q10 2 v_past_valid] (fun _ => [oX10 q0 (.ref q1) u0_1 (.ref q3) u0_3 (.ref q9) u0_5 u0_6 u0_7 u0_8 u0_9 u0_10 u0_11 u0_12, oX9 q1 (.ref q2) (.int r.2.1), aC cy q2 80 v_text_signs, oX0 q3 (.ref q4) (.ref q5) (.ref q6) (.ref q7) (.ref q8) (.int r.2.2.1) u3_6 u3_7, aI cy q4 7 r.2.2.2.1, aI cy q5 7 r.2.2.2.2.1, aI cy q6 7 r.2.2.2.2.2.1, aI cy q7 7 r.2.2.2.2.2.2.1, aI cy q8 7 r.2.2.2.2.2.2.2.1, oX3 q9 u9_0 u9_1 (.ref q10) u9_3 (.int r.2.2.2.2.2.2.2.2.1), aZ cy q10 2 r.2.2.2.2.2.2.2.2.2]) (some (.int r.1)) := by
  refine Ct.mk kX10_people (by decide +kernel) (Nat.le_of_ble_eq_true rfl) ?_
  intro p e s m below meth c A ls args R Q hRf hRl hQ E H locs hS hl
  have hx := E.x
  have hb := E.b
  have hl : lv_has ls 5 [(0, .ref q0)] := hl
  unfold X10_people at h
  refine lv_aload_n hx hb dX10_people_0 rfl (lv_at hl 0 rfl) ?_
  refine r_get E frX10_12 hS 0 rfl rfl dX10_people_1 ?_
  refine r_get E frX10_101 hS 1 rfl rfl dX10_people_4 ?_
  refine lv_istore_n (lv' := [(1, .int v_text_size), (0, .ref q0)]) hx hb dX10_people_7 rfl hl (by decide) rfl (fun ls hl => ?_)
  refine lv_iload_n hx hb dX10_people_8 rfl (lv_at hl 0 rfl) ?_
  have hJ33 : ∀ (j33_t0 : Int32) (H : Heap) (locs : List Loc) (ls : Array Slot), X10_people_k33 v_text_size v_text_signs v_folk_number v_folk_skill v_folk_pills v_folk_slept v_folk_woken v_folk_wanted v_past_size v_past_valid j33_t0 = some r → Sv D A s.heap [oX10 q0 (.ref q1) u0_1 (.ref q3) u0_3 (.ref q9) u0_5 u0_6 u0_7 u0_8 u0_9 u0_10 u0_11 u0_12, oX9 q1 (.ref q2) (.int v_text_size), aC cy q2 80 v_text_signs, oX0 q3 (.ref q4) (.ref q5) (.ref q6) (.ref q7) (.ref q8) (.int v_folk_number) u3_6 u3_7, aI cy q4 7 v_folk_skill, aI cy q5 7 v_folk_pills, aI cy q6 7 v_folk_slept, aI cy q7 7 v_folk_woken, aI cy q8 7 v_folk_wanted, oX3 q9 u9_0 u9_1 (.ref q10) u9_3 (.int v_past_size), aZ cy q10 2 v_past_valid] H locs → lv_has ls 5 [(0, .ref q0), (1, .int v_text_size)] → W p l e R s m args below meth c H locs 0 0 Q (F0 m 33 ls [.int j33_t0]) := by
    intro j33_t0 H locs ls h hS hl
    unfold X10_people_k33 at h
    refine lv_istore_n (lv' := [(2, .int j33_t0), (0, .ref q0), (1, .int v_text_size)]) hx hb dX10_people_33 rfl hl (by decide) rfl (fun ls hl => ?_)
    refine lv_iload_n hx hb dX10_people_34 rfl (lv_at hl 0 rfl) ?_
    refine lv_if_lt (tgt := 49) hx hb dX10_people_35 (by decide) (fun c1 => ?_) (fun c1 => ?_)
    · have h := it_pos c1 h
      refine lv_iload_n hx hb dX10_people_49 rfl (lv_at hl 2 rfl) ?_
      refine lv_iconst (v := 1) hx hb dX10_people_50 (by decide) ?_
      refine lv_iadd hx hb dX10_people_51 ?_
      refine lv_iconst (v := 3) hx hb dX10_people_52 (by decide) ?_
      obtain ⟨g2, h⟩ := gz_some h
      refine lv_idiv hx hb dX10_people_53 g2 ?_
      refine lv_istore_n (lv' := [(3, .int ((v_text_size + (1 : Int32)) / (3 : Int32))), (2, .int j33_t0), (0, .ref q0), (1, .int v_text_size)]) hx hb dX10_people_54 rfl hl (by decide) rfl (fun ls hl => ?_)
      refine lv_iconst (v := 0) hx hb dX10_people_55 (by decide) ?_
      refine lv_istore (lv' := [(4, .int (0 : Int32)), (3, .int ((v_text_size + (1 : Int32)) / (3 : Int32))), (2, .int j33_t0), (0, .ref q0), (1, .int v_text_size)]) hx hb dX10_people_56 hl (by decide) rfl (fun ls hl => ?_)
      have hL58 : ∀ (n : Nat) (x58_0 : Int32) (x58_1 : Int32) (x58_2 : Nat → Int32) (x58_3 : Nat → Int32) (x58_4 : Nat → Int32) (x58_5 : Nat → Int32) (x58_6 : Nat → Int32) (y58 : Int32 × (Nat → Int32) × (Nat → Int32) × (Nat → Int32) × (Nat → Int32) × (Nat → Int32)) (H : Heap) (locs : List Loc) (ls : Array Slot), lp (fun x58 => X10_people_s58 v_text_size v_text_signs x58.1 x58.2.1 x58.2.2.1 x58.2.2.2.1 x58.2.2.2.2.1 x58.2.2.2.2.2.1 x58.2.2.2.2.2.2) n (x58_0, x58_1, x58_2, x58_3, x58_4, x58_5, x58_6) = some y58 → Sv D A s.heap [oX10 q0 (.ref q1) u0_1 (.ref q3) u0_3 (.ref q9) u0_5 u0_6 u0_7 u0_8 u0_9 u0_10 u0_11 u0_12, oX9 q1 (.ref q2) (.int v_text_size), aC cy q2 80 v_text_signs, oX0 q3 (.ref q4) (.ref q5) (.ref q6) (.ref q7) (.ref q8) (.int x58_1) u3_6 u3_7, aI cy q4 7 x58_2, aI cy q5 7 x58_3, aI cy q6 7 x58_4, aI cy q7 7 x58_5, aI cy q8 7 x58_6, oX3 q9 u9_0 u9_1 (.ref q10) u9_3 (.int v_past_size), aZ cy q10 2 v_past_valid] H locs → lv_has ls 5 [(0, .ref q0), (3, .int ((v_text_size + (1 : Int32)) / (3 : Int32))), (4, .int x58_0)] → ( ∀ (y58_0 : Int32) (y58_1 : Nat → Int32) (y58_2 : Nat → Int32) (y58_3 : Nat → Int32) (y58_4 : Nat → Int32) (y58_5 : Nat → Int32), (y58_0, y58_1, y58_2, y58_3, y58_4, y58_5) = y58 → ∀ (H : Heap) (locs : List Loc) (ls : Array Slot), Sv D A s.heap [oX10 q0 (.ref q1) u0_1 (.ref q3) u0_3 (.ref q9) u0_5 u0_6 u0_7 u0_8 u0_9 u0_10 u0_11 u0_12, oX9 q1 (.ref q2) (.int v_text_size), aC cy q2 80 v_text_signs, oX0 q3 (.ref q4) (.ref q5) (.ref q6) (.ref q7) (.ref q8) (.int y58_0) u3_6 u3_7, aI cy q4 7 y58_1, aI cy q5 7 y58_2, aI cy q6 7 y58_3, aI cy q7 7 y58_4, aI cy q8 7 y58_5, oX3 q9 u9_0 u9_1 (.ref q10) u9_3 (.int v_past_size), aZ cy q10 2 v_past_valid] H locs → lv_has ls 5 [(0, .ref q0), (3, .int ((v_text_size + (1 : Int32)) / (3 : Int32)))] → W p l e R s m args below meth c H locs 0 0 Q (F0 m 101 ls [])) → W p l e R s m args below meth c H locs 0 0 Q (F0 m 58 ls []) := by
        intro n
        induction n with
        | zero =>
          intro x58_0 x58_1 x58_2 x58_3 x58_4 x58_5 x58_6 y58 H locs ls h
          exact lp_zero h
        | succ n ih58 =>
          intro x58_0 x58_1 x58_2 x58_3 x58_4 x58_5 x58_6 y58 H locs ls h hS hl hk58_0
          obtain ⟨z58, h, hz58a, hz58b⟩ := lp_succ h
          have h : X10_people_s58 v_text_size v_text_signs x58_0 x58_1 x58_2 x58_3 x58_4 x58_5 x58_6 = some z58 := h
          unfold X10_people_s58 at h
          refine lv_iload hx hb dX10_people_58 (lv_at hl 2 rfl) ?_
          refine lv_iload_n hx hb dX10_people_60 rfl (lv_at hl 1 rfl) ?_
          refine lv_icmp_ge (tgt := 101) hx hb dX10_people_61 (by decide) (fun c3 => ?_) (fun c3 => ?_)
          · have h := it_pos c3 h
            exact hk58_0 x58_1 x58_2 x58_3 x58_4 x58_5 x58_6 (hz58b _ (Option.some.inj h).symm)  H locs ls hS (lv_sub hl [0, 1] rfl)
          · have h := it_neg c3 h
            refine lv_aload_n hx hb dX10_people_64 rfl (lv_at hl 0 rfl) ?_
            refine r_get E frX10_26 hS 0 rfl rfl dX10_people_65 ?_
            refine lv_aload_n hx hb dX10_people_68 rfl (lv_at hl 0 rfl) ?_
            refine r_get E frX10_12 hS 0 rfl rfl dX10_people_69 ?_
            refine lv_iconst (v := 3) hx hb dX10_people_72 (by decide) ?_
            refine lv_iload hx hb dX10_people_73 (lv_at hl 2 rfl) ?_
            refine lv_imul hx hb dX10_people_75 ?_
            obtain ⟨y76, e4, h⟩ := bd_some h
            refine ct_V (ws' := fun _ => [oX10 q0 (.ref q1) u0_1 (.ref q3) u0_3 (.ref q9) u0_5 u0_6 u0_7 u0_8 u0_9 u0_10 u0_11 u0_12, oX9 q1 (.ref q2) (.int v_text_size), aC cy q2 80 v_text_signs, oX0 q3 (.ref q4) (.ref q5) (.ref q6) (.ref q7) (.ref q8) (.int x58_1) u3_6 u3_7, aI cy q4 7 x58_2, aI cy q5 7 x58_3, aI cy q6 7 x58_4, aI cy q7 7 x58_5, aI cy q8 7 x58_6, oX3 q9 u9_0 u9_1 (.ref q10) u9_3 (.int v_past_size), aZ cy q10 2 v_past_valid]) (st' := [.int y76, .ref q3]) (rest := [.ref q3]) E hS vlX10_117 (c_X9_digitAt (l := l) (D := D) (cy := cy) (q0 := q1) (q1 := q2) (v_size := v_text_size) (v_signs := v_text_signs) (p1 := ((3 : Int32) * x58_0)) (r := y76) e4) [1, 2] rfl rfl (fun _ => rfl) (fun _ => rfl) rfl rfl rfl rfl (Nat.le_of_ble_eq_true rfl) hl.1 (by rw [hRf]; exact Nat.le_of_ble_eq_true rfl) (by rw [hRl]; exact Nat.le_of_ble_eq_true rfl) ⟨Nat.zero_le _, Nat.zero_le _⟩ dX10_people_76 rfl (fun H locs _ hS => ?_)
            refine lv_aload_n hx hb dX10_people_79 rfl (lv_at hl 0 rfl) ?_
            refine r_get E frX10_12 hS 0 rfl rfl dX10_people_80 ?_
            refine lv_iconst (v := 3) hx hb dX10_people_83 (by decide) ?_
            refine lv_iload hx hb dX10_people_84 (lv_at hl 2 rfl) ?_
            refine lv_imul hx hb dX10_people_86 ?_
            refine lv_iconst (v := 1) hx hb dX10_people_87 (by decide) ?_
            refine lv_iadd hx hb dX10_people_88 ?_
            obtain ⟨y89, e5, h⟩ := bd_some h
            refine ct_V (ws' := fun _ => [oX10 q0 (.ref q1) u0_1 (.ref q3) u0_3 (.ref q9) u0_5 u0_6 u0_7 u0_8 u0_9 u0_10 u0_11 u0_12, oX9 q1 (.ref q2) (.int v_text_size), aC cy q2 80 v_text_signs, oX0 q3 (.ref q4) (.ref q5) (.ref q6) (.ref q7) (.ref q8) (.int x58_1) u3_6 u3_7, aI cy q4 7 x58_2, aI cy q5 7 x58_3, aI cy q6 7 x58_4, aI cy q7 7 x58_5, aI cy q8 7 x58_6, oX3 q9 u9_0 u9_1 (.ref q10) u9_3 (.int v_past_size), aZ cy q10 2 v_past_valid]) (st' := [.int y89, .int y76, .ref q3]) (rest := [.int y76, .ref q3]) E hS vlX10_117 (c_X9_digitAt (l := l) (D := D) (cy := cy) (q0 := q1) (q1 := q2) (v_size := v_text_size) (v_signs := v_text_signs) (p1 := (((3 : Int32) * x58_0) + (1 : Int32))) (r := y89) e5) [1, 2] rfl rfl (fun _ => rfl) (fun _ => rfl) rfl rfl rfl rfl (Nat.le_of_ble_eq_true rfl) hl.1 (by rw [hRf]; exact Nat.le_of_ble_eq_true rfl) (by rw [hRl]; exact Nat.le_of_ble_eq_true rfl) ⟨Nat.zero_le _, Nat.zero_le _⟩ dX10_people_89 rfl (fun H locs _ hS => ?_)
            obtain ⟨y92, e6, h⟩ := bd_some h
            refine ct_V (ws' := fun _ => [oX10 q0 (.ref q1) u0_1 (.ref q3) u0_3 (.ref q9) u0_5 u0_6 u0_7 u0_8 u0_9 u0_10 u0_11 u0_12, oX9 q1 (.ref q2) (.int v_text_size), aC cy q2 80 v_text_signs, oX0 q3 (.ref q4) (.ref q5) (.ref q6) (.ref q7) (.ref q8) (.int y92.1) u3_6 u3_7, aI cy q4 7 y92.2.1, aI cy q5 7 y92.2.2.1, aI cy q6 7 y92.2.2.2.1, aI cy q7 7 y92.2.2.2.2.1, aI cy q8 7 y92.2.2.2.2.2, oX3 q9 u9_0 u9_1 (.ref q10) u9_3 (.int v_past_size), aZ cy q10 2 v_past_valid]) (st' := []) (rest := []) E hS vlX10_120 (c_X0_comes (l := l) (D := D) (cy := cy) (q0 := q3) (q1 := q4) (q2 := q5) (q3 := q6) (q4 := q7) (q5 := q8) (u0_6 := u3_6) (u0_7 := u3_7) (v_number := x58_1) (v_skill := x58_2) (v_pills := x58_3) (v_slept := x58_4) (v_woken := x58_5) (v_wanted := x58_6) (p1 := y76) (p2 := y89) (r := y92) e6) [3, 4, 5, 6, 7, 8] rfl rfl (fun _ => rfl) (fun _ => rfl) rfl rfl rfl rfl (Nat.le_of_ble_eq_true rfl) hl.1 (by rw [hRf]; exact Nat.le_of_ble_eq_true rfl) (by rw [hRl]; exact Nat.le_of_ble_eq_true rfl) ⟨Nat.zero_le _, Nat.zero_le _⟩ dX10_people_92 rfl (fun H locs _ hS => ?_)
            refine lv_iinc (v := (x58_0 + (1 : Int32))) (lv' := [(4, .int (x58_0 + (1 : Int32))), (0, .ref q0), (3, .int ((v_text_size + (1 : Int32)) / (3 : Int32)))]) hx hb dX10_people_95 hl (k := 2) rfl rfl (by decide) rfl (fun ls hl => ?_)
            refine lv_goto (tgt := 58) hx hb dX10_people_98 (by decide) ?_
            exact ih58 (x58_0 + (1 : Int32)) y92.1 y92.2.1 y92.2.2.1 y92.2.2.2.1 y92.2.2.2.2.1 y92.2.2.2.2.2 y58  H locs ls (hz58a _ (Option.some.inj h).symm) hS (lv_sub hl [1, 2, 0] rfl) hk58_0
      obtain ⟨y58, e58, h⟩ := bd_some h
      refine hL58 1000 (0 : Int32) v_folk_number v_folk_skill v_folk_pills v_folk_slept v_folk_woken v_folk_wanted y58  H locs ls e58 hS (lv_sub hl [3, 1, 0] rfl) (fun y58_0 y58_1 y58_2 y58_3 y58_4 y58_5 ey58 H locs ls hS hl => ?_)
      subst ey58
      have h := un_r h
      have h := un_r h
      have h := un_r h
      have h := un_r h
      have h := un_r h
      refine lv_iload_n hx hb dX10_people_101 rfl (lv_at hl 1 rfl) ?_
      have hJ112 : ∀ (j112_v_past_size : Int32) (j112_v_past_valid : Nat → Int32) (H : Heap) (locs : List Loc) (ls : Array Slot), X10_people_k112 v_text_size y58_0 y58_1 y58_2 y58_3 y58_4 y58_5 j112_v_past_size j112_v_past_valid = some r → Sv D A s.heap [oX10 q0 (.ref q1) u0_1 (.ref q3) u0_3 (.ref q9) u0_5 u0_6 u0_7 u0_8 u0_9 u0_10 u0_11 u0_12, oX9 q1 (.ref q2) (.int v_text_size), aC cy q2 80 v_text_signs, oX0 q3 (.ref q4) (.ref q5) (.ref q6) (.ref q7) (.ref q8) (.int y58_0) u3_6 u3_7, aI cy q4 7 y58_1, aI cy q5 7 y58_2, aI cy q6 7 y58_3, aI cy q7 7 y58_4, aI cy q8 7 y58_5, oX3 q9 u9_0 u9_1 (.ref q10) u9_3 (.int j112_v_past_size), aZ cy q10 2 j112_v_past_valid] H locs → lv_has ls 5 [(0, .ref q0), (3, .int ((v_text_size + (1 : Int32)) / (3 : Int32)))] → W p l e R s m args below meth c H locs 0 0 Q (F0 m 112 ls []) := by
        intro j112_v_past_size j112_v_past_valid H locs ls h hS hl
        unfold X10_people_k112 at h
        refine lv_aload_n hx hb dX10_people_112 rfl (lv_at hl 0 rfl) ?_
        refine r_get E frX10_12 hS 0 rfl rfl dX10_people_113 ?_
        refine ct_V (ws' := fun _ => [oX10 q0 (.ref q1) u0_1 (.ref q3) u0_3 (.ref q9) u0_5 u0_6 u0_7 u0_8 u0_9 u0_10 u0_11 u0_12, oX9 q1 (.ref q2) (.int X9_empties), aC cy q2 80 v_text_signs, oX0 q3 (.ref q4) (.ref q5) (.ref q6) (.ref q7) (.ref q8) (.int y58_0) u3_6 u3_7, aI cy q4 7 y58_1, aI cy q5 7 y58_2, aI cy q6 7 y58_3, aI cy q7 7 y58_4, aI cy q8 7 y58_5, oX3 q9 u9_0 u9_1 (.ref q10) u9_3 (.int j112_v_past_size), aZ cy q10 2 j112_v_past_valid]) (st' := []) (rest := []) E hS vlX10_114 (c_X9_empties (l := l) (D := D) (cy := cy) (q0 := q1) (u0_0 := .ref q2) (v_size := v_text_size) (r := X9_empties) rfl) [1] rfl rfl (fun _ => rfl) (fun _ => rfl) rfl rfl rfl rfl (Nat.le_of_ble_eq_true rfl) hl.1 (by rw [hRf]; exact Nat.le_of_ble_eq_true rfl) (by rw [hRl]; exact Nat.le_of_ble_eq_true rfl) ⟨Nat.zero_le _, Nat.zero_le _⟩ dX10_people_116 rfl (fun H locs _ hS => ?_)
        refine lv_iload_n hx hb dX10_people_119 rfl (lv_at hl 1 rfl) ?_
        obtain rfl := Option.some.inj h
        exact rt_i E hQ (.null) hS dX10_people_120
      refine lv_if_le (tgt := 112) hx hb dX10_people_102 (by decide) (fun c7 => ?_) (fun c7 => ?_)
      · have h := it_pos c7 h
        exact hJ112 v_past_size v_past_valid  H locs ls h hS (lv_sub hl [0, 1] rfl)
      · have h := it_neg c7 h
        refine lv_aload_n hx hb dX10_people_105 rfl (lv_at hl 0 rfl) ?_
        refine r_get E frX10_36 hS 0 rfl rfl dX10_people_106 ?_
        obtain ⟨y109, e8, h⟩ := bd_some h
        refine ct_V (ws' := fun _ => [oX10 q0 (.ref q1) u0_1 (.ref q3) u0_3 (.ref q9) u0_5 u0_6 u0_7 u0_8 u0_9 u0_10 u0_11 u0_12, oX9 q1 (.ref q2) (.int v_text_size), aC cy q2 80 v_text_signs, oX0 q3 (.ref q4) (.ref q5) (.ref q6) (.ref q7) (.ref q8) (.int y58_0) u3_6 u3_7, aI cy q4 7 y58_1, aI cy q5 7 y58_2, aI cy q6 7 y58_3, aI cy q7 7 y58_4, aI cy q8 7 y58_5, oX3 q9 u9_0 u9_1 (.ref q10) u9_3 (.int y109.1), aZ cy q10 2 y109.2]) (st' := []) (rest := []) E hS vlX10_124 (c_X3_forgetsAll (l := l) (D := D) (cy := cy) (q0 := q9) (q1 := q10) (u0_0 := u9_0) (u0_1 := u9_1) (u0_3 := u9_3) (v_size := v_past_size) (v_valid := v_past_valid) (r := y109) e8) [9, 10] rfl rfl (fun _ => rfl) (fun _ => rfl) rfl rfl rfl rfl (Nat.le_of_ble_eq_true rfl) hl.1 (by rw [hRf]; exact Nat.le_of_ble_eq_true rfl) (by rw [hRl]; exact Nat.le_of_ble_eq_true rfl) ⟨Nat.zero_le _, Nat.zero_le _⟩ dX10_people_109 rfl (fun H locs _ hS => ?_)
        exact hJ112 y109.1 y109.2  H locs ls h hS (lv_sub hl [0, 1] rfl)
    · have h := it_neg c1 h
      refine lv_aload_n hx hb dX10_people_38 rfl (lv_at hl 1 rfl) ?_
      refine r_get E frX10_12 hS 0 rfl rfl dX10_people_39 ?_
      refine ct_V (ws' := fun _ => [oX10 q0 (.ref q1) u0_1 (.ref q3) u0_3 (.ref q9) u0_5 u0_6 u0_7 u0_8 u0_9 u0_10 u0_11 u0_12, oX9 q1 (.ref q2) (.int X9_empties), aC cy q2 80 v_text_signs, oX0 q3 (.ref q4) (.ref q5) (.ref q6) (.ref q7) (.ref q8) (.int v_folk_number) u3_6 u3_7, aI cy q4 7 v_folk_skill, aI cy q5 7 v_folk_pills, aI cy q6 7 v_folk_slept, aI cy q7 7 v_folk_woken, aI cy q8 7 v_folk_wanted, oX3 q9 u9_0 u9_1 (.ref q10) u9_3 (.int v_past_size), aZ cy q10 2 v_past_valid]) (st' := []) (rest := []) E hS vlX10_114 (c_X9_empties (l := l) (D := D) (cy := cy) (q0 := q1) (u0_0 := .ref q2) (v_size := v_text_size) (r := X9_empties) rfl) [1] rfl rfl (fun _ => rfl) (fun _ => rfl) rfl rfl rfl rfl (Nat.le_of_ble_eq_true rfl) hl.1 (by rw [hRf]; exact Nat.le_of_ble_eq_true rfl) (by rw [hRl]; exact Nat.le_of_ble_eq_true rfl) ⟨Nat.zero_le _, Nat.zero_le _⟩ dX10_people_42 rfl (fun H locs _ hS => ?_)
      refine lv_iconst (v := -1) hx hb dX10_people_45 (by decide) ?_
      refine lv_iload_n hx hb dX10_people_46 rfl (lv_at hl 0 rfl) ?_
      refine lv_isub hx hb dX10_people_47 ?_
      obtain rfl := Option.some.inj h
      exact rt_i E hQ (.null) hS dX10_people_48
  refine lv_if_ne (tgt := 16) hx hb dX10_people_9 (by decide) (fun c9 => ?_) (fun c9 => ?_)
  · have h := it_neg c9 h
    refine lv_aload_n hx hb dX10_people_16 rfl (lv_at hl 1 rfl) ?_
    refine r_get E frX10_12 hS 0 rfl rfl dX10_people_17 ?_
    refine lv_bipush (v := 7) hx hb dX10_people_20 (by decide) ?_
    refine lv_aload_n hx hb dX10_people_22 rfl (lv_at hl 1 rfl) ?_
    refine r_get E frX10_26 hS 0 rfl rfl dX10_people_23 ?_
    refine r_get E frX10_107 hS 3 rfl rfl dX10_people_26 ?_
    refine lv_isub hx hb dX10_people_29 ?_
    obtain ⟨y30, e10, h⟩ := bd_some h
    refine ct_V (ws' := fun _ => [oX10 q0 (.ref q1) u0_1 (.ref q3) u0_3 (.ref q9) u0_5 u0_6 u0_7 u0_8 u0_9 u0_10 u0_11 u0_12, oX9 q1 (.ref q2) (.int v_text_size), aC cy q2 80 v_text_signs, oX0 q3 (.ref q4) (.ref q5) (.ref q6) (.ref q7) (.ref q8) (.int v_folk_number) u3_6 u3_7, aI cy q4 7 v_folk_skill, aI cy q5 7 v_folk_pills, aI cy q6 7 v_folk_slept, aI cy q7 7 v_folk_woken, aI cy q8 7 v_folk_wanted, oX3 q9 u9_0 u9_1 (.ref q10) u9_3 (.int v_past_size), aZ cy q10 2 v_past_valid]) (st' := [.int y30]) (rest := []) E hS vlX10_110 (c_X9_peopleFault (l := l) (D := D) (cy := cy) (q0 := q1) (q1 := q2) (v_size := v_text_size) (v_signs := v_text_signs) (p1 := ((7 : Int32) - v_folk_number)) (r := y30) e10) [1, 2] rfl rfl (fun _ => rfl) (fun _ => rfl) rfl rfl rfl rfl (Nat.le_of_ble_eq_true rfl) hl.1 (by rw [hRf]; exact Nat.le_of_ble_eq_true rfl) (by rw [hRl]; exact Nat.le_of_ble_eq_true rfl) ⟨Nat.zero_le _, Nat.zero_le _⟩ dX10_people_30 rfl (fun H locs _ hS => ?_)
    exact hJ33 y30  H locs ls h hS (lv_sub hl [1, 0] rfl)
  · have h := it_pos c9 h
    refine lv_iconst (v := -1) hx hb dX10_people_12 (by decide) ?_
    refine lv_goto (tgt := 33) hx hb dX10_people_13 (by decide) ?_
    exact hJ33 (-1 : Int32)  H locs ls h hS (lv_sub hl [1, 0] rfl)
set_option maxHeartbeats 4000000 in
set_option maxRecDepth 100000 in
theorem c_X10_wants {l : Launch} {D : va_G} {cy : Nat → ClassId} (q0 : Nat) (q1 : Nat) (q2 : Nat) (q3 : Nat) (q4 : Nat) (q5 : Nat) (q6 : Nat) (u0_1 : Value) (u0_3 : Value) (u0_5 : Value) (u0_6 : Value) (u0_7 : Value) (u0_8 : Value) (u0_9 : Value) (u0_10 : Value) (u0_11 : Value) (u0_12 : Value) (u3_0 : Value) (u3_1 : Value) (u3_2 : Value) (u3_3 : Value) (u3_6 : Value) (u3_7 : Value) (u5_0 : Value) (u5_1 : Value) (u5_3 : Value) (v_text_size : Int32) (v_text_signs : Nat → Int32) (v_folk_number : Int32) (v_folk_wanted : Nat → Int32) (v_past_size : Int32) (v_past_valid : Nat → Int32) (r : Int32 × Int32 × (Nat → Int32) × Int32 × (Nat → Int32)) (h : X10_wants v_text_size v_text_signs v_folk_number v_folk_wanted v_past_size v_past_valid = some r) : Ct l yX10_wants cX10_wants 7 (some .int) 3 68 D cy [.ref q0] [oX10 q0 (.ref q1) u0_1 (.ref q3) u0_3 (.ref q5) u0_5 u0_6 u0_7 u0_8 u0_9 u0_10 u0_11 u0_12, oX9 q1 (.ref q2) (.int v_text_size), aC cy q2 80 v_text_signs, oX0 q3 u3_0 u3_1 u3_2 u3_3 (.ref q4) (.int v_folk_number) u3_6 u3_7, aI cy q4 7 v_folk_wanted, oX3 q5 u5_0 u5_1 (.ref q6) u5_3 (.int v_past_size), aZ cy q6 2 v_past_valid] (fun _ => [oX10 q0 (.ref q1) u0_1 (.ref q3) u0_3 (.ref q5) u0_5 u0_6 u0_7 u0_8 u0_9 u0_10 u0_11 u0_12, oX9 q1 (.ref q2) (.int r.2.1), aC cy q2 80 v_text_signs, oX0 q3 u3_0 u3_1 u3_2 u3_3 (.ref q4) (.int v_folk_number) u3_6 u3_7, aI cy q4 7 r.2.2.1, oX3 q5 u5_0 u5_1 (.ref q6) u5_3 (.int r.2.2.2.1), aZ cy q6 2 r.2.2.2.2]) (some (.int r.1)) := by
  refine Ct.mk kX10_wants (by decide +kernel) (Nat.le_of_ble_eq_true rfl) ?_
  intro p e s m below meth c A ls args R Q hRf hRl hQ E H locs hS hl
  have hx := E.x
  have hb := E.b
  have hl : lv_has ls 7 [(0, .ref q0)] := hl
  unfold X10_wants at h
  refine lv_aload_n hx hb dX10_wants_0 rfl (lv_at hl 0 rfl) ?_
  refine r_get E frX10_12 hS 0 rfl rfl dX10_wants_1 ?_
  refine r_get E frX10_101 hS 1 rfl rfl dX10_wants_4 ?_
  refine lv_istore_n (lv' := [(1, .int v_text_size), (0, .ref q0)]) hx hb dX10_wants_7 rfl hl (by decide) rfl (fun ls hl => ?_)
  refine lv_iload_n hx hb dX10_wants_8 rfl (lv_at hl 0 rfl) ?_
  have hJ30 : ∀ (j30_t0 : Int32) (H : Heap) (locs : List Loc) (ls : Array Slot), X10_wants_k30 v_text_size v_text_signs v_folk_number v_folk_wanted v_past_size v_past_valid j30_t0 = some r → Sv D A s.heap [oX10 q0 (.ref q1) u0_1 (.ref q3) u0_3 (.ref q5) u0_5 u0_6 u0_7 u0_8 u0_9 u0_10 u0_11 u0_12, oX9 q1 (.ref q2) (.int v_text_size), aC cy q2 80 v_text_signs, oX0 q3 u3_0 u3_1 u3_2 u3_3 (.ref q4) (.int v_folk_number) u3_6 u3_7, aI cy q4 7 v_folk_wanted, oX3 q5 u5_0 u5_1 (.ref q6) u5_3 (.int v_past_size), aZ cy q6 2 v_past_valid] H locs → lv_has ls 7 [(0, .ref q0), (1, .int v_text_size)] → W p l e R s m args below meth c H locs 0 0 Q (F0 m 30 ls [.int j30_t0]) := by
    intro j30_t0 H locs ls h hS hl
    unfold X10_wants_k30 at h
    refine lv_istore_n (lv' := [(2, .int j30_t0), (0, .ref q0), (1, .int v_text_size)]) hx hb dX10_wants_30 rfl hl (by decide) rfl (fun ls hl => ?_)
    refine lv_iload_n hx hb dX10_wants_31 rfl (lv_at hl 0 rfl) ?_
    refine lv_if_lt (tgt := 46) hx hb dX10_wants_32 (by decide) (fun c1 => ?_) (fun c1 => ?_)
    · have h := it_pos c1 h
      refine lv_iconst (v := 0) hx hb dX10_wants_46 (by decide) ?_
      refine lv_istore_n (lv' := [(3, .int (0 : Int32)), (2, .int j30_t0), (0, .ref q0), (1, .int v_text_size)]) hx hb dX10_wants_47 rfl hl (by decide) rfl (fun ls hl => ?_)
      refine lv_iconst (v := -1) hx hb dX10_wants_48 (by decide) ?_
      refine lv_istore (lv' := [(4, .int (-1 : Int32)), (3, .int (0 : Int32)), (2, .int j30_t0), (0, .ref q0), (1, .int v_text_size)]) hx hb dX10_wants_49 hl (by decide) rfl (fun ls hl => ?_)
      refine lv_iconst (v := 0) hx hb dX10_wants_51 (by decide) ?_
      refine lv_istore (lv' := [(5, .int (0 : Int32)), (4, .int (-1 : Int32)), (3, .int (0 : Int32)), (2, .int j30_t0), (0, .ref q0), (1, .int v_text_size)]) hx hb dX10_wants_52 hl (by decide) rfl (fun ls hl => ?_)
      have hL54 : ∀ (n : Nat) (x54_0 : Int32) (x54_1 : Int32) (x54_2 : Int32) (x54_3 : Nat → Int32) (y54 : Int32 × (Nat → Int32)) (H : Heap) (locs : List Loc) (ls : Array Slot), lp (fun x54 => X10_wants_s54 v_text_size v_text_signs v_folk_number x54.1 x54.2.1 x54.2.2.1 x54.2.2.2) n (x54_0, x54_1, x54_2, x54_3) = some y54 → Sv D A s.heap [oX10 q0 (.ref q1) u0_1 (.ref q3) u0_3 (.ref q5) u0_5 u0_6 u0_7 u0_8 u0_9 u0_10 u0_11 u0_12, oX9 q1 (.ref q2) (.int v_text_size), aC cy q2 80 v_text_signs, oX0 q3 u3_0 u3_1 u3_2 u3_3 (.ref q4) (.int v_folk_number) u3_6 u3_7, aI cy q4 7 x54_3, oX3 q5 u5_0 u5_1 (.ref q6) u5_3 (.int v_past_size), aZ cy q6 2 v_past_valid] H locs → lv_has ls 7 [(0, .ref q0), (1, .int v_text_size), (3, .int x54_0), (4, .int x54_1), (5, .int x54_2)] → ( ∀ (y54_0 : Int32) (y54_1 : Nat → Int32), (y54_0, y54_1) = y54 → ∀ (H : Heap) (locs : List Loc) (ls : Array Slot), Sv D A s.heap [oX10 q0 (.ref q1) u0_1 (.ref q3) u0_3 (.ref q5) u0_5 u0_6 u0_7 u0_8 u0_9 u0_10 u0_11 u0_12, oX9 q1 (.ref q2) (.int v_text_size), aC cy q2 80 v_text_signs, oX0 q3 u3_0 u3_1 u3_2 u3_3 (.ref q4) (.int v_folk_number) u3_6 u3_7, aI cy q4 7 y54_1, oX3 q5 u5_0 u5_1 (.ref q6) u5_3 (.int v_past_size), aZ cy q6 2 v_past_valid] H locs → lv_has ls 7 [(0, .ref q0), (3, .int y54_0)] → W p l e R s m args below meth c H locs 0 0 Q (F0 m 136 ls [])) → W p l e R s m args below meth c H locs 0 0 Q (F0 m 54 ls []) := by
        intro n
        induction n with
        | zero =>
          intro x54_0 x54_1 x54_2 x54_3 y54 H locs ls h
          exact lp_zero h
        | succ n ih54 =>
          intro x54_0 x54_1 x54_2 x54_3 y54 H locs ls h hS hl hk54_0
          obtain ⟨z54, h, hz54a, hz54b⟩ := lp_succ h
          have h : X10_wants_s54 v_text_size v_text_signs v_folk_number x54_0 x54_1 x54_2 x54_3 = some z54 := h
          unfold X10_wants_s54 at h
          refine lv_iload hx hb dX10_wants_54 (lv_at hl 4 rfl) ?_
          refine lv_iload_n hx hb dX10_wants_56 rfl (lv_at hl 1 rfl) ?_
          refine lv_icmp_ge (tgt := 136) hx hb dX10_wants_57 (by decide) (fun c2 => ?_) (fun c2 => ?_)
          · have h := it_pos c2 h
            exact hk54_0 x54_0 x54_3 (hz54b _ (Option.some.inj h).symm)  H locs ls hS (lv_sub hl [0, 2] rfl)
          · have h := it_neg c2 h
            refine lv_aload_n hx hb dX10_wants_60 rfl (lv_at hl 0 rfl) ?_
            refine r_get E frX10_12 hS 0 rfl rfl dX10_wants_61 ?_
            refine lv_iload hx hb dX10_wants_64 (lv_at hl 4 rfl) ?_
            obtain ⟨y66, e3, h⟩ := bd_some h
            refine ct_V (ws' := fun _ => [oX10 q0 (.ref q1) u0_1 (.ref q3) u0_3 (.ref q5) u0_5 u0_6 u0_7 u0_8 u0_9 u0_10 u0_11 u0_12, oX9 q1 (.ref q2) (.int v_text_size), aC cy q2 80 v_text_signs, oX0 q3 u3_0 u3_1 u3_2 u3_3 (.ref q4) (.int v_folk_number) u3_6 u3_7, aI cy q4 7 x54_3, oX3 q5 u5_0 u5_1 (.ref q6) u5_3 (.int v_past_size), aZ cy q6 2 v_past_valid]) (st' := [.int y66]) (rest := []) E hS vlX10_117 (c_X9_digitAt (l := l) (D := D) (cy := cy) (q0 := q1) (q1 := q2) (v_size := v_text_size) (v_signs := v_text_signs) (p1 := x54_2) (r := y66) e3) [1, 2] rfl rfl (fun _ => rfl) (fun _ => rfl) rfl rfl rfl rfl (Nat.le_of_ble_eq_true rfl) hl.1 (by rw [hRf]; exact Nat.le_of_ble_eq_true rfl) (by rw [hRl]; exact Nat.le_of_ble_eq_true rfl) ⟨Nat.zero_le _, Nat.zero_le _⟩ dX10_wants_66 rfl (fun H locs _ hS => ?_)
            refine lv_istore (lv' := [(6, .int y66), (0, .ref q0), (1, .int v_text_size), (3, .int x54_0), (4, .int x54_1), (5, .int x54_2)]) hx hb dX10_wants_69 hl (by decide) rfl (fun ls hl => ?_)
            refine lv_iload hx hb dX10_wants_71 (lv_at hl 0 rfl) ?_
            refine lv_if_lt (tgt := 95) hx hb dX10_wants_73 (by decide) (fun c4 => ?_) (fun c4 => ?_)
            · have h := it_pos c4 h
              refine lv_aload_n hx hb dX10_wants_95 rfl (lv_at hl 1 rfl) ?_
              refine r_get E frX10_12 hS 0 rfl rfl dX10_wants_96 ?_
              refine lv_iload hx hb dX10_wants_99 (lv_at hl 5 rfl) ?_
              obtain ⟨y101, e5, h⟩ := bd_some h
              refine ct_V (ws' := fun _ => [oX10 q0 (.ref q1) u0_1 (.ref q3) u0_3 (.ref q5) u0_5 u0_6 u0_7 u0_8 u0_9 u0_10 u0_11 u0_12, oX9 q1 (.ref q2) (.int v_text_size), aC cy q2 80 v_text_signs, oX0 q3 u3_0 u3_1 u3_2 u3_3 (.ref q4) (.int v_folk_number) u3_6 u3_7, aI cy q4 7 x54_3, oX3 q5 u5_0 u5_1 (.ref q6) u5_3 (.int v_past_size), aZ cy q6 2 v_past_valid]) (st' := [.int y101]) (rest := []) E hS vlX10_134 (c_X9_at (l := l) (D := D) (cy := cy) (q0 := q1) (q1 := q2) (v_size := v_text_size) (v_signs := v_text_signs) (p1 := x54_2) (r := y101) e5) [1, 2] rfl rfl (fun _ => rfl) (fun _ => rfl) rfl rfl rfl rfl (Nat.le_of_ble_eq_true rfl) hl.1 (by rw [hRf]; exact Nat.le_of_ble_eq_true rfl) (by rw [hRl]; exact Nat.le_of_ble_eq_true rfl) ⟨Nat.zero_le _, Nat.zero_le _⟩ dX10_wants_101 rfl (fun H locs _ hS => ?_)
              refine lv_bipush (v := 59) hx hb dX10_wants_104 (by decide) ?_
              refine lv_icmp_eq (tgt := 130) hx hb dX10_wants_106 (by decide) (fun c6 => ?_) (fun c6 => ?_)
              · have h := it_pos c6 h
                refine lv_iinc (v := (x54_2 + (1 : Int32))) (lv' := [(5, .int (x54_2 + (1 : Int32))), (6, .int y66), (0, .ref q0), (1, .int v_text_size), (3, .int x54_0), (4, .int x54_1)]) hx hb dX10_wants_130 hl (k := 5) rfl rfl (by decide) rfl (fun ls hl => ?_)
                refine lv_goto (tgt := 54) hx hb dX10_wants_133 (by decide) ?_
                exact ih54 x54_0 x54_1 (x54_2 + (1 : Int32)) x54_3 y54  H locs ls (hz54a _ (Option.some.inj h).symm) hS (lv_sub hl [2, 3, 4, 5, 0] rfl) hk54_0
              · have h := it_neg c6 h
                refine lv_aload_n hx hb dX10_wants_109 rfl (lv_at hl 1 rfl) ?_
                refine r_get E frX10_26 hS 0 rfl rfl dX10_wants_110 ?_
                refine lv_iload hx hb dX10_wants_113 (lv_at hl 4 rfl) ?_
                refine lv_aload_n hx hb dX10_wants_115 rfl (lv_at hl 1 rfl) ?_
                refine r_get E frX10_12 hS 0 rfl rfl dX10_wants_116 ?_
                refine lv_iload hx hb dX10_wants_119 (lv_at hl 5 rfl) ?_
                obtain ⟨y121, e7, h⟩ := bd_some h
                refine ct_V (ws' := fun _ => [oX10 q0 (.ref q1) u0_1 (.ref q3) u0_3 (.ref q5) u0_5 u0_6 u0_7 u0_8 u0_9 u0_10 u0_11 u0_12, oX9 q1 (.ref q2) (.int v_text_size), aC cy q2 80 v_text_signs, oX0 q3 u3_0 u3_1 u3_2 u3_3 (.ref q4) (.int v_folk_number) u3_6 u3_7, aI cy q4 7 x54_3, oX3 q5 u5_0 u5_1 (.ref q6) u5_3 (.int v_past_size), aZ cy q6 2 v_past_valid]) (st' := [.int y121, .int x54_1, .ref q3]) (rest := [.int x54_1, .ref q3]) E hS vlX10_134 (c_X9_at (l := l) (D := D) (cy := cy) (q0 := q1) (q1 := q2) (v_size := v_text_size) (v_signs := v_text_signs) (p1 := x54_2) (r := y121) e7) [1, 2] rfl rfl (fun _ => rfl) (fun _ => rfl) rfl rfl rfl rfl (Nat.le_of_ble_eq_true rfl) hl.1 (by rw [hRf]; exact Nat.le_of_ble_eq_true rfl) (by rw [hRl]; exact Nat.le_of_ble_eq_true rfl) ⟨Nat.zero_le _, Nat.zero_le _⟩ dX10_wants_121 rfl (fun H locs _ hS => ?_)
                refine lv_bipush (v := 97) hx hb dX10_wants_124 (by decide) ?_
                refine lv_isub hx hb dX10_wants_126 ?_
                obtain ⟨y127, e8, h⟩ := bd_some h
                refine ct_V (ws' := fun _ => [oX10 q0 (.ref q1) u0_1 (.ref q3) u0_3 (.ref q5) u0_5 u0_6 u0_7 u0_8 u0_9 u0_10 u0_11 u0_12, oX9 q1 (.ref q2) (.int v_text_size), aC cy q2 80 v_text_signs, oX0 q3 u3_0 u3_1 u3_2 u3_3 (.ref q4) (.int v_folk_number) u3_6 u3_7, aI cy q4 7 y127, oX3 q5 u5_0 u5_1 (.ref q6) u5_3 (.int v_past_size), aZ cy q6 2 v_past_valid]) (st' := []) (rest := []) E hS vlX10_138 (c_X0_wantsToo (l := l) (D := D) (cy := cy) (q0 := q3) (q1 := q4) (u0_0 := u3_0) (u0_1 := u3_1) (u0_2 := u3_2) (u0_3 := u3_3) (u0_6 := u3_6) (u0_7 := u3_7) (v_number := v_folk_number) (v_wanted := x54_3) (p1 := x54_1) (p2 := (y121 - (97 : Int32))) (r := y127) e8) [3, 4] rfl rfl (fun _ => rfl) (fun _ => rfl) rfl rfl rfl rfl (Nat.le_of_ble_eq_true rfl) hl.1 (by rw [hRf]; exact Nat.le_of_ble_eq_true rfl) (by rw [hRl]; exact Nat.le_of_ble_eq_true rfl) ⟨Nat.zero_le _, Nat.zero_le _⟩ dX10_wants_127 rfl (fun H locs _ hS => ?_)
                refine lv_iinc (v := (x54_2 + (1 : Int32))) (lv' := [(5, .int (x54_2 + (1 : Int32))), (6, .int y66), (0, .ref q0), (1, .int v_text_size), (3, .int x54_0), (4, .int x54_1)]) hx hb dX10_wants_130 hl (k := 5) rfl rfl (by decide) rfl (fun ls hl => ?_)
                refine lv_goto (tgt := 54) hx hb dX10_wants_133 (by decide) ?_
                exact ih54 x54_0 x54_1 (x54_2 + (1 : Int32)) y127 y54  H locs ls (hz54a _ (Option.some.inj h).symm) hS (lv_sub hl [2, 3, 4, 5, 0] rfl) hk54_0
            · have h := it_neg c4 h
              refine lv_iinc (v := (x54_0 + (1 : Int32))) (lv' := [(3, .int (x54_0 + (1 : Int32))), (6, .int y66), (0, .ref q0), (1, .int v_text_size), (4, .int x54_1), (5, .int x54_2)]) hx hb dX10_wants_76 hl (k := 3) rfl rfl (by decide) rfl (fun ls hl => ?_)
              refine lv_iload hx hb dX10_wants_79 (lv_at hl 1 rfl) ?_
              refine lv_istore (lv' := [(4, .int y66), (3, .int (x54_0 + (1 : Int32))), (6, .int y66), (0, .ref q0), (1, .int v_text_size), (5, .int x54_2)]) hx hb dX10_wants_81 hl (by decide) rfl (fun ls hl => ?_)
              refine lv_aload_n hx hb dX10_wants_83 rfl (lv_at hl 3 rfl) ?_
              refine r_get E frX10_26 hS 0 rfl rfl dX10_wants_84 ?_
              refine lv_iload hx hb dX10_wants_87 (lv_at hl 0 rfl) ?_
              obtain ⟨y89, e9, h⟩ := bd_some h
              refine ct_V (ws' := fun _ => [oX10 q0 (.ref q1) u0_1 (.ref q3) u0_3 (.ref q5) u0_5 u0_6 u0_7 u0_8 u0_9 u0_10 u0_11 u0_12, oX9 q1 (.ref q2) (.int v_text_size), aC cy q2 80 v_text_signs, oX0 q3 u3_0 u3_1 u3_2 u3_3 (.ref q4) (.int v_folk_number) u3_6 u3_7, aI cy q4 7 y89, oX3 q5 u5_0 u5_1 (.ref q6) u5_3 (.int v_past_size), aZ cy q6 2 v_past_valid]) (st' := []) (rest := []) E hS vlX10_130 (c_X0_wantsNobody (l := l) (D := D) (cy := cy) (q0 := q3) (q1 := q4) (u0_0 := u3_0) (u0_1 := u3_1) (u0_2 := u3_2) (u0_3 := u3_3) (u0_6 := u3_6) (u0_7 := u3_7) (v_number := v_folk_number) (v_wanted := x54_3) (p1 := y66) (r := y89) e9) [3, 4] rfl rfl (fun _ => rfl) (fun _ => rfl) rfl rfl rfl rfl (Nat.le_of_ble_eq_true rfl) hl.1 (by rw [hRf]; exact Nat.le_of_ble_eq_true rfl) (by rw [hRl]; exact Nat.le_of_ble_eq_true rfl) ⟨Nat.zero_le _, Nat.zero_le _⟩ dX10_wants_89 rfl (fun H locs _ hS => ?_)
              refine lv_goto (tgt := 130) hx hb dX10_wants_92 (by decide) ?_
              refine lv_iinc (v := (x54_2 + (1 : Int32))) (lv' := [(5, .int (x54_2 + (1 : Int32))), (4, .int y66), (3, .int (x54_0 + (1 : Int32))), (6, .int y66), (0, .ref q0), (1, .int v_text_size)]) hx hb dX10_wants_130 hl (k := 5) rfl rfl (by decide) rfl (fun ls hl => ?_)
              refine lv_goto (tgt := 54) hx hb dX10_wants_133 (by decide) ?_
              exact ih54 (x54_0 + (1 : Int32)) y66 (x54_2 + (1 : Int32)) y89 y54  H locs ls (hz54a _ (Option.some.inj h).symm) hS (lv_sub hl [4, 5, 2, 1, 0] rfl) hk54_0
      obtain ⟨y54, e54, h⟩ := bd_some h
      refine hL54 1000 (0 : Int32) (-1 : Int32) (0 : Int32) v_folk_wanted y54  H locs ls e54 hS (lv_sub hl [4, 5, 2, 1, 0] rfl) (fun y54_0 y54_1 ey54 H locs ls hS hl => ?_)
      subst ey54
      have h := un_r h
      refine lv_iload_n hx hb dX10_wants_136 rfl (lv_at hl 1 rfl) ?_
      have hJ147 : ∀ (j147_v_past_size : Int32) (j147_v_past_valid : Nat → Int32) (H : Heap) (locs : List Loc) (ls : Array Slot), X10_wants_k147 y54_0 y54_1 j147_v_past_size j147_v_past_valid = some r → Sv D A s.heap [oX10 q0 (.ref q1) u0_1 (.ref q3) u0_3 (.ref q5) u0_5 u0_6 u0_7 u0_8 u0_9 u0_10 u0_11 u0_12, oX9 q1 (.ref q2) (.int v_text_size), aC cy q2 80 v_text_signs, oX0 q3 u3_0 u3_1 u3_2 u3_3 (.ref q4) (.int v_folk_number) u3_6 u3_7, aI cy q4 7 y54_1, oX3 q5 u5_0 u5_1 (.ref q6) u5_3 (.int j147_v_past_size), aZ cy q6 2 j147_v_past_valid] H locs → lv_has ls 7 [(0, .ref q0), (3, .int y54_0)] → W p l e R s m args below meth c H locs 0 0 Q (F0 m 147 ls []) := by
        intro j147_v_past_size j147_v_past_valid H locs ls h hS hl
        unfold X10_wants_k147 at h
        refine lv_aload_n hx hb dX10_wants_147 rfl (lv_at hl 0 rfl) ?_
        refine r_get E frX10_12 hS 0 rfl rfl dX10_wants_148 ?_
        refine ct_V (ws' := fun _ => [oX10 q0 (.ref q1) u0_1 (.ref q3) u0_3 (.ref q5) u0_5 u0_6 u0_7 u0_8 u0_9 u0_10 u0_11 u0_12, oX9 q1 (.ref q2) (.int X9_empties), aC cy q2 80 v_text_signs, oX0 q3 u3_0 u3_1 u3_2 u3_3 (.ref q4) (.int v_folk_number) u3_6 u3_7, aI cy q4 7 y54_1, oX3 q5 u5_0 u5_1 (.ref q6) u5_3 (.int j147_v_past_size), aZ cy q6 2 j147_v_past_valid]) (st' := []) (rest := []) E hS vlX10_114 (c_X9_empties (l := l) (D := D) (cy := cy) (q0 := q1) (u0_0 := .ref q2) (v_size := v_text_size) (r := X9_empties) rfl) [1] rfl rfl (fun _ => rfl) (fun _ => rfl) rfl rfl rfl rfl (Nat.le_of_ble_eq_true rfl) hl.1 (by rw [hRf]; exact Nat.le_of_ble_eq_true rfl) (by rw [hRl]; exact Nat.le_of_ble_eq_true rfl) ⟨Nat.zero_le _, Nat.zero_le _⟩ dX10_wants_151 rfl (fun H locs _ hS => ?_)
        refine lv_iload_n hx hb dX10_wants_154 rfl (lv_at hl 1 rfl) ?_
        obtain rfl := Option.some.inj h
        exact rt_i E hQ (.null) hS dX10_wants_155
      refine lv_if_le (tgt := 147) hx hb dX10_wants_137 (by decide) (fun c10 => ?_) (fun c10 => ?_)
      · have h := it_pos c10 h
        exact hJ147 v_past_size v_past_valid  H locs ls h hS (lv_sub hl [0, 1] rfl)
      · have h := it_neg c10 h
        refine lv_aload_n hx hb dX10_wants_140 rfl (lv_at hl 0 rfl) ?_
        refine r_get E frX10_36 hS 0 rfl rfl dX10_wants_141 ?_
        obtain ⟨y144, e11, h⟩ := bd_some h
        refine ct_V (ws' := fun _ => [oX10 q0 (.ref q1) u0_1 (.ref q3) u0_3 (.ref q5) u0_5 u0_6 u0_7 u0_8 u0_9 u0_10 u0_11 u0_12, oX9 q1 (.ref q2) (.int v_text_size), aC cy q2 80 v_text_signs, oX0 q3 u3_0 u3_1 u3_2 u3_3 (.ref q4) (.int v_folk_number) u3_6 u3_7, aI cy q4 7 y54_1, oX3 q5 u5_0 u5_1 (.ref q6) u5_3 (.int y144.1), aZ cy q6 2 y144.2]) (st' := []) (rest := []) E hS vlX10_124 (c_X3_forgetsAll (l := l) (D := D) (cy := cy) (q0 := q5) (q1 := q6) (u0_0 := u5_0) (u0_1 := u5_1) (u0_3 := u5_3) (v_size := v_past_size) (v_valid := v_past_valid) (r := y144) e11) [5, 6] rfl rfl (fun _ => rfl) (fun _ => rfl) rfl rfl rfl rfl (Nat.le_of_ble_eq_true rfl) hl.1 (by rw [hRf]; exact Nat.le_of_ble_eq_true rfl) (by rw [hRl]; exact Nat.le_of_ble_eq_true rfl) ⟨Nat.zero_le _, Nat.zero_le _⟩ dX10_wants_144 rfl (fun H locs _ hS => ?_)
        exact hJ147 y144.1 y144.2  H locs ls h hS (lv_sub hl [0, 1] rfl)
    · have h := it_neg c1 h
      refine lv_aload_n hx hb dX10_wants_35 rfl (lv_at hl 1 rfl) ?_
      refine r_get E frX10_12 hS 0 rfl rfl dX10_wants_36 ?_
      refine ct_V (ws' := fun _ => [oX10 q0 (.ref q1) u0_1 (.ref q3) u0_3 (.ref q5) u0_5 u0_6 u0_7 u0_8 u0_9 u0_10 u0_11 u0_12, oX9 q1 (.ref q2) (.int X9_empties), aC cy q2 80 v_text_signs, oX0 q3 u3_0 u3_1 u3_2 u3_3 (.ref q4) (.int v_folk_number) u3_6 u3_7, aI cy q4 7 v_folk_wanted, oX3 q5 u5_0 u5_1 (.ref q6) u5_3 (.int v_past_size), aZ cy q6 2 v_past_valid]) (st' := []) (rest := []) E hS vlX10_114 (c_X9_empties (l := l) (D := D) (cy := cy) (q0 := q1) (u0_0 := .ref q2) (v_size := v_text_size) (r := X9_empties) rfl) [1] rfl rfl (fun _ => rfl) (fun _ => rfl) rfl rfl rfl rfl (Nat.le_of_ble_eq_true rfl) hl.1 (by rw [hRf]; exact Nat.le_of_ble_eq_true rfl) (by rw [hRl]; exact Nat.le_of_ble_eq_true rfl) ⟨Nat.zero_le _, Nat.zero_le _⟩ dX10_wants_39 rfl (fun H locs _ hS => ?_)
      refine lv_iconst (v := -1) hx hb dX10_wants_42 (by decide) ?_
      refine lv_iload_n hx hb dX10_wants_43 rfl (lv_at hl 0 rfl) ?_
      refine lv_isub hx hb dX10_wants_44 ?_
      obtain rfl := Option.some.inj h
      exact rt_i E hQ (.null) hS dX10_wants_45
  refine lv_if_ne (tgt := 16) hx hb dX10_wants_9 (by decide) (fun c12 => ?_) (fun c12 => ?_)
  · have h := it_neg c12 h
    refine lv_aload_n hx hb dX10_wants_16 rfl (lv_at hl 1 rfl) ?_
    refine r_get E frX10_12 hS 0 rfl rfl dX10_wants_17 ?_
    refine lv_aload_n hx hb dX10_wants_20 rfl (lv_at hl 1 rfl) ?_
    refine r_get E frX10_26 hS 0 rfl rfl dX10_wants_21 ?_
    refine r_get E frX10_107 hS 3 rfl rfl dX10_wants_24 ?_
    obtain ⟨y27, e13, h⟩ := bd_some h
    refine ct_V (ws' := fun _ => [oX10 q0 (.ref q1) u0_1 (.ref q3) u0_3 (.ref q5) u0_5 u0_6 u0_7 u0_8 u0_9 u0_10 u0_11 u0_12, oX9 q1 (.ref q2) (.int v_text_size), aC cy q2 80 v_text_signs, oX0 q3 u3_0 u3_1 u3_2 u3_3 (.ref q4) (.int v_folk_number) u3_6 u3_7, aI cy q4 7 v_folk_wanted, oX3 q5 u5_0 u5_1 (.ref q6) u5_3 (.int v_past_size), aZ cy q6 2 v_past_valid]) (st' := [.int y27]) (rest := []) E hS vlX10_127 (c_X9_wantsFault (l := l) (D := D) (cy := cy) (q0 := q1) (q1 := q2) (v_size := v_text_size) (v_signs := v_text_signs) (p1 := v_folk_number) (r := y27) e13) [1, 2] rfl rfl (fun _ => rfl) (fun _ => rfl) rfl rfl rfl rfl (Nat.le_of_ble_eq_true rfl) hl.1 (by rw [hRf]; exact Nat.le_of_ble_eq_true rfl) (by rw [hRl]; exact Nat.le_of_ble_eq_true rfl) ⟨Nat.zero_le _, Nat.zero_le _⟩ dX10_wants_27 rfl (fun H locs _ hS => ?_)
    exact hJ30 y27  H locs ls h hS (lv_sub hl [1, 0] rfl)
  · have h := it_pos c12 h
    refine lv_iconst (v := -1) hx hb dX10_wants_12 (by decide) ?_
    refine lv_goto (tgt := 30) hx hb dX10_wants_13 (by decide) ?_
    exact hJ30 (-1 : Int32)  H locs ls h hS (lv_sub hl [1, 0] rfl)

