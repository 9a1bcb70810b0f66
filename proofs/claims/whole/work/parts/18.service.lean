set_option maxHeartbeats 4000000 in
set_option maxRecDepth 100000 in
theorem c_X7_mostFrom {l : Launch} {D : va_G} {cy : Nat → ClassId} (q0 : Nat) (q1 : Nat) (v_most : Nat → Int32) (p1 : Int32) (p2 : Int32) (r : Int32) (h : X7_mostFrom v_most p1 p2 = some r) : Ct l yX7_mostFrom cX7_mostFrom 4 (some .int) 0 0 D cy [.ref q0, .int p1, .int p2] [oX7 q0 (.ref q1), aI cy q1 1024 v_most] (fun _ => [oX7 q0 (.ref q1), aI cy q1 1024 v_most]) (some (.int r)) := by
  refine Ct.mk kX7_mostFrom (by decide +kernel) (Nat.le_of_ble_eq_true rfl) ?_
  intro p e s m below meth c A ls args R Q hRf hRl hQ E H locs hS hl
  have hx := E.x
  have hb := E.b
  have hl : lv_has ls 4 [(0, .ref q0), (1, .int p1), (2, .int p2)] := hl
  unfold X7_mostFrom at h
  refine lv_iload_n hx hb dX7_mostFrom_0 rfl (lv_at hl 1 rfl) ?_
  refine lv_sipush (v := 128) hx hb dX7_mostFrom_1 (by decide) ?_
  refine lv_imul hx hb dX7_mostFrom_4 ?_
  refine lv_iload_n hx hb dX7_mostFrom_5 rfl (lv_at hl 2 rfl) ?_
  refine lv_iadd hx hb dX7_mostFrom_6 ?_
  refine lv_istore_n (lv' := [(3, .int ((p1 * (128 : Int32)) + p2)), (0, .ref q0), (1, .int p1), (2, .int p2)]) hx hb dX7_mostFrom_7 rfl hl (by decide) rfl (fun ls hl => ?_)
  refine lv_iload_n hx hb dX7_mostFrom_8 rfl (lv_at hl 0 rfl) ?_
  refine lv_if_lt (tgt := 30) hx hb dX7_mostFrom_9 (by decide) (fun c1 => ?_) (fun c1 => ?_)
  · have h := it_pos c1 h
    refine lv_iconst (v := 0) hx hb dX7_mostFrom_30 (by decide) ?_
    obtain rfl := Option.some.inj h
    exact rt_i E hQ (.null) hS dX7_mostFrom_31
  · have h := it_neg c1 h
    refine lv_iload_n hx hb dX7_mostFrom_12 rfl (lv_at hl 0 rfl) ?_
    refine lv_aload_n hx hb dX7_mostFrom_13 rfl (lv_at hl 1 rfl) ?_
    refine r_get E frX7_9 hS 0 rfl rfl dX7_mostFrom_14 ?_
    refine r_alen (v := (1024 : Int32)) E hS 1 2 rfl rfl rfl dX7_mostFrom_17 ?_
    refine lv_icmp_ge (tgt := 30) hx hb dX7_mostFrom_18 (by decide) (fun c2 => ?_) (fun c2 => ?_)
    · have h := it_pos c2 h
      refine lv_iconst (v := 0) hx hb dX7_mostFrom_30 (by decide) ?_
      obtain rfl := Option.some.inj h
      exact rt_i E hQ (.null) hS dX7_mostFrom_31
    · have h := it_neg c2 h
      refine lv_aload_n hx hb dX7_mostFrom_21 rfl (lv_at hl 1 rfl) ?_
      refine r_get E frX7_9 hS 0 rfl rfl dX7_mostFrom_22 ?_
      refine lv_iload_n hx hb dX7_mostFrom_25 rfl (lv_at hl 0 rfl) ?_
      obtain ⟨g3, h⟩ := gi_some h
      refine r_iald E hS 1 rfl g3 dX7_mostFrom_26 ?_
      refine lv_goto (tgt := 31) hx hb dX7_mostFrom_27 (by decide) ?_
      obtain rfl := Option.some.inj h
      exact rt_i E hQ (.null) hS dX7_mostFrom_31
set_option maxHeartbeats 4000000 in
set_option maxRecDepth 100000 in
theorem c_X7_best {l : Launch} {D : va_G} {cy : Nat → ClassId} (q0 : Nat) (q1 : Nat) (v_most : Nat → Int32) (p1 : Int32) (p2 : Int32) (p3 : Int32) (r : Int32) (h : X7_best v_most p1 p2 p3 = some r) : Ct l yX7_best cX7_best 6 (some .int) 1 23 D cy [.ref q0, .int p1, .int p2, .int p3] [oX7 q0 (.ref q1), aI cy q1 1024 v_most] (fun _ => [oX7 q0 (.ref q1), aI cy q1 1024 v_most]) (some (.int r)) := by
  refine Ct.mk kX7_best (by decide +kernel) (Nat.le_of_ble_eq_true rfl) ?_
  intro p e s m below meth c A ls args R Q hRf hRl hQ E H locs hS hl
  have hx := E.x
  have hb := E.b
  have hl : lv_has ls 6 [(0, .ref q0), (1, .int p1), (2, .int p2), (3, .int p3)] := hl
  unfold X7_best at h
  refine lv_aload_n hx hb dX7_best_0 rfl (lv_at hl 0 rfl) ?_
  refine lv_iload_n hx hb dX7_best_1 rfl (lv_at hl 1 rfl) ?_
  refine lv_iconst (v := 1) hx hb dX7_best_2 (by decide) ?_
  refine lv_iadd hx hb dX7_best_3 ?_
  refine lv_iload_n hx hb dX7_best_4 rfl (lv_at hl 3 rfl) ?_
  obtain ⟨y5, e1, h⟩ := bd_some h
  refine ct_V (ws' := fun _ => [oX7 q0 (.ref q1), aI cy q1 1024 v_most]) (st' := [.int y5]) (rest := []) E hS vlX7_41 (c_X7_mostFrom (l := l) (D := D) (cy := cy) (q0 := q0) (q1 := q1) (v_most := v_most) (p1 := (p1 + (1 : Int32))) (p2 := p3) (r := y5) e1) [0, 1] rfl rfl (fun _ => rfl) (fun _ => rfl) rfl rfl rfl rfl (Nat.le_of_ble_eq_true rfl) hl.1 (by rw [hRf]; exact Nat.le_of_ble_eq_true rfl) (by rw [hRl]; exact Nat.le_of_ble_eq_true rfl) ⟨Nat.zero_le _, Nat.zero_le _⟩ dX7_best_5 rfl (fun H locs _ hS => ?_)
  refine lv_istore (lv' := [(4, .int y5), (0, .ref q0), (1, .int p1), (2, .int p2), (3, .int p3)]) hx hb dX7_best_8 hl (by decide) rfl (fun ls hl => ?_)
  refine lv_iconst (v := 0) hx hb dX7_best_10 (by decide) ?_
  refine lv_istore (lv' := [(5, .int (0 : Int32)), (4, .int y5), (0, .ref q0), (1, .int p1), (2, .int p2), (3, .int p3)]) hx hb dX7_best_11 hl (by decide) rfl (fun ls hl => ?_)
  have hL13 : ∀ (n : Nat) (x13_0 : Int32) (x13_1 : Int32) (y13 : Int32) (H : Heap) (locs : List Loc) (ls : Array Slot), lp (fun x13 => X7_best_s13 v_most p1 p2 p3 x13.1 x13.2) n (x13_0, x13_1) = some y13 → Sv D A s.heap [oX7 q0 (.ref q1), aI cy q1 1024 v_most] H locs → lv_has ls 6 [(0, .ref q0), (1, .int p1), (2, .int p2), (3, .int p3), (4, .int x13_0), (5, .int x13_1)] → ( ∀ (y13_0 : Int32), y13_0 = y13 → ∀ (H : Heap) (locs : List Loc) (ls : Array Slot), Sv D A s.heap [oX7 q0 (.ref q1), aI cy q1 1024 v_most] H locs → lv_has ls 6 [(4, .int y13_0)] → W p l e R s m args below meth c H locs 0 0 Q (F0 m 57 ls [])) → W p l e R s m args below meth c H locs 0 0 Q (F0 m 13 ls []) := by
    intro n
    induction n with
    | zero =>
      intro x13_0 x13_1 y13 H locs ls h
      exact lp_zero h
    | succ n ih13 =>
      intro x13_0 x13_1 y13 H locs ls h hS hl hk13_0
      obtain ⟨z13, h, hz13a, hz13b⟩ := lp_succ h
      have h : X7_best_s13 v_most p1 p2 p3 x13_0 x13_1 = some z13 := h
      unfold X7_best_s13 at h
      refine lv_iload hx hb dX7_best_13 (lv_at hl 5 rfl) ?_
      refine lv_bipush (v := 7) hx hb dX7_best_15 (by decide) ?_
      refine lv_icmp_ge (tgt := 57) hx hb dX7_best_17 (by decide) (fun c2 => ?_) (fun c2 => ?_)
      · have h := it_pos c2 h
        exact hk13_0 x13_0 (hz13b _ (Option.some.inj h).symm)  H locs ls hS (lv_sub hl [4] rfl)
      · have h := it_neg c2 h
        refine lv_iload_n hx hb dX7_best_20 rfl (lv_at hl 2 rfl) ?_
        refine lv_iload hx hb dX7_best_21 (lv_at hl 5 rfl) ?_
        refine lv_ishr hx hb dX7_best_23 ?_
        refine lv_iconst (v := 1) hx hb dX7_best_24 (by decide) ?_
        refine lv_iand hx hb dX7_best_25 ?_
        refine lv_if_eq (tgt := 51) hx hb dX7_best_26 (by decide) (fun c3 => ?_) (fun c3 => ?_)
        · have h := it_pos c3 h
          refine lv_iinc (v := (x13_1 + (1 : Int32))) (lv' := [(5, .int (x13_1 + (1 : Int32))), (0, .ref q0), (1, .int p1), (2, .int p2), (3, .int p3), (4, .int x13_0)]) hx hb dX7_best_51 hl (k := 5) rfl rfl (by decide) rfl (fun ls hl => ?_)
          refine lv_goto (tgt := 13) hx hb dX7_best_54 (by decide) ?_
          exact ih13 x13_0 (x13_1 + (1 : Int32)) y13  H locs ls (hz13a _ (Option.some.inj h).symm) hS (lv_sub hl [1, 2, 3, 4, 5, 0] rfl) hk13_0
        · have h := it_neg c3 h
          refine lv_iload hx hb dX7_best_29 (lv_at hl 4 rfl) ?_
          refine lv_iconst (v := 1) hx hb dX7_best_31 (by decide) ?_
          refine lv_aload_n hx hb dX7_best_32 rfl (lv_at hl 0 rfl) ?_
          refine lv_iload_n hx hb dX7_best_33 rfl (lv_at hl 1 rfl) ?_
          refine lv_iconst (v := 1) hx hb dX7_best_34 (by decide) ?_
          refine lv_iadd hx hb dX7_best_35 ?_
          refine lv_iload_n hx hb dX7_best_36 rfl (lv_at hl 3 rfl) ?_
          refine lv_iconst (v := 1) hx hb dX7_best_37 (by decide) ?_
          refine lv_iload hx hb dX7_best_38 (lv_at hl 5 rfl) ?_
          refine lv_ishl hx hb dX7_best_40 ?_
          refine lv_ior hx hb dX7_best_41 ?_
          obtain ⟨y42, e4, h⟩ := bd_some h
          refine ct_V (ws' := fun _ => [oX7 q0 (.ref q1), aI cy q1 1024 v_most]) (st' := [.int y42, .int (1 : Int32), .int x13_0]) (rest := [.int (1 : Int32), .int x13_0]) E hS vlX7_41 (c_X7_mostFrom (l := l) (D := D) (cy := cy) (q0 := q0) (q1 := q1) (v_most := v_most) (p1 := (p1 + (1 : Int32))) (p2 := (p3 ||| ((1 : Int32) <<< (x13_1 &&& 31)))) (r := y42) e4) [0, 1] rfl rfl (fun _ => rfl) (fun _ => rfl) rfl rfl rfl rfl (Nat.le_of_ble_eq_true rfl) hl.1 (by rw [hRf]; exact Nat.le_of_ble_eq_true rfl) (by rw [hRl]; exact Nat.le_of_ble_eq_true rfl) ⟨Nat.zero_le _, Nat.zero_le _⟩ dX7_best_42 rfl (fun H locs _ hS => ?_)
          refine lv_iadd hx hb dX7_best_45 ?_
          refine ct_S (ws' := fun _ => [oX7 q0 (.ref q1), aI cy q1 1024 v_most]) (st' := [.int (J9_max_7cf53 x13_0 ((1 : Int32) + y42))]) (rest := []) E hS slX7_52 (c_J9_max_7cf53 (l := l) (D := D) (cy := cy) (p0 := x13_0) (p1 := ((1 : Int32) + y42)) (r := (J9_max_7cf53 x13_0 ((1 : Int32) + y42))) rfl) [] rfl rfl (fun _ => rfl) (fun _ => rfl) rfl rfl (Nat.le_of_ble_eq_true rfl) hl.1 (by rw [hRf]; exact Nat.le_of_ble_eq_true rfl) (by rw [hRl]; exact Nat.le_of_ble_eq_true rfl) ⟨Nat.zero_le _, Nat.zero_le _⟩ dX7_best_46 rfl (fun H locs _ hS => ?_)
          refine lv_istore (lv' := [(4, .int (J9_max_7cf53 x13_0 ((1 : Int32) + y42))), (0, .ref q0), (1, .int p1), (2, .int p2), (3, .int p3), (5, .int x13_1)]) hx hb dX7_best_49 hl (by decide) rfl (fun ls hl => ?_)
          refine lv_iinc (v := (x13_1 + (1 : Int32))) (lv' := [(5, .int (x13_1 + (1 : Int32))), (4, .int (J9_max_7cf53 x13_0 ((1 : Int32) + y42))), (0, .ref q0), (1, .int p1), (2, .int p2), (3, .int p3)]) hx hb dX7_best_51 hl (k := 5) rfl rfl (by decide) rfl (fun ls hl => ?_)
          refine lv_goto (tgt := 13) hx hb dX7_best_54 (by decide) ?_
          exact ih13 (J9_max_7cf53 x13_0 ((1 : Int32) + y42)) (x13_1 + (1 : Int32)) y13  H locs ls (hz13a _ (Option.some.inj h).symm) hS (lv_sub hl [2, 3, 4, 5, 1, 0] rfl) hk13_0
  obtain ⟨y13, e13, h⟩ := bd_some h
  refine hL13 1000 y5 (0 : Int32) y13  H locs ls e13 hS (lv_sub hl [2, 3, 4, 5, 1, 0] rfl) (fun y13_0 ey13 H locs ls hS hl => ?_)
  subst ey13
  refine lv_iload hx hb dX7_best_57 (lv_at hl 0 rfl) ?_
  obtain rfl := Option.some.inj h
  exact rt_i E hQ (.null) hS dX7_best_59
set_option maxHeartbeats 4000000 in
set_option maxRecDepth 100000 in
theorem c_X7_reckons {l : Launch} {D : va_G} {cy : Nat → ClassId} (q0 : Nat) (q1 : Nat) (q2 : Nat) (q3 : Nat) (u2_0 : Value) (u2_1 : Value) (u2_2 : Value) (u2_3 : Value) (u2_6 : Value) (u2_7 : Value) (v_most : Nat → Int32) (w1_number : Int32) (w1_wanted : Nat → Int32) (p2 : Int32) (r : (Nat → Int32)) (h : X7_reckons v_most w1_number w1_wanted p2 = some r) : Ct l yX7_reckons cX7_reckons 7 none 2 48 D cy [.ref q0, .ref q2, .int p2] [oX7 q0 (.ref q1), aI cy q1 1024 v_most, oX0 q2 u2_0 u2_1 u2_2 u2_3 (.ref q3) (.int w1_number) u2_6 u2_7, aI cy q3 7 w1_wanted] (fun _ => [oX7 q0 (.ref q1), aI cy q1 1024 r, oX0 q2 u2_0 u2_1 u2_2 u2_3 (.ref q3) (.int w1_number) u2_6 u2_7, aI cy q3 7 w1_wanted]) (none) := by
  refine Ct.mk kX7_reckons (by decide +kernel) (Nat.le_of_ble_eq_true rfl) ?_
  intro p e s m below meth c A ls args R Q hRf hRl hQ E H locs hS hl
  have hx := E.x
  have hb := E.b
  have hl : lv_has ls 7 [(0, .ref q0), (1, .ref q2), (2, .int p2)] := hl
  unfold X7_reckons at h
  refine lv_aload_n hx hb dX7_reckons_0 rfl (lv_at hl 1 rfl) ?_
  refine ct_V (ws' := fun _ => [oX7 q0 (.ref q1), aI cy q1 1024 v_most, oX0 q2 u2_0 u2_1 u2_2 u2_3 (.ref q3) (.int w1_number) u2_6 u2_7, aI cy q3 7 w1_wanted]) (st' := [.int (X0_everybody w1_number)]) (rest := []) E hS vlX7_45 (c_X0_everybody (l := l) (D := D) (cy := cy) (q0 := q2) (u0_0 := u2_0) (u0_1 := u2_1) (u0_2 := u2_2) (u0_3 := u2_3) (u0_4 := .ref q3) (u0_6 := u2_6) (u0_7 := u2_7) (v_number := w1_number) (r := (X0_everybody w1_number)) rfl) [2] rfl rfl (fun _ => rfl) (fun _ => rfl) rfl rfl rfl rfl (Nat.le_of_ble_eq_true rfl) hl.1 (by rw [hRf]; exact Nat.le_of_ble_eq_true rfl) (by rw [hRl]; exact Nat.le_of_ble_eq_true rfl) ⟨Nat.zero_le _, Nat.zero_le _⟩ dX7_reckons_1 rfl (fun H locs _ hS => ?_)
  refine lv_iconst (v := 1) hx hb dX7_reckons_4 (by decide) ?_
  refine lv_iadd hx hb dX7_reckons_5 ?_
  refine lv_istore_n (lv' := [(3, .int ((X0_everybody w1_number) + (1 : Int32))), (0, .ref q0), (1, .ref q2), (2, .int p2)]) hx hb dX7_reckons_6 rfl hl (by decide) rfl (fun ls hl => ?_)
  refine lv_aload_n hx hb dX7_reckons_7 rfl (lv_at hl 2 rfl) ?_
  refine r_get E frX7_24 hS 2 rfl rfl dX7_reckons_8 ?_
  refine lv_istore (lv' := [(4, .int w1_number), (3, .int ((X0_everybody w1_number) + (1 : Int32))), (0, .ref q0), (1, .ref q2), (2, .int p2)]) hx hb dX7_reckons_11 hl (by decide) rfl (fun ls hl => ?_)
  have hL13 : ∀ (n : Nat) (x13_0 : Int32) (x13_1 : Nat → Int32) (y13 : (Nat → Int32)) (H : Heap) (locs : List Loc) (ls : Array Slot), lp (fun x13 => X7_reckons_s13 w1_number w1_wanted p2 x13.1 x13.2) n (x13_0, x13_1) = some y13 → Sv D A s.heap [oX7 q0 (.ref q1), aI cy q1 1024 x13_1, oX0 q2 u2_0 u2_1 u2_2 u2_3 (.ref q3) (.int w1_number) u2_6 u2_7, aI cy q3 7 w1_wanted] H locs → lv_has ls 7 [(0, .ref q0), (1, .ref q2), (2, .int p2), (3, .int ((X0_everybody w1_number) + (1 : Int32))), (4, .int x13_0)] → ( ∀ (y13_0 : Nat → Int32), y13_0 = y13 → ∀ (H : Heap) (locs : List Loc) (ls : Array Slot), Sv D A s.heap [oX7 q0 (.ref q1), aI cy q1 1024 y13_0, oX0 q2 u2_0 u2_1 u2_2 u2_3 (.ref q3) (.int w1_number) u2_6 u2_7, aI cy q3 7 w1_wanted] H locs → lv_has ls 7 [] → W p l e R s m args below meth c H locs 0 0 Q (F0 m 105 ls [])) → W p l e R s m args below meth c H locs 0 0 Q (F0 m 13 ls []) := by
    intro n
    induction n with
    | zero =>
      intro x13_0 x13_1 y13 H locs ls h
      exact lp_zero h
    | succ n ih13 =>
      intro x13_0 x13_1 y13 H locs ls h hS hl hk13_0
      obtain ⟨z13, h, hz13a, hz13b⟩ := lp_succ h
      have h : X7_reckons_s13 w1_number w1_wanted p2 x13_0 x13_1 = some z13 := h
      unfold X7_reckons_s13 at h
      refine lv_iload hx hb dX7_reckons_13 (lv_at hl 4 rfl) ?_
      refine lv_if_lt (tgt := 105) hx hb dX7_reckons_15 (by decide) (fun c1 => ?_) (fun c1 => ?_)
      · have h := it_pos c1 h
        exact hk13_0 x13_1 (hz13b _ (Option.some.inj h).symm)  H locs ls hS (lv_sub hl [] rfl)
      · have h := it_neg c1 h
        refine lv_iconst (v := 0) hx hb dX7_reckons_18 (by decide) ?_
        refine lv_istore (lv' := [(5, .int (0 : Int32)), (0, .ref q0), (1, .ref q2), (2, .int p2), (3, .int ((X0_everybody w1_number) + (1 : Int32))), (4, .int x13_0)]) hx hb dX7_reckons_19 hl (by decide) rfl (fun ls hl => ?_)
        have hL21 : ∀ (n : Nat) (x21_0 : Int32) (x21_1 : Nat → Int32) (y21 : (Nat → Int32)) (H : Heap) (locs : List Loc) (ls : Array Slot), lp (fun x21 => X7_reckons_s21 w1_number w1_wanted p2 x13_0 x21.1 x21.2) n (x21_0, x21_1) = some y21 → Sv D A s.heap [oX7 q0 (.ref q1), aI cy q1 1024 x21_1, oX0 q2 u2_0 u2_1 u2_2 u2_3 (.ref q3) (.int w1_number) u2_6 u2_7, aI cy q3 7 w1_wanted] H locs → lv_has ls 7 [(0, .ref q0), (1, .ref q2), (2, .int p2), (3, .int ((X0_everybody w1_number) + (1 : Int32))), (4, .int x13_0), (5, .int x21_0)] → ( ∀ (y21_0 : Nat → Int32), y21_0 = y21 → ∀ (H : Heap) (locs : List Loc) (ls : Array Slot), Sv D A s.heap [oX7 q0 (.ref q1), aI cy q1 1024 y21_0, oX0 q2 u2_0 u2_1 u2_2 u2_3 (.ref q3) (.int w1_number) u2_6 u2_7, aI cy q3 7 w1_wanted] H locs → lv_has ls 7 [(0, .ref q0), (1, .ref q2), (2, .int p2), (3, .int ((X0_everybody w1_number) + (1 : Int32))), (4, .int x13_0)] → W p l e R s m args below meth c H locs 0 0 Q (F0 m 99 ls [])) → W p l e R s m args below meth c H locs 0 0 Q (F0 m 21 ls []) := by
          intro n
          induction n with
          | zero =>
            intro x21_0 x21_1 y21 H locs ls h
            exact lp_zero h
          | succ n ih21 =>
            intro x21_0 x21_1 y21 H locs ls h hS hl hk21_0
            obtain ⟨z21, h, hz21a, hz21b⟩ := lp_succ h
            have h : X7_reckons_s21 w1_number w1_wanted p2 x13_0 x21_0 x21_1 = some z21 := h
            unfold X7_reckons_s21 at h
            refine lv_iload hx hb dX7_reckons_21 (lv_at hl 5 rfl) ?_
            refine lv_iload_n hx hb dX7_reckons_23 rfl (lv_at hl 3 rfl) ?_
            refine lv_icmp_ge (tgt := 99) hx hb dX7_reckons_24 (by decide) (fun c2 => ?_) (fun c2 => ?_)
            · have h := it_pos c2 h
              exact hk21_0 x21_1 (hz21b _ (Option.some.inj h).symm)  H locs ls hS (lv_sub hl [0, 1, 2, 3, 4] rfl)
            · have h := it_neg c2 h
              refine lv_iload hx hb dX7_reckons_27 (lv_at hl 4 rfl) ?_
              refine lv_aload_n hx hb dX7_reckons_29 rfl (lv_at hl 1 rfl) ?_
              refine r_get E frX7_24 hS 2 rfl rfl dX7_reckons_30 ?_
              have hJ54 : ∀ (j54_t0 : Int32) (H : Heap) (locs : List Loc) (ls : Array Slot), X7_reckons_k54 w1_number x13_0 x21_0 x21_1 j54_t0 = some z21 → Sv D A s.heap [oX7 q0 (.ref q1), aI cy q1 1024 x21_1, oX0 q2 u2_0 u2_1 u2_2 u2_3 (.ref q3) (.int w1_number) u2_6 u2_7, aI cy q3 7 w1_wanted] H locs → lv_has ls 7 [(0, .ref q0), (1, .ref q2), (2, .int p2), (3, .int ((X0_everybody w1_number) + (1 : Int32))), (4, .int x13_0), (5, .int x21_0)] → W p l e R s m args below meth c H locs 0 0 Q (F0 m 54 ls [.int j54_t0]) := by
                intro j54_t0 H locs ls h hS hl
                unfold X7_reckons_k54 at h
                refine lv_istore (lv' := [(6, .int j54_t0), (0, .ref q0), (1, .ref q2), (2, .int p2), (3, .int ((X0_everybody w1_number) + (1 : Int32))), (4, .int x13_0), (5, .int x21_0)]) hx hb dX7_reckons_54 hl (by decide) rfl (fun ls hl => ?_)
                refine lv_aload_n hx hb dX7_reckons_56 rfl (lv_at hl 1 rfl) ?_
                refine r_get E frX7_9 hS 0 rfl rfl dX7_reckons_57 ?_
                refine lv_iload hx hb dX7_reckons_60 (lv_at hl 5 rfl) ?_
                refine lv_sipush (v := 128) hx hb dX7_reckons_62 (by decide) ?_
                refine lv_imul hx hb dX7_reckons_65 ?_
                refine lv_iload hx hb dX7_reckons_66 (lv_at hl 6 rfl) ?_
                refine lv_iadd hx hb dX7_reckons_68 ?_
                refine lv_iload hx hb dX7_reckons_69 (lv_at hl 5 rfl) ?_
                refine lv_aload_n hx hb dX7_reckons_71 rfl (lv_at hl 2 rfl) ?_
                refine r_get E frX7_24 hS 2 rfl rfl dX7_reckons_72 ?_
                refine lv_icmp_ge (tgt := 91) hx hb dX7_reckons_75 (by decide) (fun c3 => ?_) (fun c3 => ?_)
                · have h := it_pos c3 h
                  refine lv_iconst (v := 0) hx hb dX7_reckons_91 (by decide) ?_
                  obtain ⟨g4, h⟩ := gi_some h
                  refine r_iast (ws' := [oX7 q0 (.ref q1), aI cy q1 1024 (upd x21_1 ((x13_0 * (128 : Int32)) + x21_0).toNatClampNeg (0 : Int32)), oX0 q2 u2_0 u2_1 u2_2 u2_3 (.ref q3) (.int w1_number) u2_6 u2_7, aI cy q3 7 w1_wanted]) E hS 1 rfl g4 rfl dX7_reckons_92 (fun H locs hS => ?_)
                  refine lv_iinc (v := (x21_0 + (1 : Int32))) (lv' := [(5, .int (x21_0 + (1 : Int32))), (6, .int j54_t0), (0, .ref q0), (1, .ref q2), (2, .int p2), (3, .int ((X0_everybody w1_number) + (1 : Int32))), (4, .int x13_0)]) hx hb dX7_reckons_93 hl (k := 6) rfl rfl (by decide) rfl (fun ls hl => ?_)
                  refine lv_goto (tgt := 21) hx hb dX7_reckons_96 (by decide) ?_
                  exact ih21 (x21_0 + (1 : Int32)) (upd x21_1 ((x13_0 * (128 : Int32)) + x21_0).toNatClampNeg (0 : Int32)) y21  H locs ls (hz21a _ (Option.some.inj h).symm) hS (lv_sub hl [2, 3, 4, 5, 6, 0] rfl) hk21_0
                · have h := it_neg c3 h
                  refine lv_aload_n hx hb dX7_reckons_78 rfl (lv_at hl 1 rfl) ?_
                  refine lv_iload hx hb dX7_reckons_79 (lv_at hl 5 rfl) ?_
                  refine lv_iload hx hb dX7_reckons_81 (lv_at hl 0 rfl) ?_
                  refine lv_iload hx hb dX7_reckons_83 (lv_at hl 6 rfl) ?_
                  obtain ⟨y85, e5, h⟩ := bd_some h
                  refine ct_V (ws' := fun _ => [oX7 q0 (.ref q1), aI cy q1 1024 x21_1, oX0 q2 u2_0 u2_1 u2_2 u2_3 (.ref q3) (.int w1_number) u2_6 u2_7, aI cy q3 7 w1_wanted]) (st' := [.int y85, .int ((x13_0 * (128 : Int32)) + x21_0), .ref q1]) (rest := [.int ((x13_0 * (128 : Int32)) + x21_0), .ref q1]) E hS vlX7_49 (c_X7_best (l := l) (D := D) (cy := cy) (q0 := q0) (q1 := q1) (v_most := x21_1) (p1 := x13_0) (p2 := j54_t0) (p3 := x21_0) (r := y85) e5) [0, 1] rfl rfl (fun _ => rfl) (fun _ => rfl) rfl rfl rfl rfl (Nat.le_of_ble_eq_true rfl) hl.1 (by rw [hRf]; exact Nat.le_of_ble_eq_true rfl) (by rw [hRl]; exact Nat.le_of_ble_eq_true rfl) ⟨Nat.zero_le _, Nat.zero_le _⟩ dX7_reckons_85 rfl (fun H locs _ hS => ?_)
                  refine lv_goto (tgt := 92) hx hb dX7_reckons_88 (by decide) ?_
                  obtain ⟨g6, h⟩ := gi_some h
                  refine r_iast (ws' := [oX7 q0 (.ref q1), aI cy q1 1024 (upd x21_1 ((x13_0 * (128 : Int32)) + x21_0).toNatClampNeg y85), oX0 q2 u2_0 u2_1 u2_2 u2_3 (.ref q3) (.int w1_number) u2_6 u2_7, aI cy q3 7 w1_wanted]) E hS 1 rfl g6 rfl dX7_reckons_92 (fun H locs hS => ?_)
                  refine lv_iinc (v := (x21_0 + (1 : Int32))) (lv' := [(5, .int (x21_0 + (1 : Int32))), (6, .int j54_t0), (0, .ref q0), (1, .ref q2), (2, .int p2), (3, .int ((X0_everybody w1_number) + (1 : Int32))), (4, .int x13_0)]) hx hb dX7_reckons_93 hl (k := 6) rfl rfl (by decide) rfl (fun ls hl => ?_)
                  refine lv_goto (tgt := 21) hx hb dX7_reckons_96 (by decide) ?_
                  exact ih21 (x21_0 + (1 : Int32)) (upd x21_1 ((x13_0 * (128 : Int32)) + x21_0).toNatClampNeg y85) y21  H locs ls (hz21a _ (Option.some.inj h).symm) hS (lv_sub hl [2, 3, 4, 5, 6, 0] rfl) hk21_0
              refine lv_icmp_ge (tgt := 53) hx hb dX7_reckons_33 (by decide) (fun c7 => ?_) (fun c7 => ?_)
              · have h := it_pos c7 h
                refine lv_iconst (v := 0) hx hb dX7_reckons_53 (by decide) ?_
                exact hJ54 (0 : Int32)  H locs ls h hS (lv_sub hl [0, 1, 2, 3, 4, 5] rfl)
              · have h := it_neg c7 h
                refine lv_aload_n hx hb dX7_reckons_36 rfl (lv_at hl 1 rfl) ?_
                refine r_get E frX7_30 hS 2 rfl rfl dX7_reckons_37 ?_
                refine lv_iload hx hb dX7_reckons_40 (lv_at hl 4 rfl) ?_
                obtain ⟨g8, h⟩ := gi_some h
                refine r_iald E hS 3 rfl g8 dX7_reckons_42 ?_
                refine lv_iload_n hx hb dX7_reckons_43 rfl (lv_at hl 2 rfl) ?_
                refine lv_iand hx hb dX7_reckons_44 ?_
                refine lv_iload hx hb dX7_reckons_45 (lv_at hl 5 rfl) ?_
                refine lv_iconst (v := -1) hx hb dX7_reckons_47 (by decide) ?_
                refine lv_ixor hx hb dX7_reckons_48 ?_
                refine lv_iand hx hb dX7_reckons_49 ?_
                refine lv_goto (tgt := 54) hx hb dX7_reckons_50 (by decide) ?_
                exact hJ54 (((w1_wanted x13_0.toNatClampNeg) &&& p2) &&& (x21_0 ^^^ (-1 : Int32)))  H locs ls h hS (lv_sub hl [0, 1, 2, 3, 4, 5] rfl)
        obtain ⟨y21, e21, h⟩ := bd_some h
        refine hL21 1000 (0 : Int32) x13_1 y21  H locs ls e21 hS (lv_sub hl [1, 2, 3, 4, 5, 0] rfl) (fun y21_0 ey21 H locs ls hS hl => ?_)
        subst ey21
        refine lv_iinc (v := (x13_0 + (-1 : Int32))) (lv' := [(4, .int (x13_0 + (-1 : Int32))), (0, .ref q0), (1, .ref q2), (2, .int p2), (3, .int ((X0_everybody w1_number) + (1 : Int32)))]) hx hb dX7_reckons_99 hl (k := 4) rfl rfl (by decide) rfl (fun ls hl => ?_)
        refine lv_goto (tgt := 13) hx hb dX7_reckons_102 (by decide) ?_
        exact ih13 (x13_0 + (-1 : Int32)) y21_0 y13  H locs ls (hz13a _ (Option.some.inj h).symm) hS (lv_sub hl [1, 2, 3, 4, 0] rfl) hk13_0
  obtain ⟨y13, e13, h⟩ := bd_some h
  refine hL13 1000 w1_number v_most y13  H locs ls e13 hS (lv_sub hl [2, 3, 4, 1, 0] rfl) (fun y13_0 ey13 H locs ls hS hl => ?_)
  subst ey13
  obtain rfl := Option.some.inj h
  exact rt_v E hQ (.null) hS dX7_reckons_105
set_option maxHeartbeats 4000000 in
set_option maxRecDepth 100000 in
theorem c_X7_leastBy {l : Launch} {D : va_G} {cy : Nat → ClassId} (q0 : Nat) (q1 : Nat) (v_most : Nat → Int32) (p1 : Int32) (p2 : Int32) (p3 : Int32) (r : Int32) (h : X7_leastBy v_most p1 p2 p3 = some r) : Ct l yX7_leastBy cX7_leastBy 6 (some .int) 1 23 D cy [.ref q0, .int p1, .int p2, .int p3] [oX7 q0 (.ref q1), aI cy q1 1024 v_most] (fun _ => [oX7 q0 (.ref q1), aI cy q1 1024 v_most]) (some (.int r)) := by
  refine Ct.mk kX7_leastBy (by decide +kernel) (Nat.le_of_ble_eq_true rfl) ?_
  intro p e s m below meth c A ls args R Q hRf hRl hQ E H locs hS hl
  have hx := E.x
  have hb := E.b
  have hl : lv_has ls 6 [(0, .ref q0), (1, .int p1), (2, .int p2), (3, .int p3)] := hl
  unfold X7_leastBy at h
  refine lv_aload_n hx hb dX7_leastBy_0 rfl (lv_at hl 0 rfl) ?_
  refine lv_iload_n hx hb dX7_leastBy_1 rfl (lv_at hl 1 rfl) ?_
  refine lv_iload_n hx hb dX7_leastBy_2 rfl (lv_at hl 3 rfl) ?_
  obtain ⟨y3, e1, h⟩ := bd_some h
  refine ct_V (ws' := fun _ => [oX7 q0 (.ref q1), aI cy q1 1024 v_most]) (st' := [.int y3]) (rest := []) E hS vlX7_41 (c_X7_mostFrom (l := l) (D := D) (cy := cy) (q0 := q0) (q1 := q1) (v_most := v_most) (p1 := p1) (p2 := p3) (r := y3) e1) [0, 1] rfl rfl (fun _ => rfl) (fun _ => rfl) rfl rfl rfl rfl (Nat.le_of_ble_eq_true rfl) hl.1 (by rw [hRf]; exact Nat.le_of_ble_eq_true rfl) (by rw [hRl]; exact Nat.le_of_ble_eq_true rfl) ⟨Nat.zero_le _, Nat.zero_le _⟩ dX7_leastBy_3 rfl (fun H locs _ hS => ?_)
  refine lv_istore (lv' := [(4, .int y3), (0, .ref q0), (1, .int p1), (2, .int p2), (3, .int p3)]) hx hb dX7_leastBy_6 hl (by decide) rfl (fun ls hl => ?_)
  refine lv_aload_n hx hb dX7_leastBy_8 rfl (lv_at hl 1 rfl) ?_
  refine lv_iload_n hx hb dX7_leastBy_9 rfl (lv_at hl 2 rfl) ?_
  refine lv_iconst (v := 1) hx hb dX7_leastBy_10 (by decide) ?_
  refine lv_iadd hx hb dX7_leastBy_11 ?_
  refine lv_iload_n hx hb dX7_leastBy_12 rfl (lv_at hl 4 rfl) ?_
  obtain ⟨y13, e2, h⟩ := bd_some h
  refine ct_V (ws' := fun _ => [oX7 q0 (.ref q1), aI cy q1 1024 v_most]) (st' := [.int y13]) (rest := []) E hS vlX7_41 (c_X7_mostFrom (l := l) (D := D) (cy := cy) (q0 := q0) (q1 := q1) (v_most := v_most) (p1 := (p1 + (1 : Int32))) (p2 := p3) (r := y13) e2) [0, 1] rfl rfl (fun _ => rfl) (fun _ => rfl) rfl rfl rfl rfl (Nat.le_of_ble_eq_true rfl) hl.1 (by rw [hRf]; exact Nat.le_of_ble_eq_true rfl) (by rw [hRl]; exact Nat.le_of_ble_eq_true rfl) ⟨Nat.zero_le _, Nat.zero_le _⟩ dX7_leastBy_13 rfl (fun H locs _ hS => ?_)
  refine lv_iload hx hb dX7_leastBy_16 (lv_at hl 0 rfl) ?_
  refine lv_icmp_ne (tgt := 23) hx hb dX7_leastBy_18 (by decide) (fun c3 => ?_) (fun c3 => ?_)
  · have h := it_neg c3 h
    refine lv_iconst (v := 0) hx hb dX7_leastBy_23 (by decide) ?_
    refine lv_istore (lv' := [(5, .int (0 : Int32)), (4, .int y3), (0, .ref q0), (1, .int p1), (2, .int p2), (3, .int p3)]) hx hb dX7_leastBy_24 hl (by decide) rfl (fun ls hl => ?_)
    have hL26 : ∀ (n : Nat) (x26_0 : Int32) (y26 : (Unit) ⊕ (Int32)) (H : Heap) (locs : List Loc) (ls : Array Slot), lp (fun x26 => X7_leastBy_s26 v_most p1 p2 p3 y3 x26) n x26_0 = some y26 → Sv D A s.heap [oX7 q0 (.ref q1), aI cy q1 1024 v_most] H locs → lv_has ls 6 [(0, .ref q0), (1, .int p1), (2, .int p2), (3, .int p3), (4, .int y3), (5, .int x26_0)] → ( .inl () = y26 → ∀ (H : Heap) (locs : List Loc) (ls : Array Slot), Sv D A s.heap [oX7 q0 (.ref q1), aI cy q1 1024 v_most] H locs → lv_has ls 6 [] → W p l e R s m args below meth c H locs 0 0 Q (F0 m 71 ls [])) → ( ∀ (ye26_1_0 : Int32), .inr ye26_1_0 = y26 → ∀ (H : Heap) (locs : List Loc) (ls : Array Slot), Sv D A s.heap [oX7 q0 (.ref q1), aI cy q1 1024 v_most] H locs → lv_has ls 6 [(5, .int ye26_1_0)] → W p l e R s m args below meth c H locs 0 0 Q (F0 m 62 ls [])) → W p l e R s m args below meth c H locs 0 0 Q (F0 m 26 ls []) := by
      intro n
      induction n with
      | zero =>
        intro x26_0 y26 H locs ls h
        exact lp_zero h
      | succ n ih26 =>
        intro x26_0 y26 H locs ls h hS hl hk26_0 hk26_1
        obtain ⟨z26, h, hz26a, hz26b⟩ := lp_succ h
        have h : X7_leastBy_s26 v_most p1 p2 p3 y3 x26_0 = some z26 := h
        unfold X7_leastBy_s26 at h
        refine lv_iload hx hb dX7_leastBy_26 (lv_at hl 5 rfl) ?_
        refine lv_bipush (v := 7) hx hb dX7_leastBy_28 (by decide) ?_
        refine lv_icmp_ge (tgt := 71) hx hb dX7_leastBy_30 (by decide) (fun c4 => ?_) (fun c4 => ?_)
        · have h := it_pos c4 h
          exact hk26_0  (hz26b _ (Option.some.inj h).symm)  H locs ls hS (lv_sub hl [] rfl)
        · have h := it_neg c4 h
          refine lv_iload_n hx hb dX7_leastBy_33 rfl (lv_at hl 2 rfl) ?_
          refine lv_iload hx hb dX7_leastBy_34 (lv_at hl 5 rfl) ?_
          refine lv_ishr hx hb dX7_leastBy_36 ?_
          refine lv_iconst (v := 1) hx hb dX7_leastBy_37 (by decide) ?_
          refine lv_iand hx hb dX7_leastBy_38 ?_
          refine lv_if_eq (tgt := 65) hx hb dX7_leastBy_39 (by decide) (fun c5 => ?_) (fun c5 => ?_)
          · have h := it_pos c5 h
            refine lv_iinc (v := (x26_0 + (1 : Int32))) (lv' := [(5, .int (x26_0 + (1 : Int32))), (0, .ref q0), (1, .int p1), (2, .int p2), (3, .int p3), (4, .int y3)]) hx hb dX7_leastBy_65 hl (k := 5) rfl rfl (by decide) rfl (fun ls hl => ?_)
            refine lv_goto (tgt := 26) hx hb dX7_leastBy_68 (by decide) ?_
            exact ih26 (x26_0 + (1 : Int32)) y26  H locs ls (hz26a _ (Option.some.inj h).symm) hS (lv_sub hl [1, 2, 3, 4, 5, 0] rfl) hk26_0 hk26_1
          · have h := it_neg c5 h
            refine lv_iconst (v := 1) hx hb dX7_leastBy_42 (by decide) ?_
            refine lv_aload_n hx hb dX7_leastBy_43 rfl (lv_at hl 0 rfl) ?_
            refine lv_iload_n hx hb dX7_leastBy_44 rfl (lv_at hl 1 rfl) ?_
            refine lv_iconst (v := 1) hx hb dX7_leastBy_45 (by decide) ?_
            refine lv_iadd hx hb dX7_leastBy_46 ?_
            refine lv_iload_n hx hb dX7_leastBy_47 rfl (lv_at hl 3 rfl) ?_
            refine lv_iconst (v := 1) hx hb dX7_leastBy_48 (by decide) ?_
            refine lv_iload hx hb dX7_leastBy_49 (lv_at hl 5 rfl) ?_
            refine lv_ishl hx hb dX7_leastBy_51 ?_
            refine lv_ior hx hb dX7_leastBy_52 ?_
            obtain ⟨y53, e6, h⟩ := bd_some h
            refine ct_V (ws' := fun _ => [oX7 q0 (.ref q1), aI cy q1 1024 v_most]) (st' := [.int y53, .int (1 : Int32)]) (rest := [.int (1 : Int32)]) E hS vlX7_41 (c_X7_mostFrom (l := l) (D := D) (cy := cy) (q0 := q0) (q1 := q1) (v_most := v_most) (p1 := (p1 + (1 : Int32))) (p2 := (p3 ||| ((1 : Int32) <<< (x26_0 &&& 31)))) (r := y53) e6) [0, 1] rfl rfl (fun _ => rfl) (fun _ => rfl) rfl rfl rfl rfl (Nat.le_of_ble_eq_true rfl) hl.1 (by rw [hRf]; exact Nat.le_of_ble_eq_true rfl) (by rw [hRl]; exact Nat.le_of_ble_eq_true rfl) ⟨Nat.zero_le _, Nat.zero_le _⟩ dX7_leastBy_53 rfl (fun H locs _ hS => ?_)
            refine lv_iadd hx hb dX7_leastBy_56 ?_
            refine lv_iload hx hb dX7_leastBy_57 (lv_at hl 4 rfl) ?_
            refine lv_icmp_ne (tgt := 65) hx hb dX7_leastBy_59 (by decide) (fun c7 => ?_) (fun c7 => ?_)
            · have h := it_neg c7 h
              refine lv_iinc (v := (x26_0 + (1 : Int32))) (lv' := [(5, .int (x26_0 + (1 : Int32))), (0, .ref q0), (1, .int p1), (2, .int p2), (3, .int p3), (4, .int y3)]) hx hb dX7_leastBy_65 hl (k := 5) rfl rfl (by decide) rfl (fun ls hl => ?_)
              refine lv_goto (tgt := 26) hx hb dX7_leastBy_68 (by decide) ?_
              exact ih26 (x26_0 + (1 : Int32)) y26  H locs ls (hz26a _ (Option.some.inj h).symm) hS (lv_sub hl [1, 2, 3, 4, 5, 0] rfl) hk26_0 hk26_1
            · have h := it_pos c7 h
              exact hk26_1 x26_0 (hz26b _ (Option.some.inj h).symm)  H locs ls hS (lv_sub hl [5] rfl)
    obtain ⟨y26, e26, h⟩ := bd_some h
    refine hL26 1000 (0 : Int32) y26  H locs ls e26 hS (lv_sub hl [2, 3, 4, 5, 1, 0] rfl) (fun ey26 H locs ls hS hl => ?_) (fun ye26_1_0 ey26 H locs ls hS hl => ?_)
    · subst ey26
      have h := sm_l h
      refine lv_iconst (v := -1) hx hb dX7_leastBy_71 (by decide) ?_
      obtain rfl := Option.some.inj h
      exact rt_i E hQ (.null) hS dX7_leastBy_72
    · subst ey26
      have h := sm_r h
      refine lv_iload hx hb dX7_leastBy_62 (lv_at hl 0 rfl) ?_
      obtain rfl := Option.some.inj h
      exact rt_i E hQ (.null) hS dX7_leastBy_64
  · have h := it_pos c3 h
    refine lv_iconst (v := -1) hx hb dX7_leastBy_21 (by decide) ?_
    obtain rfl := Option.some.inj h
    exact rt_i E hQ (.null) hS dX7_leastBy_22
set_option maxHeartbeats 4000000 in
set_option maxRecDepth 100000 in
theorem c_X7_tellsServed {l : Launch} {D : va_G} {cy : Nat → ClassId} (q0 : Nat) (q1 : Nat) (q2 : Nat) (q3 : Nat) (q4 : Nat) (q5 : Nat) (u2_0 : Value) (u2_1 : Value) (u2_2 : Value) (u2_3 : Value) (u2_6 : Value) (u2_7 : Value) (v_most : Nat → Int32) (w1_number : Int32) (w1_wanted : Nat → Int32) (w3_size : Int32) (w3_number : Nat → Int64) (p2 : Int32) (r : Int32 × (Nat → Int32) × Int32 × (Nat → Int64)) (h : X7_tellsServed v_most w1_number w1_wanted w3_number p2 = some r) : Ct l yX7_tellsServed cX7_tellsServed 7 (some .int) 3 74 D cy [.ref q0, .ref q2, .int p2, .ref q4] [oX7 q0 (.ref q1), aI cy q1 1024 v_most, oX0 q2 u2_0 u2_1 u2_2 u2_3 (.ref q3) (.int w1_number) u2_6 u2_7, aI cy q3 7 w1_wanted, oX2 q4 (.ref q5) (.int w3_size), aJ cy q5 16 w3_number] (fun _ => [oX7 q0 (.ref q1), aI cy q1 1024 r.2.1, oX0 q2 u2_0 u2_1 u2_2 u2_3 (.ref q3) (.int w1_number) u2_6 u2_7, aI cy q3 7 w1_wanted, oX2 q4 (.ref q5) (.int r.2.2.1), aJ cy q5 16 r.2.2.2]) (some (.int r.1)) := by
  refine Ct.mk kX7_tellsServed (by decide +kernel) (Nat.le_of_ble_eq_true rfl) ?_
  intro p e s m below meth c A ls args R Q hRf hRl hQ E H locs hS hl
  have hx := E.x
  have hb := E.b
  have hl : lv_has ls 7 [(0, .ref q0), (1, .ref q2), (2, .int p2), (3, .ref q4)] := hl
  unfold X7_tellsServed at h
  refine lv_aload_n hx hb dX7_tellsServed_0 rfl (lv_at hl 0 rfl) ?_
  refine lv_aload_n hx hb dX7_tellsServed_1 rfl (lv_at hl 1 rfl) ?_
  refine lv_iload_n hx hb dX7_tellsServed_2 rfl (lv_at hl 2 rfl) ?_
  obtain ⟨y3, e1, h⟩ := bd_some h
  refine ct_V (ws' := fun _ => [oX7 q0 (.ref q1), aI cy q1 1024 y3, oX0 q2 u2_0 u2_1 u2_2 u2_3 (.ref q3) (.int w1_number) u2_6 u2_7, aI cy q3 7 w1_wanted, oX2 q4 (.ref q5) (.int w3_size), aJ cy q5 16 w3_number]) (st' := []) (rest := []) E hS vlX7_15 (c_X7_reckons (l := l) (D := D) (cy := cy) (q0 := q0) (q1 := q1) (q2 := q2) (q3 := q3) (u2_0 := u2_0) (u2_1 := u2_1) (u2_2 := u2_2) (u2_3 := u2_3) (u2_6 := u2_6) (u2_7 := u2_7) (v_most := v_most) (w1_number := w1_number) (w1_wanted := w1_wanted) (p2 := p2) (r := y3) e1) [0, 1, 2, 3] rfl rfl (fun _ => rfl) (fun _ => rfl) rfl rfl rfl rfl (Nat.le_of_ble_eq_true rfl) hl.1 (by rw [hRf]; exact Nat.le_of_ble_eq_true rfl) (by rw [hRl]; exact Nat.le_of_ble_eq_true rfl) ⟨Nat.zero_le _, Nat.zero_le _⟩ dX7_tellsServed_3 rfl (fun H locs _ hS => ?_)
  refine lv_aload_n hx hb dX7_tellsServed_6 rfl (lv_at hl 3 rfl) ?_
  refine ct_V (ws' := fun _ => [oX7 q0 (.ref q1), aI cy q1 1024 y3, oX0 q2 u2_0 u2_1 u2_2 u2_3 (.ref q3) (.int w1_number) u2_6 u2_7, aI cy q3 7 w1_wanted, oX2 q4 (.ref q5) (.int X2_clears), aJ cy q5 16 w3_number]) (st' := []) (rest := []) E hS vlX7_19 (c_X2_clears (l := l) (D := D) (cy := cy) (q0 := q4) (u0_0 := .ref q5) (v_size := w3_size) (r := X2_clears) rfl) [4] rfl rfl (fun _ => rfl) (fun _ => rfl) rfl rfl rfl rfl (Nat.le_of_ble_eq_true rfl) hl.1 (by rw [hRf]; exact Nat.le_of_ble_eq_true rfl) (by rw [hRl]; exact Nat.le_of_ble_eq_true rfl) ⟨Nat.zero_le _, Nat.zero_le _⟩ dX7_tellsServed_7 rfl (fun H locs _ hS => ?_)
  refine lv_iconst (v := 0) hx hb dX7_tellsServed_10 (by decide) ?_
  refine lv_istore (lv' := [(4, .int (0 : Int32)), (0, .ref q0), (1, .ref q2), (2, .int p2), (3, .ref q4)]) hx hb dX7_tellsServed_11 hl (by decide) rfl (fun ls hl => ?_)
  refine lv_iconst (v := 0) hx hb dX7_tellsServed_13 (by decide) ?_
  refine lv_istore (lv' := [(5, .int (0 : Int32)), (4, .int (0 : Int32)), (0, .ref q0), (1, .ref q2), (2, .int p2), (3, .ref q4)]) hx hb dX7_tellsServed_14 hl (by decide) rfl (fun ls hl => ?_)
  have hL16 : ∀ (n : Nat) (x16_0 : Int32) (x16_1 : Int32) (x16_2 : Int32) (x16_3 : Nat → Int64) (y16 : Int32 × (Nat → Int64)) (H : Heap) (locs : List Loc) (ls : Array Slot), lp (fun x16 => X7_tellsServed_s16 w1_number w1_wanted p2 y3 x16.1 x16.2.1 x16.2.2.1 x16.2.2.2) n (x16_0, x16_1, x16_2, x16_3) = some y16 → Sv D A s.heap [oX7 q0 (.ref q1), aI cy q1 1024 y3, oX0 q2 u2_0 u2_1 u2_2 u2_3 (.ref q3) (.int w1_number) u2_6 u2_7, aI cy q3 7 w1_wanted, oX2 q4 (.ref q5) (.int x16_2), aJ cy q5 16 x16_3] H locs → lv_has ls 7 [(0, .ref q0), (1, .ref q2), (2, .int p2), (3, .ref q4), (4, .int x16_0), (5, .int x16_1)] → ( ∀ (y16_0 : Int32) (y16_1 : Nat → Int64), (y16_0, y16_1) = y16 → ∀ (H : Heap) (locs : List Loc) (ls : Array Slot), Sv D A s.heap [oX7 q0 (.ref q1), aI cy q1 1024 y3, oX0 q2 u2_0 u2_1 u2_2 u2_3 (.ref q3) (.int w1_number) u2_6 u2_7, aI cy q3 7 w1_wanted, oX2 q4 (.ref q5) (.int y16_0), aJ cy q5 16 y16_1] H locs → lv_has ls 7 [(0, .ref q0)] → W p l e R s m args below meth c H locs 0 0 Q (F0 m 80 ls [])) → W p l e R s m args below meth c H locs 0 0 Q (F0 m 16 ls []) := by
    intro n
    induction n with
    | zero =>
      intro x16_0 x16_1 x16_2 x16_3 y16 H locs ls h
      exact lp_zero h
    | succ n ih16 =>
      intro x16_0 x16_1 x16_2 x16_3 y16 H locs ls h hS hl hk16_0
      obtain ⟨z16, h, hz16a, hz16b⟩ := lp_succ h
      have h : X7_tellsServed_s16 w1_number w1_wanted p2 y3 x16_0 x16_1 x16_2 x16_3 = some z16 := h
      unfold X7_tellsServed_s16 at h
      refine lv_iload hx hb dX7_tellsServed_16 (lv_at hl 5 rfl) ?_
      refine lv_aload_n hx hb dX7_tellsServed_18 rfl (lv_at hl 1 rfl) ?_
      refine r_get E frX7_24 hS 2 rfl rfl dX7_tellsServed_19 ?_
      refine lv_icmp_ge (tgt := 80) hx hb dX7_tellsServed_22 (by decide) (fun c2 => ?_) (fun c2 => ?_)
      · have h := it_pos c2 h
        exact hk16_0 x16_2 x16_3 (hz16b _ (Option.some.inj h).symm)  H locs ls hS (lv_sub hl [0] rfl)
      · have h := it_neg c2 h
        refine lv_aload_n hx hb dX7_tellsServed_25 rfl (lv_at hl 0 rfl) ?_
        refine lv_iload hx hb dX7_tellsServed_26 (lv_at hl 5 rfl) ?_
        refine lv_aload_n hx hb dX7_tellsServed_28 rfl (lv_at hl 1 rfl) ?_
        refine r_get E frX7_30 hS 2 rfl rfl dX7_tellsServed_29 ?_
        refine lv_iload hx hb dX7_tellsServed_32 (lv_at hl 5 rfl) ?_
        obtain ⟨g3, h⟩ := gi_some h
        refine r_iald E hS 3 rfl g3 dX7_tellsServed_34 ?_
        refine lv_iload_n hx hb dX7_tellsServed_35 rfl (lv_at hl 2 rfl) ?_
        refine lv_iand hx hb dX7_tellsServed_36 ?_
        refine lv_iload hx hb dX7_tellsServed_37 (lv_at hl 4 rfl) ?_
        refine lv_iconst (v := -1) hx hb dX7_tellsServed_39 (by decide) ?_
        refine lv_ixor hx hb dX7_tellsServed_40 ?_
        refine lv_iand hx hb dX7_tellsServed_41 ?_
        refine lv_iload hx hb dX7_tellsServed_42 (lv_at hl 4 rfl) ?_
        obtain ⟨y44, e4, h⟩ := bd_some h
        refine ct_V (ws' := fun _ => [oX7 q0 (.ref q1), aI cy q1 1024 y3, oX0 q2 u2_0 u2_1 u2_2 u2_3 (.ref q3) (.int w1_number) u2_6 u2_7, aI cy q3 7 w1_wanted, oX2 q4 (.ref q5) (.int x16_2), aJ cy q5 16 x16_3]) (st' := [.int y44]) (rest := []) E hS vlX7_33 (c_X7_leastBy (l := l) (D := D) (cy := cy) (q0 := q0) (q1 := q1) (v_most := y3) (p1 := x16_1) (p2 := (((w1_wanted x16_1.toNatClampNeg) &&& p2) &&& (x16_0 ^^^ (-1 : Int32)))) (p3 := x16_0) (r := y44) e4) [0, 1] rfl rfl (fun _ => rfl) (fun _ => rfl) rfl rfl rfl rfl (Nat.le_of_ble_eq_true rfl) hl.1 (by rw [hRf]; exact Nat.le_of_ble_eq_true rfl) (by rw [hRl]; exact Nat.le_of_ble_eq_true rfl) ⟨Nat.zero_le _, Nat.zero_le _⟩ dX7_tellsServed_44 rfl (fun H locs _ hS => ?_)
        refine lv_istore (lv' := [(6, .int y44), (0, .ref q0), (1, .ref q2), (2, .int p2), (3, .ref q4), (4, .int x16_0), (5, .int x16_1)]) hx hb dX7_tellsServed_47 hl (by decide) rfl (fun ls hl => ?_)
        refine lv_aload_n hx hb dX7_tellsServed_49 rfl (lv_at hl 4 rfl) ?_
        refine lv_iload hx hb dX7_tellsServed_50 (lv_at hl 0 rfl) ?_
        refine lv_i2l (v := (y44.toInt64)) hx hb dX7_tellsServed_52 rfl ?_
        obtain ⟨y53, e5, h⟩ := bd_some h
        refine ct_V (ws' := fun _ => [oX7 q0 (.ref q1), aI cy q1 1024 y3, oX0 q2 u2_0 u2_1 u2_2 u2_3 (.ref q3) (.int w1_number) u2_6 u2_7, aI cy q3 7 w1_wanted, oX2 q4 (.ref q5) (.int y53.1), aJ cy q5 16 y53.2]) (st' := []) (rest := []) E hS vlX7_37 (c_X2_adds (l := l) (D := D) (cy := cy) (q0 := q4) (q1 := q5) (v_size := x16_2) (v_number := x16_3) (p1 := (y44.toInt64)) (r := y53) e5) [4, 5] rfl rfl (fun _ => rfl) (fun _ => rfl) rfl rfl rfl rfl (Nat.le_of_ble_eq_true rfl) hl.1 (by rw [hRf]; exact Nat.le_of_ble_eq_true rfl) (by rw [hRl]; exact Nat.le_of_ble_eq_true rfl) ⟨Nat.zero_le _, Nat.zero_le _⟩ dX7_tellsServed_53 rfl (fun H locs _ hS => ?_)
        refine lv_iload hx hb dX7_tellsServed_56 (lv_at hl 5 rfl) ?_
        refine lv_iload hx hb dX7_tellsServed_58 (lv_at hl 0 rfl) ?_
        have hJ71 : ∀ (s71_1 : Int32) (ls : Array Slot), s71_1 = (if y44 < 0 then (0 : Int32) else ((1 : Int32) <<< (y44 &&& 31))) → lv_has ls 7 [(0, .ref q0), (1, .ref q2), (2, .int p2), (3, .ref q4), (5, .int x16_1)] → W p l e R s m args below meth c H locs 0 0 Q (F0 m 71 ls [.int s71_1, .int x16_0]) := by
          intro s71_1 ls es71_1 hl
          subst es71_1
          refine lv_ior hx hb dX7_tellsServed_71 ?_
          refine lv_istore (lv' := [(4, .int (x16_0 ||| (if y44 < 0 then (0 : Int32) else ((1 : Int32) <<< (y44 &&& 31))))), (0, .ref q0), (1, .ref q2), (2, .int p2), (3, .ref q4), (5, .int x16_1)]) hx hb dX7_tellsServed_72 hl (by decide) rfl (fun ls hl => ?_)
          refine lv_iinc (v := (x16_1 + (1 : Int32))) (lv' := [(5, .int (x16_1 + (1 : Int32))), (4, .int (x16_0 ||| (if y44 < 0 then (0 : Int32) else ((1 : Int32) <<< (y44 &&& 31))))), (0, .ref q0), (1, .ref q2), (2, .int p2), (3, .ref q4)]) hx hb dX7_tellsServed_74 hl (k := 5) rfl rfl (by decide) rfl (fun ls hl => ?_)
          refine lv_goto (tgt := 16) hx hb dX7_tellsServed_77 (by decide) ?_
          exact ih16 (x16_0 ||| (if y44 < 0 then (0 : Int32) else ((1 : Int32) <<< (y44 &&& 31)))) (x16_1 + (1 : Int32)) y53.1 y53.2 y16  H locs ls (hz16a _ (Option.some.inj h).symm) hS (lv_sub hl [2, 3, 4, 5, 1, 0] rfl) hk16_0
        refine lv_if_lt (tgt := 70) hx hb dX7_tellsServed_60 (by decide) (fun c6 => ?_) (fun c6 => ?_)
        · refine lv_iconst (v := 0) hx hb dX7_tellsServed_70 (by decide) ?_
          exact hJ71 _ ls ((if_pos c6)).symm (lv_sub hl [1, 2, 3, 4, 6] rfl)
        · refine lv_iconst (v := 1) hx hb dX7_tellsServed_63 (by decide) ?_
          refine lv_iload hx hb dX7_tellsServed_64 (lv_at hl 0 rfl) ?_
          refine lv_ishl hx hb dX7_tellsServed_66 ?_
          refine lv_goto (tgt := 71) hx hb dX7_tellsServed_67 (by decide) ?_
          exact hJ71 _ ls ((if_neg c6)).symm (lv_sub hl [1, 2, 3, 4, 6] rfl)
  obtain ⟨y16, e16, h⟩ := bd_some h
  refine hL16 1000 (0 : Int32) (0 : Int32) X2_clears w3_number y16  H locs ls e16 hS (lv_sub hl [2, 3, 4, 5, 1, 0] rfl) (fun y16_0 y16_1 ey16 H locs ls hS hl => ?_)
  subst ey16
  have h := un_r h
  refine lv_aload_n hx hb dX7_tellsServed_80 rfl (lv_at hl 0 rfl) ?_
  refine lv_iconst (v := 0) hx hb dX7_tellsServed_81 (by decide) ?_
  refine lv_iconst (v := 0) hx hb dX7_tellsServed_82 (by decide) ?_
  obtain ⟨y83, e7, h⟩ := bd_some h
  refine ct_V (ws' := fun _ => [oX7 q0 (.ref q1), aI cy q1 1024 y3, oX0 q2 u2_0 u2_1 u2_2 u2_3 (.ref q3) (.int w1_number) u2_6 u2_7, aI cy q3 7 w1_wanted, oX2 q4 (.ref q5) (.int y16_0), aJ cy q5 16 y16_1]) (st' := [.int y83]) (rest := []) E hS vlX7_41 (c_X7_mostFrom (l := l) (D := D) (cy := cy) (q0 := q0) (q1 := q1) (v_most := y3) (p1 := (0 : Int32)) (p2 := (0 : Int32)) (r := y83) e7) [0, 1] rfl rfl (fun _ => rfl) (fun _ => rfl) rfl rfl rfl rfl (Nat.le_of_ble_eq_true rfl) hl.1 (by rw [hRf]; exact Nat.le_of_ble_eq_true rfl) (by rw [hRl]; exact Nat.le_of_ble_eq_true rfl) ⟨Nat.zero_le _, Nat.zero_le _⟩ dX7_tellsServed_83 rfl (fun H locs _ hS => ?_)
  obtain rfl := Option.some.inj h
  exact rt_i E hQ (.null) hS dX7_tellsServed_86
set_option maxHeartbeats 4000000 in
set_option maxRecDepth 100000 in
theorem c_X7_tooMany {l : Launch} {D : va_G} {cy : Nat → ClassId} (q0 : Nat) (q1 : Nat) (u0_0 : Value) (u0_1 : Value) (u0_2 : Value) (u0_3 : Value) (u0_6 : Value) (u0_7 : Value) (w1_number : Int32) (w1_wanted : Nat → Int32) (p1 : Int32) (r : Int32) (h : X7_tooMany w1_number w1_wanted p1 = some r) : Ct l yX7_tooMany cX7_tooMany 7 (some .int) 1 23 D cy [.ref q0, .int p1] [oX0 q0 u0_0 u0_1 u0_2 u0_3 (.ref q1) (.int w1_number) u0_6 u0_7, aI cy q1 7 w1_wanted] (fun _ => [oX0 q0 u0_0 u0_1 u0_2 u0_3 (.ref q1) (.int w1_number) u0_6 u0_7, aI cy q1 7 w1_wanted]) (some (.int r)) := by
  refine Ct.mk kX7_tooMany (by decide +kernel) (Nat.le_of_ble_eq_true rfl) ?_
  intro p e s m below meth c A ls args R Q hRf hRl hQ E H locs hS hl
  have hx := E.x
  have hb := E.b
  have hl : lv_has ls 7 [(0, .ref q0), (1, .int p1)] := hl
  unfold X7_tooMany at h
  refine lv_aload_n hx hb dX7_tooMany_0 rfl (lv_at hl 0 rfl) ?_
  refine lv_aload_n hx hb dX7_tooMany_1 rfl (lv_at hl 0 rfl) ?_
  refine ct_V (ws' := fun _ => [oX0 q0 u0_0 u0_1 u0_2 u0_3 (.ref q1) (.int w1_number) u0_6 u0_7, aI cy q1 7 w1_wanted]) (st' := [.int (X0_everybody w1_number), .ref q0]) (rest := [.ref q0]) E hS vlX7_45 (c_X0_everybody (l := l) (D := D) (cy := cy) (q0 := q0) (u0_0 := u0_0) (u0_1 := u0_1) (u0_2 := u0_2) (u0_3 := u0_3) (u0_4 := .ref q1) (u0_6 := u0_6) (u0_7 := u0_7) (v_number := w1_number) (r := (X0_everybody w1_number)) rfl) [0] rfl rfl (fun _ => rfl) (fun _ => rfl) rfl rfl rfl rfl (Nat.le_of_ble_eq_true rfl) hl.1 (by rw [hRf]; exact Nat.le_of_ble_eq_true rfl) (by rw [hRl]; exact Nat.le_of_ble_eq_true rfl) ⟨Nat.zero_le _, Nat.zero_le _⟩ dX7_tooMany_2 rfl (fun H locs _ hS => ?_)
  obtain ⟨y5, e1, h⟩ := bd_some h
  refine ct_V (ws' := fun _ => [oX0 q0 u0_0 u0_1 u0_2 u0_3 (.ref q1) (.int w1_number) u0_6 u0_7, aI cy q1 7 w1_wanted]) (st' := [.int y5]) (rest := []) E hS vlX7_57 (c_X0_wantingSome (l := l) (D := D) (cy := cy) (q0 := q0) (q1 := q1) (u0_0 := u0_0) (u0_1 := u0_1) (u0_2 := u0_2) (u0_3 := u0_3) (u0_6 := u0_6) (u0_7 := u0_7) (v_number := w1_number) (v_wanted := w1_wanted) (p1 := (X0_everybody w1_number)) (r := y5) e1) [0, 1] rfl rfl (fun _ => rfl) (fun _ => rfl) rfl rfl rfl rfl (Nat.le_of_ble_eq_true rfl) hl.1 (by rw [hRf]; exact Nat.le_of_ble_eq_true rfl) (by rw [hRl]; exact Nat.le_of_ble_eq_true rfl) ⟨Nat.zero_le _, Nat.zero_le _⟩ dX7_tooMany_5 rfl (fun H locs _ hS => ?_)
  refine lv_istore_n (lv' := [(2, .int y5), (0, .ref q0), (1, .int p1)]) hx hb dX7_tooMany_8 rfl hl (by decide) rfl (fun ls hl => ?_)
  refine lv_iconst (v := 0) hx hb dX7_tooMany_9 (by decide) ?_
  refine lv_istore_n (lv' := [(3, .int (0 : Int32)), (2, .int y5), (0, .ref q0), (1, .int p1)]) hx hb dX7_tooMany_10 rfl hl (by decide) rfl (fun ls hl => ?_)
  refine lv_iconst (v := 1) hx hb dX7_tooMany_11 (by decide) ?_
  refine lv_istore (lv' := [(4, .int (1 : Int32)), (3, .int (0 : Int32)), (2, .int y5), (0, .ref q0), (1, .int p1)]) hx hb dX7_tooMany_12 hl (by decide) rfl (fun ls hl => ?_)
  have hL14 : ∀ (n : Nat) (x14_0 : Int32) (x14_1 : Int32) (y14 : Int32) (H : Heap) (locs : List Loc) (ls : Array Slot), lp (fun x14 => X7_tooMany_s14 w1_number w1_wanted p1 y5 x14.1 x14.2) n (x14_0, x14_1) = some y14 → Sv D A s.heap [oX0 q0 u0_0 u0_1 u0_2 u0_3 (.ref q1) (.int w1_number) u0_6 u0_7, aI cy q1 7 w1_wanted] H locs → lv_has ls 7 [(0, .ref q0), (1, .int p1), (2, .int y5), (3, .int x14_0), (4, .int x14_1)] → ( ∀ (y14_0 : Int32), y14_0 = y14 → ∀ (H : Heap) (locs : List Loc) (ls : Array Slot), Sv D A s.heap [oX0 q0 u0_0 u0_1 u0_2 u0_3 (.ref q1) (.int w1_number) u0_6 u0_7, aI cy q1 7 w1_wanted] H locs → lv_has ls 7 [(3, .int y14_0)] → W p l e R s m args below meth c H locs 0 0 Q (F0 m 88 ls [])) → W p l e R s m args below meth c H locs 0 0 Q (F0 m 14 ls []) := by
    intro n
    induction n with
    | zero =>
      intro x14_0 x14_1 y14 H locs ls h
      exact lp_zero h
    | succ n ih14 =>
      intro x14_0 x14_1 y14 H locs ls h hS hl hk14_0
      obtain ⟨z14, h, hz14a, hz14b⟩ := lp_succ h
      have h : X7_tooMany_s14 w1_number w1_wanted p1 y5 x14_0 x14_1 = some z14 := h
      unfold X7_tooMany_s14 at h
      refine lv_iload hx hb dX7_tooMany_14 (lv_at hl 4 rfl) ?_
      refine lv_sipush (v := 128) hx hb dX7_tooMany_16 (by decide) ?_
      refine lv_icmp_ge (tgt := 88) hx hb dX7_tooMany_19 (by decide) (fun c2 => ?_) (fun c2 => ?_)
      · have h := it_pos c2 h
        exact hk14_0 x14_0 (hz14b _ (Option.some.inj h).symm)  H locs ls hS (lv_sub hl [3] rfl)
      · have h := it_neg c2 h
        refine lv_iload hx hb dX7_tooMany_22 (lv_at hl 4 rfl) ?_
        refine ct_S (ws' := fun _ => [oX0 q0 u0_0 u0_1 u0_2 u0_3 (.ref q1) (.int w1_number) u0_6 u0_7, aI cy q1 7 w1_wanted]) (st' := [.int (J6_bitCount_0f7a4 x14_1)]) (rest := []) E hS slX7_61 (c_J6_bitCount_0f7a4 (l := l) (D := D) (cy := cy) (p0 := x14_1) (r := (J6_bitCount_0f7a4 x14_1)) rfl) [] rfl rfl (fun _ => rfl) (fun _ => rfl) rfl rfl (Nat.le_of_ble_eq_true rfl) hl.1 (by rw [hRf]; exact Nat.le_of_ble_eq_true rfl) (by rw [hRl]; exact Nat.le_of_ble_eq_true rfl) ⟨Nat.zero_le _, Nat.zero_le _⟩ dX7_tooMany_24 rfl (fun H locs _ hS => ?_)
        refine lv_istore (lv' := [(5, .int (J6_bitCount_0f7a4 x14_1)), (0, .ref q0), (1, .int p1), (2, .int y5), (3, .int x14_0), (4, .int x14_1)]) hx hb dX7_tooMany_27 hl (by decide) rfl (fun ls hl => ?_)
        refine lv_iload_n hx hb dX7_tooMany_29 rfl (lv_at hl 4 rfl) ?_
        have hJ47 : ∀ (j47_t0 : Int32) (H : Heap) (locs : List Loc) (ls : Array Slot), X7_tooMany_k47 w1_number w1_wanted p1 y5 x14_0 x14_1 j47_t0 = some z14 → Sv D A s.heap [oX0 q0 u0_0 u0_1 u0_2 u0_3 (.ref q1) (.int w1_number) u0_6 u0_7, aI cy q1 7 w1_wanted] H locs → lv_has ls 7 [(0, .ref q0), (1, .int p1), (2, .int y5), (3, .int x14_0), (4, .int x14_1), (5, .int (J6_bitCount_0f7a4 x14_1))] → W p l e R s m args below meth c H locs 0 0 Q (F0 m 47 ls [.int j47_t0]) := by
          intro j47_t0 H locs ls h hS hl
          unfold X7_tooMany_k47 at h
          refine lv_istore (lv' := [(6, .int j47_t0), (0, .ref q0), (1, .int p1), (2, .int y5), (3, .int x14_0), (4, .int x14_1), (5, .int (J6_bitCount_0f7a4 x14_1))]) hx hb dX7_tooMany_47 hl (by decide) rfl (fun ls hl => ?_)
          refine lv_iload hx hb dX7_tooMany_49 (lv_at hl 5 rfl) ?_
          refine lv_iload_n hx hb dX7_tooMany_51 rfl (lv_at hl 3 rfl) ?_
          refine lv_iconst (v := -1) hx hb dX7_tooMany_52 (by decide) ?_
          refine lv_ixor hx hb dX7_tooMany_53 ?_
          refine lv_iand hx hb dX7_tooMany_54 ?_
          refine lv_if_ne (tgt := 82) hx hb dX7_tooMany_55 (by decide) (fun c3 => ?_) (fun c3 => ?_)
          · have h := it_neg c3 h
            refine lv_iinc (v := (x14_1 + (1 : Int32))) (lv' := [(4, .int (x14_1 + (1 : Int32))), (6, .int j47_t0), (0, .ref q0), (1, .int p1), (2, .int y5), (3, .int x14_0), (5, .int (J6_bitCount_0f7a4 x14_1))]) hx hb dX7_tooMany_82 hl (k := 5) rfl rfl (by decide) rfl (fun ls hl => ?_)
            refine lv_goto (tgt := 14) hx hb dX7_tooMany_85 (by decide) ?_
            exact ih14 x14_0 (x14_1 + (1 : Int32)) y14  H locs ls (hz14a _ (Option.some.inj h).symm) hS (lv_sub hl [2, 3, 4, 5, 0] rfl) hk14_0
          · have h := it_pos c3 h
            refine lv_iload hx hb dX7_tooMany_58 (lv_at hl 0 rfl) ?_
            refine lv_if_eq (tgt := 82) hx hb dX7_tooMany_60 (by decide) (fun c4 => ?_) (fun c4 => ?_)
            · have h := it_pos c4 h
              refine lv_iinc (v := (x14_1 + (1 : Int32))) (lv' := [(4, .int (x14_1 + (1 : Int32))), (6, .int j47_t0), (0, .ref q0), (1, .int p1), (2, .int y5), (3, .int x14_0), (5, .int (J6_bitCount_0f7a4 x14_1))]) hx hb dX7_tooMany_82 hl (k := 5) rfl rfl (by decide) rfl (fun ls hl => ?_)
              refine lv_goto (tgt := 14) hx hb dX7_tooMany_85 (by decide) ?_
              exact ih14 x14_0 (x14_1 + (1 : Int32)) y14  H locs ls (hz14a _ (Option.some.inj h).symm) hS (lv_sub hl [2, 3, 4, 5, 0] rfl) hk14_0
            · have h := it_neg c4 h
              refine lv_aload_n hx hb dX7_tooMany_63 rfl (lv_at hl 1 rfl) ?_
              refine lv_iload hx hb dX7_tooMany_64 (lv_at hl 5 rfl) ?_
              obtain ⟨y66, e5, h⟩ := bd_some h
              refine ct_V (ws' := fun _ => [oX0 q0 u0_0 u0_1 u0_2 u0_3 (.ref q1) (.int w1_number) u0_6 u0_7, aI cy q1 7 w1_wanted]) (st' := [.int y66]) (rest := []) E hS vlX7_66 (c_X0_wantedBy (l := l) (D := D) (cy := cy) (q0 := q0) (q1 := q1) (u0_0 := u0_0) (u0_1 := u0_1) (u0_2 := u0_2) (u0_3 := u0_3) (u0_6 := u0_6) (u0_7 := u0_7) (v_number := w1_number) (v_wanted := w1_wanted) (p1 := x14_1) (r := y66) e5) [0, 1] rfl rfl (fun _ => rfl) (fun _ => rfl) rfl rfl rfl rfl (Nat.le_of_ble_eq_true rfl) hl.1 (by rw [hRf]; exact Nat.le_of_ble_eq_true rfl) (by rw [hRl]; exact Nat.le_of_ble_eq_true rfl) ⟨Nat.zero_le _, Nat.zero_le _⟩ dX7_tooMany_66 rfl (fun H locs _ hS => ?_)
              refine lv_iload_n hx hb dX7_tooMany_69 rfl (lv_at hl 2 rfl) ?_
              refine lv_iand hx hb dX7_tooMany_70 ?_
              refine ct_S (ws' := fun _ => [oX0 q0 u0_0 u0_1 u0_2 u0_3 (.ref q1) (.int w1_number) u0_6 u0_7, aI cy q1 7 w1_wanted]) (st' := [.int (J6_bitCount_0f7a4 (y66 &&& p1))]) (rest := []) E hS slX7_61 (c_J6_bitCount_0f7a4 (l := l) (D := D) (cy := cy) (p0 := (y66 &&& p1)) (r := (J6_bitCount_0f7a4 (y66 &&& p1))) rfl) [] rfl rfl (fun _ => rfl) (fun _ => rfl) rfl rfl (Nat.le_of_ble_eq_true rfl) hl.1 (by rw [hRf]; exact Nat.le_of_ble_eq_true rfl) (by rw [hRl]; exact Nat.le_of_ble_eq_true rfl) ⟨Nat.zero_le _, Nat.zero_le _⟩ dX7_tooMany_71 rfl (fun H locs _ hS => ?_)
              refine lv_iload hx hb dX7_tooMany_74 (lv_at hl 6 rfl) ?_
              refine lv_icmp_ge (tgt := 82) hx hb dX7_tooMany_76 (by decide) (fun c6 => ?_) (fun c6 => ?_)
              · have h := it_pos c6 h
                refine lv_iinc (v := (x14_1 + (1 : Int32))) (lv' := [(4, .int (x14_1 + (1 : Int32))), (6, .int j47_t0), (0, .ref q0), (1, .int p1), (2, .int y5), (3, .int x14_0), (5, .int (J6_bitCount_0f7a4 x14_1))]) hx hb dX7_tooMany_82 hl (k := 5) rfl rfl (by decide) rfl (fun ls hl => ?_)
                refine lv_goto (tgt := 14) hx hb dX7_tooMany_85 (by decide) ?_
                exact ih14 x14_0 (x14_1 + (1 : Int32)) y14  H locs ls (hz14a _ (Option.some.inj h).symm) hS (lv_sub hl [2, 3, 4, 5, 0] rfl) hk14_0
              · have h := it_neg c6 h
                refine lv_iload hx hb dX7_tooMany_79 (lv_at hl 5 rfl) ?_
                refine lv_istore_n (lv' := [(3, .int x14_1), (6, .int j47_t0), (0, .ref q0), (1, .int p1), (2, .int y5), (4, .int x14_1), (5, .int (J6_bitCount_0f7a4 x14_1))]) hx hb dX7_tooMany_81 rfl hl (by decide) rfl (fun ls hl => ?_)
                refine lv_iinc (v := (x14_1 + (1 : Int32))) (lv' := [(4, .int (x14_1 + (1 : Int32))), (3, .int x14_1), (6, .int j47_t0), (0, .ref q0), (1, .int p1), (2, .int y5), (5, .int (J6_bitCount_0f7a4 x14_1))]) hx hb dX7_tooMany_82 hl (k := 5) rfl rfl (by decide) rfl (fun ls hl => ?_)
                refine lv_goto (tgt := 14) hx hb dX7_tooMany_85 (by decide) ?_
                exact ih14 x14_1 (x14_1 + (1 : Int32)) y14  H locs ls (hz14a _ (Option.some.inj h).symm) hS (lv_sub hl [3, 4, 5, 1, 0] rfl) hk14_0
        refine lv_if_eq (tgt := 42) hx hb dX7_tooMany_30 (by decide) (fun c7 => ?_) (fun c7 => ?_)
        · have h := it_pos c7 h
          refine lv_iconst (v := 1) hx hb dX7_tooMany_42 (by decide) ?_
          refine lv_goto (tgt := 47) hx hb dX7_tooMany_43 (by decide) ?_
          exact hJ47 (1 : Int32)  H locs ls h hS (lv_sub hl [1, 2, 3, 4, 5, 0] rfl)
        · have h := it_neg c7 h
          refine lv_iload hx hb dX7_tooMany_33 (lv_at hl 0 rfl) ?_
          refine lv_iload_n hx hb dX7_tooMany_35 rfl (lv_at hl 4 rfl) ?_
          refine ct_S (ws' := fun _ => [oX0 q0 u0_0 u0_1 u0_2 u0_3 (.ref q1) (.int w1_number) u0_6 u0_7, aI cy q1 7 w1_wanted]) (st' := [.int (J6_bitCount_0f7a4 x14_0), .int (J6_bitCount_0f7a4 x14_1)]) (rest := [.int (J6_bitCount_0f7a4 x14_1)]) E hS slX7_61 (c_J6_bitCount_0f7a4 (l := l) (D := D) (cy := cy) (p0 := x14_0) (r := (J6_bitCount_0f7a4 x14_0)) rfl) [] rfl rfl (fun _ => rfl) (fun _ => rfl) rfl rfl (Nat.le_of_ble_eq_true rfl) hl.1 (by rw [hRf]; exact Nat.le_of_ble_eq_true rfl) (by rw [hRl]; exact Nat.le_of_ble_eq_true rfl) ⟨Nat.zero_le _, Nat.zero_le _⟩ dX7_tooMany_36 rfl (fun H locs _ hS => ?_)
          refine lv_icmp_ge (tgt := 46) hx hb dX7_tooMany_39 (by decide) (fun c8 => ?_) (fun c8 => ?_)
          · have h := it_pos c8 h
            refine lv_iconst (v := 0) hx hb dX7_tooMany_46 (by decide) ?_
            exact hJ47 (0 : Int32)  H locs ls h hS (lv_sub hl [1, 2, 3, 4, 5, 0] rfl)
          · have h := it_neg c8 h
            refine lv_iconst (v := 1) hx hb dX7_tooMany_42 (by decide) ?_
            refine lv_goto (tgt := 47) hx hb dX7_tooMany_43 (by decide) ?_
            exact hJ47 (1 : Int32)  H locs ls h hS (lv_sub hl [1, 2, 3, 4, 5, 0] rfl)
  obtain ⟨y14, e14, h⟩ := bd_some h
  refine hL14 1000 (0 : Int32) (1 : Int32) y14  H locs ls e14 hS (lv_sub hl [3, 4, 2, 1, 0] rfl) (fun y14_0 ey14 H locs ls hS hl => ?_)
  subst ey14
  refine lv_iload_n hx hb dX7_tooMany_88 rfl (lv_at hl 0 rfl) ?_
  obtain rfl := Option.some.inj h
  exact rt_i E hQ (.null) hS dX7_tooMany_89
set_option maxHeartbeats 4000000 in
set_option maxRecDepth 100000 in
theorem c_X7_fewest {l : Launch} {D : va_G} {cy : Nat → ClassId} (q0 : Nat) (q1 : Nat) (u0_0 : Value) (u0_1 : Value) (u0_2 : Value) (u0_3 : Value) (u0_6 : Value) (u0_7 : Value) (w1_number : Int32) (w1_wanted : Nat → Int32) (p1 : Int32) (r : Int32) (h : X7_fewest w1_number w1_wanted p1 = some r) : Ct l yX7_fewest cX7_fewest 6 (some .int) 1 23 D cy [.ref q0, .int p1] [oX0 q0 u0_0 u0_1 u0_2 u0_3 (.ref q1) (.int w1_number) u0_6 u0_7, aI cy q1 7 w1_wanted] (fun _ => [oX0 q0 u0_0 u0_1 u0_2 u0_3 (.ref q1) (.int w1_number) u0_6 u0_7, aI cy q1 7 w1_wanted]) (some (.int r)) := by
  refine Ct.mk kX7_fewest (by decide +kernel) (Nat.le_of_ble_eq_true rfl) ?_
  intro p e s m below meth c A ls args R Q hRf hRl hQ E H locs hS hl
  have hx := E.x
  have hb := E.b
  have hl : lv_has ls 6 [(0, .ref q0), (1, .int p1)] := hl
  unfold X7_fewest at h
  refine lv_aload_n hx hb dX7_fewest_0 rfl (lv_at hl 0 rfl) ?_
  refine lv_iload_n hx hb dX7_fewest_1 rfl (lv_at hl 1 rfl) ?_
  obtain ⟨y2, e1, h⟩ := bd_some h
  refine ct_V (ws' := fun _ => [oX0 q0 u0_0 u0_1 u0_2 u0_3 (.ref q1) (.int w1_number) u0_6 u0_7, aI cy q1 7 w1_wanted]) (st' := [.int y2]) (rest := []) E hS vlX7_57 (c_X0_wantingSome (l := l) (D := D) (cy := cy) (q0 := q0) (q1 := q1) (u0_0 := u0_0) (u0_1 := u0_1) (u0_2 := u0_2) (u0_3 := u0_3) (u0_6 := u0_6) (u0_7 := u0_7) (v_number := w1_number) (v_wanted := w1_wanted) (p1 := p1) (r := y2) e1) [0, 1] rfl rfl (fun _ => rfl) (fun _ => rfl) rfl rfl rfl rfl (Nat.le_of_ble_eq_true rfl) hl.1 (by rw [hRf]; exact Nat.le_of_ble_eq_true rfl) (by rw [hRl]; exact Nat.le_of_ble_eq_true rfl) ⟨Nat.zero_le _, Nat.zero_le _⟩ dX7_fewest_2 rfl (fun H locs _ hS => ?_)
  refine lv_istore_n (lv' := [(2, .int y2), (0, .ref q0), (1, .int p1)]) hx hb dX7_fewest_5 rfl hl (by decide) rfl (fun ls hl => ?_)
  refine lv_iload_n hx hb dX7_fewest_6 rfl (lv_at hl 2 rfl) ?_
  refine lv_istore_n (lv' := [(3, .int p1), (2, .int y2), (0, .ref q0), (1, .int p1)]) hx hb dX7_fewest_7 rfl hl (by decide) rfl (fun ls hl => ?_)
  refine lv_iconst (v := 0) hx hb dX7_fewest_8 (by decide) ?_
  refine lv_istore (lv' := [(4, .int (0 : Int32)), (3, .int p1), (2, .int y2), (0, .ref q0), (1, .int p1)]) hx hb dX7_fewest_9 hl (by decide) rfl (fun ls hl => ?_)
  have hL11 : ∀ (n : Nat) (x11_0 : Int32) (x11_1 : Int32) (y11 : Int32) (H : Heap) (locs : List Loc) (ls : Array Slot), lp (fun x11 => X7_fewest_s11 w1_number w1_wanted p1 y2 x11.1 x11.2) n (x11_0, x11_1) = some y11 → Sv D A s.heap [oX0 q0 u0_0 u0_1 u0_2 u0_3 (.ref q1) (.int w1_number) u0_6 u0_7, aI cy q1 7 w1_wanted] H locs → lv_has ls 6 [(0, .ref q0), (1, .int p1), (2, .int y2), (3, .int x11_0), (4, .int x11_1)] → ( ∀ (y11_0 : Int32), y11_0 = y11 → ∀ (H : Heap) (locs : List Loc) (ls : Array Slot), Sv D A s.heap [oX0 q0 u0_0 u0_1 u0_2 u0_3 (.ref q1) (.int w1_number) u0_6 u0_7, aI cy q1 7 w1_wanted] H locs → lv_has ls 6 [(3, .int y11_0)] → W p l e R s m args below meth c H locs 0 0 Q (F0 m 71 ls [])) → W p l e R s m args below meth c H locs 0 0 Q (F0 m 11 ls []) := by
    intro n
    induction n with
    | zero =>
      intro x11_0 x11_1 y11 H locs ls h
      exact lp_zero h
    | succ n ih11 =>
      intro x11_0 x11_1 y11 H locs ls h hS hl hk11_0
      obtain ⟨z11, h, hz11a, hz11b⟩ := lp_succ h
      have h : X7_fewest_s11 w1_number w1_wanted p1 y2 x11_0 x11_1 = some z11 := h
      unfold X7_fewest_s11 at h
      refine lv_iload hx hb dX7_fewest_11 (lv_at hl 4 rfl) ?_
      refine lv_sipush (v := 128) hx hb dX7_fewest_13 (by decide) ?_
      refine lv_icmp_ge (tgt := 71) hx hb dX7_fewest_16 (by decide) (fun c2 => ?_) (fun c2 => ?_)
      · have h := it_pos c2 h
        exact hk11_0 x11_0 (hz11b _ (Option.some.inj h).symm)  H locs ls hS (lv_sub hl [3] rfl)
      · have h := it_neg c2 h
        refine lv_iload hx hb dX7_fewest_19 (lv_at hl 4 rfl) ?_
        refine lv_iload_n hx hb dX7_fewest_21 rfl (lv_at hl 1 rfl) ?_
        refine lv_iconst (v := -1) hx hb dX7_fewest_22 (by decide) ?_
        refine lv_ixor hx hb dX7_fewest_23 ?_
        refine lv_iand hx hb dX7_fewest_24 ?_
        have hJ45 : ∀ (j45_t0 : Int32) (H : Heap) (locs : List Loc) (ls : Array Slot), X7_fewest_k45 w1_number w1_wanted y2 x11_0 x11_1 j45_t0 = some z11 → Sv D A s.heap [oX0 q0 u0_0 u0_1 u0_2 u0_3 (.ref q1) (.int w1_number) u0_6 u0_7, aI cy q1 7 w1_wanted] H locs → lv_has ls 6 [(0, .ref q0), (1, .int p1), (2, .int y2), (3, .int x11_0), (4, .int x11_1)] → W p l e R s m args below meth c H locs 0 0 Q (F0 m 45 ls [.int j45_t0]) := by
          intro j45_t0 H locs ls h hS hl
          unfold X7_fewest_k45 at h
          refine lv_istore (lv' := [(5, .int j45_t0), (0, .ref q0), (1, .int p1), (2, .int y2), (3, .int x11_0), (4, .int x11_1)]) hx hb dX7_fewest_45 hl (by decide) rfl (fun ls hl => ?_)
          refine lv_iload hx hb dX7_fewest_47 (lv_at hl 0 rfl) ?_
          refine lv_if_eq (tgt := 65) hx hb dX7_fewest_49 (by decide) (fun c3 => ?_) (fun c3 => ?_)
          · have h := it_pos c3 h
            refine lv_iinc (v := (x11_1 + (1 : Int32))) (lv' := [(4, .int (x11_1 + (1 : Int32))), (5, .int j45_t0), (0, .ref q0), (1, .int p1), (2, .int y2), (3, .int x11_0)]) hx hb dX7_fewest_65 hl (k := 5) rfl rfl (by decide) rfl (fun ls hl => ?_)
            refine lv_goto (tgt := 11) hx hb dX7_fewest_68 (by decide) ?_
            exact ih11 x11_0 (x11_1 + (1 : Int32)) y11  H locs ls (hz11a _ (Option.some.inj h).symm) hS (lv_sub hl [2, 3, 4, 5, 0] rfl) hk11_0
          · have h := it_neg c3 h
            refine lv_aload_n hx hb dX7_fewest_52 rfl (lv_at hl 1 rfl) ?_
            refine lv_iload hx hb dX7_fewest_53 (lv_at hl 5 rfl) ?_
            obtain ⟨y55, e4, h⟩ := bd_some h
            refine ct_V (ws' := fun _ => [oX0 q0 u0_0 u0_1 u0_2 u0_3 (.ref q1) (.int w1_number) u0_6 u0_7, aI cy q1 7 w1_wanted]) (st' := [.int y55]) (rest := []) E hS vlX7_57 (c_X0_wantingSome (l := l) (D := D) (cy := cy) (q0 := q0) (q1 := q1) (u0_0 := u0_0) (u0_1 := u0_1) (u0_2 := u0_2) (u0_3 := u0_3) (u0_6 := u0_6) (u0_7 := u0_7) (v_number := w1_number) (v_wanted := w1_wanted) (p1 := x11_1) (r := y55) e4) [0, 1] rfl rfl (fun _ => rfl) (fun _ => rfl) rfl rfl rfl rfl (Nat.le_of_ble_eq_true rfl) hl.1 (by rw [hRf]; exact Nat.le_of_ble_eq_true rfl) (by rw [hRl]; exact Nat.le_of_ble_eq_true rfl) ⟨Nat.zero_le _, Nat.zero_le _⟩ dX7_fewest_55 rfl (fun H locs _ hS => ?_)
            refine lv_iload_n hx hb dX7_fewest_58 rfl (lv_at hl 3 rfl) ?_
            refine lv_icmp_ne (tgt := 65) hx hb dX7_fewest_59 (by decide) (fun c5 => ?_) (fun c5 => ?_)
            · have h := it_neg c5 h
              refine lv_iinc (v := (x11_1 + (1 : Int32))) (lv' := [(4, .int (x11_1 + (1 : Int32))), (5, .int j45_t0), (0, .ref q0), (1, .int p1), (2, .int y2), (3, .int x11_0)]) hx hb dX7_fewest_65 hl (k := 5) rfl rfl (by decide) rfl (fun ls hl => ?_)
              refine lv_goto (tgt := 11) hx hb dX7_fewest_68 (by decide) ?_
              exact ih11 x11_0 (x11_1 + (1 : Int32)) y11  H locs ls (hz11a _ (Option.some.inj h).symm) hS (lv_sub hl [2, 3, 4, 5, 0] rfl) hk11_0
            · have h := it_pos c5 h
              refine lv_iload hx hb dX7_fewest_62 (lv_at hl 5 rfl) ?_
              refine lv_istore_n (lv' := [(3, .int x11_1), (5, .int j45_t0), (0, .ref q0), (1, .int p1), (2, .int y2), (4, .int x11_1)]) hx hb dX7_fewest_64 rfl hl (by decide) rfl (fun ls hl => ?_)
              refine lv_iinc (v := (x11_1 + (1 : Int32))) (lv' := [(4, .int (x11_1 + (1 : Int32))), (3, .int x11_1), (5, .int j45_t0), (0, .ref q0), (1, .int p1), (2, .int y2)]) hx hb dX7_fewest_65 hl (k := 5) rfl rfl (by decide) rfl (fun ls hl => ?_)
              refine lv_goto (tgt := 11) hx hb dX7_fewest_68 (by decide) ?_
              exact ih11 x11_1 (x11_1 + (1 : Int32)) y11  H locs ls (hz11a _ (Option.some.inj h).symm) hS (lv_sub hl [3, 4, 5, 1, 0] rfl) hk11_0
        refine lv_if_ne (tgt := 44) hx hb dX7_fewest_25 (by decide) (fun c6 => ?_) (fun c6 => ?_)
        · have h := it_neg c6 h
          refine lv_iconst (v := 0) hx hb dX7_fewest_44 (by decide) ?_
          exact hJ45 (0 : Int32)  H locs ls h hS (lv_sub hl [0, 1, 2, 3, 4] rfl)
        · have h := it_pos c6 h
          refine lv_iload hx hb dX7_fewest_28 (lv_at hl 4 rfl) ?_
          refine ct_S (ws' := fun _ => [oX0 q0 u0_0 u0_1 u0_2 u0_3 (.ref q1) (.int w1_number) u0_6 u0_7, aI cy q1 7 w1_wanted]) (st' := [.int (J6_bitCount_0f7a4 x11_1)]) (rest := []) E hS slX7_61 (c_J6_bitCount_0f7a4 (l := l) (D := D) (cy := cy) (p0 := x11_1) (r := (J6_bitCount_0f7a4 x11_1)) rfl) [] rfl rfl (fun _ => rfl) (fun _ => rfl) rfl rfl (Nat.le_of_ble_eq_true rfl) hl.1 (by rw [hRf]; exact Nat.le_of_ble_eq_true rfl) (by rw [hRl]; exact Nat.le_of_ble_eq_true rfl) ⟨Nat.zero_le _, Nat.zero_le _⟩ dX7_fewest_30 rfl (fun H locs _ hS => ?_)
          refine lv_iload_n hx hb dX7_fewest_33 rfl (lv_at hl 3 rfl) ?_
          refine ct_S (ws' := fun _ => [oX0 q0 u0_0 u0_1 u0_2 u0_3 (.ref q1) (.int w1_number) u0_6 u0_7, aI cy q1 7 w1_wanted]) (st' := [.int (J6_bitCount_0f7a4 x11_0), .int (J6_bitCount_0f7a4 x11_1)]) (rest := [.int (J6_bitCount_0f7a4 x11_1)]) E hS slX7_61 (c_J6_bitCount_0f7a4 (l := l) (D := D) (cy := cy) (p0 := x11_0) (r := (J6_bitCount_0f7a4 x11_0)) rfl) [] rfl rfl (fun _ => rfl) (fun _ => rfl) rfl rfl (Nat.le_of_ble_eq_true rfl) hl.1 (by rw [hRf]; exact Nat.le_of_ble_eq_true rfl) (by rw [hRl]; exact Nat.le_of_ble_eq_true rfl) ⟨Nat.zero_le _, Nat.zero_le _⟩ dX7_fewest_34 rfl (fun H locs _ hS => ?_)
          refine lv_icmp_ge (tgt := 44) hx hb dX7_fewest_37 (by decide) (fun c7 => ?_) (fun c7 => ?_)
          · have h := it_pos c7 h
            refine lv_iconst (v := 0) hx hb dX7_fewest_44 (by decide) ?_
            exact hJ45 (0 : Int32)  H locs ls h hS (lv_sub hl [0, 1, 2, 3, 4] rfl)
          · have h := it_neg c7 h
            refine lv_iconst (v := 1) hx hb dX7_fewest_40 (by decide) ?_
            refine lv_goto (tgt := 45) hx hb dX7_fewest_41 (by decide) ?_
            exact hJ45 (1 : Int32)  H locs ls h hS (lv_sub hl [0, 1, 2, 3, 4] rfl)
  obtain ⟨y11, e11, h⟩ := bd_some h
  refine hL11 1000 p1 (0 : Int32) y11  H locs ls e11 hS (lv_sub hl [3, 4, 2, 1, 0] rfl) (fun y11_0 ey11 H locs ls hS hl => ?_)
  subst ey11
  refine lv_iload_n hx hb dX7_fewest_71 rfl (lv_at hl 0 rfl) ?_
  obtain rfl := Option.some.inj h
  exact rt_i E hQ (.null) hS dX7_fewest_72

