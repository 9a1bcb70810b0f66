set_option maxHeartbeats 4000000 in
set_option maxRecDepth 100000 in
theorem c_X6_goesOnNumber {l : Launch} {D : va_G} {cy : Nat → ClassId} (q0 : Nat) (q1 : Nat) (q2 : Nat) (u0_0 : Value) (u0_1 : Value) (u0_2 : Value) (u0_3 : Value) (u0_5 : Value) (u1_1 : Value) (u1_2 : Value) (v_digits : Int32) (w2_size : Int32) (w2_code : Nat → Int32) (p1 : Int32) (r : Int32 × Int32 × (Nat → Int32)) (h : X6_goesOnNumber v_digits w2_size w2_code p1 = some r) : Ct l yX6_goesOnNumber cX6_goesOnNumber 3 (some .boolean) 1 21 D cy [.ref q0, .int p1, .ref q1] [oX6 q0 u0_0 u0_1 u0_2 u0_3 (.int v_digits) u0_5, oX5 q1 (.ref q2) u1_1 u1_2 (.int w2_size), aI cy q2 40 w2_code] (fun _ => [oX6 q0 u0_0 u0_1 u0_2 u0_3 (.int r.2.1) u0_5, oX5 q1 (.ref q2) u1_1 u1_2 (.int w2_size), aI cy q2 40 r.2.2]) (some (.int r.1)) := by
  refine Ct.mk kX6_goesOnNumber (by decide +kernel) (Nat.le_of_ble_eq_true rfl) ?_
  intro p e s m below meth c A ls args R Q hRf hRl hQ E H locs hS hl
  have hx := E.x
  have hb := E.b
  have hl : lv_has ls 3 [(0, .ref q0), (1, .int p1), (2, .ref q1)] := hl
  unfold X6_goesOnNumber at h
  refine lv_aload_n hx hb dX6_goesOnNumber_0 rfl (lv_at hl 0 rfl) ?_
  refine r_get E frX6_25 hS 0 rfl rfl dX6_goesOnNumber_1 ?_
  refine lv_if_eq (tgt := 15) hx hb dX6_goesOnNumber_4 (by decide) (fun c1 => ?_) (fun c1 => ?_)
  · have h := it_pos c1 h
    refine lv_iconst (v := 0) hx hb dX6_goesOnNumber_15 (by decide) ?_
    obtain rfl := Option.some.inj h
    exact rt_n E rfl hQ (.null) hS dX6_goesOnNumber_16
  · have h := it_neg c1 h
    refine lv_aload_n hx hb dX6_goesOnNumber_7 rfl (lv_at hl 0 rfl) ?_
    refine r_get E frX6_25 hS 0 rfl rfl dX6_goesOnNumber_8 ?_
    refine lv_iconst (v := 3) hx hb dX6_goesOnNumber_11 (by decide) ?_
    refine lv_icmp_lt (tgt := 17) hx hb dX6_goesOnNumber_12 (by decide) (fun c2 => ?_) (fun c2 => ?_)
    · have h := it_pos c2 h
      refine lv_aload_n hx hb dX6_goesOnNumber_17 rfl (lv_at hl 0 rfl) ?_
      refine lv_dup hx hb dX6_goesOnNumber_18 rfl ?_
      refine r_get E frX6_25 hS 0 rfl rfl dX6_goesOnNumber_19 ?_
      refine lv_iconst (v := 1) hx hb dX6_goesOnNumber_22 (by decide) ?_
      refine lv_iadd hx hb dX6_goesOnNumber_23 ?_
      refine r_put (ws' := [oX6 q0 u0_0 u0_1 u0_2 u0_3 (.int (v_digits + (1 : Int32))) u0_5, oX5 q1 (.ref q2) u1_1 u1_2 (.int w2_size), aI cy q2 40 w2_code]) E frX6_25 hS 0 rfl (Nat.le_of_ble_eq_true rfl) rfl rfl rfl rfl dX6_goesOnNumber_24 (fun H locs hS => ?_)
      refine lv_aload_n hx hb dX6_goesOnNumber_27 rfl (lv_at hl 2 rfl) ?_
      refine lv_iload_n hx hb dX6_goesOnNumber_28 rfl (lv_at hl 1 rfl) ?_
      obtain ⟨y29, e3, h⟩ := bd_some h
      refine ct_V (ws' := fun _ => [oX6 q0 u0_0 u0_1 u0_2 u0_3 (.int (v_digits + (1 : Int32))) u0_5, oX5 q1 (.ref q2) u1_1 u1_2 (.int w2_size), aI cy q2 40 y29]) (st' := []) (rest := []) E hS vlX6_76 (c_X5_widens (l := l) (D := D) (cy := cy) (q0 := q1) (q1 := q2) (u0_1 := u1_1) (u0_2 := u1_2) (v_size := w2_size) (v_code := w2_code) (p1 := p1) (r := y29) e3) [1, 2] rfl rfl (fun _ => rfl) (fun _ => rfl) rfl rfl rfl rfl (Nat.le_of_ble_eq_true rfl) hl.1 (by rw [hRf]; exact Nat.le_of_ble_eq_true rfl) (by rw [hRl]; exact Nat.le_of_ble_eq_true rfl) ⟨Nat.zero_le _, Nat.zero_le _⟩ dX6_goesOnNumber_29 rfl (fun H locs _ hS => ?_)
      refine lv_iconst (v := 1) hx hb dX6_goesOnNumber_32 (by decide) ?_
      obtain rfl := Option.some.inj h
      exact rt_n E rfl hQ (.null) hS dX6_goesOnNumber_33
    · have h := it_neg c2 h
      refine lv_iconst (v := 0) hx hb dX6_goesOnNumber_15 (by decide) ?_
      obtain rfl := Option.some.inj h
      exact rt_n E rfl hQ (.null) hS dX6_goesOnNumber_16
set_option maxHeartbeats 4000000 in
set_option maxRecDepth 100000 in
theorem c_X6_bindingOf {l : Launch} {D : va_G} {cy : Nat → ClassId} (p0 : Int32) (r : Int32) (h : X6_bindingOf p0 = r) : Ct l yX6_bindingOf cX6_bindingOf 2 (some .int) 0 0 D cy [.int p0] [] (fun _ => []) (some (.int r)) := by
  refine Ct.mk kX6_bindingOf (by decide +kernel) (Nat.le_of_ble_eq_true rfl) ?_
  intro p e s m below meth c A ls args R Q hRf hRl hQ E H locs hS hl
  have hx := E.x
  have hb := E.b
  have hl : lv_has ls 2 [(0, .int p0)] := hl
  unfold X6_bindingOf at h
  refine lv_iload_n hx hb dX6_bindingOf_0 rfl (lv_at hl 0 rfl) ?_
  refine lv_if_ne (tgt := 6) hx hb dX6_bindingOf_1 (by decide) (fun c1 => ?_) (fun c1 => ?_)
  · have h := it_neg c1 h
    refine lv_iload_n hx hb dX6_bindingOf_6 rfl (lv_at hl 0 rfl) ?_
    refine lv_sipush (v := 2007) hx hb dX6_bindingOf_7 (by decide) ?_
    refine lv_icmp_ne (tgt := 15) hx hb dX6_bindingOf_10 (by decide) (fun c2 => ?_) (fun c2 => ?_)
    · have h := it_neg c2 h
      refine lv_iload_n hx hb dX6_bindingOf_15 rfl (lv_at hl 0 rfl) ?_
      refine lv_sipush (v := 2000) hx hb dX6_bindingOf_16 (by decide) ?_
      refine lv_isub hx hb dX6_bindingOf_19 ?_
      refine lv_istore_n (lv' := [(1, .int (p0 - (2000 : Int32))), (0, .int p0)]) hx hb dX6_bindingOf_20 rfl hl (by decide) rfl (fun ls hl => ?_)
      refine lv_iload_n hx hb dX6_bindingOf_21 rfl (lv_at hl 0 rfl) ?_
      refine lv_iconst (v := 3) hx hb dX6_bindingOf_22 (by decide) ?_
      have hJ40 : ∀ (s40_0 : Int32) (ls : Array Slot), s40_0 = (if (3 : Int32) ≤ (p0 - (2000 : Int32)) then (if (5 : Int32) ≤ (p0 - (2000 : Int32)) then (3 : Int32) else (2 : Int32)) else (1 : Int32)) → lv_has ls 2 [] → W p l e R s m args below meth c H locs 0 0 Q (F0 m 40 ls [.int s40_0]) := by
        intro s40_0 ls es40_0 hl
        subst es40_0
        subst h
        exact rt_i E hQ (.null) hS dX6_bindingOf_40
      refine lv_icmp_ge (tgt := 30) hx hb dX6_bindingOf_23 (by decide) (fun c3 => ?_) (fun c3 => ?_)
      · refine lv_iload_n hx hb dX6_bindingOf_30 rfl (lv_at hl 0 rfl) ?_
        refine lv_iconst (v := 5) hx hb dX6_bindingOf_31 (by decide) ?_
        refine lv_icmp_ge (tgt := 39) hx hb dX6_bindingOf_32 (by decide) (fun c4 => ?_) (fun c4 => ?_)
        · refine lv_iconst (v := 3) hx hb dX6_bindingOf_39 (by decide) ?_
          exact hJ40 _ ls (((if_pos c3).trans (if_pos c4))).symm (lv_sub hl [] rfl)
        · refine lv_iconst (v := 2) hx hb dX6_bindingOf_35 (by decide) ?_
          refine lv_goto (tgt := 40) hx hb dX6_bindingOf_36 (by decide) ?_
          exact hJ40 _ ls (((if_pos c3).trans (if_neg c4))).symm (lv_sub hl [] rfl)
      · refine lv_iconst (v := 1) hx hb dX6_bindingOf_26 (by decide) ?_
        refine lv_goto (tgt := 40) hx hb dX6_bindingOf_27 (by decide) ?_
        exact hJ40 _ ls ((if_neg c3)).symm (lv_sub hl [] rfl)
    · have h := it_pos c2 h
      refine lv_iconst (v := 4) hx hb dX6_bindingOf_13 (by decide) ?_
      subst h
      exact rt_i E hQ (.null) hS dX6_bindingOf_14
  · have h := it_pos c1 h
    refine lv_iconst (v := 0) hx hb dX6_bindingOf_4 (by decide) ?_
    subst h
    exact rt_i E hQ (.null) hS dX6_bindingOf_5
set_option maxHeartbeats 4000000 in
set_option maxRecDepth 100000 in
theorem c_X6_settles {l : Launch} {D : va_G} {cy : Nat → ClassId} (q0 : Nat) (q1 : Nat) (q2 : Nat) (q3 : Nat) (u0_2 : Value) (u0_3 : Value) (u0_4 : Value) (u0_5 : Value) (u2_1 : Value) (u2_2 : Value) (v_waits : Int32) (v_waiting : Nat → Int32) (w2_size : Int32) (w2_code : Nat → Int32) (p1 : Int32) (r : Int32 × Int32 × (Nat → Int32)) (h : X6_settles v_waits v_waiting w2_size w2_code p1 = some r) : Ct l yX6_settles cX6_settles 4 none 1 21 D cy [.ref q0, .int p1, .ref q2] [oX6 q0 (.ref q1) (.int v_waits) u0_2 u0_3 u0_4 u0_5, aI cy q1 40 v_waiting, oX5 q2 (.ref q3) u2_1 u2_2 (.int w2_size), aI cy q3 40 w2_code] (fun _ => [oX6 q0 (.ref q1) (.int r.1) u0_2 u0_3 u0_4 u0_5, aI cy q1 40 v_waiting, oX5 q2 (.ref q3) u2_1 u2_2 (.int r.2.1), aI cy q3 40 r.2.2]) (none) := by
  refine Ct.mk kX6_settles (by decide +kernel) (Nat.le_of_ble_eq_true rfl) ?_
  intro p e s m below meth c A ls args R Q hRf hRl hQ E H locs hS hl
  have hx := E.x
  have hb := E.b
  have hl : lv_has ls 4 [(0, .ref q0), (1, .int p1), (2, .ref q2)] := hl
  unfold X6_settles at h
  refine lv_aload_n hx hb dX6_settles_0 rfl (lv_at hl 0 rfl) ?_
  refine r_get E frX6_15 hS 0 rfl rfl dX6_settles_1 ?_
  refine lv_iconst (v := 1) hx hb dX6_settles_4 (by decide) ?_
  refine lv_isub hx hb dX6_settles_5 ?_
  refine lv_istore_n (lv' := [(3, .int (v_waits - (1 : Int32))), (0, .ref q0), (1, .int p1), (2, .ref q2)]) hx hb dX6_settles_6 rfl hl (by decide) rfl (fun ls hl => ?_)
  have hL7 : ∀ (n : Nat) (x7_0 : Int32) (x7_1 : Int32) (x7_2 : Int32) (x7_3 : Nat → Int32) (y7 : (Int32 × Int32 × (Nat → Int32)) ⊕ (Int32 × Int32 × (Nat → Int32))) (H : Heap) (locs : List Loc) (ls : Array Slot), lp (fun x7 => X6_settles_s7 v_waiting p1 x7.1 x7.2.1 x7.2.2.1 x7.2.2.2) n (x7_0, x7_1, x7_2, x7_3) = some y7 → Sv D A s.heap [oX6 q0 (.ref q1) (.int x7_1) u0_2 u0_3 u0_4 u0_5, aI cy q1 40 v_waiting, oX5 q2 (.ref q3) u2_1 u2_2 (.int x7_2), aI cy q3 40 x7_3] H locs → lv_has ls 4 [(0, .ref q0), (1, .int p1), (2, .ref q2), (3, .int x7_0)] → ( ∀ (ye7_0_0 : Int32) (ye7_0_1 : Int32) (ye7_0_2 : Nat → Int32), .inl (ye7_0_0, ye7_0_1, ye7_0_2) = y7 → ∀ (H : Heap) (locs : List Loc) (ls : Array Slot), Sv D A s.heap [oX6 q0 (.ref q1) (.int ye7_0_0) u0_2 u0_3 u0_4 u0_5, aI cy q1 40 v_waiting, oX5 q2 (.ref q3) u2_1 u2_2 (.int ye7_0_1), aI cy q3 40 ye7_0_2] H locs → lv_has ls 4 [] → W p l e R s m args below meth c H locs 0 0 Q (F0 m 52 ls [])) → ( ∀ (ye7_1_0 : Int32) (ye7_1_1 : Int32) (ye7_1_2 : Nat → Int32), .inr (ye7_1_0, ye7_1_1, ye7_1_2) = y7 → ∀ (H : Heap) (locs : List Loc) (ls : Array Slot), Sv D A s.heap [oX6 q0 (.ref q1) (.int ye7_1_0) u0_2 u0_3 u0_4 u0_5, aI cy q1 40 v_waiting, oX5 q2 (.ref q3) u2_1 u2_2 (.int ye7_1_1), aI cy q3 40 ye7_1_2] H locs → lv_has ls 4 [] → W p l e R s m args below meth c H locs 0 0 Q (F0 m 30 ls [])) → W p l e R s m args below meth c H locs 0 0 Q (F0 m 7 ls []) := by
    intro n
    induction n with
    | zero =>
      intro x7_0 x7_1 x7_2 x7_3 y7 H locs ls h
      exact lp_zero h
    | succ n ih7 =>
      intro x7_0 x7_1 x7_2 x7_3 y7 H locs ls h hS hl hk7_0 hk7_1
      obtain ⟨z7, h, hz7a, hz7b⟩ := lp_succ h
      have h : X6_settles_s7 v_waiting p1 x7_0 x7_1 x7_2 x7_3 = some z7 := h
      unfold X6_settles_s7 at h
      refine lv_iload_n hx hb dX6_settles_7 rfl (lv_at hl 3 rfl) ?_
      refine lv_if_lt (tgt := 52) hx hb dX6_settles_8 (by decide) (fun c1 => ?_) (fun c1 => ?_)
      · have h := it_pos c1 h
        exact hk7_0 x7_1 x7_2 x7_3 (hz7b _ (Option.some.inj h).symm)  H locs ls hS (lv_sub hl [] rfl)
      · have h := it_neg c1 h
        refine lv_iload_n hx hb dX6_settles_11 rfl (lv_at hl 3 rfl) ?_
        refine lv_bipush (v := 40) hx hb dX6_settles_12 (by decide) ?_
        refine lv_icmp_ge (tgt := 52) hx hb dX6_settles_14 (by decide) (fun c2 => ?_) (fun c2 => ?_)
        · have h := it_pos c2 h
          exact hk7_0 x7_1 x7_2 x7_3 (hz7b _ (Option.some.inj h).symm)  H locs ls hS (lv_sub hl [] rfl)
        · have h := it_neg c2 h
          refine lv_aload_n hx hb dX6_settles_17 rfl (lv_at hl 0 rfl) ?_
          refine r_get E frX6_9 hS 0 rfl rfl dX6_settles_18 ?_
          refine lv_iload_n hx hb dX6_settles_21 rfl (lv_at hl 3 rfl) ?_
          obtain ⟨g3, h⟩ := gi_some h
          refine r_iald E hS 1 rfl g3 dX6_settles_22 ?_
          refine ct_S (ws' := fun _ => [oX6 q0 (.ref q1) (.int x7_1) u0_2 u0_3 u0_4 u0_5, aI cy q1 40 v_waiting, oX5 q2 (.ref q3) u2_1 u2_2 (.int x7_2), aI cy q3 40 x7_3]) (st' := [.int (X6_bindingOf (v_waiting x7_0.toNatClampNeg))]) (rest := []) E hS slX6_73 (c_X6_bindingOf (l := l) (D := D) (cy := cy) (p0 := (v_waiting x7_0.toNatClampNeg)) (r := (X6_bindingOf (v_waiting x7_0.toNatClampNeg))) rfl) [] rfl rfl (fun _ => rfl) (fun _ => rfl) rfl rfl (Nat.le_of_ble_eq_true rfl) hl.1 (by rw [hRf]; exact Nat.le_of_ble_eq_true rfl) (by rw [hRl]; exact Nat.le_of_ble_eq_true rfl) ⟨Nat.zero_le _, Nat.zero_le _⟩ dX6_settles_23 rfl (fun H locs _ hS => ?_)
          refine lv_iload_n hx hb dX6_settles_26 rfl (lv_at hl 1 rfl) ?_
          refine lv_icmp_ge (tgt := 31) hx hb dX6_settles_27 (by decide) (fun c4 => ?_) (fun c4 => ?_)
          · have h := it_pos c4 h
            refine lv_aload_n hx hb dX6_settles_31 rfl (lv_at hl 2 rfl) ?_
            refine lv_aload_n hx hb dX6_settles_32 rfl (lv_at hl 0 rfl) ?_
            refine r_get E frX6_9 hS 0 rfl rfl dX6_settles_33 ?_
            refine lv_iload_n hx hb dX6_settles_36 rfl (lv_at hl 3 rfl) ?_
            obtain ⟨g5, h⟩ := gi_some h
            refine r_iald E hS 1 rfl g5 dX6_settles_37 ?_
            obtain ⟨y38, e6, h⟩ := bd_some h
            refine ct_V (ws' := fun _ => [oX6 q0 (.ref q1) (.int x7_1) u0_2 u0_3 u0_4 u0_5, aI cy q1 40 v_waiting, oX5 q2 (.ref q3) u2_1 u2_2 (.int y38.1), aI cy q3 40 y38.2]) (st' := []) (rest := []) E hS vlX6_56 (c_X5_adds (l := l) (D := D) (cy := cy) (q0 := q2) (q1 := q3) (u0_1 := u2_1) (u0_2 := u2_2) (v_size := x7_2) (v_code := x7_3) (p1 := (v_waiting x7_0.toNatClampNeg)) (r := y38) e6) [2, 3] rfl rfl (fun _ => rfl) (fun _ => rfl) rfl rfl rfl rfl (Nat.le_of_ble_eq_true rfl) hl.1 (by rw [hRf]; exact Nat.le_of_ble_eq_true rfl) (by rw [hRl]; exact Nat.le_of_ble_eq_true rfl) ⟨Nat.zero_le _, Nat.zero_le _⟩ dX6_settles_38 rfl (fun H locs _ hS => ?_)
            refine lv_aload_n hx hb dX6_settles_41 rfl (lv_at hl 0 rfl) ?_
            refine lv_iload_n hx hb dX6_settles_42 rfl (lv_at hl 3 rfl) ?_
            refine r_put (ws' := [oX6 q0 (.ref q1) (.int x7_0) u0_2 u0_3 u0_4 u0_5, aI cy q1 40 v_waiting, oX5 q2 (.ref q3) u2_1 u2_2 (.int y38.1), aI cy q3 40 y38.2]) E frX6_15 hS 0 rfl (Nat.le_of_ble_eq_true rfl) rfl rfl rfl rfl dX6_settles_43 (fun H locs hS => ?_)
            refine lv_iinc (v := (x7_0 + (-1 : Int32))) (lv' := [(3, .int (x7_0 + (-1 : Int32))), (0, .ref q0), (1, .int p1), (2, .ref q2)]) hx hb dX6_settles_46 hl (k := 3) rfl rfl (by decide) rfl (fun ls hl => ?_)
            refine lv_goto (tgt := 7) hx hb dX6_settles_49 (by decide) ?_
            exact ih7 (x7_0 + (-1 : Int32)) x7_0 y38.1 y38.2 y7  H locs ls (hz7a _ (Option.some.inj h).symm) hS (lv_sub hl [1, 2, 3, 0] rfl) hk7_0 hk7_1
          · have h := it_neg c4 h
            exact hk7_1 x7_1 x7_2 x7_3 (hz7b _ (Option.some.inj h).symm)  H locs ls hS (lv_sub hl [] rfl)
  obtain ⟨y7, e7, h⟩ := bd_some h
  refine hL7 1000 (v_waits - (1 : Int32)) v_waits w2_size w2_code y7  H locs ls e7 hS (lv_sub hl [1, 2, 3, 0] rfl) (fun ye7_0_0 ye7_0_1 ye7_0_2 ey7 H locs ls hS hl => ?_) (fun ye7_1_0 ye7_1_1 ye7_1_2 ey7 H locs ls hS hl => ?_)
  · subst ey7
    have h := sm_l h
    have h := un_r h
    have h := un_r h
    obtain rfl := Option.some.inj h
    exact rt_v E hQ (.null) hS dX6_settles_52
  · subst ey7
    have h := sm_r h
    have h := un_r h
    have h := un_r h
    obtain rfl := Option.some.inj h
    exact rt_v E hQ (.null) hS dX6_settles_30
set_option maxHeartbeats 4000000 in
set_option maxRecDepth 100000 in
theorem c_X6_closes {l : Launch} {D : va_G} {cy : Nat → ClassId} (q0 : Nat) (q1 : Nat) (q2 : Nat) (q3 : Nat) (u0_3 : Value) (u0_4 : Value) (u0_5 : Value) (u2_1 : Value) (u2_2 : Value) (v_waits : Int32) (v_depth : Int32) (v_waiting : Nat → Int32) (w1_size : Int32) (w1_code : Nat → Int32) (r : Int32 × Int32 × Int32 × Int32 × (Nat → Int32)) (h : X6_closes v_waits v_depth v_waiting w1_size w1_code = some r) : Ct l yX6_closes cX6_closes 2 (some .boolean) 2 44 D cy [.ref q0, .ref q2] [oX6 q0 (.ref q1) (.int v_waits) (.int v_depth) u0_3 u0_4 u0_5, aI cy q1 40 v_waiting, oX5 q2 (.ref q3) u2_1 u2_2 (.int w1_size), aI cy q3 40 w1_code] (fun _ => [oX6 q0 (.ref q1) (.int r.2.1) (.int r.2.2.1) u0_3 u0_4 u0_5, aI cy q1 40 v_waiting, oX5 q2 (.ref q3) u2_1 u2_2 (.int r.2.2.2.1), aI cy q3 40 r.2.2.2.2]) (some (.int r.1)) := by
  refine Ct.mk kX6_closes (by decide +kernel) (Nat.le_of_ble_eq_true rfl) ?_
  intro p e s m below meth c A ls args R Q hRf hRl hQ E H locs hS hl
  have hx := E.x
  have hb := E.b
  have hl : lv_has ls 2 [(0, .ref q0), (1, .ref q2)] := hl
  unfold X6_closes at h
  refine lv_aload_n hx hb dX6_closes_0 rfl (lv_at hl 0 rfl) ?_
  refine r_get E frX6_19 hS 0 rfl rfl dX6_closes_1 ?_
  refine lv_if_eq (tgt := 14) hx hb dX6_closes_4 (by decide) (fun c1 => ?_) (fun c1 => ?_)
  · have h := it_pos c1 h
    refine lv_iconst (v := 0) hx hb dX6_closes_14 (by decide) ?_
    obtain rfl := Option.some.inj h
    exact rt_n E rfl hQ (.null) hS dX6_closes_15
  · have h := it_neg c1 h
    refine lv_aload_n hx hb dX6_closes_7 rfl (lv_at hl 0 rfl) ?_
    refine r_get E frX6_15 hS 0 rfl rfl dX6_closes_8 ?_
    refine lv_if_ne (tgt := 16) hx hb dX6_closes_11 (by decide) (fun c2 => ?_) (fun c2 => ?_)
    · have h := it_neg c2 h
      refine lv_aload_n hx hb dX6_closes_16 rfl (lv_at hl 0 rfl) ?_
      refine lv_iconst (v := 1) hx hb dX6_closes_17 (by decide) ?_
      refine lv_aload_n hx hb dX6_closes_18 rfl (lv_at hl 1 rfl) ?_
      obtain ⟨y19, e3, h⟩ := bd_some h
      refine ct_V (ws' := fun _ => [oX6 q0 (.ref q1) (.int y19.1) (.int v_depth) u0_3 u0_4 u0_5, aI cy q1 40 v_waiting, oX5 q2 (.ref q3) u2_1 u2_2 (.int y19.2.1), aI cy q3 40 y19.2.2]) (st' := []) (rest := []) E hS vlX6_44 (c_X6_settles (l := l) (D := D) (cy := cy) (q0 := q0) (q1 := q1) (q2 := q2) (q3 := q3) (u0_2 := .int v_depth) (u0_3 := u0_3) (u0_4 := u0_4) (u0_5 := u0_5) (u2_1 := u2_1) (u2_2 := u2_2) (v_waits := v_waits) (v_waiting := v_waiting) (w2_size := w1_size) (w2_code := w1_code) (p1 := (1 : Int32)) (r := y19) e3) [0, 1, 2, 3] rfl rfl (fun _ => rfl) (fun _ => rfl) rfl rfl rfl rfl (Nat.le_of_ble_eq_true rfl) hl.1 (by rw [hRf]; exact Nat.le_of_ble_eq_true rfl) (by rw [hRl]; exact Nat.le_of_ble_eq_true rfl) ⟨Nat.zero_le _, Nat.zero_le _⟩ dX6_closes_19 rfl (fun H locs _ hS => ?_)
      refine lv_aload_n hx hb dX6_closes_22 rfl (lv_at hl 0 rfl) ?_
      refine lv_dup hx hb dX6_closes_23 rfl ?_
      refine r_get E frX6_19 hS 0 rfl rfl dX6_closes_24 ?_
      refine lv_iconst (v := 1) hx hb dX6_closes_27 (by decide) ?_
      refine lv_isub hx hb dX6_closes_28 ?_
      refine r_put (ws' := [oX6 q0 (.ref q1) (.int y19.1) (.int (v_depth - (1 : Int32))) u0_3 u0_4 u0_5, aI cy q1 40 v_waiting, oX5 q2 (.ref q3) u2_1 u2_2 (.int y19.2.1), aI cy q3 40 y19.2.2]) E frX6_19 hS 0 rfl (Nat.le_of_ble_eq_true rfl) rfl rfl rfl rfl dX6_closes_29 (fun H locs hS => ?_)
      refine lv_aload_n hx hb dX6_closes_32 rfl (lv_at hl 0 rfl) ?_
      refine lv_iconst (v := 0) hx hb dX6_closes_33 (by decide) ?_
      refine lv_aload_n hx hb dX6_closes_34 rfl (lv_at hl 0 rfl) ?_
      refine r_get E frX6_15 hS 0 rfl rfl dX6_closes_35 ?_
      refine lv_iconst (v := 1) hx hb dX6_closes_38 (by decide) ?_
      refine lv_isub hx hb dX6_closes_39 ?_
      refine ct_S (ws' := fun _ => [oX6 q0 (.ref q1) (.int y19.1) (.int (v_depth - (1 : Int32))) u0_3 u0_4 u0_5, aI cy q1 40 v_waiting, oX5 q2 (.ref q3) u2_1 u2_2 (.int y19.2.1), aI cy q3 40 y19.2.2]) (st' := [.int (J9_max_7cf53 (0 : Int32) (y19.1 - (1 : Int32))), .ref q0]) (rest := [.ref q0]) E hS slX6_79 (c_J9_max_7cf53 (l := l) (D := D) (cy := cy) (p0 := (0 : Int32)) (p1 := (y19.1 - (1 : Int32))) (r := (J9_max_7cf53 (0 : Int32) (y19.1 - (1 : Int32)))) rfl) [] rfl rfl (fun _ => rfl) (fun _ => rfl) rfl rfl (Nat.le_of_ble_eq_true rfl) hl.1 (by rw [hRf]; exact Nat.le_of_ble_eq_true rfl) (by rw [hRl]; exact Nat.le_of_ble_eq_true rfl) ⟨Nat.zero_le _, Nat.zero_le _⟩ dX6_closes_40 rfl (fun H locs _ hS => ?_)
      refine r_put (ws' := [oX6 q0 (.ref q1) (.int (J9_max_7cf53 (0 : Int32) (y19.1 - (1 : Int32)))) (.int (v_depth - (1 : Int32))) u0_3 u0_4 u0_5, aI cy q1 40 v_waiting, oX5 q2 (.ref q3) u2_1 u2_2 (.int y19.2.1), aI cy q3 40 y19.2.2]) E frX6_15 hS 0 rfl (Nat.le_of_ble_eq_true rfl) rfl rfl rfl rfl dX6_closes_43 (fun H locs hS => ?_)
      refine lv_iconst (v := 1) hx hb dX6_closes_46 (by decide) ?_
      obtain rfl := Option.some.inj h
      exact rt_n E rfl hQ (.null) hS dX6_closes_47
    · have h := it_pos c2 h
      refine lv_iconst (v := 0) hx hb dX6_closes_14 (by decide) ?_
      obtain rfl := Option.some.inj h
      exact rt_n E rfl hQ (.null) hS dX6_closes_15
set_option maxHeartbeats 4000000 in
set_option maxRecDepth 100000 in
theorem c_X6_waitsFor {l : Launch} {D : va_G} {cy : Nat → ClassId} (q0 : Nat) (q1 : Nat) (u0_2 : Value) (u0_3 : Value) (u0_4 : Value) (u0_5 : Value) (v_waits : Int32) (v_waiting : Nat → Int32) (p1 : Int32) (r : Int32 × (Nat → Int32)) (h : X6_waitsFor v_waits v_waiting p1 = some r) : Ct l yX6_waitsFor cX6_waitsFor 2 none 0 0 D cy [.ref q0, .int p1] [oX6 q0 (.ref q1) (.int v_waits) u0_2 u0_3 u0_4 u0_5, aI cy q1 40 v_waiting] (fun _ => [oX6 q0 (.ref q1) (.int r.1) u0_2 u0_3 u0_4 u0_5, aI cy q1 40 r.2]) (none) := by
  refine Ct.mk kX6_waitsFor (by decide +kernel) (Nat.le_of_ble_eq_true rfl) ?_
  intro p e s m below meth c A ls args R Q hRf hRl hQ E H locs hS hl
  have hx := E.x
  have hb := E.b
  have hl : lv_has ls 2 [(0, .ref q0), (1, .int p1)] := hl
  unfold X6_waitsFor at h
  refine lv_aload_n hx hb dX6_waitsFor_0 rfl (lv_at hl 0 rfl) ?_
  refine r_get E frX6_15 hS 0 rfl rfl dX6_waitsFor_1 ?_
  refine lv_bipush (v := 40) hx hb dX6_waitsFor_4 (by decide) ?_
  refine lv_icmp_ge (tgt := 29) hx hb dX6_waitsFor_6 (by decide) (fun c1 => ?_) (fun c1 => ?_)
  · have h := it_pos c1 h
    obtain rfl := Option.some.inj h
    exact rt_v E hQ (.null) hS dX6_waitsFor_29
  · have h := it_neg c1 h
    refine lv_aload_n hx hb dX6_waitsFor_9 rfl (lv_at hl 0 rfl) ?_
    refine r_get E frX6_9 hS 0 rfl rfl dX6_waitsFor_10 ?_
    refine lv_aload_n hx hb dX6_waitsFor_13 rfl (lv_at hl 0 rfl) ?_
    refine r_get E frX6_15 hS 0 rfl rfl dX6_waitsFor_14 ?_
    refine lv_iload_n hx hb dX6_waitsFor_17 rfl (lv_at hl 1 rfl) ?_
    obtain ⟨g2, h⟩ := gi_some h
    refine r_iast (ws' := [oX6 q0 (.ref q1) (.int v_waits) u0_2 u0_3 u0_4 u0_5, aI cy q1 40 (upd v_waiting v_waits.toNatClampNeg p1)]) E hS 1 rfl g2 rfl dX6_waitsFor_18 (fun H locs hS => ?_)
    refine lv_aload_n hx hb dX6_waitsFor_19 rfl (lv_at hl 0 rfl) ?_
    refine lv_dup hx hb dX6_waitsFor_20 rfl ?_
    refine r_get E frX6_15 hS 0 rfl rfl dX6_waitsFor_21 ?_
    refine lv_iconst (v := 1) hx hb dX6_waitsFor_24 (by decide) ?_
    refine lv_iadd hx hb dX6_waitsFor_25 ?_
    refine r_put (ws' := [oX6 q0 (.ref q1) (.int (v_waits + (1 : Int32))) u0_2 u0_3 u0_4 u0_5, aI cy q1 40 (upd v_waiting v_waits.toNatClampNeg p1)]) E frX6_15 hS 0 rfl (Nat.le_of_ble_eq_true rfl) rfl rfl rfl rfl dX6_waitsFor_26 (fun H locs hS => ?_)
    obtain rfl := Option.some.inj h
    exact rt_v E hQ (.null) hS dX6_waitsFor_29

