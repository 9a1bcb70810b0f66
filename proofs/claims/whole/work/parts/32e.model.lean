set_option maxHeartbeats 4000000 in
set_option maxRecDepth 100000 in
theorem c_X11_friends {l : Launch} {D : va_G} {cy : Nat → ClassId} (q0 : Nat) (q1 : Nat) (q2 : Nat) (u0_2 : Value) (u0_3 : Value) (u0_7 : Value) (u0_8 : Value) (u0_9 : Value) (u0_10 : Value) (u0_11 : Value) (u0_12 : Value) (u0_13 : Value) (u0_14 : Value) (u0_15 : Value) (u0_16 : Value) (u0_17 : Value) (u0_18 : Value) (u0_19 : Value) (u0_20 : Value) (u0_21 : Value) (u0_22 : Value) (u0_23 : Value) (u0_24 : Value) (u0_25 : Value) (u0_26 : Value) (u0_27 : Value) (u0_28 : Value) (u0_29 : Value) (u0_30 : Value) (u0_31 : Value) (u0_32 : Value) (u0_33 : Value) (u0_34 : Value) (u0_35 : Value) (u0_36 : Value) (u0_37 : Value) (u0_38 : Value) (u0_39 : Value) (u0_40 : Value) (v_people : Int32) (v_rowMany : Int32) (v_thrown : Int32) (v_now : Nat → Int32) (v_row : Nat → Int64) (r : Int32 × Int32 × Int32 × (Nat → Int64)) (h : X11_friends v_people v_now v_row = some r) : Ct l yX11_friends cX11_friends 5 (some .int) 2 43 D cy [.ref q0] [oX11 q0 (.ref q1) (.int v_people) u0_2 u0_3 (.ref q2) (.int v_rowMany) (.int v_thrown) u0_7 u0_8 u0_9 u0_10 u0_11 u0_12 u0_13 u0_14 u0_15 u0_16 u0_17 u0_18 u0_19 u0_20 u0_21 u0_22 u0_23 u0_24 u0_25 u0_26 u0_27 u0_28 u0_29 u0_30 u0_31 u0_32 u0_33 u0_34 u0_35 u0_36 u0_37 u0_38 u0_39 u0_40, aI cy q1 37 v_now, aJ cy q2 16 v_row] (fun _ => [oX11 q0 (.ref q1) (.int v_people) u0_2 u0_3 (.ref q2) (.int r.2.1) (.int r.2.2.1) u0_7 u0_8 u0_9 u0_10 u0_11 u0_12 u0_13 u0_14 u0_15 u0_16 u0_17 u0_18 u0_19 u0_20 u0_21 u0_22 u0_23 u0_24 u0_25 u0_26 u0_27 u0_28 u0_29 u0_30 u0_31 u0_32 u0_33 u0_34 u0_35 u0_36 u0_37 u0_38 u0_39 u0_40, aI cy q1 37 v_now, aJ cy q2 16 r.2.2.2]) (some (.int r.1)) := by
  refine Ct.mk kX11_friends (by decide +kernel) (Nat.le_of_ble_eq_true rfl) ?_
  intro p e s m below meth c A ls args R Q hRf hRl hQ E H locs hS hl
  have hx := E.x
  have hb := E.b
  have hl : lv_has ls 5 [(0, .ref q0)] := hl
  unfold X11_friends at h
  refine lv_aload_n hx hb dX11_friends_0 rfl (lv_at hl 0 rfl) ?_
  refine lv_iconst (v := 0) hx hb dX11_friends_1 (by decide) ?_
  refine r_put (ws' := [oX11 q0 (.ref q1) (.int v_people) u0_2 u0_3 (.ref q2) (.int v_rowMany) (.int (0 : Int32)) u0_7 u0_8 u0_9 u0_10 u0_11 u0_12 u0_13 u0_14 u0_15 u0_16 u0_17 u0_18 u0_19 u0_20 u0_21 u0_22 u0_23 u0_24 u0_25 u0_26 u0_27 u0_28 u0_29 u0_30 u0_31 u0_32 u0_33 u0_34 u0_35 u0_36 u0_37 u0_38 u0_39 u0_40, aI cy q1 37 v_now, aJ cy q2 16 v_row]) E frX11_85 hS 0 rfl (Nat.le_of_ble_eq_true rfl) rfl rfl rfl rfl dX11_friends_2 (fun H locs hS => ?_)
  refine lv_iconst (v := 0) hx hb dX11_friends_5 (by decide) ?_
  refine lv_istore_n (lv' := [(1, .int (0 : Int32)), (0, .ref q0)]) hx hb dX11_friends_6 rfl hl (by decide) rfl (fun ls hl => ?_)
  refine lv_iconst (v := 0) hx hb dX11_friends_7 (by decide) ?_
  refine lv_istore_n (lv' := [(2, .int (0 : Int32)), (1, .int (0 : Int32)), (0, .ref q0)]) hx hb dX11_friends_8 rfl hl (by decide) rfl (fun ls hl => ?_)
  refine lv_iconst (v := 0) hx hb dX11_friends_9 (by decide) ?_
  refine lv_istore_n (lv' := [(3, .int (0 : Int32)), (2, .int (0 : Int32)), (1, .int (0 : Int32)), (0, .ref q0)]) hx hb dX11_friends_10 rfl hl (by decide) rfl (fun ls hl => ?_)
  have hL11 : ∀ (n : Nat) (x11_0 : Int32) (x11_1 : Int32) (x11_2 : Int32) (y11 : Int32 × Int32) (H : Heap) (locs : List Loc) (ls : Array Slot), lp (fun x11 => X11_friends_s11 v_people v_now x11.1 x11.2.1 x11.2.2) n (x11_0, x11_1, x11_2) = some y11 → Sv D A s.heap [oX11 q0 (.ref q1) (.int v_people) u0_2 u0_3 (.ref q2) (.int v_rowMany) (.int (0 : Int32)) u0_7 u0_8 u0_9 u0_10 u0_11 u0_12 u0_13 u0_14 u0_15 u0_16 u0_17 u0_18 u0_19 u0_20 u0_21 u0_22 u0_23 u0_24 u0_25 u0_26 u0_27 u0_28 u0_29 u0_30 u0_31 u0_32 u0_33 u0_34 u0_35 u0_36 u0_37 u0_38 u0_39 u0_40, aI cy q1 37 v_now, aJ cy q2 16 v_row] H locs → lv_has ls 5 [(0, .ref q0), (1, .int x11_0), (2, .int x11_1), (3, .int x11_2)] → ( ∀ (y11_0 : Int32) (y11_1 : Int32), (y11_0, y11_1) = y11 → ∀ (H : Heap) (locs : List Loc) (ls : Array Slot), Sv D A s.heap [oX11 q0 (.ref q1) (.int v_people) u0_2 u0_3 (.ref q2) (.int v_rowMany) (.int (0 : Int32)) u0_7 u0_8 u0_9 u0_10 u0_11 u0_12 u0_13 u0_14 u0_15 u0_16 u0_17 u0_18 u0_19 u0_20 u0_21 u0_22 u0_23 u0_24 u0_25 u0_26 u0_27 u0_28 u0_29 u0_30 u0_31 u0_32 u0_33 u0_34 u0_35 u0_36 u0_37 u0_38 u0_39 u0_40, aI cy q1 37 v_now, aJ cy q2 16 v_row] H locs → lv_has ls 5 [(0, .ref q0), (1, .int y11_0), (2, .int y11_1)] → W p l e R s m args below meth c H locs 0 0 Q (F0 m 80 ls [])) → W p l e R s m args below meth c H locs 0 0 Q (F0 m 11 ls []) := by
    intro n
    induction n with
    | zero =>
      intro x11_0 x11_1 x11_2 y11 H locs ls h
      exact lp_zero h
    | succ n ih11 =>
      intro x11_0 x11_1 x11_2 y11 H locs ls h hS hl hk11_0
      obtain ⟨z11, h, hz11a, hz11b⟩ := lp_succ h
      have h : X11_friends_s11 v_people v_now x11_0 x11_1 x11_2 = some z11 := h
      unfold X11_friends_s11 at h
      refine lv_iload_n hx hb dX11_friends_11 rfl (lv_at hl 3 rfl) ?_
      refine lv_aload_n hx hb dX11_friends_12 rfl (lv_at hl 0 rfl) ?_
      refine ct_V (ws' := fun _ => [oX11 q0 (.ref q1) (.int v_people) u0_2 u0_3 (.ref q2) (.int v_rowMany) (.int (0 : Int32)) u0_7 u0_8 u0_9 u0_10 u0_11 u0_12 u0_13 u0_14 u0_15 u0_16 u0_17 u0_18 u0_19 u0_20 u0_21 u0_22 u0_23 u0_24 u0_25 u0_26 u0_27 u0_28 u0_29 u0_30 u0_31 u0_32 u0_33 u0_34 u0_35 u0_36 u0_37 u0_38 u0_39 u0_40, aI cy q1 37 v_now, aJ cy q2 16 v_row]) (st' := [.int (X11_everybody v_people), .int x11_2]) (rest := [.int x11_2]) E hS vlX11_285 (c_X11_everybody (l := l) (D := D) (cy := cy) (q0 := q0) (u0_0 := .ref q1) (u0_2 := u0_2) (u0_3 := u0_3) (u0_4 := .ref q2) (u0_5 := .int v_rowMany) (u0_6 := .int (0 : Int32)) (u0_7 := u0_7) (u0_8 := u0_8) (u0_9 := u0_9) (u0_10 := u0_10) (u0_11 := u0_11) (u0_12 := u0_12) (u0_13 := u0_13) (u0_14 := u0_14) (u0_15 := u0_15) (u0_16 := u0_16) (u0_17 := u0_17) (u0_18 := u0_18) (u0_19 := u0_19) (u0_20 := u0_20) (u0_21 := u0_21) (u0_22 := u0_22) (u0_23 := u0_23) (u0_24 := u0_24) (u0_25 := u0_25) (u0_26 := u0_26) (u0_27 := u0_27) (u0_28 := u0_28) (u0_29 := u0_29) (u0_30 := u0_30) (u0_31 := u0_31) (u0_32 := u0_32) (u0_33 := u0_33) (u0_34 := u0_34) (u0_35 := u0_35) (u0_36 := u0_36) (u0_37 := u0_37) (u0_38 := u0_38) (u0_39 := u0_39) (u0_40 := u0_40) (v_people := v_people) (r := (X11_everybody v_people)) rfl) [0] rfl rfl (fun _ => rfl) (fun _ => rfl) rfl rfl rfl rfl (Nat.le_of_ble_eq_true rfl) hl.1 (by rw [hRf]; exact Nat.le_of_ble_eq_true rfl) (by rw [hRl]; exact Nat.le_of_ble_eq_true rfl) ⟨Nat.zero_le _, Nat.zero_le _⟩ dX11_friends_13 rfl (fun H locs _ hS => ?_)
      refine lv_icmp_gt (tgt := 80) hx hb dX11_friends_16 (by decide) (fun c1 => ?_) (fun c1 => ?_)
      · have h := it_pos c1 h
        exact hk11_0 x11_0 x11_1 (hz11b _ (Option.some.inj h).symm)  H locs ls hS (lv_sub hl [0, 1, 2] rfl)
      · have h := it_neg c1 h
        refine lv_aload_n hx hb dX11_friends_19 rfl (lv_at hl 0 rfl) ?_
        refine lv_iload_n hx hb dX11_friends_20 rfl (lv_at hl 3 rfl) ?_
        obtain ⟨y21, e2, h⟩ := bd_some h
        refine ct_V (ws' := fun _ => [oX11 q0 (.ref q1) (.int v_people) u0_2 u0_3 (.ref q2) (.int v_rowMany) (.int (0 : Int32)) u0_7 u0_8 u0_9 u0_10 u0_11 u0_12 u0_13 u0_14 u0_15 u0_16 u0_17 u0_18 u0_19 u0_20 u0_21 u0_22 u0_23 u0_24 u0_25 u0_26 u0_27 u0_28 u0_29 u0_30 u0_31 u0_32 u0_33 u0_34 u0_35 u0_36 u0_37 u0_38 u0_39 u0_40, aI cy q1 37 v_now, aJ cy q2 16 v_row]) (st' := [.int y21]) (rest := []) E hS vlX11_323 (c_X11_areFriends (l := l) (D := D) (cy := cy) (q0 := q0) (q1 := q1) (u0_2 := u0_2) (u0_3 := u0_3) (u0_4 := .ref q2) (u0_5 := .int v_rowMany) (u0_6 := .int (0 : Int32)) (u0_7 := u0_7) (u0_8 := u0_8) (u0_9 := u0_9) (u0_10 := u0_10) (u0_11 := u0_11) (u0_12 := u0_12) (u0_13 := u0_13) (u0_14 := u0_14) (u0_15 := u0_15) (u0_16 := u0_16) (u0_17 := u0_17) (u0_18 := u0_18) (u0_19 := u0_19) (u0_20 := u0_20) (u0_21 := u0_21) (u0_22 := u0_22) (u0_23 := u0_23) (u0_24 := u0_24) (u0_25 := u0_25) (u0_26 := u0_26) (u0_27 := u0_27) (u0_28 := u0_28) (u0_29 := u0_29) (u0_30 := u0_30) (u0_31 := u0_31) (u0_32 := u0_32) (u0_33 := u0_33) (u0_34 := u0_34) (u0_35 := u0_35) (u0_36 := u0_36) (u0_37 := u0_37) (u0_38 := u0_38) (u0_39 := u0_39) (u0_40 := u0_40) (v_people := v_people) (v_now := v_now) (p1 := x11_2) (r := y21) e2) [0, 1] rfl rfl (fun _ => rfl) (fun _ => rfl) rfl rfl rfl rfl (Nat.le_of_ble_eq_true rfl) hl.1 (by rw [hRf]; exact Nat.le_of_ble_eq_true rfl) (by rw [hRl]; exact Nat.le_of_ble_eq_true rfl) ⟨Nat.zero_le _, Nat.zero_le _⟩ dX11_friends_21 rfl (fun H locs _ hS => ?_)
        refine lv_if_ne (tgt := 30) hx hb dX11_friends_24 (by decide) (fun c3 => ?_) (fun c3 => ?_)
        · have h := it_neg c3 h
          refine lv_iload_n hx hb dX11_friends_30 rfl (lv_at hl 3 rfl) ?_
          refine ct_S (ws' := fun _ => [oX11 q0 (.ref q1) (.int v_people) u0_2 u0_3 (.ref q2) (.int v_rowMany) (.int (0 : Int32)) u0_7 u0_8 u0_9 u0_10 u0_11 u0_12 u0_13 u0_14 u0_15 u0_16 u0_17 u0_18 u0_19 u0_20 u0_21 u0_22 u0_23 u0_24 u0_25 u0_26 u0_27 u0_28 u0_29 u0_30 u0_31 u0_32 u0_33 u0_34 u0_35 u0_36 u0_37 u0_38 u0_39 u0_40, aI cy q1 37 v_now, aJ cy q2 16 v_row]) (st' := [.int (J6_bitCount_0f7a4 x11_2)]) (rest := []) E hS slX11_204 (c_J6_bitCount_0f7a4 (l := l) (D := D) (cy := cy) (p0 := x11_2) (r := (J6_bitCount_0f7a4 x11_2)) rfl) [] rfl rfl (fun _ => rfl) (fun _ => rfl) rfl rfl (Nat.le_of_ble_eq_true rfl) hl.1 (by rw [hRf]; exact Nat.le_of_ble_eq_true rfl) (by rw [hRl]; exact Nat.le_of_ble_eq_true rfl) ⟨Nat.zero_le _, Nat.zero_le _⟩ dX11_friends_31 rfl (fun H locs _ hS => ?_)
          refine lv_iload_n hx hb dX11_friends_34 rfl (lv_at hl 1 rfl) ?_
          refine ct_S (ws' := fun _ => [oX11 q0 (.ref q1) (.int v_people) u0_2 u0_3 (.ref q2) (.int v_rowMany) (.int (0 : Int32)) u0_7 u0_8 u0_9 u0_10 u0_11 u0_12 u0_13 u0_14 u0_15 u0_16 u0_17 u0_18 u0_19 u0_20 u0_21 u0_22 u0_23 u0_24 u0_25 u0_26 u0_27 u0_28 u0_29 u0_30 u0_31 u0_32 u0_33 u0_34 u0_35 u0_36 u0_37 u0_38 u0_39 u0_40, aI cy q1 37 v_now, aJ cy q2 16 v_row]) (st' := [.int (J6_bitCount_0f7a4 x11_0), .int (J6_bitCount_0f7a4 x11_2)]) (rest := [.int (J6_bitCount_0f7a4 x11_2)]) E hS slX11_204 (c_J6_bitCount_0f7a4 (l := l) (D := D) (cy := cy) (p0 := x11_0) (r := (J6_bitCount_0f7a4 x11_0)) rfl) [] rfl rfl (fun _ => rfl) (fun _ => rfl) rfl rfl (Nat.le_of_ble_eq_true rfl) hl.1 (by rw [hRf]; exact Nat.le_of_ble_eq_true rfl) (by rw [hRl]; exact Nat.le_of_ble_eq_true rfl) ⟨Nat.zero_le _, Nat.zero_le _⟩ dX11_friends_35 rfl (fun H locs _ hS => ?_)
          refine lv_isub hx hb dX11_friends_38 ?_
          refine lv_istore (lv' := [(4, .int ((J6_bitCount_0f7a4 x11_2) - (J6_bitCount_0f7a4 x11_0))), (0, .ref q0), (1, .int x11_0), (2, .int x11_1), (3, .int x11_2)]) hx hb dX11_friends_39 hl (by decide) rfl (fun ls hl => ?_)
          refine lv_iload hx hb dX11_friends_41 (lv_at hl 0 rfl) ?_
          have hJ62 : ∀ (s62_0 : Int32) (ls : Array Slot), s62_0 = (if ((J6_bitCount_0f7a4 x11_2) - (J6_bitCount_0f7a4 x11_0)) ≤ 0 then (if ((J6_bitCount_0f7a4 x11_2) - (J6_bitCount_0f7a4 x11_0)) = 0 then (x11_1 + (1 : Int32)) else x11_1) else (1 : Int32)) → lv_has ls 5 [(0, .ref q0), (1, .int x11_0), (3, .int x11_2), (4, .int ((J6_bitCount_0f7a4 x11_2) - (J6_bitCount_0f7a4 x11_0)))] → W p l e R s m args below meth c H locs 0 0 Q (F0 m 62 ls [.int s62_0]) := by
            intro s62_0 ls es62_0 hl
            subst es62_0
            refine lv_istore_n (lv' := [(2, .int (if ((J6_bitCount_0f7a4 x11_2) - (J6_bitCount_0f7a4 x11_0)) ≤ 0 then (if ((J6_bitCount_0f7a4 x11_2) - (J6_bitCount_0f7a4 x11_0)) = 0 then (x11_1 + (1 : Int32)) else x11_1) else (1 : Int32))), (0, .ref q0), (1, .int x11_0), (3, .int x11_2), (4, .int ((J6_bitCount_0f7a4 x11_2) - (J6_bitCount_0f7a4 x11_0)))]) hx hb dX11_friends_62 rfl hl (by decide) rfl (fun ls hl => ?_)
            refine lv_iload hx hb dX11_friends_63 (lv_at hl 4 rfl) ?_
            have hJ73 : ∀ (s73_0 : Int32) (ls : Array Slot), s73_0 = (if ((J6_bitCount_0f7a4 x11_2) - (J6_bitCount_0f7a4 x11_0)) ≤ 0 then x11_0 else x11_2) → lv_has ls 5 [(0, .ref q0), (2, .int (if ((J6_bitCount_0f7a4 x11_2) - (J6_bitCount_0f7a4 x11_0)) ≤ 0 then (if ((J6_bitCount_0f7a4 x11_2) - (J6_bitCount_0f7a4 x11_0)) = 0 then (x11_1 + (1 : Int32)) else x11_1) else (1 : Int32))), (3, .int x11_2)] → W p l e R s m args below meth c H locs 0 0 Q (F0 m 73 ls [.int s73_0]) := by
              intro s73_0 ls es73_0 hl
              subst es73_0
              refine lv_istore_n (lv' := [(1, .int (if ((J6_bitCount_0f7a4 x11_2) - (J6_bitCount_0f7a4 x11_0)) ≤ 0 then x11_0 else x11_2)), (0, .ref q0), (2, .int (if ((J6_bitCount_0f7a4 x11_2) - (J6_bitCount_0f7a4 x11_0)) ≤ 0 then (if ((J6_bitCount_0f7a4 x11_2) - (J6_bitCount_0f7a4 x11_0)) = 0 then (x11_1 + (1 : Int32)) else x11_1) else (1 : Int32))), (3, .int x11_2)]) hx hb dX11_friends_73 rfl hl (by decide) rfl (fun ls hl => ?_)
              refine lv_iinc (v := (x11_2 + (1 : Int32))) (lv' := [(3, .int (x11_2 + (1 : Int32))), (1, .int (if ((J6_bitCount_0f7a4 x11_2) - (J6_bitCount_0f7a4 x11_0)) ≤ 0 then x11_0 else x11_2)), (0, .ref q0), (2, .int (if ((J6_bitCount_0f7a4 x11_2) - (J6_bitCount_0f7a4 x11_0)) ≤ 0 then (if ((J6_bitCount_0f7a4 x11_2) - (J6_bitCount_0f7a4 x11_0)) = 0 then (x11_1 + (1 : Int32)) else x11_1) else (1 : Int32)))]) hx hb dX11_friends_74 hl (k := 3) rfl rfl (by decide) rfl (fun ls hl => ?_)
              refine lv_goto (tgt := 11) hx hb dX11_friends_77 (by decide) ?_
              exact ih11 (if ((J6_bitCount_0f7a4 x11_2) - (J6_bitCount_0f7a4 x11_0)) ≤ 0 then x11_0 else x11_2) (if ((J6_bitCount_0f7a4 x11_2) - (J6_bitCount_0f7a4 x11_0)) ≤ 0 then (if ((J6_bitCount_0f7a4 x11_2) - (J6_bitCount_0f7a4 x11_0)) = 0 then (x11_1 + (1 : Int32)) else x11_1) else (1 : Int32)) (x11_2 + (1 : Int32)) y11  H locs ls (hz11a _ (Option.some.inj h).symm) hS (lv_sub hl [2, 1, 3, 0] rfl) hk11_0
            refine lv_if_le (tgt := 72) hx hb dX11_friends_65 (by decide) (fun c4 => ?_) (fun c4 => ?_)
            · refine lv_iload_n hx hb dX11_friends_72 rfl (lv_at hl 2 rfl) ?_
              exact hJ73 _ ls ((if_pos c4)).symm (lv_sub hl [1, 0, 3] rfl)
            · refine lv_iload_n hx hb dX11_friends_68 rfl (lv_at hl 3 rfl) ?_
              refine lv_goto (tgt := 73) hx hb dX11_friends_69 (by decide) ?_
              exact hJ73 _ ls ((if_neg c4)).symm (lv_sub hl [1, 0, 3] rfl)
          refine lv_if_le (tgt := 50) hx hb dX11_friends_43 (by decide) (fun c5 => ?_) (fun c5 => ?_)
          · refine lv_iload hx hb dX11_friends_50 (lv_at hl 0 rfl) ?_
            refine lv_if_ne (tgt := 61) hx hb dX11_friends_52 (by decide) (fun c6 => ?_) (fun c6 => ?_)
            · refine lv_iload_n hx hb dX11_friends_61 rfl (lv_at hl 3 rfl) ?_
              exact hJ62 _ ls (((if_pos c5).trans (if_neg c6))).symm (lv_sub hl [1, 2, 4, 0] rfl)
            · refine lv_iload_n hx hb dX11_friends_55 rfl (lv_at hl 3 rfl) ?_
              refine lv_iconst (v := 1) hx hb dX11_friends_56 (by decide) ?_
              refine lv_iadd hx hb dX11_friends_57 ?_
              refine lv_goto (tgt := 62) hx hb dX11_friends_58 (by decide) ?_
              exact hJ62 _ ls (((if_pos c5).trans (if_pos c6))).symm (lv_sub hl [1, 2, 4, 0] rfl)
          · refine lv_iconst (v := 1) hx hb dX11_friends_46 (by decide) ?_
            refine lv_goto (tgt := 62) hx hb dX11_friends_47 (by decide) ?_
            exact hJ62 _ ls ((if_neg c5)).symm (lv_sub hl [1, 2, 4, 0] rfl)
        · have h := it_pos c3 h
          refine lv_goto (tgt := 74) hx hb dX11_friends_27 (by decide) ?_
          refine lv_iinc (v := (x11_2 + (1 : Int32))) (lv' := [(3, .int (x11_2 + (1 : Int32))), (0, .ref q0), (1, .int x11_0), (2, .int x11_1)]) hx hb dX11_friends_74 hl (k := 3) rfl rfl (by decide) rfl (fun ls hl => ?_)
          refine lv_goto (tgt := 11) hx hb dX11_friends_77 (by decide) ?_
          exact ih11 x11_0 x11_1 (x11_2 + (1 : Int32)) y11  H locs ls (hz11a _ (Option.some.inj h).symm) hS (lv_sub hl [1, 2, 3, 0] rfl) hk11_0
  obtain ⟨y11, e11, h⟩ := bd_some h
  refine hL11 1000 (0 : Int32) (0 : Int32) (0 : Int32) y11  H locs ls e11 hS (lv_sub hl [3, 2, 1, 0] rfl) (fun y11_0 y11_1 ey11 H locs ls hS hl => ?_)
  subst ey11
  have h := un_r h
  refine lv_aload_n hx hb dX11_friends_80 rfl (lv_at hl 0 rfl) ?_
  refine lv_iconst (v := 0) hx hb dX11_friends_81 (by decide) ?_
  refine r_put (ws' := [oX11 q0 (.ref q1) (.int v_people) u0_2 u0_3 (.ref q2) (.int (0 : Int32)) (.int (0 : Int32)) u0_7 u0_8 u0_9 u0_10 u0_11 u0_12 u0_13 u0_14 u0_15 u0_16 u0_17 u0_18 u0_19 u0_20 u0_21 u0_22 u0_23 u0_24 u0_25 u0_26 u0_27 u0_28 u0_29 u0_30 u0_31 u0_32 u0_33 u0_34 u0_35 u0_36 u0_37 u0_38 u0_39 u0_40, aI cy q1 37 v_now, aJ cy q2 16 v_row]) E frX11_89 hS 0 rfl (Nat.le_of_ble_eq_true rfl) rfl rfl rfl rfl dX11_friends_82 (fun H locs hS => ?_)
  refine lv_aload_n hx hb dX11_friends_85 rfl (lv_at hl 0 rfl) ?_
  refine lv_iload_n hx hb dX11_friends_86 rfl (lv_at hl 1 rfl) ?_
  refine lv_i2l (v := (y11_0.toInt64)) hx hb dX11_friends_87 rfl ?_
  obtain ⟨y88, e7, h⟩ := bd_some h
  refine ct_V (ws' := fun _ => [oX11 q0 (.ref q1) (.int v_people) u0_2 u0_3 (.ref q2) (.int y88.1) (.int (0 : Int32)) u0_7 u0_8 u0_9 u0_10 u0_11 u0_12 u0_13 u0_14 u0_15 u0_16 u0_17 u0_18 u0_19 u0_20 u0_21 u0_22 u0_23 u0_24 u0_25 u0_26 u0_27 u0_28 u0_29 u0_30 u0_31 u0_32 u0_33 u0_34 u0_35 u0_36 u0_37 u0_38 u0_39 u0_40, aI cy q1 37 v_now, aJ cy q2 16 y88.2]) (st' := []) (rest := []) E hS vlX11_256 (c_X11_tell (l := l) (D := D) (cy := cy) (q0 := q0) (q1 := q2) (u0_0 := .ref q1) (u0_1 := .int v_people) (u0_2 := u0_2) (u0_3 := u0_3) (u0_6 := .int (0 : Int32)) (u0_7 := u0_7) (u0_8 := u0_8) (u0_9 := u0_9) (u0_10 := u0_10) (u0_11 := u0_11) (u0_12 := u0_12) (u0_13 := u0_13) (u0_14 := u0_14) (u0_15 := u0_15) (u0_16 := u0_16) (u0_17 := u0_17) (u0_18 := u0_18) (u0_19 := u0_19) (u0_20 := u0_20) (u0_21 := u0_21) (u0_22 := u0_22) (u0_23 := u0_23) (u0_24 := u0_24) (u0_25 := u0_25) (u0_26 := u0_26) (u0_27 := u0_27) (u0_28 := u0_28) (u0_29 := u0_29) (u0_30 := u0_30) (u0_31 := u0_31) (u0_32 := u0_32) (u0_33 := u0_33) (u0_34 := u0_34) (u0_35 := u0_35) (u0_36 := u0_36) (u0_37 := u0_37) (u0_38 := u0_38) (u0_39 := u0_39) (u0_40 := u0_40) (v_rowMany := (0 : Int32)) (v_row := v_row) (p1 := (y11_0.toInt64)) (r := y88) e7) [0, 2] rfl rfl (fun _ => rfl) (fun _ => rfl) rfl rfl rfl rfl (Nat.le_of_ble_eq_true rfl) hl.1 (by rw [hRf]; exact Nat.le_of_ble_eq_true rfl) (by rw [hRl]; exact Nat.le_of_ble_eq_true rfl) ⟨Nat.zero_le _, Nat.zero_le _⟩ dX11_friends_88 rfl (fun H locs _ hS => ?_)
  refine lv_aload_n hx hb dX11_friends_91 rfl (lv_at hl 0 rfl) ?_
  refine lv_iload_n hx hb dX11_friends_92 rfl (lv_at hl 2 rfl) ?_
  refine lv_i2l (v := (y11_1.toInt64)) hx hb dX11_friends_93 rfl ?_
  obtain ⟨y94, e8, h⟩ := bd_some h
  refine ct_V (ws' := fun _ => [oX11 q0 (.ref q1) (.int v_people) u0_2 u0_3 (.ref q2) (.int y94.1) (.int (0 : Int32)) u0_7 u0_8 u0_9 u0_10 u0_11 u0_12 u0_13 u0_14 u0_15 u0_16 u0_17 u0_18 u0_19 u0_20 u0_21 u0_22 u0_23 u0_24 u0_25 u0_26 u0_27 u0_28 u0_29 u0_30 u0_31 u0_32 u0_33 u0_34 u0_35 u0_36 u0_37 u0_38 u0_39 u0_40, aI cy q1 37 v_now, aJ cy q2 16 y94.2]) (st' := []) (rest := []) E hS vlX11_256 (c_X11_tell (l := l) (D := D) (cy := cy) (q0 := q0) (q1 := q2) (u0_0 := .ref q1) (u0_1 := .int v_people) (u0_2 := u0_2) (u0_3 := u0_3) (u0_6 := .int (0 : Int32)) (u0_7 := u0_7) (u0_8 := u0_8) (u0_9 := u0_9) (u0_10 := u0_10) (u0_11 := u0_11) (u0_12 := u0_12) (u0_13 := u0_13) (u0_14 := u0_14) (u0_15 := u0_15) (u0_16 := u0_16) (u0_17 := u0_17) (u0_18 := u0_18) (u0_19 := u0_19) (u0_20 := u0_20) (u0_21 := u0_21) (u0_22 := u0_22) (u0_23 := u0_23) (u0_24 := u0_24) (u0_25 := u0_25) (u0_26 := u0_26) (u0_27 := u0_27) (u0_28 := u0_28) (u0_29 := u0_29) (u0_30 := u0_30) (u0_31 := u0_31) (u0_32 := u0_32) (u0_33 := u0_33) (u0_34 := u0_34) (u0_35 := u0_35) (u0_36 := u0_36) (u0_37 := u0_37) (u0_38 := u0_38) (u0_39 := u0_39) (u0_40 := u0_40) (v_rowMany := y88.1) (v_row := y88.2) (p1 := (y11_1.toInt64)) (r := y94) e8) [0, 2] rfl rfl (fun _ => rfl) (fun _ => rfl) rfl rfl rfl rfl (Nat.le_of_ble_eq_true rfl) hl.1 (by rw [hRf]; exact Nat.le_of_ble_eq_true rfl) (by rw [hRl]; exact Nat.le_of_ble_eq_true rfl) ⟨Nat.zero_le _, Nat.zero_le _⟩ dX11_friends_94 rfl (fun H locs _ hS => ?_)
  refine lv_iload_n hx hb dX11_friends_97 rfl (lv_at hl 1 rfl) ?_
  refine ct_S (ws' := fun _ => [oX11 q0 (.ref q1) (.int v_people) u0_2 u0_3 (.ref q2) (.int y94.1) (.int (0 : Int32)) u0_7 u0_8 u0_9 u0_10 u0_11 u0_12 u0_13 u0_14 u0_15 u0_16 u0_17 u0_18 u0_19 u0_20 u0_21 u0_22 u0_23 u0_24 u0_25 u0_26 u0_27 u0_28 u0_29 u0_30 u0_31 u0_32 u0_33 u0_34 u0_35 u0_36 u0_37 u0_38 u0_39 u0_40, aI cy q1 37 v_now, aJ cy q2 16 y94.2]) (st' := [.int (J6_bitCount_0f7a4 y11_0)]) (rest := []) E hS slX11_204 (c_J6_bitCount_0f7a4 (l := l) (D := D) (cy := cy) (p0 := y11_0) (r := (J6_bitCount_0f7a4 y11_0)) rfl) [] rfl rfl (fun _ => rfl) (fun _ => rfl) rfl rfl (Nat.le_of_ble_eq_true rfl) hl.1 (by rw [hRf]; exact Nat.le_of_ble_eq_true rfl) (by rw [hRl]; exact Nat.le_of_ble_eq_true rfl) ⟨Nat.zero_le _, Nat.zero_le _⟩ dX11_friends_98 rfl (fun H locs _ hS => ?_)
  obtain rfl := Option.some.inj h
  exact rt_i E hQ (.null) hS dX11_friends_101
set_option maxHeartbeats 4000000 in
set_option maxRecDepth 100000 in
theorem c_X11_way {l : Launch} {D : va_G} {cy : Nat → ClassId} (q0 : Nat) (q1 : Nat) (q2 : Nat) (q3 : Nat) (u0_2 : Value) (u0_3 : Value) (u0_7 : Value) (u0_8 : Value) (u0_9 : Value) (u0_10 : Value) (u0_11 : Value) (u0_12 : Value) (u0_13 : Value) (u0_14 : Value) (u0_15 : Value) (u0_16 : Value) (u0_17 : Value) (u0_18 : Value) (u0_19 : Value) (u0_20 : Value) (u0_21 : Value) (u0_22 : Value) (u0_23 : Value) (u0_24 : Value) (u0_25 : Value) (u0_26 : Value) (u0_27 : Value) (u0_29 : Value) (u0_30 : Value) (u0_31 : Value) (u0_32 : Value) (u0_33 : Value) (u0_34 : Value) (u0_35 : Value) (u0_36 : Value) (u0_37 : Value) (u0_38 : Value) (u0_39 : Value) (u0_40 : Value) (v_people : Int32) (v_rowMany : Int32) (v_thrown : Int32) (v_now : Nat → Int32) (v_row : Nat → Int64) (v_far : Nat → Int32) (p1 : Int32) (p2 : Int32) (r : Int32 × Int32 × Int32 × (Nat → Int64) × (Nat → Int32)) (h : X11_way v_people v_rowMany v_now v_row v_far p1 p2 = some r) : Ct l yX11_way cX11_way 6 (some .int) 2 43 D cy [.ref q0, .int p1, .int p2] [oX11 q0 (.ref q1) (.int v_people) u0_2 u0_3 (.ref q2) (.int v_rowMany) (.int v_thrown) u0_7 u0_8 u0_9 u0_10 u0_11 u0_12 u0_13 u0_14 u0_15 u0_16 u0_17 u0_18 u0_19 u0_20 u0_21 u0_22 u0_23 u0_24 u0_25 u0_26 u0_27 (.ref q3) u0_29 u0_30 u0_31 u0_32 u0_33 u0_34 u0_35 u0_36 u0_37 u0_38 u0_39 u0_40, aI cy q1 37 v_now, aJ cy q2 16 v_row, aI cy q3 7 v_far] (fun _ => [oX11 q0 (.ref q1) (.int v_people) u0_2 u0_3 (.ref q2) (.int r.2.1) (.int r.2.2.1) u0_7 u0_8 u0_9 u0_10 u0_11 u0_12 u0_13 u0_14 u0_15 u0_16 u0_17 u0_18 u0_19 u0_20 u0_21 u0_22 u0_23 u0_24 u0_25 u0_26 u0_27 (.ref q3) u0_29 u0_30 u0_31 u0_32 u0_33 u0_34 u0_35 u0_36 u0_37 u0_38 u0_39 u0_40, aI cy q1 37 v_now, aJ cy q2 16 r.2.2.2.1, aI cy q3 7 r.2.2.2.2]) (some (.int r.1)) := by
  refine Ct.mk kX11_way (by decide +kernel) (Nat.le_of_ble_eq_true rfl) ?_
  intro p e s m below meth c A ls args R Q hRf hRl hQ E H locs hS hl
  have hx := E.x
  have hb := E.b
  have hl : lv_has ls 6 [(0, .ref q0), (1, .int p1), (2, .int p2)] := hl
  unfold X11_way at h
  refine lv_aload_n hx hb dX11_way_0 rfl (lv_at hl 0 rfl) ?_
  refine lv_iconst (v := 0) hx hb dX11_way_1 (by decide) ?_
  refine r_put (ws' := [oX11 q0 (.ref q1) (.int v_people) u0_2 u0_3 (.ref q2) (.int v_rowMany) (.int (0 : Int32)) u0_7 u0_8 u0_9 u0_10 u0_11 u0_12 u0_13 u0_14 u0_15 u0_16 u0_17 u0_18 u0_19 u0_20 u0_21 u0_22 u0_23 u0_24 u0_25 u0_26 u0_27 (.ref q3) u0_29 u0_30 u0_31 u0_32 u0_33 u0_34 u0_35 u0_36 u0_37 u0_38 u0_39 u0_40, aI cy q1 37 v_now, aJ cy q2 16 v_row, aI cy q3 7 v_far]) E frX11_85 hS 0 rfl (Nat.le_of_ble_eq_true rfl) rfl rfl rfl rfl dX11_way_2 (fun H locs hS => ?_)
  refine lv_aload_n hx hb dX11_way_5 rfl (lv_at hl 0 rfl) ?_
  refine lv_iload_n hx hb dX11_way_6 rfl (lv_at hl 1 rfl) ?_
  obtain ⟨y7, e1, h⟩ := bd_some h
  refine ct_V (ws' := fun _ => [oX11 q0 (.ref q1) (.int v_people) u0_2 u0_3 (.ref q2) (.int v_rowMany) (.int (0 : Int32)) u0_7 u0_8 u0_9 u0_10 u0_11 u0_12 u0_13 u0_14 u0_15 u0_16 u0_17 u0_18 u0_19 u0_20 u0_21 u0_22 u0_23 u0_24 u0_25 u0_26 u0_27 (.ref q3) u0_29 u0_30 u0_31 u0_32 u0_33 u0_34 u0_35 u0_36 u0_37 u0_38 u0_39 u0_40, aI cy q1 37 v_now, aJ cy q2 16 v_row, aI cy q3 7 v_far]) (st' := [.int y7]) (rest := []) E hS vlX11_99 (c_X11_isOne (l := l) (D := D) (cy := cy) (q0 := q0) (u0_0 := .ref q1) (u0_2 := u0_2) (u0_3 := u0_3) (u0_4 := .ref q2) (u0_5 := .int v_rowMany) (u0_6 := .int (0 : Int32)) (u0_7 := u0_7) (u0_8 := u0_8) (u0_9 := u0_9) (u0_10 := u0_10) (u0_11 := u0_11) (u0_12 := u0_12) (u0_13 := u0_13) (u0_14 := u0_14) (u0_15 := u0_15) (u0_16 := u0_16) (u0_17 := u0_17) (u0_18 := u0_18) (u0_19 := u0_19) (u0_20 := u0_20) (u0_21 := u0_21) (u0_22 := u0_22) (u0_23 := u0_23) (u0_24 := u0_24) (u0_25 := u0_25) (u0_26 := u0_26) (u0_27 := u0_27) (u0_28 := .ref q3) (u0_29 := u0_29) (u0_30 := u0_30) (u0_31 := u0_31) (u0_32 := u0_32) (u0_33 := u0_33) (u0_34 := u0_34) (u0_35 := u0_35) (u0_36 := u0_36) (u0_37 := u0_37) (u0_38 := u0_38) (u0_39 := u0_39) (u0_40 := u0_40) (v_people := v_people) (p1 := p1) (r := y7) e1) [0] rfl rfl (fun _ => rfl) (fun _ => rfl) rfl rfl rfl rfl (Nat.le_of_ble_eq_true rfl) hl.1 (by rw [hRf]; exact Nat.le_of_ble_eq_true rfl) (by rw [hRl]; exact Nat.le_of_ble_eq_true rfl) ⟨Nat.zero_le _, Nat.zero_le _⟩ dX11_way_7 rfl (fun H locs _ hS => ?_)
  refine lv_if_eq (tgt := 21) hx hb dX11_way_10 (by decide) (fun c2 => ?_) (fun c2 => ?_)
  · have h := it_pos c2 h
    refine lv_iconst (v := -1) hx hb dX11_way_21 (by decide) ?_
    obtain rfl := Option.some.inj h
    exact rt_i E hQ (.null) hS dX11_way_22
  · have h := it_neg c2 h
    refine lv_aload_n hx hb dX11_way_13 rfl (lv_at hl 0 rfl) ?_
    refine lv_iload_n hx hb dX11_way_14 rfl (lv_at hl 2 rfl) ?_
    obtain ⟨y15, e3, h⟩ := bd_some h
    refine ct_V (ws' := fun _ => [oX11 q0 (.ref q1) (.int v_people) u0_2 u0_3 (.ref q2) (.int v_rowMany) (.int (0 : Int32)) u0_7 u0_8 u0_9 u0_10 u0_11 u0_12 u0_13 u0_14 u0_15 u0_16 u0_17 u0_18 u0_19 u0_20 u0_21 u0_22 u0_23 u0_24 u0_25 u0_26 u0_27 (.ref q3) u0_29 u0_30 u0_31 u0_32 u0_33 u0_34 u0_35 u0_36 u0_37 u0_38 u0_39 u0_40, aI cy q1 37 v_now, aJ cy q2 16 v_row, aI cy q3 7 v_far]) (st' := [.int y15]) (rest := []) E hS vlX11_99 (c_X11_isOne (l := l) (D := D) (cy := cy) (q0 := q0) (u0_0 := .ref q1) (u0_2 := u0_2) (u0_3 := u0_3) (u0_4 := .ref q2) (u0_5 := .int v_rowMany) (u0_6 := .int (0 : Int32)) (u0_7 := u0_7) (u0_8 := u0_8) (u0_9 := u0_9) (u0_10 := u0_10) (u0_11 := u0_11) (u0_12 := u0_12) (u0_13 := u0_13) (u0_14 := u0_14) (u0_15 := u0_15) (u0_16 := u0_16) (u0_17 := u0_17) (u0_18 := u0_18) (u0_19 := u0_19) (u0_20 := u0_20) (u0_21 := u0_21) (u0_22 := u0_22) (u0_23 := u0_23) (u0_24 := u0_24) (u0_25 := u0_25) (u0_26 := u0_26) (u0_27 := u0_27) (u0_28 := .ref q3) (u0_29 := u0_29) (u0_30 := u0_30) (u0_31 := u0_31) (u0_32 := u0_32) (u0_33 := u0_33) (u0_34 := u0_34) (u0_35 := u0_35) (u0_36 := u0_36) (u0_37 := u0_37) (u0_38 := u0_38) (u0_39 := u0_39) (u0_40 := u0_40) (v_people := v_people) (p1 := p2) (r := y15) e3) [0] rfl rfl (fun _ => rfl) (fun _ => rfl) rfl rfl rfl rfl (Nat.le_of_ble_eq_true rfl) hl.1 (by rw [hRf]; exact Nat.le_of_ble_eq_true rfl) (by rw [hRl]; exact Nat.le_of_ble_eq_true rfl) ⟨Nat.zero_le _, Nat.zero_le _⟩ dX11_way_15 rfl (fun H locs _ hS => ?_)
    refine lv_if_ne (tgt := 23) hx hb dX11_way_18 (by decide) (fun c4 => ?_) (fun c4 => ?_)
    · have h := it_neg c4 h
      refine lv_iconst (v := 0) hx hb dX11_way_23 (by decide) ?_
      refine lv_istore_n (lv' := [(3, .int (0 : Int32)), (0, .ref q0), (1, .int p1), (2, .int p2)]) hx hb dX11_way_24 rfl hl (by decide) rfl (fun ls hl => ?_)
      have hL25 : ∀ (n : Nat) (x25_0 : Int32) (x25_1 : Nat → Int32) (y25 : (Nat → Int32)) (H : Heap) (locs : List Loc) (ls : Array Slot), lp (fun x25 => X11_way_s25 v_people p2 x25.1 x25.2) n (x25_0, x25_1) = some y25 → Sv D A s.heap [oX11 q0 (.ref q1) (.int v_people) u0_2 u0_3 (.ref q2) (.int v_rowMany) (.int (0 : Int32)) u0_7 u0_8 u0_9 u0_10 u0_11 u0_12 u0_13 u0_14 u0_15 u0_16 u0_17 u0_18 u0_19 u0_20 u0_21 u0_22 u0_23 u0_24 u0_25 u0_26 u0_27 (.ref q3) u0_29 u0_30 u0_31 u0_32 u0_33 u0_34 u0_35 u0_36 u0_37 u0_38 u0_39 u0_40, aI cy q1 37 v_now, aJ cy q2 16 v_row, aI cy q3 7 x25_1] H locs → lv_has ls 6 [(0, .ref q0), (1, .int p1), (2, .int p2), (3, .int x25_0)] → ( ∀ (y25_0 : Nat → Int32), y25_0 = y25 → ∀ (H : Heap) (locs : List Loc) (ls : Array Slot), Sv D A s.heap [oX11 q0 (.ref q1) (.int v_people) u0_2 u0_3 (.ref q2) (.int v_rowMany) (.int (0 : Int32)) u0_7 u0_8 u0_9 u0_10 u0_11 u0_12 u0_13 u0_14 u0_15 u0_16 u0_17 u0_18 u0_19 u0_20 u0_21 u0_22 u0_23 u0_24 u0_25 u0_26 u0_27 (.ref q3) u0_29 u0_30 u0_31 u0_32 u0_33 u0_34 u0_35 u0_36 u0_37 u0_38 u0_39 u0_40, aI cy q1 37 v_now, aJ cy q2 16 v_row, aI cy q3 7 y25_0] H locs → lv_has ls 6 [(0, .ref q0), (1, .int p1), (2, .int p2)] → W p l e R s m args below meth c H locs 0 0 Q (F0 m 57 ls [])) → W p l e R s m args below meth c H locs 0 0 Q (F0 m 25 ls []) := by
        intro n
        induction n with
        | zero =>
          intro x25_0 x25_1 y25 H locs ls h
          exact lp_zero h
        | succ n ih25 =>
          intro x25_0 x25_1 y25 H locs ls h hS hl hk25_0
          obtain ⟨z25, h, hz25a, hz25b⟩ := lp_succ h
          have h : X11_way_s25 v_people p2 x25_0 x25_1 = some z25 := h
          unfold X11_way_s25 at h
          refine lv_iload_n hx hb dX11_way_25 rfl (lv_at hl 3 rfl) ?_
          refine lv_aload_n hx hb dX11_way_26 rfl (lv_at hl 0 rfl) ?_
          refine r_get E frX11_92 hS 0 rfl rfl dX11_way_27 ?_
          refine lv_icmp_ge (tgt := 57) hx hb dX11_way_30 (by decide) (fun c5 => ?_) (fun c5 => ?_)
          · have h := it_pos c5 h
            exact hk25_0 x25_1 (hz25b _ (Option.some.inj h).symm)  H locs ls hS (lv_sub hl [0, 1, 2] rfl)
          · have h := it_neg c5 h
            refine lv_aload_n hx hb dX11_way_33 rfl (lv_at hl 0 rfl) ?_
            refine r_get E frX11_57 hS 0 rfl rfl dX11_way_34 ?_
            refine lv_iload_n hx hb dX11_way_37 rfl (lv_at hl 3 rfl) ?_
            refine lv_iload_n hx hb dX11_way_38 rfl (lv_at hl 3 rfl) ?_
            refine lv_iload_n hx hb dX11_way_39 rfl (lv_at hl 2 rfl) ?_
            have hJ50 : ∀ (s50_2 : Int32) (ls : Array Slot), s50_2 = (if x25_0 = p2 then (0 : Int32) else (1000000 : Int32)) → lv_has ls 6 [(0, .ref q0), (1, .int p1), (2, .int p2), (3, .int x25_0)] → W p l e R s m args below meth c H locs 0 0 Q (F0 m 50 ls [.int s50_2, .int x25_0, .ref q3]) := by
              intro s50_2 ls es50_2 hl
              subst es50_2
              obtain ⟨g6, h⟩ := gi_some h
              refine r_iast (ws' := [oX11 q0 (.ref q1) (.int v_people) u0_2 u0_3 (.ref q2) (.int v_rowMany) (.int (0 : Int32)) u0_7 u0_8 u0_9 u0_10 u0_11 u0_12 u0_13 u0_14 u0_15 u0_16 u0_17 u0_18 u0_19 u0_20 u0_21 u0_22 u0_23 u0_24 u0_25 u0_26 u0_27 (.ref q3) u0_29 u0_30 u0_31 u0_32 u0_33 u0_34 u0_35 u0_36 u0_37 u0_38 u0_39 u0_40, aI cy q1 37 v_now, aJ cy q2 16 v_row, aI cy q3 7 (upd x25_1 x25_0.toNatClampNeg (if x25_0 = p2 then (0 : Int32) else (1000000 : Int32)))]) E hS 3 rfl g6 rfl dX11_way_50 (fun H locs hS => ?_)
              refine lv_iinc (v := (x25_0 + (1 : Int32))) (lv' := [(3, .int (x25_0 + (1 : Int32))), (0, .ref q0), (1, .int p1), (2, .int p2)]) hx hb dX11_way_51 hl (k := 3) rfl rfl (by decide) rfl (fun ls hl => ?_)
              refine lv_goto (tgt := 25) hx hb dX11_way_54 (by decide) ?_
              exact ih25 (x25_0 + (1 : Int32)) (upd x25_1 x25_0.toNatClampNeg (if x25_0 = p2 then (0 : Int32) else (1000000 : Int32))) y25  H locs ls (hz25a _ (Option.some.inj h).symm) hS (lv_sub hl [1, 2, 3, 0] rfl) hk25_0
            refine lv_icmp_ne (tgt := 47) hx hb dX11_way_40 (by decide) (fun c7 => ?_) (fun c7 => ?_)
            · refine lv_ldcw hx hb E.ow (E.ts _ cnX11_307) dX11_way_47 ?_
              exact hJ50 _ ls ((if_neg c7)).symm (lv_sub hl [0, 1, 2, 3] rfl)
            · refine lv_iconst (v := 0) hx hb dX11_way_43 (by decide) ?_
              refine lv_goto (tgt := 50) hx hb dX11_way_44 (by decide) ?_
              exact hJ50 _ ls ((if_pos c7)).symm (lv_sub hl [0, 1, 2, 3] rfl)
      obtain ⟨y25, e25, h⟩ := bd_some h
      refine hL25 1000 (0 : Int32) v_far y25  H locs ls e25 hS (lv_sub hl [1, 2, 3, 0] rfl) (fun y25_0 ey25 H locs ls hS hl => ?_)
      subst ey25
      refine lv_iconst (v := 0) hx hb dX11_way_57 (by decide) ?_
      refine lv_istore_n (lv' := [(3, .int (0 : Int32)), (0, .ref q0), (1, .int p1), (2, .int p2)]) hx hb dX11_way_58 rfl hl (by decide) rfl (fun ls hl => ?_)
      have hL59 : ∀ (n : Nat) (x59_0 : Int32) (x59_1 : Nat → Int32) (y59 : (Nat → Int32)) (H : Heap) (locs : List Loc) (ls : Array Slot), lp (fun x59 => X11_way_s59 v_people v_now x59.1 x59.2) n (x59_0, x59_1) = some y59 → Sv D A s.heap [oX11 q0 (.ref q1) (.int v_people) u0_2 u0_3 (.ref q2) (.int v_rowMany) (.int (0 : Int32)) u0_7 u0_8 u0_9 u0_10 u0_11 u0_12 u0_13 u0_14 u0_15 u0_16 u0_17 u0_18 u0_19 u0_20 u0_21 u0_22 u0_23 u0_24 u0_25 u0_26 u0_27 (.ref q3) u0_29 u0_30 u0_31 u0_32 u0_33 u0_34 u0_35 u0_36 u0_37 u0_38 u0_39 u0_40, aI cy q1 37 v_now, aJ cy q2 16 v_row, aI cy q3 7 x59_1] H locs → lv_has ls 6 [(0, .ref q0), (1, .int p1), (2, .int p2), (3, .int x59_0)] → ( ∀ (y59_0 : Nat → Int32), y59_0 = y59 → ∀ (H : Heap) (locs : List Loc) (ls : Array Slot), Sv D A s.heap [oX11 q0 (.ref q1) (.int v_people) u0_2 u0_3 (.ref q2) (.int v_rowMany) (.int (0 : Int32)) u0_7 u0_8 u0_9 u0_10 u0_11 u0_12 u0_13 u0_14 u0_15 u0_16 u0_17 u0_18 u0_19 u0_20 u0_21 u0_22 u0_23 u0_24 u0_25 u0_26 u0_27 (.ref q3) u0_29 u0_30 u0_31 u0_32 u0_33 u0_34 u0_35 u0_36 u0_37 u0_38 u0_39 u0_40, aI cy q1 37 v_now, aJ cy q2 16 v_row, aI cy q3 7 y59_0] H locs → lv_has ls 6 [(0, .ref q0), (1, .int p1), (2, .int p2)] → W p l e R s m args below meth c H locs 0 0 Q (F0 m 153 ls [])) → W p l e R s m args below meth c H locs 0 0 Q (F0 m 59 ls []) := by
        intro n
        induction n with
        | zero =>
          intro x59_0 x59_1 y59 H locs ls h
          exact lp_zero h
        | succ n ih59 =>
          intro x59_0 x59_1 y59 H locs ls h hS hl hk59_0
          obtain ⟨z59, h, hz59a, hz59b⟩ := lp_succ h
          have h : X11_way_s59 v_people v_now x59_0 x59_1 = some z59 := h
          unfold X11_way_s59 at h
          refine lv_iload_n hx hb dX11_way_59 rfl (lv_at hl 3 rfl) ?_
          refine lv_aload_n hx hb dX11_way_60 rfl (lv_at hl 0 rfl) ?_
          refine r_get E frX11_92 hS 0 rfl rfl dX11_way_61 ?_
          refine lv_icmp_ge (tgt := 153) hx hb dX11_way_64 (by decide) (fun c8 => ?_) (fun c8 => ?_)
          · have h := it_pos c8 h
            exact hk59_0 x59_1 (hz59b _ (Option.some.inj h).symm)  H locs ls hS (lv_sub hl [0, 1, 2] rfl)
          · have h := it_neg c8 h
            refine lv_iconst (v := 0) hx hb dX11_way_67 (by decide) ?_
            refine lv_istore (lv' := [(4, .int (0 : Int32)), (0, .ref q0), (1, .int p1), (2, .int p2), (3, .int x59_0)]) hx hb dX11_way_68 hl (by decide) rfl (fun ls hl => ?_)
            have hL70 : ∀ (n : Nat) (x70_0 : Int32) (x70_1 : Nat → Int32) (y70 : (Nat → Int32)) (H : Heap) (locs : List Loc) (ls : Array Slot), lp (fun x70 => X11_way_s70 v_people v_now x70.1 x70.2) n (x70_0, x70_1) = some y70 → Sv D A s.heap [oX11 q0 (.ref q1) (.int v_people) u0_2 u0_3 (.ref q2) (.int v_rowMany) (.int (0 : Int32)) u0_7 u0_8 u0_9 u0_10 u0_11 u0_12 u0_13 u0_14 u0_15 u0_16 u0_17 u0_18 u0_19 u0_20 u0_21 u0_22 u0_23 u0_24 u0_25 u0_26 u0_27 (.ref q3) u0_29 u0_30 u0_31 u0_32 u0_33 u0_34 u0_35 u0_36 u0_37 u0_38 u0_39 u0_40, aI cy q1 37 v_now, aJ cy q2 16 v_row, aI cy q3 7 x70_1] H locs → lv_has ls 6 [(0, .ref q0), (1, .int p1), (2, .int p2), (3, .int x59_0), (4, .int x70_0)] → ( ∀ (y70_0 : Nat → Int32), y70_0 = y70 → ∀ (H : Heap) (locs : List Loc) (ls : Array Slot), Sv D A s.heap [oX11 q0 (.ref q1) (.int v_people) u0_2 u0_3 (.ref q2) (.int v_rowMany) (.int (0 : Int32)) u0_7 u0_8 u0_9 u0_10 u0_11 u0_12 u0_13 u0_14 u0_15 u0_16 u0_17 u0_18 u0_19 u0_20 u0_21 u0_22 u0_23 u0_24 u0_25 u0_26 u0_27 (.ref q3) u0_29 u0_30 u0_31 u0_32 u0_33 u0_34 u0_35 u0_36 u0_37 u0_38 u0_39 u0_40, aI cy q1 37 v_now, aJ cy q2 16 v_row, aI cy q3 7 y70_0] H locs → lv_has ls 6 [(0, .ref q0), (1, .int p1), (2, .int p2), (3, .int x59_0)] → W p l e R s m args below meth c H locs 0 0 Q (F0 m 147 ls [])) → W p l e R s m args below meth c H locs 0 0 Q (F0 m 70 ls []) := by
              intro n
              induction n with
              | zero =>
                intro x70_0 x70_1 y70 H locs ls h
                exact lp_zero h
              | succ n ih70 =>
                intro x70_0 x70_1 y70 H locs ls h hS hl hk70_0
                obtain ⟨z70, h, hz70a, hz70b⟩ := lp_succ h
                have h : X11_way_s70 v_people v_now x70_0 x70_1 = some z70 := h
                unfold X11_way_s70 at h
                refine lv_iload hx hb dX11_way_70 (lv_at hl 4 rfl) ?_
                refine lv_aload_n hx hb dX11_way_72 rfl (lv_at hl 0 rfl) ?_
                refine r_get E frX11_92 hS 0 rfl rfl dX11_way_73 ?_
                refine lv_icmp_ge (tgt := 147) hx hb dX11_way_76 (by decide) (fun c9 => ?_) (fun c9 => ?_)
                · have h := it_pos c9 h
                  exact hk70_0 x70_1 (hz70b _ (Option.some.inj h).symm)  H locs ls hS (lv_sub hl [0, 1, 2, 3] rfl)
                · have h := it_neg c9 h
                  refine lv_iconst (v := 0) hx hb dX11_way_79 (by decide) ?_
                  refine lv_istore (lv' := [(5, .int (0 : Int32)), (0, .ref q0), (1, .int p1), (2, .int p2), (3, .int x59_0), (4, .int x70_0)]) hx hb dX11_way_80 hl (by decide) rfl (fun ls hl => ?_)
                  have hL82 : ∀ (n : Nat) (x82_0 : Int32) (x82_1 : Nat → Int32) (y82 : (Nat → Int32)) (H : Heap) (locs : List Loc) (ls : Array Slot), lp (fun x82 => X11_way_s82 v_people v_now x70_0 x82.1 x82.2) n (x82_0, x82_1) = some y82 → Sv D A s.heap [oX11 q0 (.ref q1) (.int v_people) u0_2 u0_3 (.ref q2) (.int v_rowMany) (.int (0 : Int32)) u0_7 u0_8 u0_9 u0_10 u0_11 u0_12 u0_13 u0_14 u0_15 u0_16 u0_17 u0_18 u0_19 u0_20 u0_21 u0_22 u0_23 u0_24 u0_25 u0_26 u0_27 (.ref q3) u0_29 u0_30 u0_31 u0_32 u0_33 u0_34 u0_35 u0_36 u0_37 u0_38 u0_39 u0_40, aI cy q1 37 v_now, aJ cy q2 16 v_row, aI cy q3 7 x82_1] H locs → lv_has ls 6 [(0, .ref q0), (1, .int p1), (2, .int p2), (3, .int x59_0), (4, .int x70_0), (5, .int x82_0)] → ( ∀ (y82_0 : Nat → Int32), y82_0 = y82 → ∀ (H : Heap) (locs : List Loc) (ls : Array Slot), Sv D A s.heap [oX11 q0 (.ref q1) (.int v_people) u0_2 u0_3 (.ref q2) (.int v_rowMany) (.int (0 : Int32)) u0_7 u0_8 u0_9 u0_10 u0_11 u0_12 u0_13 u0_14 u0_15 u0_16 u0_17 u0_18 u0_19 u0_20 u0_21 u0_22 u0_23 u0_24 u0_25 u0_26 u0_27 (.ref q3) u0_29 u0_30 u0_31 u0_32 u0_33 u0_34 u0_35 u0_36 u0_37 u0_38 u0_39 u0_40, aI cy q1 37 v_now, aJ cy q2 16 v_row, aI cy q3 7 y82_0] H locs → lv_has ls 6 [(0, .ref q0), (1, .int p1), (2, .int p2), (3, .int x59_0), (4, .int x70_0)] → W p l e R s m args below meth c H locs 0 0 Q (F0 m 141 ls [])) → W p l e R s m args below meth c H locs 0 0 Q (F0 m 82 ls []) := by
                    intro n
                    induction n with
                    | zero =>
                      intro x82_0 x82_1 y82 H locs ls h
                      exact lp_zero h
                    | succ n ih82 =>
                      intro x82_0 x82_1 y82 H locs ls h hS hl hk82_0
                      obtain ⟨z82, h, hz82a, hz82b⟩ := lp_succ h
                      have h : X11_way_s82 v_people v_now x70_0 x82_0 x82_1 = some z82 := h
                      unfold X11_way_s82 at h
                      refine lv_iload hx hb dX11_way_82 (lv_at hl 5 rfl) ?_
                      refine lv_aload_n hx hb dX11_way_84 rfl (lv_at hl 0 rfl) ?_
                      refine r_get E frX11_92 hS 0 rfl rfl dX11_way_85 ?_
                      refine lv_icmp_ge (tgt := 141) hx hb dX11_way_88 (by decide) (fun c10 => ?_) (fun c10 => ?_)
                      · have h := it_pos c10 h
                        exact hk82_0 x82_1 (hz82b _ (Option.some.inj h).symm)  H locs ls hS (lv_sub hl [0, 1, 2, 3, 4] rfl)
                      · have h := it_neg c10 h
                        refine lv_aload_n hx hb dX11_way_91 rfl (lv_at hl 0 rfl) ?_
                        refine r_get E frX11_9 hS 0 rfl rfl dX11_way_92 ?_
                        refine lv_bipush (v := 28) hx hb dX11_way_95 (by decide) ?_
                        refine lv_iload hx hb dX11_way_97 (lv_at hl 4 rfl) ?_
                        refine lv_iadd hx hb dX11_way_99 ?_
                        obtain ⟨g11, h⟩ := gi_some h
                        refine r_iald E hS 1 rfl g11 dX11_way_100 ?_
                        refine lv_iload hx hb dX11_way_101 (lv_at hl 5 rfl) ?_
                        refine ct_S (ws' := fun _ => [oX11 q0 (.ref q1) (.int v_people) u0_2 u0_3 (.ref q2) (.int v_rowMany) (.int (0 : Int32)) u0_7 u0_8 u0_9 u0_10 u0_11 u0_12 u0_13 u0_14 u0_15 u0_16 u0_17 u0_18 u0_19 u0_20 u0_21 u0_22 u0_23 u0_24 u0_25 u0_26 u0_27 (.ref q3) u0_29 u0_30 u0_31 u0_32 u0_33 u0_34 u0_35 u0_36 u0_37 u0_38 u0_39 u0_40, aI cy q1 37 v_now, aJ cy q2 16 v_row, aI cy q3 7 x82_1]) (st' := [.int (X11_has (v_now ((28 : Int32) + x70_0).toNatClampNeg) x82_0)]) (rest := []) E hS slX11_196 (c_X11_has (l := l) (D := D) (cy := cy) (p0 := (v_now ((28 : Int32) + x70_0).toNatClampNeg)) (p1 := x82_0) (r := (X11_has (v_now ((28 : Int32) + x70_0).toNatClampNeg) x82_0)) rfl) [] rfl rfl (fun _ => rfl) (fun _ => rfl) rfl rfl (Nat.le_of_ble_eq_true rfl) hl.1 (by rw [hRf]; exact Nat.le_of_ble_eq_true rfl) (by rw [hRl]; exact Nat.le_of_ble_eq_true rfl) ⟨Nat.zero_le _, Nat.zero_le _⟩ dX11_way_103 rfl (fun H locs _ hS => ?_)
                        refine lv_if_eq (tgt := 135) hx hb dX11_way_106 (by decide) (fun c12 => ?_) (fun c12 => ?_)
                        · have h := it_pos c12 h
                          refine lv_iinc (v := (x82_0 + (1 : Int32))) (lv' := [(5, .int (x82_0 + (1 : Int32))), (0, .ref q0), (1, .int p1), (2, .int p2), (3, .int x59_0), (4, .int x70_0)]) hx hb dX11_way_135 hl (k := 5) rfl rfl (by decide) rfl (fun ls hl => ?_)
                          refine lv_goto (tgt := 82) hx hb dX11_way_138 (by decide) ?_
                          exact ih82 (x82_0 + (1 : Int32)) x82_1 y82  H locs ls (hz82a _ (Option.some.inj h).symm) hS (lv_sub hl [1, 2, 3, 4, 5, 0] rfl) hk82_0
                        · have h := it_neg c12 h
                          refine lv_aload_n hx hb dX11_way_109 rfl (lv_at hl 0 rfl) ?_
                          refine r_get E frX11_57 hS 0 rfl rfl dX11_way_110 ?_
                          refine lv_iload hx hb dX11_way_113 (lv_at hl 4 rfl) ?_
                          refine lv_aload_n hx hb dX11_way_115 rfl (lv_at hl 0 rfl) ?_
                          refine r_get E frX11_57 hS 0 rfl rfl dX11_way_116 ?_
                          refine lv_iload hx hb dX11_way_119 (lv_at hl 4 rfl) ?_
                          obtain ⟨g13, h⟩ := gi_some h
                          refine r_iald E hS 3 rfl g13 dX11_way_121 ?_
                          refine lv_aload_n hx hb dX11_way_122 rfl (lv_at hl 0 rfl) ?_
                          refine r_get E frX11_57 hS 0 rfl rfl dX11_way_123 ?_
                          refine lv_iload hx hb dX11_way_126 (lv_at hl 5 rfl) ?_
                          obtain ⟨g14, h⟩ := gi_some h
                          refine r_iald E hS 3 rfl g14 dX11_way_128 ?_
                          refine lv_iconst (v := 1) hx hb dX11_way_129 (by decide) ?_
                          refine lv_iadd hx hb dX11_way_130 ?_
                          refine ct_S (ws' := fun _ => [oX11 q0 (.ref q1) (.int v_people) u0_2 u0_3 (.ref q2) (.int v_rowMany) (.int (0 : Int32)) u0_7 u0_8 u0_9 u0_10 u0_11 u0_12 u0_13 u0_14 u0_15 u0_16 u0_17 u0_18 u0_19 u0_20 u0_21 u0_22 u0_23 u0_24 u0_25 u0_26 u0_27 (.ref q3) u0_29 u0_30 u0_31 u0_32 u0_33 u0_34 u0_35 u0_36 u0_37 u0_38 u0_39 u0_40, aI cy q1 37 v_now, aJ cy q2 16 v_row, aI cy q3 7 x82_1]) (st' := [.int (J9_min_7cf53 (x82_1 x70_0.toNatClampNeg) ((x82_1 x82_0.toNatClampNeg) + (1 : Int32))), .int x70_0, .ref q3]) (rest := [.int x70_0, .ref q3]) E hS slX11_223 (c_J9_min_7cf53 (l := l) (D := D) (cy := cy) (p0 := (x82_1 x70_0.toNatClampNeg)) (p1 := ((x82_1 x82_0.toNatClampNeg) + (1 : Int32))) (r := (J9_min_7cf53 (x82_1 x70_0.toNatClampNeg) ((x82_1 x82_0.toNatClampNeg) + (1 : Int32)))) rfl) [] rfl rfl (fun _ => rfl) (fun _ => rfl) rfl rfl (Nat.le_of_ble_eq_true rfl) hl.1 (by rw [hRf]; exact Nat.le_of_ble_eq_true rfl) (by rw [hRl]; exact Nat.le_of_ble_eq_true rfl) ⟨Nat.zero_le _, Nat.zero_le _⟩ dX11_way_131 rfl (fun H locs _ hS => ?_)
                          obtain ⟨g15, h⟩ := gi_some h
                          refine r_iast (ws' := [oX11 q0 (.ref q1) (.int v_people) u0_2 u0_3 (.ref q2) (.int v_rowMany) (.int (0 : Int32)) u0_7 u0_8 u0_9 u0_10 u0_11 u0_12 u0_13 u0_14 u0_15 u0_16 u0_17 u0_18 u0_19 u0_20 u0_21 u0_22 u0_23 u0_24 u0_25 u0_26 u0_27 (.ref q3) u0_29 u0_30 u0_31 u0_32 u0_33 u0_34 u0_35 u0_36 u0_37 u0_38 u0_39 u0_40, aI cy q1 37 v_now, aJ cy q2 16 v_row, aI cy q3 7 (upd x82_1 x70_0.toNatClampNeg (J9_min_7cf53 (x82_1 x70_0.toNatClampNeg) ((x82_1 x82_0.toNatClampNeg) + (1 : Int32))))]) E hS 3 rfl g15 rfl dX11_way_134 (fun H locs hS => ?_)
                          refine lv_iinc (v := (x82_0 + (1 : Int32))) (lv' := [(5, .int (x82_0 + (1 : Int32))), (0, .ref q0), (1, .int p1), (2, .int p2), (3, .int x59_0), (4, .int x70_0)]) hx hb dX11_way_135 hl (k := 5) rfl rfl (by decide) rfl (fun ls hl => ?_)
                          refine lv_goto (tgt := 82) hx hb dX11_way_138 (by decide) ?_
                          exact ih82 (x82_0 + (1 : Int32)) (upd x82_1 x70_0.toNatClampNeg (J9_min_7cf53 (x82_1 x70_0.toNatClampNeg) ((x82_1 x82_0.toNatClampNeg) + (1 : Int32)))) y82  H locs ls (hz82a _ (Option.some.inj h).symm) hS (lv_sub hl [1, 2, 3, 4, 5, 0] rfl) hk82_0
                  obtain ⟨y82, e82, h⟩ := bd_some h
                  refine hL82 1000 (0 : Int32) x70_1 y82  H locs ls e82 hS (lv_sub hl [1, 2, 3, 4, 5, 0] rfl) (fun y82_0 ey82 H locs ls hS hl => ?_)
                  subst ey82
                  refine lv_iinc (v := (x70_0 + (1 : Int32))) (lv' := [(4, .int (x70_0 + (1 : Int32))), (0, .ref q0), (1, .int p1), (2, .int p2), (3, .int x59_0)]) hx hb dX11_way_141 hl (k := 4) rfl rfl (by decide) rfl (fun ls hl => ?_)
                  refine lv_goto (tgt := 70) hx hb dX11_way_144 (by decide) ?_
                  exact ih70 (x70_0 + (1 : Int32)) y82_0 y70  H locs ls (hz70a _ (Option.some.inj h).symm) hS (lv_sub hl [1, 2, 3, 4, 0] rfl) hk70_0
            obtain ⟨y70, e70, h⟩ := bd_some h
            refine hL70 1000 (0 : Int32) x59_1 y70  H locs ls e70 hS (lv_sub hl [1, 2, 3, 4, 0] rfl) (fun y70_0 ey70 H locs ls hS hl => ?_)
            subst ey70
            refine lv_iinc (v := (x59_0 + (1 : Int32))) (lv' := [(3, .int (x59_0 + (1 : Int32))), (0, .ref q0), (1, .int p1), (2, .int p2)]) hx hb dX11_way_147 hl (k := 3) rfl rfl (by decide) rfl (fun ls hl => ?_)
            refine lv_goto (tgt := 59) hx hb dX11_way_150 (by decide) ?_
            exact ih59 (x59_0 + (1 : Int32)) y70_0 y59  H locs ls (hz59a _ (Option.some.inj h).symm) hS (lv_sub hl [1, 2, 3, 0] rfl) hk59_0
      obtain ⟨y59, e59, h⟩ := bd_some h
      refine hL59 1000 (0 : Int32) y25_0 y59  H locs ls e59 hS (lv_sub hl [1, 2, 3, 0] rfl) (fun y59_0 ey59 H locs ls hS hl => ?_)
      subst ey59
      refine lv_aload_n hx hb dX11_way_153 rfl (lv_at hl 0 rfl) ?_
      refine r_get E frX11_57 hS 0 rfl rfl dX11_way_154 ?_
      refine lv_iload_n hx hb dX11_way_157 rfl (lv_at hl 1 rfl) ?_
      obtain ⟨g16, h⟩ := gi_some h
      refine r_iald E hS 3 rfl g16 dX11_way_158 ?_
      refine lv_ldcw hx hb E.ow (E.ts _ cnX11_307) dX11_way_159 ?_
      refine lv_icmp_lt (tgt := 168) hx hb dX11_way_162 (by decide) (fun c17 => ?_) (fun c17 => ?_)
      · have h := it_pos c17 h
        refine lv_aload_n hx hb dX11_way_168 rfl (lv_at hl 0 rfl) ?_
        refine lv_iconst (v := 0) hx hb dX11_way_169 (by decide) ?_
        refine r_put (ws' := [oX11 q0 (.ref q1) (.int v_people) u0_2 u0_3 (.ref q2) (.int (0 : Int32)) (.int (0 : Int32)) u0_7 u0_8 u0_9 u0_10 u0_11 u0_12 u0_13 u0_14 u0_15 u0_16 u0_17 u0_18 u0_19 u0_20 u0_21 u0_22 u0_23 u0_24 u0_25 u0_26 u0_27 (.ref q3) u0_29 u0_30 u0_31 u0_32 u0_33 u0_34 u0_35 u0_36 u0_37 u0_38 u0_39 u0_40, aI cy q1 37 v_now, aJ cy q2 16 v_row, aI cy q3 7 y59_0]) E frX11_89 hS 0 rfl (Nat.le_of_ble_eq_true rfl) rfl rfl rfl rfl dX11_way_170 (fun H locs hS => ?_)
        refine lv_aload_n hx hb dX11_way_173 rfl (lv_at hl 0 rfl) ?_
        refine lv_iload_n hx hb dX11_way_174 rfl (lv_at hl 1 rfl) ?_
        refine lv_i2l (v := (p1.toInt64)) hx hb dX11_way_175 rfl ?_
        obtain ⟨y176, e18, h⟩ := bd_some h
        refine ct_V (ws' := fun _ => [oX11 q0 (.ref q1) (.int v_people) u0_2 u0_3 (.ref q2) (.int y176.1) (.int (0 : Int32)) u0_7 u0_8 u0_9 u0_10 u0_11 u0_12 u0_13 u0_14 u0_15 u0_16 u0_17 u0_18 u0_19 u0_20 u0_21 u0_22 u0_23 u0_24 u0_25 u0_26 u0_27 (.ref q3) u0_29 u0_30 u0_31 u0_32 u0_33 u0_34 u0_35 u0_36 u0_37 u0_38 u0_39 u0_40, aI cy q1 37 v_now, aJ cy q2 16 y176.2, aI cy q3 7 y59_0]) (st' := []) (rest := []) E hS vlX11_256 (c_X11_tell (l := l) (D := D) (cy := cy) (q0 := q0) (q1 := q2) (u0_0 := .ref q1) (u0_1 := .int v_people) (u0_2 := u0_2) (u0_3 := u0_3) (u0_6 := .int (0 : Int32)) (u0_7 := u0_7) (u0_8 := u0_8) (u0_9 := u0_9) (u0_10 := u0_10) (u0_11 := u0_11) (u0_12 := u0_12) (u0_13 := u0_13) (u0_14 := u0_14) (u0_15 := u0_15) (u0_16 := u0_16) (u0_17 := u0_17) (u0_18 := u0_18) (u0_19 := u0_19) (u0_20 := u0_20) (u0_21 := u0_21) (u0_22 := u0_22) (u0_23 := u0_23) (u0_24 := u0_24) (u0_25 := u0_25) (u0_26 := u0_26) (u0_27 := u0_27) (u0_28 := .ref q3) (u0_29 := u0_29) (u0_30 := u0_30) (u0_31 := u0_31) (u0_32 := u0_32) (u0_33 := u0_33) (u0_34 := u0_34) (u0_35 := u0_35) (u0_36 := u0_36) (u0_37 := u0_37) (u0_38 := u0_38) (u0_39 := u0_39) (u0_40 := u0_40) (v_rowMany := (0 : Int32)) (v_row := v_row) (p1 := (p1.toInt64)) (r := y176) e18) [0, 2] rfl rfl (fun _ => rfl) (fun _ => rfl) rfl rfl rfl rfl (Nat.le_of_ble_eq_true rfl) hl.1 (by rw [hRf]; exact Nat.le_of_ble_eq_true rfl) (by rw [hRl]; exact Nat.le_of_ble_eq_true rfl) ⟨Nat.zero_le _, Nat.zero_le _⟩ dX11_way_176 rfl (fun H locs _ hS => ?_)
        refine lv_iload_n hx hb dX11_way_179 rfl (lv_at hl 1 rfl) ?_
        refine lv_istore_n (lv' := [(3, .int p1), (0, .ref q0), (1, .int p1), (2, .int p2)]) hx hb dX11_way_180 rfl hl (by decide) rfl (fun ls hl => ?_)
        have hL181 : ∀ (n : Nat) (x181_0 : Int32) (x181_1 : Int32) (x181_2 : Nat → Int64) (y181 : Int32 × (Nat → Int64)) (H : Heap) (locs : List Loc) (ls : Array Slot), lp (fun x181 => X11_way_s181 v_now p2 y59_0 x181.1 x181.2.1 x181.2.2) n (x181_0, x181_1, x181_2) = some y181 → Sv D A s.heap [oX11 q0 (.ref q1) (.int v_people) u0_2 u0_3 (.ref q2) (.int x181_1) (.int (0 : Int32)) u0_7 u0_8 u0_9 u0_10 u0_11 u0_12 u0_13 u0_14 u0_15 u0_16 u0_17 u0_18 u0_19 u0_20 u0_21 u0_22 u0_23 u0_24 u0_25 u0_26 u0_27 (.ref q3) u0_29 u0_30 u0_31 u0_32 u0_33 u0_34 u0_35 u0_36 u0_37 u0_38 u0_39 u0_40, aI cy q1 37 v_now, aJ cy q2 16 x181_2, aI cy q3 7 y59_0] H locs → lv_has ls 6 [(0, .ref q0), (1, .int p1), (2, .int p2), (3, .int x181_0)] → ( ∀ (y181_0 : Int32) (y181_1 : Nat → Int64), (y181_0, y181_1) = y181 → ∀ (H : Heap) (locs : List Loc) (ls : Array Slot), Sv D A s.heap [oX11 q0 (.ref q1) (.int v_people) u0_2 u0_3 (.ref q2) (.int y181_0) (.int (0 : Int32)) u0_7 u0_8 u0_9 u0_10 u0_11 u0_12 u0_13 u0_14 u0_15 u0_16 u0_17 u0_18 u0_19 u0_20 u0_21 u0_22 u0_23 u0_24 u0_25 u0_26 u0_27 (.ref q3) u0_29 u0_30 u0_31 u0_32 u0_33 u0_34 u0_35 u0_36 u0_37 u0_38 u0_39 u0_40, aI cy q1 37 v_now, aJ cy q2 16 y181_1, aI cy q3 7 y59_0] H locs → lv_has ls 6 [(0, .ref q0), (1, .int p1)] → W p l e R s m args below meth c H locs 0 0 Q (F0 m 242 ls [])) → W p l e R s m args below meth c H locs 0 0 Q (F0 m 181 ls []) := by
          intro n
          induction n with
          | zero =>
            intro x181_0 x181_1 x181_2 y181 H locs ls h
            exact lp_zero h
          | succ n ih181 =>
            intro x181_0 x181_1 x181_2 y181 H locs ls h hS hl hk181_0
            obtain ⟨z181, h, hz181a, hz181b⟩ := lp_succ h
            have h : X11_way_s181 v_now p2 y59_0 x181_0 x181_1 x181_2 = some z181 := h
            unfold X11_way_s181 at h
            refine lv_iload_n hx hb dX11_way_181 rfl (lv_at hl 3 rfl) ?_
            refine lv_iload_n hx hb dX11_way_182 rfl (lv_at hl 2 rfl) ?_
            refine lv_icmp_eq (tgt := 242) hx hb dX11_way_183 (by decide) (fun c19 => ?_) (fun c19 => ?_)
            · have h := it_pos c19 h
              exact hk181_0 x181_1 x181_2 (hz181b _ (Option.some.inj h).symm)  H locs ls hS (lv_sub hl [0, 1] rfl)
            · have h := it_neg c19 h
              refine lv_iconst (v := 0) hx hb dX11_way_186 (by decide) ?_
              refine lv_istore (lv' := [(4, .int (0 : Int32)), (0, .ref q0), (1, .int p1), (2, .int p2), (3, .int x181_0)]) hx hb dX11_way_187 hl (by decide) rfl (fun ls hl => ?_)
              have hL189 : ∀ (n : Nat) (x189_0 : Int32) (y189 : Int32) (H : Heap) (locs : List Loc) (ls : Array Slot), lp (fun x189 => X11_way_s189 v_now y59_0 x181_0 x189) n x189_0 = some y189 → Sv D A s.heap [oX11 q0 (.ref q1) (.int v_people) u0_2 u0_3 (.ref q2) (.int x181_1) (.int (0 : Int32)) u0_7 u0_8 u0_9 u0_10 u0_11 u0_12 u0_13 u0_14 u0_15 u0_16 u0_17 u0_18 u0_19 u0_20 u0_21 u0_22 u0_23 u0_24 u0_25 u0_26 u0_27 (.ref q3) u0_29 u0_30 u0_31 u0_32 u0_33 u0_34 u0_35 u0_36 u0_37 u0_38 u0_39 u0_40, aI cy q1 37 v_now, aJ cy q2 16 x181_2, aI cy q3 7 y59_0] H locs → lv_has ls 6 [(0, .ref q0), (1, .int p1), (2, .int p2), (3, .int x181_0), (4, .int x189_0)] → ( ∀ (y189_0 : Int32), y189_0 = y189 → ∀ (H : Heap) (locs : List Loc) (ls : Array Slot), Sv D A s.heap [oX11 q0 (.ref q1) (.int v_people) u0_2 u0_3 (.ref q2) (.int x181_1) (.int (0 : Int32)) u0_7 u0_8 u0_9 u0_10 u0_11 u0_12 u0_13 u0_14 u0_15 u0_16 u0_17 u0_18 u0_19 u0_20 u0_21 u0_22 u0_23 u0_24 u0_25 u0_26 u0_27 (.ref q3) u0_29 u0_30 u0_31 u0_32 u0_33 u0_34 u0_35 u0_36 u0_37 u0_38 u0_39 u0_40, aI cy q1 37 v_now, aJ cy q2 16 x181_2, aI cy q3 7 y59_0] H locs → lv_has ls 6 [(0, .ref q0), (1, .int p1), (2, .int p2), (4, .int y189_0)] → W p l e R s m args below meth c H locs 0 0 Q (F0 m 230 ls [])) → W p l e R s m args below meth c H locs 0 0 Q (F0 m 189 ls []) := by
                intro n
                induction n with
                | zero =>
                  intro x189_0 y189 H locs ls h
                  exact lp_zero h
                | succ n ih189 =>
                  intro x189_0 y189 H locs ls h hS hl hk189_0
                  obtain ⟨z189, h, hz189a, hz189b⟩ := lp_succ h
                  have h : X11_way_s189 v_now y59_0 x181_0 x189_0 = some z189 := h
                  unfold X11_way_s189 at h
                  refine lv_aload_n hx hb dX11_way_189 rfl (lv_at hl 0 rfl) ?_
                  refine r_get E frX11_9 hS 0 rfl rfl dX11_way_190 ?_
                  refine lv_bipush (v := 28) hx hb dX11_way_193 (by decide) ?_
                  refine lv_iload_n hx hb dX11_way_195 rfl (lv_at hl 3 rfl) ?_
                  refine lv_iadd hx hb dX11_way_196 ?_
                  obtain ⟨g20, h⟩ := gi_some h
                  refine r_iald E hS 1 rfl g20 dX11_way_197 ?_
                  refine lv_iload hx hb dX11_way_198 (lv_at hl 4 rfl) ?_
                  refine ct_S (ws' := fun _ => [oX11 q0 (.ref q1) (.int v_people) u0_2 u0_3 (.ref q2) (.int x181_1) (.int (0 : Int32)) u0_7 u0_8 u0_9 u0_10 u0_11 u0_12 u0_13 u0_14 u0_15 u0_16 u0_17 u0_18 u0_19 u0_20 u0_21 u0_22 u0_23 u0_24 u0_25 u0_26 u0_27 (.ref q3) u0_29 u0_30 u0_31 u0_32 u0_33 u0_34 u0_35 u0_36 u0_37 u0_38 u0_39 u0_40, aI cy q1 37 v_now, aJ cy q2 16 x181_2, aI cy q3 7 y59_0]) (st' := [.int (X11_has (v_now ((28 : Int32) + x181_0).toNatClampNeg) x189_0)]) (rest := []) E hS slX11_196 (c_X11_has (l := l) (D := D) (cy := cy) (p0 := (v_now ((28 : Int32) + x181_0).toNatClampNeg)) (p1 := x189_0) (r := (X11_has (v_now ((28 : Int32) + x181_0).toNatClampNeg) x189_0)) rfl) [] rfl rfl (fun _ => rfl) (fun _ => rfl) rfl rfl (Nat.le_of_ble_eq_true rfl) hl.1 (by rw [hRf]; exact Nat.le_of_ble_eq_true rfl) (by rw [hRl]; exact Nat.le_of_ble_eq_true rfl) ⟨Nat.zero_le _, Nat.zero_le _⟩ dX11_way_200 rfl (fun H locs _ hS => ?_)
                  refine lv_if_eq (tgt := 224) hx hb dX11_way_203 (by decide) (fun c21 => ?_) (fun c21 => ?_)
                  · have h := it_pos c21 h
                    refine lv_iinc (v := (x189_0 + (1 : Int32))) (lv' := [(4, .int (x189_0 + (1 : Int32))), (0, .ref q0), (1, .int p1), (2, .int p2), (3, .int x181_0)]) hx hb dX11_way_224 hl (k := 4) rfl rfl (by decide) rfl (fun ls hl => ?_)
                    refine lv_goto (tgt := 189) hx hb dX11_way_227 (by decide) ?_
                    exact ih189 (x189_0 + (1 : Int32)) y189  H locs ls (hz189a _ (Option.some.inj h).symm) hS (lv_sub hl [1, 2, 3, 4, 0] rfl) hk189_0
                  · have h := it_neg c21 h
                    refine lv_aload_n hx hb dX11_way_206 rfl (lv_at hl 0 rfl) ?_
                    refine r_get E frX11_57 hS 0 rfl rfl dX11_way_207 ?_
                    refine lv_iload hx hb dX11_way_210 (lv_at hl 4 rfl) ?_
                    obtain ⟨g22, h⟩ := gi_some h
                    refine r_iald E hS 3 rfl g22 dX11_way_212 ?_
                    refine lv_aload_n hx hb dX11_way_213 rfl (lv_at hl 0 rfl) ?_
                    refine r_get E frX11_57 hS 0 rfl rfl dX11_way_214 ?_
                    refine lv_iload_n hx hb dX11_way_217 rfl (lv_at hl 3 rfl) ?_
                    obtain ⟨g23, h⟩ := gi_some h
                    refine r_iald E hS 3 rfl g23 dX11_way_218 ?_
                    refine lv_iconst (v := 1) hx hb dX11_way_219 (by decide) ?_
                    refine lv_isub hx hb dX11_way_220 ?_
                    refine lv_icmp_eq (tgt := 230) hx hb dX11_way_221 (by decide) (fun c24 => ?_) (fun c24 => ?_)
                    · have h := it_pos c24 h
                      exact hk189_0 x189_0 (hz189b _ (Option.some.inj h).symm)  H locs ls hS (lv_sub hl [0, 1, 2, 4] rfl)
                    · have h := it_neg c24 h
                      refine lv_iinc (v := (x189_0 + (1 : Int32))) (lv' := [(4, .int (x189_0 + (1 : Int32))), (0, .ref q0), (1, .int p1), (2, .int p2), (3, .int x181_0)]) hx hb dX11_way_224 hl (k := 4) rfl rfl (by decide) rfl (fun ls hl => ?_)
                      refine lv_goto (tgt := 189) hx hb dX11_way_227 (by decide) ?_
                      exact ih189 (x189_0 + (1 : Int32)) y189  H locs ls (hz189a _ (Option.some.inj h).symm) hS (lv_sub hl [1, 2, 3, 4, 0] rfl) hk189_0
              obtain ⟨y189, e189, h⟩ := bd_some h
              refine hL189 1000 (0 : Int32) y189  H locs ls e189 hS (lv_sub hl [1, 2, 3, 4, 0] rfl) (fun y189_0 ey189 H locs ls hS hl => ?_)
              subst ey189
              refine lv_iload hx hb dX11_way_230 (lv_at hl 3 rfl) ?_
              refine lv_istore_n (lv' := [(3, .int y189_0), (0, .ref q0), (1, .int p1), (2, .int p2), (4, .int y189_0)]) hx hb dX11_way_232 rfl hl (by decide) rfl (fun ls hl => ?_)
              refine lv_aload_n hx hb dX11_way_233 rfl (lv_at hl 1 rfl) ?_
              refine lv_iload_n hx hb dX11_way_234 rfl (lv_at hl 0 rfl) ?_
              refine lv_i2l (v := (y189_0.toInt64)) hx hb dX11_way_235 rfl ?_
              obtain ⟨y236, e25, h⟩ := bd_some h
              refine ct_V (ws' := fun _ => [oX11 q0 (.ref q1) (.int v_people) u0_2 u0_3 (.ref q2) (.int y236.1) (.int (0 : Int32)) u0_7 u0_8 u0_9 u0_10 u0_11 u0_12 u0_13 u0_14 u0_15 u0_16 u0_17 u0_18 u0_19 u0_20 u0_21 u0_22 u0_23 u0_24 u0_25 u0_26 u0_27 (.ref q3) u0_29 u0_30 u0_31 u0_32 u0_33 u0_34 u0_35 u0_36 u0_37 u0_38 u0_39 u0_40, aI cy q1 37 v_now, aJ cy q2 16 y236.2, aI cy q3 7 y59_0]) (st' := []) (rest := []) E hS vlX11_256 (c_X11_tell (l := l) (D := D) (cy := cy) (q0 := q0) (q1 := q2) (u0_0 := .ref q1) (u0_1 := .int v_people) (u0_2 := u0_2) (u0_3 := u0_3) (u0_6 := .int (0 : Int32)) (u0_7 := u0_7) (u0_8 := u0_8) (u0_9 := u0_9) (u0_10 := u0_10) (u0_11 := u0_11) (u0_12 := u0_12) (u0_13 := u0_13) (u0_14 := u0_14) (u0_15 := u0_15) (u0_16 := u0_16) (u0_17 := u0_17) (u0_18 := u0_18) (u0_19 := u0_19) (u0_20 := u0_20) (u0_21 := u0_21) (u0_22 := u0_22) (u0_23 := u0_23) (u0_24 := u0_24) (u0_25 := u0_25) (u0_26 := u0_26) (u0_27 := u0_27) (u0_28 := .ref q3) (u0_29 := u0_29) (u0_30 := u0_30) (u0_31 := u0_31) (u0_32 := u0_32) (u0_33 := u0_33) (u0_34 := u0_34) (u0_35 := u0_35) (u0_36 := u0_36) (u0_37 := u0_37) (u0_38 := u0_38) (u0_39 := u0_39) (u0_40 := u0_40) (v_rowMany := x181_1) (v_row := x181_2) (p1 := (y189_0.toInt64)) (r := y236) e25) [0, 2] rfl rfl (fun _ => rfl) (fun _ => rfl) rfl rfl rfl rfl (Nat.le_of_ble_eq_true rfl) hl.1 (by rw [hRf]; exact Nat.le_of_ble_eq_true rfl) (by rw [hRl]; exact Nat.le_of_ble_eq_true rfl) ⟨Nat.zero_le _, Nat.zero_le _⟩ dX11_way_236 rfl (fun H locs _ hS => ?_)
              refine lv_goto (tgt := 181) hx hb dX11_way_239 (by decide) ?_
              exact ih181 y189_0 y236.1 y236.2 y181  H locs ls (hz181a _ (Option.some.inj h).symm) hS (lv_sub hl [1, 2, 3, 0] rfl) hk181_0
        obtain ⟨y181, e181, h⟩ := bd_some h
        refine hL181 1000 p1 y176.1 y176.2 y181  H locs ls e181 hS (lv_sub hl [1, 2, 3, 0] rfl) (fun y181_0 y181_1 ey181 H locs ls hS hl => ?_)
        subst ey181
        have h := un_r h
        refine lv_aload_n hx hb dX11_way_242 rfl (lv_at hl 0 rfl) ?_
        refine r_get E frX11_57 hS 0 rfl rfl dX11_way_243 ?_
        refine lv_iload_n hx hb dX11_way_246 rfl (lv_at hl 1 rfl) ?_
        obtain ⟨g26, h⟩ := gi_some h
        refine r_iald E hS 3 rfl g26 dX11_way_247 ?_
        obtain rfl := Option.some.inj h
        exact rt_i E hQ (.null) hS dX11_way_248
      · have h := it_neg c17 h
        refine lv_bipush (v := -2) hx hb dX11_way_165 (by decide) ?_
        obtain rfl := Option.some.inj h
        exact rt_i E hQ (.null) hS dX11_way_167
    · have h := it_pos c4 h
      refine lv_iconst (v := -1) hx hb dX11_way_21 (by decide) ?_
      obtain rfl := Option.some.inj h
      exact rt_i E hQ (.null) hS dX11_way_22
set_option maxHeartbeats 4000000 in
set_option maxRecDepth 100000 in
theorem c_X11_heard {l : Launch} {D : va_G} {cy : Nat → ClassId} (q0 : Nat) (q1 : Nat) (q2 : Nat) (u0_0 : Value) (u0_1 : Value) (u0_2 : Value) (u0_3 : Value) (u0_4 : Value) (u0_5 : Value) (u0_7 : Value) (u0_8 : Value) (u0_9 : Value) (u0_10 : Value) (u0_11 : Value) (u0_12 : Value) (u0_13 : Value) (u0_14 : Value) (u0_15 : Value) (u0_16 : Value) (u0_17 : Value) (u0_18 : Value) (u0_19 : Value) (u0_20 : Value) (u0_21 : Value) (u0_22 : Value) (u0_23 : Value) (u0_24 : Value) (u0_25 : Value) (u0_26 : Value) (u0_27 : Value) (u0_28 : Value) (u0_32 : Value) (u0_33 : Value) (u0_34 : Value) (u0_35 : Value) (u0_36 : Value) (u0_37 : Value) (u0_38 : Value) (u0_39 : Value) (u0_40 : Value) (v_thrown : Int32) (v_heardMany : Int32) (v_heardOf : Nat → Int32) (v_heardBy : Nat → Int32) (p1 : Int32) (p2 : Int32) (r : Int32 × Int32 × Int32 × (Nat → Int32) × (Nat → Int32)) (h : X11_heard v_heardMany v_heardOf v_heardBy p1 p2 = some r) : Ct l yX11_heard cX11_heard 4 (some .int) 1 22 D cy [.ref q0, .int p1, .int p2] [oX11 q0 u0_0 u0_1 u0_2 u0_3 u0_4 u0_5 (.int v_thrown) u0_7 u0_8 u0_9 u0_10 u0_11 u0_12 u0_13 u0_14 u0_15 u0_16 u0_17 u0_18 u0_19 u0_20 u0_21 u0_22 u0_23 u0_24 u0_25 u0_26 u0_27 u0_28 (.ref q1) (.ref q2) (.int v_heardMany) u0_32 u0_33 u0_34 u0_35 u0_36 u0_37 u0_38 u0_39 u0_40, aI cy q1 12 v_heardOf, aI cy q2 12 v_heardBy] (fun _ => [oX11 q0 u0_0 u0_1 u0_2 u0_3 u0_4 u0_5 (.int r.2.1) u0_7 u0_8 u0_9 u0_10 u0_11 u0_12 u0_13 u0_14 u0_15 u0_16 u0_17 u0_18 u0_19 u0_20 u0_21 u0_22 u0_23 u0_24 u0_25 u0_26 u0_27 u0_28 (.ref q1) (.ref q2) (.int r.2.2.1) u0_32 u0_33 u0_34 u0_35 u0_36 u0_37 u0_38 u0_39 u0_40, aI cy q1 12 r.2.2.2.1, aI cy q2 12 r.2.2.2.2]) (some (.int r.1)) := by
  refine Ct.mk kX11_heard (by decide +kernel) (Nat.le_of_ble_eq_true rfl) ?_
  intro p e s m below meth c A ls args R Q hRf hRl hQ E H locs hS hl
  have hx := E.x
  have hb := E.b
  have hl : lv_has ls 4 [(0, .ref q0), (1, .int p1), (2, .int p2)] := hl
  unfold X11_heard at h
  refine lv_aload_n hx hb dX11_heard_0 rfl (lv_at hl 0 rfl) ?_
  refine lv_iconst (v := 0) hx hb dX11_heard_1 (by decide) ?_
  refine r_put (ws' := [oX11 q0 u0_0 u0_1 u0_2 u0_3 u0_4 u0_5 (.int (0 : Int32)) u0_7 u0_8 u0_9 u0_10 u0_11 u0_12 u0_13 u0_14 u0_15 u0_16 u0_17 u0_18 u0_19 u0_20 u0_21 u0_22 u0_23 u0_24 u0_25 u0_26 u0_27 u0_28 (.ref q1) (.ref q2) (.int v_heardMany) u0_32 u0_33 u0_34 u0_35 u0_36 u0_37 u0_38 u0_39 u0_40, aI cy q1 12 v_heardOf, aI cy q2 12 v_heardBy]) E frX11_85 hS 0 rfl (Nat.le_of_ble_eq_true rfl) rfl rfl rfl rfl dX11_heard_2 (fun H locs hS => ?_)
  refine lv_iload_n hx hb dX11_heard_5 rfl (lv_at hl 1 rfl) ?_
  have hJ35 : ∀ (s35_0 : Int32) (ls : Array Slot), s35_0 = (if p1 = 0 then (9 : Int32) else (if p1 = (1 : Int32) then (99 : Int32) else (if p1 = (2 : Int32) then (1 : Int32) else (6 : Int32)))) → lv_has ls 4 [(0, .ref q0), (1, .int p1), (2, .int p2)] → W p l e R s m args below meth c H locs 0 0 Q (F0 m 35 ls [.int s35_0]) := by
    intro s35_0 ls es35_0 hl
    subst es35_0
    refine lv_istore_n (lv' := [(3, .int (if p1 = 0 then (9 : Int32) else (if p1 = (1 : Int32) then (99 : Int32) else (if p1 = (2 : Int32) then (1 : Int32) else (6 : Int32))))), (0, .ref q0), (1, .int p1), (2, .int p2)]) hx hb dX11_heard_35 rfl hl (by decide) rfl (fun ls hl => ?_)
    refine lv_iload_n hx hb dX11_heard_36 rfl (lv_at hl 2 rfl) ?_
    refine lv_iconst (v := 0) hx hb dX11_heard_37 (by decide) ?_
    refine lv_iconst (v := 4) hx hb dX11_heard_38 (by decide) ?_
    refine ct_S (ws' := fun _ => [oX11 q0 u0_0 u0_1 u0_2 u0_3 u0_4 u0_5 (.int (0 : Int32)) u0_7 u0_8 u0_9 u0_10 u0_11 u0_12 u0_13 u0_14 u0_15 u0_16 u0_17 u0_18 u0_19 u0_20 u0_21 u0_22 u0_23 u0_24 u0_25 u0_26 u0_27 u0_28 (.ref q1) (.ref q2) (.int v_heardMany) u0_32 u0_33 u0_34 u0_35 u0_36 u0_37 u0_38 u0_39 u0_40, aI cy q1 12 v_heardOf, aI cy q2 12 v_heardBy]) (st' := [.int (X11_in p1 (0 : Int32) (4 : Int32))]) (rest := []) E hS slX11_95 (c_X11_in (l := l) (D := D) (cy := cy) (p0 := p1) (p1 := (0 : Int32)) (p2 := (4 : Int32)) (r := (X11_in p1 (0 : Int32) (4 : Int32))) rfl) [] rfl rfl (fun _ => rfl) (fun _ => rfl) rfl rfl (Nat.le_of_ble_eq_true rfl) hl.1 (by rw [hRf]; exact Nat.le_of_ble_eq_true rfl) (by rw [hRl]; exact Nat.le_of_ble_eq_true rfl) ⟨Nat.zero_le _, Nat.zero_le _⟩ dX11_heard_39 rfl (fun H locs _ hS => ?_)
    refine lv_if_eq (tgt := 63) hx hb dX11_heard_42 (by decide) (fun c1 => ?_) (fun c1 => ?_)
    · have h := it_pos c1 h
      refine lv_iconst (v := -1) hx hb dX11_heard_63 (by decide) ?_
      obtain rfl := Option.some.inj h
      exact rt_i E hQ (.null) hS dX11_heard_64
    · have h := it_neg c1 h
      refine lv_iload_n hx hb dX11_heard_45 rfl (lv_at hl 3 rfl) ?_
      refine lv_iconst (v := 0) hx hb dX11_heard_46 (by decide) ?_
      refine lv_iload_n hx hb dX11_heard_47 rfl (lv_at hl 0 rfl) ?_
      refine ct_S (ws' := fun _ => [oX11 q0 u0_0 u0_1 u0_2 u0_3 u0_4 u0_5 (.int (0 : Int32)) u0_7 u0_8 u0_9 u0_10 u0_11 u0_12 u0_13 u0_14 u0_15 u0_16 u0_17 u0_18 u0_19 u0_20 u0_21 u0_22 u0_23 u0_24 u0_25 u0_26 u0_27 u0_28 (.ref q1) (.ref q2) (.int v_heardMany) u0_32 u0_33 u0_34 u0_35 u0_36 u0_37 u0_38 u0_39 u0_40, aI cy q1 12 v_heardOf, aI cy q2 12 v_heardBy]) (st' := [.int (X11_in p2 (0 : Int32) (if p1 = 0 then (9 : Int32) else (if p1 = (1 : Int32) then (99 : Int32) else (if p1 = (2 : Int32) then (1 : Int32) else (6 : Int32)))))]) (rest := []) E hS slX11_95 (c_X11_in (l := l) (D := D) (cy := cy) (p0 := p2) (p1 := (0 : Int32)) (p2 := (if p1 = 0 then (9 : Int32) else (if p1 = (1 : Int32) then (99 : Int32) else (if p1 = (2 : Int32) then (1 : Int32) else (6 : Int32))))) (r := (X11_in p2 (0 : Int32) (if p1 = 0 then (9 : Int32) else (if p1 = (1 : Int32) then (99 : Int32) else (if p1 = (2 : Int32) then (1 : Int32) else (6 : Int32)))))) rfl) [] rfl rfl (fun _ => rfl) (fun _ => rfl) rfl rfl (Nat.le_of_ble_eq_true rfl) hl.1 (by rw [hRf]; exact Nat.le_of_ble_eq_true rfl) (by rw [hRl]; exact Nat.le_of_ble_eq_true rfl) ⟨Nat.zero_le _, Nat.zero_le _⟩ dX11_heard_48 rfl (fun H locs _ hS => ?_)
      refine lv_if_eq (tgt := 63) hx hb dX11_heard_51 (by decide) (fun c2 => ?_) (fun c2 => ?_)
      · have h := it_pos c2 h
        refine lv_iconst (v := -1) hx hb dX11_heard_63 (by decide) ?_
        obtain rfl := Option.some.inj h
        exact rt_i E hQ (.null) hS dX11_heard_64
      · have h := it_neg c2 h
        refine lv_aload_n hx hb dX11_heard_54 rfl (lv_at hl 1 rfl) ?_
        refine r_get E frX11_326 hS 0 rfl rfl dX11_heard_55 ?_
        refine lv_bipush (v := 12) hx hb dX11_heard_58 (by decide) ?_
        refine lv_icmp_ne (tgt := 65) hx hb dX11_heard_60 (by decide) (fun c3 => ?_) (fun c3 => ?_)
        · have h := it_neg c3 h
          refine lv_aload_n hx hb dX11_heard_65 rfl (lv_at hl 1 rfl) ?_
          refine r_get E frX11_60 hS 0 rfl rfl dX11_heard_66 ?_
          refine lv_aload_n hx hb dX11_heard_69 rfl (lv_at hl 1 rfl) ?_
          refine r_get E frX11_326 hS 0 rfl rfl dX11_heard_70 ?_
          refine lv_iload_n hx hb dX11_heard_73 rfl (lv_at hl 2 rfl) ?_
          obtain ⟨g4, h⟩ := gi_some h
          refine r_iast (ws' := [oX11 q0 u0_0 u0_1 u0_2 u0_3 u0_4 u0_5 (.int (0 : Int32)) u0_7 u0_8 u0_9 u0_10 u0_11 u0_12 u0_13 u0_14 u0_15 u0_16 u0_17 u0_18 u0_19 u0_20 u0_21 u0_22 u0_23 u0_24 u0_25 u0_26 u0_27 u0_28 (.ref q1) (.ref q2) (.int v_heardMany) u0_32 u0_33 u0_34 u0_35 u0_36 u0_37 u0_38 u0_39 u0_40, aI cy q1 12 (upd v_heardOf v_heardMany.toNatClampNeg p1), aI cy q2 12 v_heardBy]) E hS 1 rfl g4 rfl dX11_heard_74 (fun H locs hS => ?_)
          refine lv_aload_n hx hb dX11_heard_75 rfl (lv_at hl 1 rfl) ?_
          refine r_get E frX11_63 hS 0 rfl rfl dX11_heard_76 ?_
          refine lv_aload_n hx hb dX11_heard_79 rfl (lv_at hl 1 rfl) ?_
          refine r_get E frX11_326 hS 0 rfl rfl dX11_heard_80 ?_
          refine lv_iload_n hx hb dX11_heard_83 rfl (lv_at hl 3 rfl) ?_
          obtain ⟨g5, h⟩ := gi_some h
          refine r_iast (ws' := [oX11 q0 u0_0 u0_1 u0_2 u0_3 u0_4 u0_5 (.int (0 : Int32)) u0_7 u0_8 u0_9 u0_10 u0_11 u0_12 u0_13 u0_14 u0_15 u0_16 u0_17 u0_18 u0_19 u0_20 u0_21 u0_22 u0_23 u0_24 u0_25 u0_26 u0_27 u0_28 (.ref q1) (.ref q2) (.int v_heardMany) u0_32 u0_33 u0_34 u0_35 u0_36 u0_37 u0_38 u0_39 u0_40, aI cy q1 12 (upd v_heardOf v_heardMany.toNatClampNeg p1), aI cy q2 12 (upd v_heardBy v_heardMany.toNatClampNeg p2)]) E hS 2 rfl g5 rfl dX11_heard_84 (fun H locs hS => ?_)
          refine lv_aload_n hx hb dX11_heard_85 rfl (lv_at hl 1 rfl) ?_
          refine lv_dup hx hb dX11_heard_86 rfl ?_
          refine r_get E frX11_326 hS 0 rfl rfl dX11_heard_87 ?_
          refine lv_iconst (v := 1) hx hb dX11_heard_90 (by decide) ?_
          refine lv_iadd hx hb dX11_heard_91 ?_
          refine r_put (ws' := [oX11 q0 u0_0 u0_1 u0_2 u0_3 u0_4 u0_5 (.int (0 : Int32)) u0_7 u0_8 u0_9 u0_10 u0_11 u0_12 u0_13 u0_14 u0_15 u0_16 u0_17 u0_18 u0_19 u0_20 u0_21 u0_22 u0_23 u0_24 u0_25 u0_26 u0_27 u0_28 (.ref q1) (.ref q2) (.int (v_heardMany + (1 : Int32))) u0_32 u0_33 u0_34 u0_35 u0_36 u0_37 u0_38 u0_39 u0_40, aI cy q1 12 (upd v_heardOf v_heardMany.toNatClampNeg p1), aI cy q2 12 (upd v_heardBy v_heardMany.toNatClampNeg p2)]) E frX11_326 hS 0 rfl (Nat.le_of_ble_eq_true rfl) rfl rfl rfl rfl dX11_heard_92 (fun H locs hS => ?_)
          refine lv_aload_n hx hb dX11_heard_95 rfl (lv_at hl 1 rfl) ?_
          refine r_get E frX11_326 hS 0 rfl rfl dX11_heard_96 ?_
          obtain rfl := Option.some.inj h
          exact rt_i E hQ (.null) hS dX11_heard_99
        · have h := it_pos c3 h
          refine lv_iconst (v := -1) hx hb dX11_heard_63 (by decide) ?_
          obtain rfl := Option.some.inj h
          exact rt_i E hQ (.null) hS dX11_heard_64
  refine lv_if_ne (tgt := 14) hx hb dX11_heard_6 (by decide) (fun c6 => ?_) (fun c6 => ?_)
  · refine lv_iload_n hx hb dX11_heard_14 rfl (lv_at hl 1 rfl) ?_
    refine lv_iconst (v := 1) hx hb dX11_heard_15 (by decide) ?_
    refine lv_icmp_ne (tgt := 24) hx hb dX11_heard_16 (by decide) (fun c7 => ?_) (fun c7 => ?_)
    · refine lv_iload_n hx hb dX11_heard_24 rfl (lv_at hl 1 rfl) ?_
      refine lv_iconst (v := 2) hx hb dX11_heard_25 (by decide) ?_
      refine lv_icmp_ne (tgt := 33) hx hb dX11_heard_26 (by decide) (fun c8 => ?_) (fun c8 => ?_)
      · refine lv_bipush (v := 6) hx hb dX11_heard_33 (by decide) ?_
        exact hJ35 _ ls (((if_neg c6).trans ((if_neg c7).trans (if_neg c8)))).symm (lv_sub hl [0, 1, 2] rfl)
      · refine lv_iconst (v := 1) hx hb dX11_heard_29 (by decide) ?_
        refine lv_goto (tgt := 35) hx hb dX11_heard_30 (by decide) ?_
        exact hJ35 _ ls (((if_neg c6).trans ((if_neg c7).trans (if_pos c8)))).symm (lv_sub hl [0, 1, 2] rfl)
    · refine lv_bipush (v := 99) hx hb dX11_heard_19 (by decide) ?_
      refine lv_goto (tgt := 35) hx hb dX11_heard_21 (by decide) ?_
      exact hJ35 _ ls (((if_neg c6).trans (if_pos c7))).symm (lv_sub hl [0, 1, 2] rfl)
  · refine lv_bipush (v := 9) hx hb dX11_heard_9 (by decide) ?_
    refine lv_goto (tgt := 35) hx hb dX11_heard_11 (by decide) ?_
    exact hJ35 _ ls ((if_pos c6)).symm (lv_sub hl [0, 1, 2] rfl)
set_option maxHeartbeats 4000000 in
set_option maxRecDepth 100000 in
theorem c_X11_forget {l : Launch} {D : va_G} {cy : Nat → ClassId} (q0 : Nat) (u0_0 : Value) (u0_1 : Value) (u0_2 : Value) (u0_3 : Value) (u0_4 : Value) (u0_5 : Value) (u0_7 : Value) (u0_8 : Value) (u0_9 : Value) (u0_10 : Value) (u0_11 : Value) (u0_12 : Value) (u0_13 : Value) (u0_14 : Value) (u0_15 : Value) (u0_16 : Value) (u0_17 : Value) (u0_18 : Value) (u0_19 : Value) (u0_20 : Value) (u0_21 : Value) (u0_22 : Value) (u0_23 : Value) (u0_24 : Value) (u0_25 : Value) (u0_26 : Value) (u0_27 : Value) (u0_28 : Value) (u0_29 : Value) (u0_30 : Value) (u0_32 : Value) (u0_33 : Value) (u0_34 : Value) (u0_35 : Value) (u0_36 : Value) (u0_37 : Value) (u0_38 : Value) (u0_39 : Value) (u0_40 : Value) (v_thrown : Int32) (v_heardMany : Int32) (r : Int32 × Int32 × Int32) (h : X11_forget v_heardMany = r) : Ct l yX11_forget cX11_forget 2 (some .int) 0 0 D cy [.ref q0] [oX11 q0 u0_0 u0_1 u0_2 u0_3 u0_4 u0_5 (.int v_thrown) u0_7 u0_8 u0_9 u0_10 u0_11 u0_12 u0_13 u0_14 u0_15 u0_16 u0_17 u0_18 u0_19 u0_20 u0_21 u0_22 u0_23 u0_24 u0_25 u0_26 u0_27 u0_28 u0_29 u0_30 (.int v_heardMany) u0_32 u0_33 u0_34 u0_35 u0_36 u0_37 u0_38 u0_39 u0_40] (fun _ => [oX11 q0 u0_0 u0_1 u0_2 u0_3 u0_4 u0_5 (.int r.2.1) u0_7 u0_8 u0_9 u0_10 u0_11 u0_12 u0_13 u0_14 u0_15 u0_16 u0_17 u0_18 u0_19 u0_20 u0_21 u0_22 u0_23 u0_24 u0_25 u0_26 u0_27 u0_28 u0_29 u0_30 (.int r.2.2) u0_32 u0_33 u0_34 u0_35 u0_36 u0_37 u0_38 u0_39 u0_40]) (some (.int r.1)) := by
  refine Ct.mk kX11_forget (by decide +kernel) (Nat.le_of_ble_eq_true rfl) ?_
  intro p e s m below meth c A ls args R Q hRf hRl hQ E H locs hS hl
  have hx := E.x
  have hb := E.b
  have hl : lv_has ls 2 [(0, .ref q0)] := hl
  unfold X11_forget at h
  refine lv_aload_n hx hb dX11_forget_0 rfl (lv_at hl 0 rfl) ?_
  refine lv_iconst (v := 0) hx hb dX11_forget_1 (by decide) ?_
  refine r_put (ws' := [oX11 q0 u0_0 u0_1 u0_2 u0_3 u0_4 u0_5 (.int (0 : Int32)) u0_7 u0_8 u0_9 u0_10 u0_11 u0_12 u0_13 u0_14 u0_15 u0_16 u0_17 u0_18 u0_19 u0_20 u0_21 u0_22 u0_23 u0_24 u0_25 u0_26 u0_27 u0_28 u0_29 u0_30 (.int v_heardMany) u0_32 u0_33 u0_34 u0_35 u0_36 u0_37 u0_38 u0_39 u0_40]) E frX11_85 hS 0 rfl (Nat.le_of_ble_eq_true rfl) rfl rfl rfl rfl dX11_forget_2 (fun H locs hS => ?_)
  refine lv_aload_n hx hb dX11_forget_5 rfl (lv_at hl 0 rfl) ?_
  refine r_get E frX11_326 hS 0 rfl rfl dX11_forget_6 ?_
  refine lv_istore_n (lv' := [(1, .int v_heardMany), (0, .ref q0)]) hx hb dX11_forget_9 rfl hl (by decide) rfl (fun ls hl => ?_)
  refine lv_aload_n hx hb dX11_forget_10 rfl (lv_at hl 1 rfl) ?_
  refine lv_iconst (v := 0) hx hb dX11_forget_11 (by decide) ?_
  refine r_put (ws' := [oX11 q0 u0_0 u0_1 u0_2 u0_3 u0_4 u0_5 (.int (0 : Int32)) u0_7 u0_8 u0_9 u0_10 u0_11 u0_12 u0_13 u0_14 u0_15 u0_16 u0_17 u0_18 u0_19 u0_20 u0_21 u0_22 u0_23 u0_24 u0_25 u0_26 u0_27 u0_28 u0_29 u0_30 (.int (0 : Int32)) u0_32 u0_33 u0_34 u0_35 u0_36 u0_37 u0_38 u0_39 u0_40]) E frX11_326 hS 0 rfl (Nat.le_of_ble_eq_true rfl) rfl rfl rfl rfl dX11_forget_12 (fun H locs hS => ?_)
  refine lv_iload_n hx hb dX11_forget_15 rfl (lv_at hl 0 rfl) ?_
  subst h
  exact rt_i E hQ (.null) hS dX11_forget_16
set_option maxHeartbeats 4000000 in
set_option maxRecDepth 100000 in
theorem c_X11_isSo {l : Launch} {D : va_G} {cy : Nat → ClassId} (q0 : Nat) (q1 : Nat) (q2 : Nat) (q3 : Nat) (u0_2 : Value) (u0_3 : Value) (u0_4 : Value) (u0_5 : Value) (u0_6 : Value) (u0_7 : Value) (u0_12 : Value) (u0_14 : Value) (u0_18 : Value) (u0_19 : Value) (u0_20 : Value) (u0_21 : Value) (u0_22 : Value) (u0_23 : Value) (u0_24 : Value) (u0_25 : Value) (u0_26 : Value) (u0_27 : Value) (u0_28 : Value) (u0_29 : Value) (u0_30 : Value) (u0_31 : Value) (u0_32 : Value) (u0_33 : Value) (u0_34 : Value) (u0_35 : Value) (u0_36 : Value) (u0_37 : Value) (u0_38 : Value) (u0_39 : Value) (u0_40 : Value) (v_people : Int32) (v_length : Int32) (v_top : Int32) (v_at : Int32) (v_wrong : Int32) (v_ruleSize : Int32) (v_isAsked : Int32) (v_now : Nat → Int32) (v_rule : Nat → Int32) (v_asked : Nat → Int32) (p1 : Int32) (p2 : Int32) (p3 : Int32) (r : Int32 × Int32 × Int32 × Int32 × Int32 × Int32 × (Nat → Int32)) (h : X11_isSo v_people v_length v_top v_at v_wrong v_ruleSize v_isAsked v_now v_rule v_asked p1 p2 p3 = some r) : Ct l yX11_isSo cX11_isSo 4 (some .boolean) 108 2580 D cy [.ref q0, .int p1, .int p2, .int p3] [oX11 q0 (.ref q1) (.int v_people) u0_2 u0_3 u0_4 u0_5 u0_6 u0_7 (.int v_length) (.int v_top) (.int v_at) (.int v_wrong) u0_12 (.ref q2) u0_14 (.int v_ruleSize) (.int v_isAsked) (.ref q3) u0_18 u0_19 u0_20 u0_21 u0_22 u0_23 u0_24 u0_25 u0_26 u0_27 u0_28 u0_29 u0_30 u0_31 u0_32 u0_33 u0_34 u0_35 u0_36 u0_37 u0_38 u0_39 u0_40, aI cy q1 37 v_now, aB cy q2 40 v_rule, aI cy q3 7 v_asked] (fun rv => [oX11 q0 (.ref q1) (.int v_people) u0_2 u0_3 u0_4 u0_5 u0_6 rv (.int r.2.1) (.int r.2.2.1) (.int r.2.2.2.1) (.int r.2.2.2.2.1) u0_12 (.ref q2) u0_14 (.int v_ruleSize) (.int r.2.2.2.2.2.1) (.ref q3) u0_18 u0_19 u0_20 u0_21 u0_22 u0_23 u0_24 u0_25 u0_26 u0_27 u0_28 u0_29 u0_30 u0_31 u0_32 u0_33 u0_34 u0_35 u0_36 u0_37 u0_38 u0_39 u0_40, aI cy q1 37 v_now, aB cy q2 40 v_rule, aI cy q3 7 r.2.2.2.2.2.2]) (some (.int r.1)) := by
  refine Ct.mk kX11_isSo (by decide +kernel) (Nat.le_of_ble_eq_true rfl) ?_
  intro p e s m below meth c A ls args R Q hRf hRl hQ E H locs hS hl
  have hx := E.x
  have hb := E.b
  have hl : lv_has ls 4 [(0, .ref q0), (1, .int p1), (2, .int p2), (3, .int p3)] := hl
  unfold X11_isSo at h
  refine lv_iload_n hx hb dX11_isSo_0 rfl (lv_at hl 2 rfl) ?_
  rcases Decidable.em (p2 = 0) with c1 | c1
  · have h := it_pos c1 h
    refine lv_tableIn (off := 31) (tgt := 32) hx hb dX11_isSo_1 (by rw [c1]; decide) (by rw [c1]; decide) (by rw [c1]; rfl) (by decide) ?_
    refine lv_aload_n hx hb dX11_isSo_32 rfl (lv_at hl 0 rfl) ?_
    refine r_get E frX11_9 hS 0 rfl rfl dX11_isSo_33 ?_
    refine lv_iload_n hx hb dX11_isSo_36 rfl (lv_at hl 1 rfl) ?_
    obtain ⟨g2, h⟩ := gi_some h
    refine r_iald E hS 1 rfl g2 dX11_isSo_37 ?_
    refine lv_iload_n hx hb dX11_isSo_38 rfl (lv_at hl 3 rfl) ?_
    have hJ47 : ∀ (s47_0 : Int32) (ls : Array Slot), s47_0 = (if (v_now p1.toNatClampNeg) < p3 then (0 : Int32) else (1 : Int32)) → lv_has ls 4 [] → W p l e R s m args below meth c H locs 0 0 Q (F0 m 47 ls [.int s47_0]) := by
      intro s47_0 ls es47_0 hl
      subst es47_0
      obtain rfl := Option.some.inj h
      exact rt_n E (by repeat' (first | rfl | split)) hQ (u0_7) hS dX11_isSo_47
    refine lv_icmp_lt (tgt := 46) hx hb dX11_isSo_39 (by decide) (fun c3 => ?_) (fun c3 => ?_)
    · refine lv_iconst (v := 0) hx hb dX11_isSo_46 (by decide) ?_
      exact hJ47 _ ls ((if_pos c3)).symm (lv_sub hl [] rfl)
    · refine lv_iconst (v := 1) hx hb dX11_isSo_42 (by decide) ?_
      refine lv_goto (tgt := 47) hx hb dX11_isSo_43 (by decide) ?_
      exact hJ47 _ ls ((if_neg c3)).symm (lv_sub hl [] rfl)
  · have h := it_neg c1 h
    rcases Decidable.em (p2 = 1) with c4 | c4
    · have h := it_pos c4 h
      refine lv_tableIn (off := 47) (tgt := 48) hx hb dX11_isSo_1 (by rw [c4]; decide) (by rw [c4]; decide) (by rw [c4]; rfl) (by decide) ?_
      refine lv_aload_n hx hb dX11_isSo_48 rfl (lv_at hl 0 rfl) ?_
      refine r_get E frX11_9 hS 0 rfl rfl dX11_isSo_49 ?_
      refine lv_bipush (v := 14) hx hb dX11_isSo_52 (by decide) ?_
      refine lv_iload_n hx hb dX11_isSo_54 rfl (lv_at hl 1 rfl) ?_
      refine lv_iadd hx hb dX11_isSo_55 ?_
      obtain ⟨g5, h⟩ := gi_some h
      refine r_iald E hS 1 rfl g5 dX11_isSo_56 ?_
      refine lv_iload_n hx hb dX11_isSo_57 rfl (lv_at hl 3 rfl) ?_
      have hJ66 : ∀ (s66_0 : Int32) (ls : Array Slot), s66_0 = (if p3 < (v_now ((14 : Int32) + p1).toNatClampNeg) then (0 : Int32) else (1 : Int32)) → lv_has ls 4 [] → W p l e R s m args below meth c H locs 0 0 Q (F0 m 66 ls [.int s66_0]) := by
        intro s66_0 ls es66_0 hl
        subst es66_0
        obtain rfl := Option.some.inj h
        exact rt_n E (by repeat' (first | rfl | split)) hQ (u0_7) hS dX11_isSo_66
      refine lv_icmp_gt (tgt := 65) hx hb dX11_isSo_58 (by decide) (fun c6 => ?_) (fun c6 => ?_)
      · refine lv_iconst (v := 0) hx hb dX11_isSo_65 (by decide) ?_
        exact hJ66 _ ls ((if_pos c6)).symm (lv_sub hl [] rfl)
      · refine lv_iconst (v := 1) hx hb dX11_isSo_61 (by decide) ?_
        refine lv_goto (tgt := 66) hx hb dX11_isSo_62 (by decide) ?_
        exact hJ66 _ ls ((if_neg c6)).symm (lv_sub hl [] rfl)
    · have h := it_neg c4 h
      rcases Decidable.em (p2 = 2) with c7 | c7
      · have h := it_pos c7 h
        refine lv_tableIn (off := 66) (tgt := 67) hx hb dX11_isSo_1 (by rw [c7]; decide) (by rw [c7]; decide) (by rw [c7]; rfl) (by decide) ?_
        refine lv_aload_n hx hb dX11_isSo_67 rfl (lv_at hl 0 rfl) ?_
        refine lv_aload_n hx hb dX11_isSo_68 rfl (lv_at hl 0 rfl) ?_
        refine r_get E frX11_9 hS 0 rfl rfl dX11_isSo_69 ?_
        refine lv_iload_n hx hb dX11_isSo_72 rfl (lv_at hl 1 rfl) ?_
        obtain ⟨y73, e8, h⟩ := bd_some h
        refine ct_V (ws' := fun rc9 => [oX11 q0 (.ref q1) (.int v_people) u0_2 u0_3 u0_4 u0_5 u0_6 rc9 (.int y73.2.1) (.int y73.2.2.1) (.int y73.2.2.2.1) (.int y73.2.2.2.2.1) u0_12 (.ref q2) u0_14 (.int v_ruleSize) (.int y73.2.2.2.2.2.1) (.ref q3) u0_18 u0_19 u0_20 u0_21 u0_22 u0_23 u0_24 u0_25 u0_26 u0_27 u0_28 u0_29 u0_30 u0_31 u0_32 u0_33 u0_34 u0_35 u0_36 u0_37 u0_38 u0_39 u0_40, aI cy q1 37 v_now, aB cy q2 40 v_rule, aI cy q3 7 y73.2.2.2.2.2.2]) (st' := [.int y73.1]) (rest := []) E hS vlX11_216 (c_X11_isAwake (l := l) (D := D) (cy := cy) (q0 := q0) (q1 := q2) (q2 := q3) (q3 := q1) (u0_0 := .ref q1) (u0_2 := u0_2) (u0_3 := u0_3) (u0_4 := u0_4) (u0_5 := u0_5) (u0_6 := u0_6) (u0_7 := u0_7) (u0_12 := u0_12) (u0_14 := u0_14) (u0_18 := u0_18) (u0_19 := u0_19) (u0_20 := u0_20) (u0_21 := u0_21) (u0_22 := u0_22) (u0_23 := u0_23) (u0_24 := u0_24) (u0_25 := u0_25) (u0_26 := u0_26) (u0_27 := u0_27) (u0_28 := u0_28) (u0_29 := u0_29) (u0_30 := u0_30) (u0_31 := u0_31) (u0_32 := u0_32) (u0_33 := u0_33) (u0_34 := u0_34) (u0_35 := u0_35) (u0_36 := u0_36) (u0_37 := u0_37) (u0_38 := u0_38) (u0_39 := u0_39) (u0_40 := u0_40) (v_people := v_people) (v_length := v_length) (v_top := v_top) (v_at := v_at) (v_wrong := v_wrong) (v_ruleSize := v_ruleSize) (v_isAsked := v_isAsked) (v_rule := v_rule) (v_asked := v_asked) (nw1_ := 37) (w1_ := v_now) (p2 := p1) (r := y73) e8) [0, 2, 3, 1] rfl rfl (fun _ => rfl) (fun _ => rfl) rfl rfl rfl rfl (Nat.le_of_ble_eq_true rfl) hl.1 (by rw [hRf]; exact Nat.le_of_ble_eq_true rfl) (by rw [hRl]; exact Nat.le_of_ble_eq_true rfl) ⟨Nat.zero_le _, Nat.zero_le _⟩ dX11_isSo_73 rfl (fun H locs rc9 hS => ?_)
        refine lv_iload_n hx hb dX11_isSo_76 rfl (lv_at hl 3 rfl) ?_
        refine lv_iconst (v := 1) hx hb dX11_isSo_77 (by decide) ?_
        have hJ86 : ∀ (s86_1 : Int32) (ls : Array Slot), s86_1 = (if p3 = (1 : Int32) then (1 : Int32) else (0 : Int32)) → lv_has ls 4 [] → W p l e R s m args below meth c H locs 0 0 Q (F0 m 86 ls [.int s86_1, .int y73.1]) := by
          intro s86_1 ls es86_1 hl
          subst es86_1
          have hJ94 : ∀ (s94_0 : Int32) (ls : Array Slot), s94_0 = (if y73.1 = (if p3 = (1 : Int32) then (1 : Int32) else (0 : Int32)) then (1 : Int32) else (0 : Int32)) → lv_has ls 4 [] → W p l e R s m args below meth c H locs 0 0 Q (F0 m 94 ls [.int s94_0]) := by
            intro s94_0 ls es94_0 hl
            subst es94_0
            obtain rfl := Option.some.inj h
            exact rt_n E (by repeat' (first | rfl | split)) hQ (rc9) hS dX11_isSo_94
          refine lv_icmp_ne (tgt := 93) hx hb dX11_isSo_86 (by decide) (fun c10 => ?_) (fun c10 => ?_)
          · refine lv_iconst (v := 0) hx hb dX11_isSo_93 (by decide) ?_
            exact hJ94 _ ls ((if_neg c10)).symm (lv_sub hl [] rfl)
          · refine lv_iconst (v := 1) hx hb dX11_isSo_89 (by decide) ?_
            refine lv_goto (tgt := 94) hx hb dX11_isSo_90 (by decide) ?_
            exact hJ94 _ ls ((if_pos c10)).symm (lv_sub hl [] rfl)
        refine lv_icmp_ne (tgt := 85) hx hb dX11_isSo_78 (by decide) (fun c11 => ?_) (fun c11 => ?_)
        · refine lv_iconst (v := 0) hx hb dX11_isSo_85 (by decide) ?_
          exact hJ86 _ ls ((if_neg c11)).symm (lv_sub hl [] rfl)
        · refine lv_iconst (v := 1) hx hb dX11_isSo_81 (by decide) ?_
          refine lv_goto (tgt := 86) hx hb dX11_isSo_82 (by decide) ?_
          exact hJ86 _ ls ((if_pos c11)).symm (lv_sub hl [] rfl)
      · have h := it_neg c7 h
        rcases Decidable.em (p2 = 3) with c12 | c12
        · have h := it_pos c12 h
          refine lv_tableIn (off := 94) (tgt := 95) hx hb dX11_isSo_1 (by rw [c12]; decide) (by rw [c12]; decide) (by rw [c12]; rfl) (by decide) ?_
          refine lv_aload_n hx hb dX11_isSo_95 rfl (lv_at hl 0 rfl) ?_
          refine r_get E frX11_9 hS 0 rfl rfl dX11_isSo_96 ?_
          refine lv_bipush (v := 28) hx hb dX11_isSo_99 (by decide) ?_
          refine lv_iload_n hx hb dX11_isSo_101 rfl (lv_at hl 1 rfl) ?_
          refine lv_iadd hx hb dX11_isSo_102 ?_
          obtain ⟨g13, h⟩ := gi_some h
          refine r_iald E hS 1 rfl g13 dX11_isSo_103 ?_
          refine lv_iload_n hx hb dX11_isSo_104 rfl (lv_at hl 3 rfl) ?_
          refine ct_S (ws' := fun _ => [oX11 q0 (.ref q1) (.int v_people) u0_2 u0_3 u0_4 u0_5 u0_6 u0_7 (.int v_length) (.int v_top) (.int v_at) (.int v_wrong) u0_12 (.ref q2) u0_14 (.int v_ruleSize) (.int v_isAsked) (.ref q3) u0_18 u0_19 u0_20 u0_21 u0_22 u0_23 u0_24 u0_25 u0_26 u0_27 u0_28 u0_29 u0_30 u0_31 u0_32 u0_33 u0_34 u0_35 u0_36 u0_37 u0_38 u0_39 u0_40, aI cy q1 37 v_now, aB cy q2 40 v_rule, aI cy q3 7 v_asked]) (st' := [.int (X11_has (v_now ((28 : Int32) + p1).toNatClampNeg) p3)]) (rest := []) E hS slX11_196 (c_X11_has (l := l) (D := D) (cy := cy) (p0 := (v_now ((28 : Int32) + p1).toNatClampNeg)) (p1 := p3) (r := (X11_has (v_now ((28 : Int32) + p1).toNatClampNeg) p3)) rfl) [] rfl rfl (fun _ => rfl) (fun _ => rfl) rfl rfl (Nat.le_of_ble_eq_true rfl) hl.1 (by rw [hRf]; exact Nat.le_of_ble_eq_true rfl) (by rw [hRl]; exact Nat.le_of_ble_eq_true rfl) ⟨Nat.zero_le _, Nat.zero_le _⟩ dX11_isSo_105 rfl (fun H locs _ hS => ?_)
          obtain ⟨g14, h⟩ := gn_some h
          obtain rfl := Option.some.inj h
          exact rt_n E (gn_nar g14) hQ (u0_7) hS dX11_isSo_108
        · have h := it_neg c12 h
          have ht : p2.toInt < 0 ∨ (3 : Int) < p2.toInt := by
            refine tb_neg (fun k h1 h2 => ?_)
            have hh : k = 0 ∨ k = 1 ∨ k = 2 ∨ k = 3 := by omega
            rcases hh with rfl | rfl | rfl | rfl
            · exact c1
            · exact c4
            · exact c7
            · exact c12
          refine lv_tableOut (tgt := 109) hx hb dX11_isSo_1 ht (by decide) ?_
          refine lv_aload_n hx hb dX11_isSo_109 rfl (lv_at hl 0 rfl) ?_
          refine lv_aload_n hx hb dX11_isSo_110 rfl (lv_at hl 0 rfl) ?_
          refine r_get E frX11_9 hS 0 rfl rfl dX11_isSo_111 ?_
          refine lv_iload_n hx hb dX11_isSo_114 rfl (lv_at hl 1 rfl) ?_
          obtain ⟨y115, e15, h⟩ := bd_some h
          refine ct_V (ws' := fun _ => [oX11 q0 (.ref q1) (.int v_people) u0_2 u0_3 u0_4 u0_5 u0_6 u0_7 (.int v_length) (.int v_top) (.int v_at) (.int v_wrong) u0_12 (.ref q2) u0_14 (.int v_ruleSize) (.int v_isAsked) (.ref q3) u0_18 u0_19 u0_20 u0_21 u0_22 u0_23 u0_24 u0_25 u0_26 u0_27 u0_28 u0_29 u0_30 u0_31 u0_32 u0_33 u0_34 u0_35 u0_36 u0_37 u0_38 u0_39 u0_40, aI cy q1 37 v_now, aB cy q2 40 v_rule, aI cy q3 7 v_asked]) (st' := [.int y115]) (rest := []) E hS vlX11_200 (c_X11_wantedBy (l := l) (D := D) (cy := cy) (q0 := q0) (q1 := q1) (u0_0 := .ref q1) (u0_2 := u0_2) (u0_3 := u0_3) (u0_4 := u0_4) (u0_5 := u0_5) (u0_6 := u0_6) (u0_7 := u0_7) (u0_8 := .int v_length) (u0_9 := .int v_top) (u0_10 := .int v_at) (u0_11 := .int v_wrong) (u0_12 := u0_12) (u0_13 := .ref q2) (u0_14 := u0_14) (u0_15 := .int v_ruleSize) (u0_16 := .int v_isAsked) (u0_17 := .ref q3) (u0_18 := u0_18) (u0_19 := u0_19) (u0_20 := u0_20) (u0_21 := u0_21) (u0_22 := u0_22) (u0_23 := u0_23) (u0_24 := u0_24) (u0_25 := u0_25) (u0_26 := u0_26) (u0_27 := u0_27) (u0_28 := u0_28) (u0_29 := u0_29) (u0_30 := u0_30) (u0_31 := u0_31) (u0_32 := u0_32) (u0_33 := u0_33) (u0_34 := u0_34) (u0_35 := u0_35) (u0_36 := u0_36) (u0_37 := u0_37) (u0_38 := u0_38) (u0_39 := u0_39) (u0_40 := u0_40) (v_people := v_people) (nw1_ := 37) (w1_ := v_now) (p2 := p1) (r := y115) e15) [0, 1] rfl rfl (fun _ => rfl) (fun _ => rfl) rfl rfl rfl rfl (Nat.le_of_ble_eq_true rfl) hl.1 (by rw [hRf]; exact Nat.le_of_ble_eq_true rfl) (by rw [hRl]; exact Nat.le_of_ble_eq_true rfl) ⟨Nat.zero_le _, Nat.zero_le _⟩ dX11_isSo_115 rfl (fun H locs _ hS => ?_)
          refine lv_iload_n hx hb dX11_isSo_118 rfl (lv_at hl 3 rfl) ?_
          refine ct_S (ws' := fun _ => [oX11 q0 (.ref q1) (.int v_people) u0_2 u0_3 u0_4 u0_5 u0_6 u0_7 (.int v_length) (.int v_top) (.int v_at) (.int v_wrong) u0_12 (.ref q2) u0_14 (.int v_ruleSize) (.int v_isAsked) (.ref q3) u0_18 u0_19 u0_20 u0_21 u0_22 u0_23 u0_24 u0_25 u0_26 u0_27 u0_28 u0_29 u0_30 u0_31 u0_32 u0_33 u0_34 u0_35 u0_36 u0_37 u0_38 u0_39 u0_40, aI cy q1 37 v_now, aB cy q2 40 v_rule, aI cy q3 7 v_asked]) (st' := [.int (X11_has y115 p3)]) (rest := []) E hS slX11_196 (c_X11_has (l := l) (D := D) (cy := cy) (p0 := y115) (p1 := p3) (r := (X11_has y115 p3)) rfl) [] rfl rfl (fun _ => rfl) (fun _ => rfl) rfl rfl (Nat.le_of_ble_eq_true rfl) hl.1 (by rw [hRf]; exact Nat.le_of_ble_eq_true rfl) (by rw [hRl]; exact Nat.le_of_ble_eq_true rfl) ⟨Nat.zero_le _, Nat.zero_le _⟩ dX11_isSo_119 rfl (fun H locs _ hS => ?_)
          obtain ⟨g16, h⟩ := gn_some h
          obtain rfl := Option.some.inj h
          exact rt_n E (gn_nar g16) hQ (u0_7) hS dX11_isSo_122
set_option maxHeartbeats 4000000 in
set_option maxRecDepth 100000 in
theorem c_X11_fitting {l : Launch} {D : va_G} {cy : Nat → ClassId} (q0 : Nat) (q1 : Nat) (q2 : Nat) (q3 : Nat) (q4 : Nat) (q5 : Nat) (u0_2 : Value) (u0_3 : Value) (u0_4 : Value) (u0_5 : Value) (u0_6 : Value) (u0_7 : Value) (u0_12 : Value) (u0_14 : Value) (u0_18 : Value) (u0_19 : Value) (u0_20 : Value) (u0_21 : Value) (u0_22 : Value) (u0_23 : Value) (u0_24 : Value) (u0_25 : Value) (u0_26 : Value) (u0_27 : Value) (u0_28 : Value) (u0_32 : Value) (u0_33 : Value) (u0_34 : Value) (u0_35 : Value) (u0_36 : Value) (u0_37 : Value) (u0_38 : Value) (u0_39 : Value) (u0_40 : Value) (v_people : Int32) (v_length : Int32) (v_top : Int32) (v_at : Int32) (v_wrong : Int32) (v_ruleSize : Int32) (v_isAsked : Int32) (v_heardMany : Int32) (v_now : Nat → Int32) (v_rule : Nat → Int32) (v_asked : Nat → Int32) (v_heardOf : Nat → Int32) (v_heardBy : Nat → Int32) (r : Int32 × Int32 × Int32 × Int32 × Int32 × Int32 × (Nat → Int32)) (h : X11_fitting v_people v_length v_top v_at v_wrong v_ruleSize v_isAsked v_heardMany v_now v_rule v_asked v_heardOf v_heardBy = some r) : Ct l yX11_fitting cX11_fitting 5 (some .int) 109 2603 D cy [.ref q0] [oX11 q0 (.ref q1) (.int v_people) u0_2 u0_3 u0_4 u0_5 u0_6 u0_7 (.int v_length) (.int v_top) (.int v_at) (.int v_wrong) u0_12 (.ref q2) u0_14 (.int v_ruleSize) (.int v_isAsked) (.ref q3) u0_18 u0_19 u0_20 u0_21 u0_22 u0_23 u0_24 u0_25 u0_26 u0_27 u0_28 (.ref q4) (.ref q5) (.int v_heardMany) u0_32 u0_33 u0_34 u0_35 u0_36 u0_37 u0_38 u0_39 u0_40, aI cy q1 37 v_now, aB cy q2 40 v_rule, aI cy q3 7 v_asked, aI cy q4 12 v_heardOf, aI cy q5 12 v_heardBy] (fun rv => [oX11 q0 (.ref q1) (.int v_people) u0_2 u0_3 u0_4 u0_5 u0_6 rv (.int r.2.1) (.int r.2.2.1) (.int r.2.2.2.1) (.int r.2.2.2.2.1) u0_12 (.ref q2) u0_14 (.int v_ruleSize) (.int r.2.2.2.2.2.1) (.ref q3) u0_18 u0_19 u0_20 u0_21 u0_22 u0_23 u0_24 u0_25 u0_26 u0_27 u0_28 (.ref q4) (.ref q5) (.int v_heardMany) u0_32 u0_33 u0_34 u0_35 u0_36 u0_37 u0_38 u0_39 u0_40, aI cy q1 37 v_now, aB cy q2 40 v_rule, aI cy q3 7 r.2.2.2.2.2.2, aI cy q4 12 v_heardOf, aI cy q5 12 v_heardBy]) (some (.int r.1)) := by
  refine Ct.mk kX11_fitting (by decide +kernel) (Nat.le_of_ble_eq_true rfl) ?_
  intro p e s m below meth c A ls args R Q hRf hRl hQ E H locs hS hl
  have hx := E.x
  have hb := E.b
  have hl : lv_has ls 5 [(0, .ref q0)] := hl
  unfold X11_fitting at h
  refine lv_iconst (v := 0) hx hb dX11_fitting_0 (by decide) ?_
  refine lv_istore_n (lv' := [(1, .int (0 : Int32)), (0, .ref q0)]) hx hb dX11_fitting_1 rfl hl (by decide) rfl (fun ls hl => ?_)
  refine lv_iconst (v := 0) hx hb dX11_fitting_2 (by decide) ?_
  refine lv_istore_n (lv' := [(2, .int (0 : Int32)), (1, .int (0 : Int32)), (0, .ref q0)]) hx hb dX11_fitting_3 rfl hl (by decide) rfl (fun ls hl => ?_)
  have hL4 : ∀ (n : Nat) (x4_0 : Int32) (x4_1 : Int32) (x4_2 : Int32) (x4_3 : Int32) (x4_4 : Int32) (x4_5 : Int32) (x4_6 : Int32) (x4_7 : Nat → Int32) (y4 : Int32 × Int32 × Int32 × Int32 × Int32 × Int32 × (Nat → Int32)) (rv4_0 : Value) (H : Heap) (locs : List Loc) (ls : Array Slot), lp (fun x4 => X11_fitting_s4 v_people v_ruleSize v_heardMany v_now v_rule v_heardOf v_heardBy x4.1 x4.2.1 x4.2.2.1 x4.2.2.2.1 x4.2.2.2.2.1 x4.2.2.2.2.2.1 x4.2.2.2.2.2.2.1 x4.2.2.2.2.2.2.2) n (x4_0, x4_1, x4_2, x4_3, x4_4, x4_5, x4_6, x4_7) = some y4 → Sv D A s.heap [oX11 q0 (.ref q1) (.int v_people) u0_2 u0_3 u0_4 u0_5 u0_6 rv4_0 (.int x4_2) (.int x4_3) (.int x4_4) (.int x4_5) u0_12 (.ref q2) u0_14 (.int v_ruleSize) (.int x4_6) (.ref q3) u0_18 u0_19 u0_20 u0_21 u0_22 u0_23 u0_24 u0_25 u0_26 u0_27 u0_28 (.ref q4) (.ref q5) (.int v_heardMany) u0_32 u0_33 u0_34 u0_35 u0_36 u0_37 u0_38 u0_39 u0_40, aI cy q1 37 v_now, aB cy q2 40 v_rule, aI cy q3 7 x4_7, aI cy q4 12 v_heardOf, aI cy q5 12 v_heardBy] H locs → lv_has ls 5 [(0, .ref q0), (1, .int x4_0), (2, .int x4_1)] → ( ∀ (y4_0 : Int32) (y4_1 : Int32) (y4_2 : Int32) (y4_3 : Int32) (y4_4 : Int32) (y4_5 : Int32) (y4_6 : Nat → Int32), (y4_0, y4_1, y4_2, y4_3, y4_4, y4_5, y4_6) = y4 → ∀ (rv4_0 : Value), ∀ (H : Heap) (locs : List Loc) (ls : Array Slot), Sv D A s.heap [oX11 q0 (.ref q1) (.int v_people) u0_2 u0_3 u0_4 u0_5 u0_6 rv4_0 (.int y4_1) (.int y4_2) (.int y4_3) (.int y4_4) u0_12 (.ref q2) u0_14 (.int v_ruleSize) (.int y4_5) (.ref q3) u0_18 u0_19 u0_20 u0_21 u0_22 u0_23 u0_24 u0_25 u0_26 u0_27 u0_28 (.ref q4) (.ref q5) (.int v_heardMany) u0_32 u0_33 u0_34 u0_35 u0_36 u0_37 u0_38 u0_39 u0_40, aI cy q1 37 v_now, aB cy q2 40 v_rule, aI cy q3 7 y4_6, aI cy q4 12 v_heardOf, aI cy q5 12 v_heardBy] H locs → lv_has ls 5 [(1, .int y4_0)] → W p l e R s m args below meth c H locs 0 0 Q (F0 m 84 ls [])) → W p l e R s m args below meth c H locs 0 0 Q (F0 m 4 ls []) := by
    intro n
    induction n with
    | zero =>
      intro x4_0 x4_1 x4_2 x4_3 x4_4 x4_5 x4_6 x4_7 y4 rv4_0 H locs ls h
      exact lp_zero h
    | succ n ih4 =>
      intro x4_0 x4_1 x4_2 x4_3 x4_4 x4_5 x4_6 x4_7 y4 rv4_0 H locs ls h hS hl hk4_0
      obtain ⟨z4, h, hz4a, hz4b⟩ := lp_succ h
      have h : X11_fitting_s4 v_people v_ruleSize v_heardMany v_now v_rule v_heardOf v_heardBy x4_0 x4_1 x4_2 x4_3 x4_4 x4_5 x4_6 x4_7 = some z4 := h
      unfold X11_fitting_s4 at h
      refine lv_iload_n hx hb dX11_fitting_4 rfl (lv_at hl 2 rfl) ?_
      refine lv_aload_n hx hb dX11_fitting_5 rfl (lv_at hl 0 rfl) ?_
      refine r_get E frX11_92 hS 0 rfl rfl dX11_fitting_6 ?_
      refine lv_icmp_ge (tgt := 84) hx hb dX11_fitting_9 (by decide) (fun c1 => ?_) (fun c1 => ?_)
      · have h := it_pos c1 h
        exact hk4_0 x4_0 x4_2 x4_3 x4_4 x4_5 x4_6 x4_7 (hz4b _ (Option.some.inj h).symm) rv4_0 H locs ls hS (lv_sub hl [1] rfl)
      · have h := it_neg c1 h
        refine lv_iconst (v := 1) hx hb dX11_fitting_12 (by decide) ?_
        refine lv_istore_n (lv' := [(3, .int (1 : Int32)), (0, .ref q0), (1, .int x4_0), (2, .int x4_1)]) hx hb dX11_fitting_13 rfl hl (by decide) rfl (fun ls hl => ?_)
        refine lv_iconst (v := 0) hx hb dX11_fitting_14 (by decide) ?_
        refine lv_istore (lv' := [(4, .int (0 : Int32)), (3, .int (1 : Int32)), (0, .ref q0), (1, .int x4_0), (2, .int x4_1)]) hx hb dX11_fitting_15 hl (by decide) rfl (fun ls hl => ?_)
        have hL17 : ∀ (n : Nat) (x17_0 : Int32) (x17_1 : Int32) (x17_2 : Int32) (x17_3 : Int32) (x17_4 : Int32) (x17_5 : Int32) (x17_6 : Int32) (x17_7 : Nat → Int32) (y17 : Int32 × Int32 × Int32 × Int32 × Int32 × Int32 × (Nat → Int32)) (rv17_0 : Value) (H : Heap) (locs : List Loc) (ls : Array Slot), lp (fun x17 => X11_fitting_s17 v_people v_ruleSize v_heardMany v_now v_rule v_heardOf v_heardBy x4_1 x17.1 x17.2.1 x17.2.2.1 x17.2.2.2.1 x17.2.2.2.2.1 x17.2.2.2.2.2.1 x17.2.2.2.2.2.2.1 x17.2.2.2.2.2.2.2) n (x17_0, x17_1, x17_2, x17_3, x17_4, x17_5, x17_6, x17_7) = some y17 → Sv D A s.heap [oX11 q0 (.ref q1) (.int v_people) u0_2 u0_3 u0_4 u0_5 u0_6 rv17_0 (.int x17_2) (.int x17_3) (.int x17_4) (.int x17_5) u0_12 (.ref q2) u0_14 (.int v_ruleSize) (.int x17_6) (.ref q3) u0_18 u0_19 u0_20 u0_21 u0_22 u0_23 u0_24 u0_25 u0_26 u0_27 u0_28 (.ref q4) (.ref q5) (.int v_heardMany) u0_32 u0_33 u0_34 u0_35 u0_36 u0_37 u0_38 u0_39 u0_40, aI cy q1 37 v_now, aB cy q2 40 v_rule, aI cy q3 7 x17_7, aI cy q4 12 v_heardOf, aI cy q5 12 v_heardBy] H locs → lv_has ls 5 [(0, .ref q0), (1, .int x4_0), (2, .int x4_1), (3, .int x17_0), (4, .int x17_1)] → ( ∀ (y17_0 : Int32) (y17_1 : Int32) (y17_2 : Int32) (y17_3 : Int32) (y17_4 : Int32) (y17_5 : Int32) (y17_6 : Nat → Int32), (y17_0, y17_1, y17_2, y17_3, y17_4, y17_5, y17_6) = y17 → ∀ (rv17_0 : Value), ∀ (H : Heap) (locs : List Loc) (ls : Array Slot), Sv D A s.heap [oX11 q0 (.ref q1) (.int v_people) u0_2 u0_3 u0_4 u0_5 u0_6 rv17_0 (.int y17_1) (.int y17_2) (.int y17_3) (.int y17_4) u0_12 (.ref q2) u0_14 (.int v_ruleSize) (.int y17_5) (.ref q3) u0_18 u0_19 u0_20 u0_21 u0_22 u0_23 u0_24 u0_25 u0_26 u0_27 u0_28 (.ref q4) (.ref q5) (.int v_heardMany) u0_32 u0_33 u0_34 u0_35 u0_36 u0_37 u0_38 u0_39 u0_40, aI cy q1 37 v_now, aB cy q2 40 v_rule, aI cy q3 7 y17_6, aI cy q4 12 v_heardOf, aI cy q5 12 v_heardBy] H locs → lv_has ls 5 [(0, .ref q0), (1, .int x4_0), (2, .int x4_1), (3, .int y17_0)] → W p l e R s m args below meth c H locs 0 0 Q (F0 m 64 ls [])) → W p l e R s m args below meth c H locs 0 0 Q (F0 m 17 ls []) := by
          intro n
          induction n with
          | zero =>
            intro x17_0 x17_1 x17_2 x17_3 x17_4 x17_5 x17_6 x17_7 y17 rv17_0 H locs ls h
            exact lp_zero h
          | succ n ih17 =>
            intro x17_0 x17_1 x17_2 x17_3 x17_4 x17_5 x17_6 x17_7 y17 rv17_0 H locs ls h hS hl hk17_0
            obtain ⟨z17, h, hz17a, hz17b⟩ := lp_succ h
            have h : X11_fitting_s17 v_people v_ruleSize v_heardMany v_now v_rule v_heardOf v_heardBy x4_1 x17_0 x17_1 x17_2 x17_3 x17_4 x17_5 x17_6 x17_7 = some z17 := h
            unfold X11_fitting_s17 at h
            refine lv_iload hx hb dX11_fitting_17 (lv_at hl 4 rfl) ?_
            refine lv_aload_n hx hb dX11_fitting_19 rfl (lv_at hl 0 rfl) ?_
            refine r_get E frX11_326 hS 0 rfl rfl dX11_fitting_20 ?_
            refine lv_icmp_ge (tgt := 64) hx hb dX11_fitting_23 (by decide) (fun c2 => ?_) (fun c2 => ?_)
            · have h := it_pos c2 h
              exact hk17_0 x17_0 x17_2 x17_3 x17_4 x17_5 x17_6 x17_7 (hz17b _ (Option.some.inj h).symm) rv17_0 H locs ls hS (lv_sub hl [0, 1, 2, 3] rfl)
            · have h := it_neg c2 h
              refine lv_iload_n hx hb dX11_fitting_26 rfl (lv_at hl 3 rfl) ?_
              refine lv_if_eq (tgt := 56) hx hb dX11_fitting_27 (by decide) (fun c3 => ?_) (fun c3 => ?_)
              · have h := it_pos c3 h
                refine lv_iconst (v := 0) hx hb dX11_fitting_56 (by decide) ?_
                refine lv_istore_n (lv' := [(3, .int (0 : Int32)), (0, .ref q0), (1, .int x4_0), (2, .int x4_1), (4, .int x17_1)]) hx hb dX11_fitting_57 rfl hl (by decide) rfl (fun ls hl => ?_)
                refine lv_iinc (v := (x17_1 + (1 : Int32))) (lv' := [(4, .int (x17_1 + (1 : Int32))), (3, .int (0 : Int32)), (0, .ref q0), (1, .int x4_0), (2, .int x4_1)]) hx hb dX11_fitting_58 hl (k := 4) rfl rfl (by decide) rfl (fun ls hl => ?_)
                refine lv_goto (tgt := 17) hx hb dX11_fitting_61 (by decide) ?_
                exact ih17 (0 : Int32) (x17_1 + (1 : Int32)) x17_2 x17_3 x17_4 x17_5 x17_6 x17_7 y17 rv17_0 H locs ls (hz17a _ (Option.some.inj h).symm) hS (lv_sub hl [2, 3, 4, 1, 0] rfl) hk17_0
              · have h := it_neg c3 h
                refine lv_aload_n hx hb dX11_fitting_30 rfl (lv_at hl 0 rfl) ?_
                refine lv_iload_n hx hb dX11_fitting_31 rfl (lv_at hl 2 rfl) ?_
                refine lv_aload_n hx hb dX11_fitting_32 rfl (lv_at hl 0 rfl) ?_
                refine r_get E frX11_60 hS 0 rfl rfl dX11_fitting_33 ?_
                refine lv_iload hx hb dX11_fitting_36 (lv_at hl 4 rfl) ?_
                obtain ⟨g4, h⟩ := gi_some h
                refine r_iald E hS 4 rfl g4 dX11_fitting_38 ?_
                refine lv_aload_n hx hb dX11_fitting_39 rfl (lv_at hl 0 rfl) ?_
                refine r_get E frX11_63 hS 0 rfl rfl dX11_fitting_40 ?_
                refine lv_iload hx hb dX11_fitting_43 (lv_at hl 4 rfl) ?_
                obtain ⟨g5, h⟩ := gi_some h
                refine r_iald E hS 5 rfl g5 dX11_fitting_45 ?_
                obtain ⟨y46, e6, h⟩ := bd_some h
                refine ct_V (ws' := fun rc7 => [oX11 q0 (.ref q1) (.int v_people) u0_2 u0_3 u0_4 u0_5 u0_6 rc7 (.int y46.2.1) (.int y46.2.2.1) (.int y46.2.2.2.1) (.int y46.2.2.2.2.1) u0_12 (.ref q2) u0_14 (.int v_ruleSize) (.int y46.2.2.2.2.2.1) (.ref q3) u0_18 u0_19 u0_20 u0_21 u0_22 u0_23 u0_24 u0_25 u0_26 u0_27 u0_28 (.ref q4) (.ref q5) (.int v_heardMany) u0_32 u0_33 u0_34 u0_35 u0_36 u0_37 u0_38 u0_39 u0_40, aI cy q1 37 v_now, aB cy q2 40 v_rule, aI cy q3 7 y46.2.2.2.2.2.2, aI cy q4 12 v_heardOf, aI cy q5 12 v_heardBy]) (st' := [.int y46.1]) (rest := []) E hS vlX11_329 (c_X11_isSo (l := l) (D := D) (cy := cy) (q0 := q0) (q1 := q1) (q2 := q2) (q3 := q3) (u0_2 := u0_2) (u0_3 := u0_3) (u0_4 := u0_4) (u0_5 := u0_5) (u0_6 := u0_6) (u0_7 := rv17_0) (u0_12 := u0_12) (u0_14 := u0_14) (u0_18 := u0_18) (u0_19 := u0_19) (u0_20 := u0_20) (u0_21 := u0_21) (u0_22 := u0_22) (u0_23 := u0_23) (u0_24 := u0_24) (u0_25 := u0_25) (u0_26 := u0_26) (u0_27 := u0_27) (u0_28 := u0_28) (u0_29 := .ref q4) (u0_30 := .ref q5) (u0_31 := .int v_heardMany) (u0_32 := u0_32) (u0_33 := u0_33) (u0_34 := u0_34) (u0_35 := u0_35) (u0_36 := u0_36) (u0_37 := u0_37) (u0_38 := u0_38) (u0_39 := u0_39) (u0_40 := u0_40) (v_people := v_people) (v_length := x17_2) (v_top := x17_3) (v_at := x17_4) (v_wrong := x17_5) (v_ruleSize := v_ruleSize) (v_isAsked := x17_6) (v_now := v_now) (v_rule := v_rule) (v_asked := x17_7) (p1 := x4_1) (p2 := (v_heardOf x17_1.toNatClampNeg)) (p3 := (v_heardBy x17_1.toNatClampNeg)) (r := y46) e6) [0, 1, 2, 3] rfl rfl (fun _ => rfl) (fun _ => rfl) rfl rfl rfl rfl (Nat.le_of_ble_eq_true rfl) hl.1 (by rw [hRf]; exact Nat.le_of_ble_eq_true rfl) (by rw [hRl]; exact Nat.le_of_ble_eq_true rfl) ⟨Nat.zero_le _, Nat.zero_le _⟩ dX11_fitting_46 rfl (fun H locs rc7 hS => ?_)
                refine lv_if_eq (tgt := 56) hx hb dX11_fitting_49 (by decide) (fun c8 => ?_) (fun c8 => ?_)
                · have h := it_pos c8 h
                  refine lv_iconst (v := 0) hx hb dX11_fitting_56 (by decide) ?_
                  refine lv_istore_n (lv' := [(3, .int (0 : Int32)), (0, .ref q0), (1, .int x4_0), (2, .int x4_1), (4, .int x17_1)]) hx hb dX11_fitting_57 rfl hl (by decide) rfl (fun ls hl => ?_)
                  refine lv_iinc (v := (x17_1 + (1 : Int32))) (lv' := [(4, .int (x17_1 + (1 : Int32))), (3, .int (0 : Int32)), (0, .ref q0), (1, .int x4_0), (2, .int x4_1)]) hx hb dX11_fitting_58 hl (k := 4) rfl rfl (by decide) rfl (fun ls hl => ?_)
                  refine lv_goto (tgt := 17) hx hb dX11_fitting_61 (by decide) ?_
                  exact ih17 (0 : Int32) (x17_1 + (1 : Int32)) y46.2.1 y46.2.2.1 y46.2.2.2.1 y46.2.2.2.2.1 y46.2.2.2.2.2.1 y46.2.2.2.2.2.2 y17 rc7 H locs ls (hz17a _ (Option.some.inj h).symm) hS (lv_sub hl [2, 3, 4, 1, 0] rfl) hk17_0
                · have h := it_neg c8 h
                  refine lv_iconst (v := 1) hx hb dX11_fitting_52 (by decide) ?_
                  refine lv_goto (tgt := 57) hx hb dX11_fitting_53 (by decide) ?_
                  refine lv_istore_n (lv' := [(3, .int (1 : Int32)), (0, .ref q0), (1, .int x4_0), (2, .int x4_1), (4, .int x17_1)]) hx hb dX11_fitting_57 rfl hl (by decide) rfl (fun ls hl => ?_)
                  refine lv_iinc (v := (x17_1 + (1 : Int32))) (lv' := [(4, .int (x17_1 + (1 : Int32))), (3, .int (1 : Int32)), (0, .ref q0), (1, .int x4_0), (2, .int x4_1)]) hx hb dX11_fitting_58 hl (k := 4) rfl rfl (by decide) rfl (fun ls hl => ?_)
                  refine lv_goto (tgt := 17) hx hb dX11_fitting_61 (by decide) ?_
                  exact ih17 (1 : Int32) (x17_1 + (1 : Int32)) y46.2.1 y46.2.2.1 y46.2.2.2.1 y46.2.2.2.2.1 y46.2.2.2.2.2.1 y46.2.2.2.2.2.2 y17 rc7 H locs ls (hz17a _ (Option.some.inj h).symm) hS (lv_sub hl [2, 3, 4, 1, 0] rfl) hk17_0
        obtain ⟨y17, e17, h⟩ := bd_some h
        refine hL17 1000 (1 : Int32) (0 : Int32) x4_2 x4_3 x4_4 x4_5 x4_6 x4_7 y17 rv4_0 H locs ls e17 hS (lv_sub hl [2, 3, 4, 1, 0] rfl) (fun y17_0 y17_1 y17_2 y17_3 y17_4 y17_5 y17_6 ey17 rw17_0 H locs ls hS hl => ?_)
        subst ey17
        have h := un_r h
        have h := un_r h
        have h := un_r h
        have h := un_r h
        have h := un_r h
        have h := un_r h
        refine lv_iload_n hx hb dX11_fitting_64 rfl (lv_at hl 1 rfl) ?_
        refine lv_iload_n hx hb dX11_fitting_65 rfl (lv_at hl 3 rfl) ?_
        have hJ76 : ∀ (s76_1 : Int32) (ls : Array Slot), s76_1 = (if y17_0 = 0 then (0 : Int32) else ((1 : Int32) <<< (x4_1 &&& 31))) → lv_has ls 5 [(0, .ref q0), (2, .int x4_1)] → W p l e R s m args below meth c H locs 0 0 Q (F0 m 76 ls [.int s76_1, .int x4_0]) := by
          intro s76_1 ls es76_1 hl
          subst es76_1
          refine lv_ior hx hb dX11_fitting_76 ?_
          refine lv_istore_n (lv' := [(1, .int (x4_0 ||| (if y17_0 = 0 then (0 : Int32) else ((1 : Int32) <<< (x4_1 &&& 31))))), (0, .ref q0), (2, .int x4_1)]) hx hb dX11_fitting_77 rfl hl (by decide) rfl (fun ls hl => ?_)
          refine lv_iinc (v := (x4_1 + (1 : Int32))) (lv' := [(2, .int (x4_1 + (1 : Int32))), (1, .int (x4_0 ||| (if y17_0 = 0 then (0 : Int32) else ((1 : Int32) <<< (x4_1 &&& 31))))), (0, .ref q0)]) hx hb dX11_fitting_78 hl (k := 2) rfl rfl (by decide) rfl (fun ls hl => ?_)
          refine lv_goto (tgt := 4) hx hb dX11_fitting_81 (by decide) ?_
          exact ih4 (x4_0 ||| (if y17_0 = 0 then (0 : Int32) else ((1 : Int32) <<< (x4_1 &&& 31)))) (x4_1 + (1 : Int32)) y17_1 y17_2 y17_3 y17_4 y17_5 y17_6 y4 rw17_0 H locs ls (hz4a _ (Option.some.inj h).symm) hS (lv_sub hl [2, 1, 0] rfl) hk4_0
        refine lv_if_eq (tgt := 75) hx hb dX11_fitting_66 (by decide) (fun c9 => ?_) (fun c9 => ?_)
        · refine lv_iconst (v := 0) hx hb dX11_fitting_75 (by decide) ?_
          exact hJ76 _ ls ((if_pos c9)).symm (lv_sub hl [0, 2] rfl)
        · refine lv_iconst (v := 1) hx hb dX11_fitting_69 (by decide) ?_
          refine lv_iload_n hx hb dX11_fitting_70 rfl (lv_at hl 2 rfl) ?_
          refine lv_ishl hx hb dX11_fitting_71 ?_
          refine lv_goto (tgt := 76) hx hb dX11_fitting_72 (by decide) ?_
          exact hJ76 _ ls ((if_neg c9)).symm (lv_sub hl [0, 2] rfl)
  obtain ⟨y4, e4, h⟩ := bd_some h
  refine hL4 1000 (0 : Int32) (0 : Int32) v_length v_top v_at v_wrong v_isAsked v_asked y4 u0_7 H locs ls e4 hS (lv_sub hl [2, 1, 0] rfl) (fun y4_0 y4_1 y4_2 y4_3 y4_4 y4_5 y4_6 ey4 rw4_0 H locs ls hS hl => ?_)
  subst ey4
  have h := un_r h
  have h := un_r h
  have h := un_r h
  have h := un_r h
  have h := un_r h
  have h := un_r h
  refine lv_iload_n hx hb dX11_fitting_84 rfl (lv_at hl 0 rfl) ?_
  obtain rfl := Option.some.inj h
  exact rt_i E hQ (rw4_0) hS dX11_fitting_85
set_option maxHeartbeats 4000000 in
set_option maxRecDepth 100000 in
theorem c_X11_fits {l : Launch} {D : va_G} {cy : Nat → ClassId} (q0 : Nat) (q1 : Nat) (q2 : Nat) (q3 : Nat) (q4 : Nat) (q5 : Nat) (q6 : Nat) (u0_2 : Value) (u0_3 : Value) (u0_7 : Value) (u0_12 : Value) (u0_14 : Value) (u0_18 : Value) (u0_19 : Value) (u0_20 : Value) (u0_21 : Value) (u0_22 : Value) (u0_23 : Value) (u0_24 : Value) (u0_25 : Value) (u0_26 : Value) (u0_27 : Value) (u0_28 : Value) (u0_32 : Value) (u0_33 : Value) (u0_34 : Value) (u0_35 : Value) (u0_36 : Value) (u0_37 : Value) (u0_38 : Value) (u0_39 : Value) (u0_40 : Value) (v_people : Int32) (v_rowMany : Int32) (v_thrown : Int32) (v_length : Int32) (v_top : Int32) (v_at : Int32) (v_wrong : Int32) (v_ruleSize : Int32) (v_isAsked : Int32) (v_heardMany : Int32) (v_now : Nat → Int32) (v_row : Nat → Int64) (v_rule : Nat → Int32) (v_asked : Nat → Int32) (v_heardOf : Nat → Int32) (v_heardBy : Nat → Int32) (r : Int32 × Int32 × Int32 × Int32 × Int32 × Int32 × Int32 × Int32 × (Nat → Int64) × (Nat → Int32)) (h : X11_fits v_people v_length v_top v_at v_wrong v_ruleSize v_isAsked v_heardMany v_now v_row v_rule v_asked v_heardOf v_heardBy = some r) : Ct l yX11_fits cX11_fits 2 (some .int) 110 2627 D cy [.ref q0] [oX11 q0 (.ref q1) (.int v_people) u0_2 u0_3 (.ref q2) (.int v_rowMany) (.int v_thrown) u0_7 (.int v_length) (.int v_top) (.int v_at) (.int v_wrong) u0_12 (.ref q3) u0_14 (.int v_ruleSize) (.int v_isAsked) (.ref q4) u0_18 u0_19 u0_20 u0_21 u0_22 u0_23 u0_24 u0_25 u0_26 u0_27 u0_28 (.ref q5) (.ref q6) (.int v_heardMany) u0_32 u0_33 u0_34 u0_35 u0_36 u0_37 u0_38 u0_39 u0_40, aI cy q1 37 v_now, aJ cy q2 16 v_row, aB cy q3 40 v_rule, aI cy q4 7 v_asked, aI cy q5 12 v_heardOf, aI cy q6 12 v_heardBy] (fun rv => [oX11 q0 (.ref q1) (.int v_people) u0_2 u0_3 (.ref q2) (.int r.2.1) (.int r.2.2.1) rv (.int r.2.2.2.1) (.int r.2.2.2.2.1) (.int r.2.2.2.2.2.1) (.int r.2.2.2.2.2.2.1) u0_12 (.ref q3) u0_14 (.int v_ruleSize) (.int r.2.2.2.2.2.2.2.1) (.ref q4) u0_18 u0_19 u0_20 u0_21 u0_22 u0_23 u0_24 u0_25 u0_26 u0_27 u0_28 (.ref q5) (.ref q6) (.int v_heardMany) u0_32 u0_33 u0_34 u0_35 u0_36 u0_37 u0_38 u0_39 u0_40, aI cy q1 37 v_now, aJ cy q2 16 r.2.2.2.2.2.2.2.2.1, aB cy q3 40 v_rule, aI cy q4 7 r.2.2.2.2.2.2.2.2.2, aI cy q5 12 v_heardOf, aI cy q6 12 v_heardBy]) (some (.int r.1)) := by
  refine Ct.mk kX11_fits (by decide +kernel) (Nat.le_of_ble_eq_true rfl) ?_
  intro p e s m below meth c A ls args R Q hRf hRl hQ E H locs hS hl
  have hx := E.x
  have hb := E.b
  have hl : lv_has ls 2 [(0, .ref q0)] := hl
  unfold X11_fits at h
  refine lv_aload_n hx hb dX11_fits_0 rfl (lv_at hl 0 rfl) ?_
  refine lv_iconst (v := 0) hx hb dX11_fits_1 (by decide) ?_
  refine r_put (ws' := [oX11 q0 (.ref q1) (.int v_people) u0_2 u0_3 (.ref q2) (.int v_rowMany) (.int (0 : Int32)) u0_7 (.int v_length) (.int v_top) (.int v_at) (.int v_wrong) u0_12 (.ref q3) u0_14 (.int v_ruleSize) (.int v_isAsked) (.ref q4) u0_18 u0_19 u0_20 u0_21 u0_22 u0_23 u0_24 u0_25 u0_26 u0_27 u0_28 (.ref q5) (.ref q6) (.int v_heardMany) u0_32 u0_33 u0_34 u0_35 u0_36 u0_37 u0_38 u0_39 u0_40, aI cy q1 37 v_now, aJ cy q2 16 v_row, aB cy q3 40 v_rule, aI cy q4 7 v_asked, aI cy q5 12 v_heardOf, aI cy q6 12 v_heardBy]) E frX11_85 hS 0 rfl (Nat.le_of_ble_eq_true rfl) rfl rfl rfl rfl dX11_fits_2 (fun H locs hS => ?_)
  refine lv_aload_n hx hb dX11_fits_5 rfl (lv_at hl 0 rfl) ?_
  obtain ⟨y6, e1, h⟩ := bd_some h
  refine ct_V (ws' := fun rc2 => [oX11 q0 (.ref q1) (.int v_people) u0_2 u0_3 (.ref q2) (.int v_rowMany) (.int (0 : Int32)) rc2 (.int y6.2.1) (.int y6.2.2.1) (.int y6.2.2.2.1) (.int y6.2.2.2.2.1) u0_12 (.ref q3) u0_14 (.int v_ruleSize) (.int y6.2.2.2.2.2.1) (.ref q4) u0_18 u0_19 u0_20 u0_21 u0_22 u0_23 u0_24 u0_25 u0_26 u0_27 u0_28 (.ref q5) (.ref q6) (.int v_heardMany) u0_32 u0_33 u0_34 u0_35 u0_36 u0_37 u0_38 u0_39 u0_40, aI cy q1 37 v_now, aJ cy q2 16 v_row, aB cy q3 40 v_rule, aI cy q4 7 y6.2.2.2.2.2.2, aI cy q5 12 v_heardOf, aI cy q6 12 v_heardBy]) (st' := [.int y6.1]) (rest := []) E hS vlX11_332 (c_X11_fitting (l := l) (D := D) (cy := cy) (q0 := q0) (q1 := q1) (q2 := q3) (q3 := q4) (q4 := q5) (q5 := q6) (u0_2 := u0_2) (u0_3 := u0_3) (u0_4 := .ref q2) (u0_5 := .int v_rowMany) (u0_6 := .int (0 : Int32)) (u0_7 := u0_7) (u0_12 := u0_12) (u0_14 := u0_14) (u0_18 := u0_18) (u0_19 := u0_19) (u0_20 := u0_20) (u0_21 := u0_21) (u0_22 := u0_22) (u0_23 := u0_23) (u0_24 := u0_24) (u0_25 := u0_25) (u0_26 := u0_26) (u0_27 := u0_27) (u0_28 := u0_28) (u0_32 := u0_32) (u0_33 := u0_33) (u0_34 := u0_34) (u0_35 := u0_35) (u0_36 := u0_36) (u0_37 := u0_37) (u0_38 := u0_38) (u0_39 := u0_39) (u0_40 := u0_40) (v_people := v_people) (v_length := v_length) (v_top := v_top) (v_at := v_at) (v_wrong := v_wrong) (v_ruleSize := v_ruleSize) (v_isAsked := v_isAsked) (v_heardMany := v_heardMany) (v_now := v_now) (v_rule := v_rule) (v_asked := v_asked) (v_heardOf := v_heardOf) (v_heardBy := v_heardBy) (r := y6) e1) [0, 1, 3, 4, 5, 6] rfl rfl (fun _ => rfl) (fun _ => rfl) rfl rfl rfl rfl (Nat.le_of_ble_eq_true rfl) hl.1 (by rw [hRf]; exact Nat.le_of_ble_eq_true rfl) (by rw [hRl]; exact Nat.le_of_ble_eq_true rfl) ⟨Nat.zero_le _, Nat.zero_le _⟩ dX11_fits_6 rfl (fun H locs rc2 hS => ?_)
  refine lv_istore_n (lv' := [(1, .int y6.1), (0, .ref q0)]) hx hb dX11_fits_9 rfl hl (by decide) rfl (fun ls hl => ?_)
  refine lv_aload_n hx hb dX11_fits_10 rfl (lv_at hl 1 rfl) ?_
  refine lv_iconst (v := 0) hx hb dX11_fits_11 (by decide) ?_
  refine r_put (ws' := [oX11 q0 (.ref q1) (.int v_people) u0_2 u0_3 (.ref q2) (.int (0 : Int32)) (.int (0 : Int32)) rc2 (.int y6.2.1) (.int y6.2.2.1) (.int y6.2.2.2.1) (.int y6.2.2.2.2.1) u0_12 (.ref q3) u0_14 (.int v_ruleSize) (.int y6.2.2.2.2.2.1) (.ref q4) u0_18 u0_19 u0_20 u0_21 u0_22 u0_23 u0_24 u0_25 u0_26 u0_27 u0_28 (.ref q5) (.ref q6) (.int v_heardMany) u0_32 u0_33 u0_34 u0_35 u0_36 u0_37 u0_38 u0_39 u0_40, aI cy q1 37 v_now, aJ cy q2 16 v_row, aB cy q3 40 v_rule, aI cy q4 7 y6.2.2.2.2.2.2, aI cy q5 12 v_heardOf, aI cy q6 12 v_heardBy]) E frX11_89 hS 0 rfl (Nat.le_of_ble_eq_true rfl) rfl rfl rfl rfl dX11_fits_12 (fun H locs hS => ?_)
  refine lv_aload_n hx hb dX11_fits_15 rfl (lv_at hl 1 rfl) ?_
  refine lv_iload_n hx hb dX11_fits_16 rfl (lv_at hl 0 rfl) ?_
  refine ct_S (ws' := fun _ => [oX11 q0 (.ref q1) (.int v_people) u0_2 u0_3 (.ref q2) (.int (0 : Int32)) (.int (0 : Int32)) rc2 (.int y6.2.1) (.int y6.2.2.1) (.int y6.2.2.2.1) (.int y6.2.2.2.2.1) u0_12 (.ref q3) u0_14 (.int v_ruleSize) (.int y6.2.2.2.2.2.1) (.ref q4) u0_18 u0_19 u0_20 u0_21 u0_22 u0_23 u0_24 u0_25 u0_26 u0_27 u0_28 (.ref q5) (.ref q6) (.int v_heardMany) u0_32 u0_33 u0_34 u0_35 u0_36 u0_37 u0_38 u0_39 u0_40, aI cy q1 37 v_now, aJ cy q2 16 v_row, aB cy q3 40 v_rule, aI cy q4 7 y6.2.2.2.2.2.2, aI cy q5 12 v_heardOf, aI cy q6 12 v_heardBy]) (st' := [.int (J6_bitCount_0f7a4 y6.1), .ref q0]) (rest := [.ref q0]) E hS slX11_204 (c_J6_bitCount_0f7a4 (l := l) (D := D) (cy := cy) (p0 := y6.1) (r := (J6_bitCount_0f7a4 y6.1)) rfl) [] rfl rfl (fun _ => rfl) (fun _ => rfl) rfl rfl (Nat.le_of_ble_eq_true rfl) hl.1 (by rw [hRf]; exact Nat.le_of_ble_eq_true rfl) (by rw [hRl]; exact Nat.le_of_ble_eq_true rfl) ⟨Nat.zero_le _, Nat.zero_le _⟩ dX11_fits_17 rfl (fun H locs _ hS => ?_)
  refine lv_i2l (v := ((J6_bitCount_0f7a4 y6.1).toInt64)) hx hb dX11_fits_20 rfl ?_
  obtain ⟨y21, e3, h⟩ := bd_some h
  refine ct_V (ws' := fun _ => [oX11 q0 (.ref q1) (.int v_people) u0_2 u0_3 (.ref q2) (.int y21.1) (.int (0 : Int32)) rc2 (.int y6.2.1) (.int y6.2.2.1) (.int y6.2.2.2.1) (.int y6.2.2.2.2.1) u0_12 (.ref q3) u0_14 (.int v_ruleSize) (.int y6.2.2.2.2.2.1) (.ref q4) u0_18 u0_19 u0_20 u0_21 u0_22 u0_23 u0_24 u0_25 u0_26 u0_27 u0_28 (.ref q5) (.ref q6) (.int v_heardMany) u0_32 u0_33 u0_34 u0_35 u0_36 u0_37 u0_38 u0_39 u0_40, aI cy q1 37 v_now, aJ cy q2 16 y21.2, aB cy q3 40 v_rule, aI cy q4 7 y6.2.2.2.2.2.2, aI cy q5 12 v_heardOf, aI cy q6 12 v_heardBy]) (st' := []) (rest := []) E hS vlX11_256 (c_X11_tell (l := l) (D := D) (cy := cy) (q0 := q0) (q1 := q2) (u0_0 := .ref q1) (u0_1 := .int v_people) (u0_2 := u0_2) (u0_3 := u0_3) (u0_6 := .int (0 : Int32)) (u0_7 := rc2) (u0_8 := .int y6.2.1) (u0_9 := .int y6.2.2.1) (u0_10 := .int y6.2.2.2.1) (u0_11 := .int y6.2.2.2.2.1) (u0_12 := u0_12) (u0_13 := .ref q3) (u0_14 := u0_14) (u0_15 := .int v_ruleSize) (u0_16 := .int y6.2.2.2.2.2.1) (u0_17 := .ref q4) (u0_18 := u0_18) (u0_19 := u0_19) (u0_20 := u0_20) (u0_21 := u0_21) (u0_22 := u0_22) (u0_23 := u0_23) (u0_24 := u0_24) (u0_25 := u0_25) (u0_26 := u0_26) (u0_27 := u0_27) (u0_28 := u0_28) (u0_29 := .ref q5) (u0_30 := .ref q6) (u0_31 := .int v_heardMany) (u0_32 := u0_32) (u0_33 := u0_33) (u0_34 := u0_34) (u0_35 := u0_35) (u0_36 := u0_36) (u0_37 := u0_37) (u0_38 := u0_38) (u0_39 := u0_39) (u0_40 := u0_40) (v_rowMany := (0 : Int32)) (v_row := v_row) (p1 := ((J6_bitCount_0f7a4 y6.1).toInt64)) (r := y21) e3) [0, 2] rfl rfl (fun _ => rfl) (fun _ => rfl) rfl rfl rfl rfl (Nat.le_of_ble_eq_true rfl) hl.1 (by rw [hRf]; exact Nat.le_of_ble_eq_true rfl) (by rw [hRl]; exact Nat.le_of_ble_eq_true rfl) ⟨Nat.zero_le _, Nat.zero_le _⟩ dX11_fits_21 rfl (fun H locs _ hS => ?_)
  refine lv_iload_n hx hb dX11_fits_24 rfl (lv_at hl 0 rfl) ?_
  obtain rfl := Option.some.inj h
  exact rt_i E hQ (rc2) hS dX11_fits_25
set_option maxHeartbeats 4000000 in
set_option maxRecDepth 100000 in
theorem c_X11_asks {l : Launch} {D : va_G} {cy : Nat → ClassId} (q0 : Nat) (q1 : Nat) (q2 : Nat) (q3 : Nat) (q4 : Nat) (q5 : Nat) (q6 : Nat) (u0_2 : Value) (u0_3 : Value) (u0_7 : Value) (u0_12 : Value) (u0_14 : Value) (u0_18 : Value) (u0_19 : Value) (u0_20 : Value) (u0_21 : Value) (u0_22 : Value) (u0_23 : Value) (u0_24 : Value) (u0_25 : Value) (u0_26 : Value) (u0_27 : Value) (u0_28 : Value) (u0_32 : Value) (u0_33 : Value) (u0_34 : Value) (u0_35 : Value) (u0_36 : Value) (u0_37 : Value) (u0_38 : Value) (u0_39 : Value) (u0_40 : Value) (v_people : Int32) (v_rowMany : Int32) (v_thrown : Int32) (v_length : Int32) (v_top : Int32) (v_at : Int32) (v_wrong : Int32) (v_ruleSize : Int32) (v_isAsked : Int32) (v_heardMany : Int32) (v_now : Nat → Int32) (v_row : Nat → Int64) (v_rule : Nat → Int32) (v_asked : Nat → Int32) (v_heardOf : Nat → Int32) (v_heardBy : Nat → Int32) (r : Int32 × Int32 × Int32 × Int32 × Int32 × Int32 × Int32 × Int32 × (Nat → Int64) × (Nat → Int32)) (h : X11_asks v_people v_rowMany v_length v_top v_at v_wrong v_ruleSize v_isAsked v_heardMany v_now v_row v_rule v_asked v_heardOf v_heardBy = some r) : Ct l yX11_asks cX11_asks 7 (some .int) 110 2627 D cy [.ref q0] [oX11 q0 (.ref q1) (.int v_people) u0_2 u0_3 (.ref q2) (.int v_rowMany) (.int v_thrown) u0_7 (.int v_length) (.int v_top) (.int v_at) (.int v_wrong) u0_12 (.ref q3) u0_14 (.int v_ruleSize) (.int v_isAsked) (.ref q4) u0_18 u0_19 u0_20 u0_21 u0_22 u0_23 u0_24 u0_25 u0_26 u0_27 u0_28 (.ref q5) (.ref q6) (.int v_heardMany) u0_32 u0_33 u0_34 u0_35 u0_36 u0_37 u0_38 u0_39 u0_40, aI cy q1 37 v_now, aJ cy q2 16 v_row, aB cy q3 40 v_rule, aI cy q4 7 v_asked, aI cy q5 12 v_heardOf, aI cy q6 12 v_heardBy] (fun rv => [oX11 q0 (.ref q1) (.int v_people) u0_2 u0_3 (.ref q2) (.int r.2.1) (.int r.2.2.1) rv (.int r.2.2.2.1) (.int r.2.2.2.2.1) (.int r.2.2.2.2.2.1) (.int r.2.2.2.2.2.2.1) u0_12 (.ref q3) u0_14 (.int v_ruleSize) (.int r.2.2.2.2.2.2.2.1) (.ref q4) u0_18 u0_19 u0_20 u0_21 u0_22 u0_23 u0_24 u0_25 u0_26 u0_27 u0_28 (.ref q5) (.ref q6) (.int v_heardMany) u0_32 u0_33 u0_34 u0_35 u0_36 u0_37 u0_38 u0_39 u0_40, aI cy q1 37 v_now, aJ cy q2 16 r.2.2.2.2.2.2.2.2.1, aB cy q3 40 v_rule, aI cy q4 7 r.2.2.2.2.2.2.2.2.2, aI cy q5 12 v_heardOf, aI cy q6 12 v_heardBy]) (some (.int r.1)) := by
  refine Ct.mk kX11_asks (by decide +kernel) (Nat.le_of_ble_eq_true rfl) ?_
  intro p e s m below meth c A ls args R Q hRf hRl hQ E H locs hS hl
  have hx := E.x
  have hb := E.b
  have hl : lv_has ls 7 [(0, .ref q0)] := hl
  unfold X11_asks at h
  refine lv_aload_n hx hb dX11_asks_0 rfl (lv_at hl 0 rfl) ?_
  refine lv_iconst (v := 0) hx hb dX11_asks_1 (by decide) ?_
  refine r_put (ws' := [oX11 q0 (.ref q1) (.int v_people) u0_2 u0_3 (.ref q2) (.int v_rowMany) (.int (0 : Int32)) u0_7 (.int v_length) (.int v_top) (.int v_at) (.int v_wrong) u0_12 (.ref q3) u0_14 (.int v_ruleSize) (.int v_isAsked) (.ref q4) u0_18 u0_19 u0_20 u0_21 u0_22 u0_23 u0_24 u0_25 u0_26 u0_27 u0_28 (.ref q5) (.ref q6) (.int v_heardMany) u0_32 u0_33 u0_34 u0_35 u0_36 u0_37 u0_38 u0_39 u0_40, aI cy q1 37 v_now, aJ cy q2 16 v_row, aB cy q3 40 v_rule, aI cy q4 7 v_asked, aI cy q5 12 v_heardOf, aI cy q6 12 v_heardBy]) E frX11_85 hS 0 rfl (Nat.le_of_ble_eq_true rfl) rfl rfl rfl rfl dX11_asks_2 (fun H locs hS => ?_)
  refine lv_aload_n hx hb dX11_asks_5 rfl (lv_at hl 0 rfl) ?_
  obtain ⟨y6, e1, h⟩ := bd_some h
  refine ct_V (ws' := fun rc2 => [oX11 q0 (.ref q1) (.int v_people) u0_2 u0_3 (.ref q2) (.int v_rowMany) (.int (0 : Int32)) rc2 (.int y6.2.1) (.int y6.2.2.1) (.int y6.2.2.2.1) (.int y6.2.2.2.2.1) u0_12 (.ref q3) u0_14 (.int v_ruleSize) (.int y6.2.2.2.2.2.1) (.ref q4) u0_18 u0_19 u0_20 u0_21 u0_22 u0_23 u0_24 u0_25 u0_26 u0_27 u0_28 (.ref q5) (.ref q6) (.int v_heardMany) u0_32 u0_33 u0_34 u0_35 u0_36 u0_37 u0_38 u0_39 u0_40, aI cy q1 37 v_now, aJ cy q2 16 v_row, aB cy q3 40 v_rule, aI cy q4 7 y6.2.2.2.2.2.2, aI cy q5 12 v_heardOf, aI cy q6 12 v_heardBy]) (st' := [.int y6.1]) (rest := []) E hS vlX11_332 (c_X11_fitting (l := l) (D := D) (cy := cy) (q0 := q0) (q1 := q1) (q2 := q3) (q3 := q4) (q4 := q5) (q5 := q6) (u0_2 := u0_2) (u0_3 := u0_3) (u0_4 := .ref q2) (u0_5 := .int v_rowMany) (u0_6 := .int (0 : Int32)) (u0_7 := u0_7) (u0_12 := u0_12) (u0_14 := u0_14) (u0_18 := u0_18) (u0_19 := u0_19) (u0_20 := u0_20) (u0_21 := u0_21) (u0_22 := u0_22) (u0_23 := u0_23) (u0_24 := u0_24) (u0_25 := u0_25) (u0_26 := u0_26) (u0_27 := u0_27) (u0_28 := u0_28) (u0_32 := u0_32) (u0_33 := u0_33) (u0_34 := u0_34) (u0_35 := u0_35) (u0_36 := u0_36) (u0_37 := u0_37) (u0_38 := u0_38) (u0_39 := u0_39) (u0_40 := u0_40) (v_people := v_people) (v_length := v_length) (v_top := v_top) (v_at := v_at) (v_wrong := v_wrong) (v_ruleSize := v_ruleSize) (v_isAsked := v_isAsked) (v_heardMany := v_heardMany) (v_now := v_now) (v_rule := v_rule) (v_asked := v_asked) (v_heardOf := v_heardOf) (v_heardBy := v_heardBy) (r := y6) e1) [0, 1, 3, 4, 5, 6] rfl rfl (fun _ => rfl) (fun _ => rfl) rfl rfl rfl rfl (Nat.le_of_ble_eq_true rfl) hl.1 (by rw [hRf]; exact Nat.le_of_ble_eq_true rfl) (by rw [hRl]; exact Nat.le_of_ble_eq_true rfl) ⟨Nat.zero_le _, Nat.zero_le _⟩ dX11_asks_6 rfl (fun H locs rc2 hS => ?_)
  refine lv_istore_n (lv' := [(1, .int y6.1), (0, .ref q0)]) hx hb dX11_asks_9 rfl hl (by decide) rfl (fun ls hl => ?_)
  refine lv_iload_n hx hb dX11_asks_10 rfl (lv_at hl 0 rfl) ?_
  refine lv_if_ne (tgt := 17) hx hb dX11_asks_11 (by decide) (fun c3 => ?_) (fun c3 => ?_)
  · have h := it_neg c3 h
    refine lv_iconst (v := -1) hx hb dX11_asks_17 (by decide) ?_
    refine lv_istore_n (lv' := [(2, .int (-1 : Int32)), (1, .int y6.1), (0, .ref q0)]) hx hb dX11_asks_18 rfl hl (by decide) rfl (fun ls hl => ?_)
    refine lv_ldcw hx hb E.ow (E.ts _ cnX11_307) dX11_asks_19 ?_
    refine lv_istore_n (lv' := [(3, .int (1000000 : Int32)), (2, .int (-1 : Int32)), (1, .int y6.1), (0, .ref q0)]) hx hb dX11_asks_22 rfl hl (by decide) rfl (fun ls hl => ?_)
    refine lv_iconst (v := 0) hx hb dX11_asks_23 (by decide) ?_
    refine lv_istore (lv' := [(4, .int (0 : Int32)), (3, .int (1000000 : Int32)), (2, .int (-1 : Int32)), (1, .int y6.1), (0, .ref q0)]) hx hb dX11_asks_24 hl (by decide) rfl (fun ls hl => ?_)
    have hL26 : ∀ (n : Nat) (x26_0 : Int32) (x26_1 : Int32) (x26_2 : Int32) (x26_3 : Int32) (x26_4 : Int32) (x26_5 : Int32) (x26_6 : Int32) (x26_7 : Int32) (x26_8 : Nat → Int32) (y26 : Int32 × Int32 × Int32 × Int32 × Int32 × Int32 × Int32 × (Nat → Int32)) (rv26_0 : Value) (H : Heap) (locs : List Loc) (ls : Array Slot), lp (fun x26 => X11_asks_s26 v_people v_ruleSize v_now v_rule y6 x26.1 x26.2.1 x26.2.2.1 x26.2.2.2.1 x26.2.2.2.2.1 x26.2.2.2.2.2.1 x26.2.2.2.2.2.2.1 x26.2.2.2.2.2.2.2.1 x26.2.2.2.2.2.2.2.2) n (x26_0, x26_1, x26_2, x26_3, x26_4, x26_5, x26_6, x26_7, x26_8) = some y26 → Sv D A s.heap [oX11 q0 (.ref q1) (.int v_people) u0_2 u0_3 (.ref q2) (.int v_rowMany) (.int (0 : Int32)) rv26_0 (.int x26_3) (.int x26_4) (.int x26_5) (.int x26_6) u0_12 (.ref q3) u0_14 (.int v_ruleSize) (.int x26_7) (.ref q4) u0_18 u0_19 u0_20 u0_21 u0_22 u0_23 u0_24 u0_25 u0_26 u0_27 u0_28 (.ref q5) (.ref q6) (.int v_heardMany) u0_32 u0_33 u0_34 u0_35 u0_36 u0_37 u0_38 u0_39 u0_40, aI cy q1 37 v_now, aJ cy q2 16 v_row, aB cy q3 40 v_rule, aI cy q4 7 x26_8, aI cy q5 12 v_heardOf, aI cy q6 12 v_heardBy] H locs → lv_has ls 7 [(0, .ref q0), (1, .int y6.1), (2, .int x26_0), (3, .int x26_1), (4, .int x26_2)] → ( ∀ (y26_0 : Int32) (y26_1 : Int32) (y26_2 : Int32) (y26_3 : Int32) (y26_4 : Int32) (y26_5 : Int32) (y26_6 : Int32) (y26_7 : Nat → Int32), (y26_0, y26_1, y26_2, y26_3, y26_4, y26_5, y26_6, y26_7) = y26 → ∀ (rv26_0 : Value), ∀ (H : Heap) (locs : List Loc) (ls : Array Slot), Sv D A s.heap [oX11 q0 (.ref q1) (.int v_people) u0_2 u0_3 (.ref q2) (.int v_rowMany) (.int (0 : Int32)) rv26_0 (.int y26_2) (.int y26_3) (.int y26_4) (.int y26_5) u0_12 (.ref q3) u0_14 (.int v_ruleSize) (.int y26_6) (.ref q4) u0_18 u0_19 u0_20 u0_21 u0_22 u0_23 u0_24 u0_25 u0_26 u0_27 u0_28 (.ref q5) (.ref q6) (.int v_heardMany) u0_32 u0_33 u0_34 u0_35 u0_36 u0_37 u0_38 u0_39 u0_40, aI cy q1 37 v_now, aJ cy q2 16 v_row, aB cy q3 40 v_rule, aI cy q4 7 y26_7, aI cy q5 12 v_heardOf, aI cy q6 12 v_heardBy] H locs → lv_has ls 7 [(0, .ref q0), (2, .int y26_0), (3, .int y26_1)] → W p l e R s m args below meth c H locs 0 0 Q (F0 m 166 ls [])) → W p l e R s m args below meth c H locs 0 0 Q (F0 m 26 ls []) := by
      intro n
      induction n with
      | zero =>
        intro x26_0 x26_1 x26_2 x26_3 x26_4 x26_5 x26_6 x26_7 x26_8 y26 rv26_0 H locs ls h
        exact lp_zero h
      | succ n ih26 =>
        intro x26_0 x26_1 x26_2 x26_3 x26_4 x26_5 x26_6 x26_7 x26_8 y26 rv26_0 H locs ls h hS hl hk26_0
        obtain ⟨z26, h, hz26a, hz26b⟩ := lp_succ h
        have h : X11_asks_s26 v_people v_ruleSize v_now v_rule y6 x26_0 x26_1 x26_2 x26_3 x26_4 x26_5 x26_6 x26_7 x26_8 = some z26 := h
        unfold X11_asks_s26 at h
        refine lv_iload hx hb dX11_asks_26 (lv_at hl 4 rfl) ?_
        refine lv_bipush (v := 47) hx hb dX11_asks_28 (by decide) ?_
        refine lv_icmp_ge (tgt := 166) hx hb dX11_asks_30 (by decide) (fun c4 => ?_) (fun c4 => ?_)
        · have h := it_pos c4 h
          exact hk26_0 x26_0 x26_1 x26_3 x26_4 x26_5 x26_6 x26_7 x26_8 (hz26b _ (Option.some.inj h).symm) rv26_0 H locs ls hS (lv_sub hl [0, 2, 3] rfl)
        · have h := it_neg c4 h
          refine lv_iload hx hb dX11_asks_33 (lv_at hl 4 rfl) ?_
          refine lv_bipush (v := 10) hx hb dX11_asks_35 (by decide) ?_
          refine lv_bipush (v := 19) hx hb dX11_asks_37 (by decide) ?_
          refine ct_S (ws' := fun _ => [oX11 q0 (.ref q1) (.int v_people) u0_2 u0_3 (.ref q2) (.int v_rowMany) (.int (0 : Int32)) rv26_0 (.int x26_3) (.int x26_4) (.int x26_5) (.int x26_6) u0_12 (.ref q3) u0_14 (.int v_ruleSize) (.int x26_7) (.ref q4) u0_18 u0_19 u0_20 u0_21 u0_22 u0_23 u0_24 u0_25 u0_26 u0_27 u0_28 (.ref q5) (.ref q6) (.int v_heardMany) u0_32 u0_33 u0_34 u0_35 u0_36 u0_37 u0_38 u0_39 u0_40, aI cy q1 37 v_now, aJ cy q2 16 v_row, aB cy q3 40 v_rule, aI cy q4 7 x26_8, aI cy q5 12 v_heardOf, aI cy q6 12 v_heardBy]) (st' := [.int (X11_in x26_2 (10 : Int32) (19 : Int32))]) (rest := []) E hS slX11_95 (c_X11_in (l := l) (D := D) (cy := cy) (p0 := x26_2) (p1 := (10 : Int32)) (p2 := (19 : Int32)) (r := (X11_in x26_2 (10 : Int32) (19 : Int32))) rfl) [] rfl rfl (fun _ => rfl) (fun _ => rfl) rfl rfl (Nat.le_of_ble_eq_true rfl) hl.1 (by rw [hRf]; exact Nat.le_of_ble_eq_true rfl) (by rw [hRl]; exact Nat.le_of_ble_eq_true rfl) ⟨Nat.zero_le _, Nat.zero_le _⟩ dX11_asks_39 rfl (fun H locs _ hS => ?_)
          refine lv_if_ne (tgt := 160) hx hb dX11_asks_42 (by decide) (fun c5 => ?_) (fun c5 => ?_)
          · have h := it_neg c5 h
            refine lv_iinc (v := (x26_2 + (1 : Int32))) (lv' := [(4, .int (x26_2 + (1 : Int32))), (0, .ref q0), (1, .int y6.1), (2, .int x26_0), (3, .int x26_1)]) hx hb dX11_asks_160 hl (k := 4) rfl rfl (by decide) rfl (fun ls hl => ?_)
            refine lv_goto (tgt := 26) hx hb dX11_asks_163 (by decide) ?_
            exact ih26 x26_0 x26_1 (x26_2 + (1 : Int32)) x26_3 x26_4 x26_5 x26_6 x26_7 x26_8 y26 rv26_0 H locs ls (hz26a _ (Option.some.inj h).symm) hS (lv_sub hl [1, 2, 3, 4, 0] rfl) hk26_0
          · have h := it_pos c5 h
            refine lv_iload hx hb dX11_asks_45 (lv_at hl 4 rfl) ?_
            refine lv_bipush (v := 22) hx hb dX11_asks_47 (by decide) ?_
            refine lv_bipush (v := 29) hx hb dX11_asks_49 (by decide) ?_
            refine ct_S (ws' := fun _ => [oX11 q0 (.ref q1) (.int v_people) u0_2 u0_3 (.ref q2) (.int v_rowMany) (.int (0 : Int32)) rv26_0 (.int x26_3) (.int x26_4) (.int x26_5) (.int x26_6) u0_12 (.ref q3) u0_14 (.int v_ruleSize) (.int x26_7) (.ref q4) u0_18 u0_19 u0_20 u0_21 u0_22 u0_23 u0_24 u0_25 u0_26 u0_27 u0_28 (.ref q5) (.ref q6) (.int v_heardMany) u0_32 u0_33 u0_34 u0_35 u0_36 u0_37 u0_38 u0_39 u0_40, aI cy q1 37 v_now, aJ cy q2 16 v_row, aB cy q3 40 v_rule, aI cy q4 7 x26_8, aI cy q5 12 v_heardOf, aI cy q6 12 v_heardBy]) (st' := [.int (X11_in x26_2 (22 : Int32) (29 : Int32))]) (rest := []) E hS slX11_95 (c_X11_in (l := l) (D := D) (cy := cy) (p0 := x26_2) (p1 := (22 : Int32)) (p2 := (29 : Int32)) (r := (X11_in x26_2 (22 : Int32) (29 : Int32))) rfl) [] rfl rfl (fun _ => rfl) (fun _ => rfl) rfl rfl (Nat.le_of_ble_eq_true rfl) hl.1 (by rw [hRf]; exact Nat.le_of_ble_eq_true rfl) (by rw [hRl]; exact Nat.le_of_ble_eq_true rfl) ⟨Nat.zero_le _, Nat.zero_le _⟩ dX11_asks_51 rfl (fun H locs _ hS => ?_)
            refine lv_if_ne (tgt := 160) hx hb dX11_asks_54 (by decide) (fun c6 => ?_) (fun c6 => ?_)
            · have h := it_neg c6 h
              refine lv_iinc (v := (x26_2 + (1 : Int32))) (lv' := [(4, .int (x26_2 + (1 : Int32))), (0, .ref q0), (1, .int y6.1), (2, .int x26_0), (3, .int x26_1)]) hx hb dX11_asks_160 hl (k := 4) rfl rfl (by decide) rfl (fun ls hl => ?_)
              refine lv_goto (tgt := 26) hx hb dX11_asks_163 (by decide) ?_
              exact ih26 x26_0 x26_1 (x26_2 + (1 : Int32)) x26_3 x26_4 x26_5 x26_6 x26_7 x26_8 y26 rv26_0 H locs ls (hz26a _ (Option.some.inj h).symm) hS (lv_sub hl [1, 2, 3, 4, 0] rfl) hk26_0
            · have h := it_pos c6 h
              refine lv_iload hx hb dX11_asks_57 (lv_at hl 4 rfl) ?_
              refine lv_bipush (v := 37) hx hb dX11_asks_59 (by decide) ?_
              refine lv_bipush (v := 39) hx hb dX11_asks_61 (by decide) ?_
              refine ct_S (ws' := fun _ => [oX11 q0 (.ref q1) (.int v_people) u0_2 u0_3 (.ref q2) (.int v_rowMany) (.int (0 : Int32)) rv26_0 (.int x26_3) (.int x26_4) (.int x26_5) (.int x26_6) u0_12 (.ref q3) u0_14 (.int v_ruleSize) (.int x26_7) (.ref q4) u0_18 u0_19 u0_20 u0_21 u0_22 u0_23 u0_24 u0_25 u0_26 u0_27 u0_28 (.ref q5) (.ref q6) (.int v_heardMany) u0_32 u0_33 u0_34 u0_35 u0_36 u0_37 u0_38 u0_39 u0_40, aI cy q1 37 v_now, aJ cy q2 16 v_row, aB cy q3 40 v_rule, aI cy q4 7 x26_8, aI cy q5 12 v_heardOf, aI cy q6 12 v_heardBy]) (st' := [.int (X11_in x26_2 (37 : Int32) (39 : Int32))]) (rest := []) E hS slX11_95 (c_X11_in (l := l) (D := D) (cy := cy) (p0 := x26_2) (p1 := (37 : Int32)) (p2 := (39 : Int32)) (r := (X11_in x26_2 (37 : Int32) (39 : Int32))) rfl) [] rfl rfl (fun _ => rfl) (fun _ => rfl) rfl rfl (Nat.le_of_ble_eq_true rfl) hl.1 (by rw [hRf]; exact Nat.le_of_ble_eq_true rfl) (by rw [hRl]; exact Nat.le_of_ble_eq_true rfl) ⟨Nat.zero_le _, Nat.zero_le _⟩ dX11_asks_63 rfl (fun H locs _ hS => ?_)
              refine lv_if_eq (tgt := 72) hx hb dX11_asks_66 (by decide) (fun c7 => ?_) (fun c7 => ?_)
              · have h := it_pos c7 h
                refine lv_iconst (v := 0) hx hb dX11_asks_72 (by decide) ?_
                refine lv_istore (lv' := [(5, .int (0 : Int32)), (0, .ref q0), (1, .int y6.1), (2, .int x26_0), (3, .int x26_1), (4, .int x26_2)]) hx hb dX11_asks_73 hl (by decide) rfl (fun ls hl => ?_)
                refine lv_iconst (v := 0) hx hb dX11_asks_75 (by decide) ?_
                refine lv_istore (lv' := [(6, .int (0 : Int32)), (5, .int (0 : Int32)), (0, .ref q0), (1, .int y6.1), (2, .int x26_0), (3, .int x26_1), (4, .int x26_2)]) hx hb dX11_asks_76 hl (by decide) rfl (fun ls hl => ?_)
                have hL78 : ∀ (n : Nat) (x78_0 : Int32) (x78_1 : Int32) (x78_2 : Int32) (x78_3 : Int32) (x78_4 : Int32) (x78_5 : Int32) (x78_6 : Int32) (x78_7 : Nat → Int32) (y78 : Int32 × Int32 × Int32 × Int32 × Int32 × Int32 × (Nat → Int32)) (rv78_0 : Value) (H : Heap) (locs : List Loc) (ls : Array Slot), lp (fun x78 => X11_asks_s78 v_people v_ruleSize v_now v_rule y6 x26_2 x78.1 x78.2.1 x78.2.2.1 x78.2.2.2.1 x78.2.2.2.2.1 x78.2.2.2.2.2.1 x78.2.2.2.2.2.2.1 x78.2.2.2.2.2.2.2) n (x78_0, x78_1, x78_2, x78_3, x78_4, x78_5, x78_6, x78_7) = some y78 → Sv D A s.heap [oX11 q0 (.ref q1) (.int v_people) u0_2 u0_3 (.ref q2) (.int v_rowMany) (.int (0 : Int32)) rv78_0 (.int x78_2) (.int x78_3) (.int x78_4) (.int x78_5) u0_12 (.ref q3) u0_14 (.int v_ruleSize) (.int x78_6) (.ref q4) u0_18 u0_19 u0_20 u0_21 u0_22 u0_23 u0_24 u0_25 u0_26 u0_27 u0_28 (.ref q5) (.ref q6) (.int v_heardMany) u0_32 u0_33 u0_34 u0_35 u0_36 u0_37 u0_38 u0_39 u0_40, aI cy q1 37 v_now, aJ cy q2 16 v_row, aB cy q3 40 v_rule, aI cy q4 7 x78_7, aI cy q5 12 v_heardOf, aI cy q6 12 v_heardBy] H locs → lv_has ls 7 [(0, .ref q0), (1, .int y6.1), (2, .int x26_0), (3, .int x26_1), (4, .int x26_2), (5, .int x78_0), (6, .int x78_1)] → ( ∀ (y78_0 : Int32) (y78_1 : Int32) (y78_2 : Int32) (y78_3 : Int32) (y78_4 : Int32) (y78_5 : Int32) (y78_6 : Nat → Int32), (y78_0, y78_1, y78_2, y78_3, y78_4, y78_5, y78_6) = y78 → ∀ (rv78_0 : Value), ∀ (H : Heap) (locs : List Loc) (ls : Array Slot), Sv D A s.heap [oX11 q0 (.ref q1) (.int v_people) u0_2 u0_3 (.ref q2) (.int v_rowMany) (.int (0 : Int32)) rv78_0 (.int y78_1) (.int y78_2) (.int y78_3) (.int y78_4) u0_12 (.ref q3) u0_14 (.int v_ruleSize) (.int y78_5) (.ref q4) u0_18 u0_19 u0_20 u0_21 u0_22 u0_23 u0_24 u0_25 u0_26 u0_27 u0_28 (.ref q5) (.ref q6) (.int v_heardMany) u0_32 u0_33 u0_34 u0_35 u0_36 u0_37 u0_38 u0_39 u0_40, aI cy q1 37 v_now, aJ cy q2 16 v_row, aB cy q3 40 v_rule, aI cy q4 7 y78_6, aI cy q5 12 v_heardOf, aI cy q6 12 v_heardBy] H locs → lv_has ls 7 [(0, .ref q0), (1, .int y6.1), (2, .int x26_0), (3, .int x26_1), (4, .int x26_2), (5, .int y78_0)] → W p l e R s m args below meth c H locs 0 0 Q (F0 m 131 ls [])) → W p l e R s m args below meth c H locs 0 0 Q (F0 m 78 ls []) := by
                  intro n
                  induction n with
                  | zero =>
                    intro x78_0 x78_1 x78_2 x78_3 x78_4 x78_5 x78_6 x78_7 y78 rv78_0 H locs ls h
                    exact lp_zero h
                  | succ n ih78 =>
                    intro x78_0 x78_1 x78_2 x78_3 x78_4 x78_5 x78_6 x78_7 y78 rv78_0 H locs ls h hS hl hk78_0
                    obtain ⟨z78, h, hz78a, hz78b⟩ := lp_succ h
                    have h : X11_asks_s78 v_people v_ruleSize v_now v_rule y6 x26_2 x78_0 x78_1 x78_2 x78_3 x78_4 x78_5 x78_6 x78_7 = some z78 := h
                    unfold X11_asks_s78 at h
                    refine lv_iload hx hb dX11_asks_78 (lv_at hl 6 rfl) ?_
                    refine lv_aload_n hx hb dX11_asks_80 rfl (lv_at hl 0 rfl) ?_
                    refine r_get E frX11_92 hS 0 rfl rfl dX11_asks_81 ?_
                    refine lv_icmp_ge (tgt := 131) hx hb dX11_asks_84 (by decide) (fun c8 => ?_) (fun c8 => ?_)
                    · have h := it_pos c8 h
                      exact hk78_0 x78_0 x78_2 x78_3 x78_4 x78_5 x78_6 x78_7 (hz78b _ (Option.some.inj h).symm) rv78_0 H locs ls hS (lv_sub hl [0, 1, 2, 3, 4, 5] rfl)
                    · have h := it_neg c8 h
                      refine lv_iload hx hb dX11_asks_87 (lv_at hl 5 rfl) ?_
                      refine lv_iload_n hx hb dX11_asks_89 rfl (lv_at hl 1 rfl) ?_
                      refine lv_iload hx hb dX11_asks_90 (lv_at hl 6 rfl) ?_
                      refine ct_S (ws' := fun _ => [oX11 q0 (.ref q1) (.int v_people) u0_2 u0_3 (.ref q2) (.int v_rowMany) (.int (0 : Int32)) rv78_0 (.int x78_2) (.int x78_3) (.int x78_4) (.int x78_5) u0_12 (.ref q3) u0_14 (.int v_ruleSize) (.int x78_6) (.ref q4) u0_18 u0_19 u0_20 u0_21 u0_22 u0_23 u0_24 u0_25 u0_26 u0_27 u0_28 (.ref q5) (.ref q6) (.int v_heardMany) u0_32 u0_33 u0_34 u0_35 u0_36 u0_37 u0_38 u0_39 u0_40, aI cy q1 37 v_now, aJ cy q2 16 v_row, aB cy q3 40 v_rule, aI cy q4 7 x78_7, aI cy q5 12 v_heardOf, aI cy q6 12 v_heardBy]) (st' := [.int (X11_has y6.1 x78_1), .int x78_0]) (rest := [.int x78_0]) E hS slX11_196 (c_X11_has (l := l) (D := D) (cy := cy) (p0 := y6.1) (p1 := x78_1) (r := (X11_has y6.1 x78_1)) rfl) [] rfl rfl (fun _ => rfl) (fun _ => rfl) rfl rfl (Nat.le_of_ble_eq_true rfl) hl.1 (by rw [hRf]; exact Nat.le_of_ble_eq_true rfl) (by rw [hRl]; exact Nat.le_of_ble_eq_true rfl) ⟨Nat.zero_le _, Nat.zero_le _⟩ dX11_asks_92 rfl (fun H locs _ hS => ?_)
                      refine lv_if_eq (tgt := 121) hx hb dX11_asks_95 (by decide) (fun c9 => ?_) (fun c9 => ?_)
                      · have h := it_pos c9 h
                        refine lv_iconst (v := 0) hx hb dX11_asks_121 (by decide) ?_
                        refine lv_iadd hx hb dX11_asks_122 ?_
                        refine lv_istore (lv' := [(5, .int (x78_0 + (0 : Int32))), (0, .ref q0), (1, .int y6.1), (2, .int x26_0), (3, .int x26_1), (4, .int x26_2), (6, .int x78_1)]) hx hb dX11_asks_123 hl (by decide) rfl (fun ls hl => ?_)
                        refine lv_iinc (v := (x78_1 + (1 : Int32))) (lv' := [(6, .int (x78_1 + (1 : Int32))), (5, .int (x78_0 + (0 : Int32))), (0, .ref q0), (1, .int y6.1), (2, .int x26_0), (3, .int x26_1), (4, .int x26_2)]) hx hb dX11_asks_125 hl (k := 6) rfl rfl (by decide) rfl (fun ls hl => ?_)
                        refine lv_goto (tgt := 78) hx hb dX11_asks_128 (by decide) ?_
                        exact ih78 (x78_0 + (0 : Int32)) (x78_1 + (1 : Int32)) x78_2 x78_3 x78_4 x78_5 x78_6 x78_7 y78 rv78_0 H locs ls (hz78a _ (Option.some.inj h).symm) hS (lv_sub hl [2, 3, 4, 5, 6, 1, 0] rfl) hk78_0
                      · have h := it_neg c9 h
                        refine lv_aload_n hx hb dX11_asks_98 rfl (lv_at hl 0 rfl) ?_
                        refine lv_iload hx hb dX11_asks_99 (lv_at hl 6 rfl) ?_
                        refine lv_iload hx hb dX11_asks_101 (lv_at hl 4 rfl) ?_
                        refine lv_bipush (v := 10) hx hb dX11_asks_103 (by decide) ?_
                        obtain ⟨g10, h⟩ := gz_some h
                        refine lv_idiv hx hb dX11_asks_105 g10 ?_
                        refine lv_iload hx hb dX11_asks_106 (lv_at hl 4 rfl) ?_
                        refine lv_bipush (v := 10) hx hb dX11_asks_108 (by decide) ?_
                        obtain ⟨g11, h⟩ := gz_some h
                        refine lv_irem hx hb dX11_asks_110 g11 ?_
                        obtain ⟨y111, e12, h⟩ := bd_some h
                        refine ct_V (ws' := fun rc13 => [oX11 q0 (.ref q1) (.int v_people) u0_2 u0_3 (.ref q2) (.int v_rowMany) (.int (0 : Int32)) rc13 (.int y111.2.1) (.int y111.2.2.1) (.int y111.2.2.2.1) (.int y111.2.2.2.2.1) u0_12 (.ref q3) u0_14 (.int v_ruleSize) (.int y111.2.2.2.2.2.1) (.ref q4) u0_18 u0_19 u0_20 u0_21 u0_22 u0_23 u0_24 u0_25 u0_26 u0_27 u0_28 (.ref q5) (.ref q6) (.int v_heardMany) u0_32 u0_33 u0_34 u0_35 u0_36 u0_37 u0_38 u0_39 u0_40, aI cy q1 37 v_now, aJ cy q2 16 v_row, aB cy q3 40 v_rule, aI cy q4 7 y111.2.2.2.2.2.2, aI cy q5 12 v_heardOf, aI cy q6 12 v_heardBy]) (st' := [.int y111.1, .int x78_0]) (rest := [.int x78_0]) E hS vlX11_329 (c_X11_isSo (l := l) (D := D) (cy := cy) (q0 := q0) (q1 := q1) (q2 := q3) (q3 := q4) (u0_2 := u0_2) (u0_3 := u0_3) (u0_4 := .ref q2) (u0_5 := .int v_rowMany) (u0_6 := .int (0 : Int32)) (u0_7 := rv78_0) (u0_12 := u0_12) (u0_14 := u0_14) (u0_18 := u0_18) (u0_19 := u0_19) (u0_20 := u0_20) (u0_21 := u0_21) (u0_22 := u0_22) (u0_23 := u0_23) (u0_24 := u0_24) (u0_25 := u0_25) (u0_26 := u0_26) (u0_27 := u0_27) (u0_28 := u0_28) (u0_29 := .ref q5) (u0_30 := .ref q6) (u0_31 := .int v_heardMany) (u0_32 := u0_32) (u0_33 := u0_33) (u0_34 := u0_34) (u0_35 := u0_35) (u0_36 := u0_36) (u0_37 := u0_37) (u0_38 := u0_38) (u0_39 := u0_39) (u0_40 := u0_40) (v_people := v_people) (v_length := x78_2) (v_top := x78_3) (v_at := x78_4) (v_wrong := x78_5) (v_ruleSize := v_ruleSize) (v_isAsked := x78_6) (v_now := v_now) (v_rule := v_rule) (v_asked := x78_7) (p1 := x78_1) (p2 := (x26_2 / (10 : Int32))) (p3 := (irem x26_2 (10 : Int32))) (r := y111) e12) [0, 1, 3, 4] rfl rfl (fun _ => rfl) (fun _ => rfl) rfl rfl rfl rfl (Nat.le_of_ble_eq_true rfl) hl.1 (by rw [hRf]; exact Nat.le_of_ble_eq_true rfl) (by rw [hRl]; exact Nat.le_of_ble_eq_true rfl) ⟨Nat.zero_le _, Nat.zero_le _⟩ dX11_asks_111 rfl (fun H locs rc13 hS => ?_)
                        refine lv_if_eq (tgt := 121) hx hb dX11_asks_114 (by decide) (fun c14 => ?_) (fun c14 => ?_)
                        · have h := it_pos c14 h
                          refine lv_iconst (v := 0) hx hb dX11_asks_121 (by decide) ?_
                          refine lv_iadd hx hb dX11_asks_122 ?_
                          refine lv_istore (lv' := [(5, .int (x78_0 + (0 : Int32))), (0, .ref q0), (1, .int y6.1), (2, .int x26_0), (3, .int x26_1), (4, .int x26_2), (6, .int x78_1)]) hx hb dX11_asks_123 hl (by decide) rfl (fun ls hl => ?_)
                          refine lv_iinc (v := (x78_1 + (1 : Int32))) (lv' := [(6, .int (x78_1 + (1 : Int32))), (5, .int (x78_0 + (0 : Int32))), (0, .ref q0), (1, .int y6.1), (2, .int x26_0), (3, .int x26_1), (4, .int x26_2)]) hx hb dX11_asks_125 hl (k := 6) rfl rfl (by decide) rfl (fun ls hl => ?_)
                          refine lv_goto (tgt := 78) hx hb dX11_asks_128 (by decide) ?_
                          exact ih78 (x78_0 + (0 : Int32)) (x78_1 + (1 : Int32)) y111.2.1 y111.2.2.1 y111.2.2.2.1 y111.2.2.2.2.1 y111.2.2.2.2.2.1 y111.2.2.2.2.2.2 y78 rc13 H locs ls (hz78a _ (Option.some.inj h).symm) hS (lv_sub hl [2, 3, 4, 5, 6, 1, 0] rfl) hk78_0
                        · have h := it_neg c14 h
                          refine lv_iconst (v := 1) hx hb dX11_asks_117 (by decide) ?_
                          refine lv_goto (tgt := 122) hx hb dX11_asks_118 (by decide) ?_
                          refine lv_iadd hx hb dX11_asks_122 ?_
                          refine lv_istore (lv' := [(5, .int (x78_0 + (1 : Int32))), (0, .ref q0), (1, .int y6.1), (2, .int x26_0), (3, .int x26_1), (4, .int x26_2), (6, .int x78_1)]) hx hb dX11_asks_123 hl (by decide) rfl (fun ls hl => ?_)
                          refine lv_iinc (v := (x78_1 + (1 : Int32))) (lv' := [(6, .int (x78_1 + (1 : Int32))), (5, .int (x78_0 + (1 : Int32))), (0, .ref q0), (1, .int y6.1), (2, .int x26_0), (3, .int x26_1), (4, .int x26_2)]) hx hb dX11_asks_125 hl (k := 6) rfl rfl (by decide) rfl (fun ls hl => ?_)
                          refine lv_goto (tgt := 78) hx hb dX11_asks_128 (by decide) ?_
                          exact ih78 (x78_0 + (1 : Int32)) (x78_1 + (1 : Int32)) y111.2.1 y111.2.2.1 y111.2.2.2.1 y111.2.2.2.2.1 y111.2.2.2.2.2.1 y111.2.2.2.2.2.2 y78 rc13 H locs ls (hz78a _ (Option.some.inj h).symm) hS (lv_sub hl [2, 3, 4, 5, 6, 1, 0] rfl) hk78_0
                obtain ⟨y78, e78, h⟩ := bd_some h
                refine hL78 1000 (0 : Int32) (0 : Int32) x26_3 x26_4 x26_5 x26_6 x26_7 x26_8 y78 rv26_0 H locs ls e78 hS (lv_sub hl [2, 3, 4, 5, 6, 1, 0] rfl) (fun y78_0 y78_1 y78_2 y78_3 y78_4 y78_5 y78_6 ey78 rw78_0 H locs ls hS hl => ?_)
                subst ey78
                have h := un_r h
                have h := un_r h
                have h := un_r h
                have h := un_r h
                have h := un_r h
                have h := un_r h
                refine lv_iload hx hb dX11_asks_131 (lv_at hl 5 rfl) ?_
                refine lv_iload_n hx hb dX11_asks_133 rfl (lv_at hl 1 rfl) ?_
                refine ct_S (ws' := fun _ => [oX11 q0 (.ref q1) (.int v_people) u0_2 u0_3 (.ref q2) (.int v_rowMany) (.int (0 : Int32)) rw78_0 (.int y78_1) (.int y78_2) (.int y78_3) (.int y78_4) u0_12 (.ref q3) u0_14 (.int v_ruleSize) (.int y78_5) (.ref q4) u0_18 u0_19 u0_20 u0_21 u0_22 u0_23 u0_24 u0_25 u0_26 u0_27 u0_28 (.ref q5) (.ref q6) (.int v_heardMany) u0_32 u0_33 u0_34 u0_35 u0_36 u0_37 u0_38 u0_39 u0_40, aI cy q1 37 v_now, aJ cy q2 16 v_row, aB cy q3 40 v_rule, aI cy q4 7 y78_6, aI cy q5 12 v_heardOf, aI cy q6 12 v_heardBy]) (st' := [.int (J6_bitCount_0f7a4 y6.1), .int y78_0]) (rest := [.int y78_0]) E hS slX11_204 (c_J6_bitCount_0f7a4 (l := l) (D := D) (cy := cy) (p0 := y6.1) (r := (J6_bitCount_0f7a4 y6.1)) rfl) [] rfl rfl (fun _ => rfl) (fun _ => rfl) rfl rfl (Nat.le_of_ble_eq_true rfl) hl.1 (by rw [hRf]; exact Nat.le_of_ble_eq_true rfl) (by rw [hRl]; exact Nat.le_of_ble_eq_true rfl) ⟨Nat.zero_le _, Nat.zero_le _⟩ dX11_asks_134 rfl (fun H locs _ hS => ?_)
                refine lv_iload hx hb dX11_asks_137 (lv_at hl 5 rfl) ?_
                refine lv_isub hx hb dX11_asks_139 ?_
                refine ct_S (ws' := fun _ => [oX11 q0 (.ref q1) (.int v_people) u0_2 u0_3 (.ref q2) (.int v_rowMany) (.int (0 : Int32)) rw78_0 (.int y78_1) (.int y78_2) (.int y78_3) (.int y78_4) u0_12 (.ref q3) u0_14 (.int v_ruleSize) (.int y78_5) (.ref q4) u0_18 u0_19 u0_20 u0_21 u0_22 u0_23 u0_24 u0_25 u0_26 u0_27 u0_28 (.ref q5) (.ref q6) (.int v_heardMany) u0_32 u0_33 u0_34 u0_35 u0_36 u0_37 u0_38 u0_39 u0_40, aI cy q1 37 v_now, aJ cy q2 16 v_row, aB cy q3 40 v_rule, aI cy q4 7 y78_6, aI cy q5 12 v_heardOf, aI cy q6 12 v_heardBy]) (st' := [.int (J9_max_7cf53 y78_0 ((J6_bitCount_0f7a4 y6.1) - y78_0))]) (rest := []) E hS slX11_229 (c_J9_max_7cf53 (l := l) (D := D) (cy := cy) (p0 := y78_0) (p1 := ((J6_bitCount_0f7a4 y6.1) - y78_0)) (r := (J9_max_7cf53 y78_0 ((J6_bitCount_0f7a4 y6.1) - y78_0))) rfl) [] rfl rfl (fun _ => rfl) (fun _ => rfl) rfl rfl (Nat.le_of_ble_eq_true rfl) hl.1 (by rw [hRf]; exact Nat.le_of_ble_eq_true rfl) (by rw [hRl]; exact Nat.le_of_ble_eq_true rfl) ⟨Nat.zero_le _, Nat.zero_le _⟩ dX11_asks_140 rfl (fun H locs _ hS => ?_)
                refine lv_istore (lv' := [(6, .int (J9_max_7cf53 y78_0 ((J6_bitCount_0f7a4 y6.1) - y78_0))), (0, .ref q0), (1, .int y6.1), (2, .int x26_0), (3, .int x26_1), (4, .int x26_2), (5, .int y78_0)]) hx hb dX11_asks_143 hl (by decide) rfl (fun ls hl => ?_)
                refine lv_iload hx hb dX11_asks_145 (lv_at hl 0 rfl) ?_
                refine lv_iload_n hx hb dX11_asks_147 rfl (lv_at hl 4 rfl) ?_
                refine lv_icmp_lt (tgt := 154) hx hb dX11_asks_148 (by decide) (fun c15 => ?_) (fun c15 => ?_)
                · have h := it_pos c15 h
                  refine lv_iload hx hb dX11_asks_154 (lv_at hl 5 rfl) ?_
                  refine lv_istore_n (lv' := [(2, .int x26_2), (6, .int (J9_max_7cf53 y78_0 ((J6_bitCount_0f7a4 y6.1) - y78_0))), (0, .ref q0), (1, .int y6.1), (3, .int x26_1), (4, .int x26_2), (5, .int y78_0)]) hx hb dX11_asks_156 rfl hl (by decide) rfl (fun ls hl => ?_)
                  refine lv_iload hx hb dX11_asks_157 (lv_at hl 1 rfl) ?_
                  refine lv_istore_n (lv' := [(3, .int (J9_max_7cf53 y78_0 ((J6_bitCount_0f7a4 y6.1) - y78_0))), (2, .int x26_2), (6, .int (J9_max_7cf53 y78_0 ((J6_bitCount_0f7a4 y6.1) - y78_0))), (0, .ref q0), (1, .int y6.1), (4, .int x26_2), (5, .int y78_0)]) hx hb dX11_asks_159 rfl hl (by decide) rfl (fun ls hl => ?_)
                  refine lv_iinc (v := (x26_2 + (1 : Int32))) (lv' := [(4, .int (x26_2 + (1 : Int32))), (3, .int (J9_max_7cf53 y78_0 ((J6_bitCount_0f7a4 y6.1) - y78_0))), (2, .int x26_2), (6, .int (J9_max_7cf53 y78_0 ((J6_bitCount_0f7a4 y6.1) - y78_0))), (0, .ref q0), (1, .int y6.1), (5, .int y78_0)]) hx hb dX11_asks_160 hl (k := 5) rfl rfl (by decide) rfl (fun ls hl => ?_)
                  refine lv_goto (tgt := 26) hx hb dX11_asks_163 (by decide) ?_
                  exact ih26 x26_2 (J9_max_7cf53 y78_0 ((J6_bitCount_0f7a4 y6.1) - y78_0)) (x26_2 + (1 : Int32)) y78_1 y78_2 y78_3 y78_4 y78_5 y78_6 y26 rw78_0 H locs ls (hz26a _ (Option.some.inj h).symm) hS (lv_sub hl [4, 5, 2, 1, 0] rfl) hk26_0
                · have h := it_neg c15 h
                  refine lv_goto (tgt := 160) hx hb dX11_asks_151 (by decide) ?_
                  refine lv_iinc (v := (x26_2 + (1 : Int32))) (lv' := [(4, .int (x26_2 + (1 : Int32))), (6, .int (J9_max_7cf53 y78_0 ((J6_bitCount_0f7a4 y6.1) - y78_0))), (0, .ref q0), (1, .int y6.1), (2, .int x26_0), (3, .int x26_1), (5, .int y78_0)]) hx hb dX11_asks_160 hl (k := 5) rfl rfl (by decide) rfl (fun ls hl => ?_)
                  refine lv_goto (tgt := 26) hx hb dX11_asks_163 (by decide) ?_
                  exact ih26 x26_0 x26_1 (x26_2 + (1 : Int32)) y78_1 y78_2 y78_3 y78_4 y78_5 y78_6 y26 rw78_0 H locs ls (hz26a _ (Option.some.inj h).symm) hS (lv_sub hl [2, 3, 4, 5, 0] rfl) hk26_0
              · have h := it_neg c7 h
                refine lv_goto (tgt := 160) hx hb dX11_asks_69 (by decide) ?_
                refine lv_iinc (v := (x26_2 + (1 : Int32))) (lv' := [(4, .int (x26_2 + (1 : Int32))), (0, .ref q0), (1, .int y6.1), (2, .int x26_0), (3, .int x26_1)]) hx hb dX11_asks_160 hl (k := 4) rfl rfl (by decide) rfl (fun ls hl => ?_)
                refine lv_goto (tgt := 26) hx hb dX11_asks_163 (by decide) ?_
                exact ih26 x26_0 x26_1 (x26_2 + (1 : Int32)) x26_3 x26_4 x26_5 x26_6 x26_7 x26_8 y26 rv26_0 H locs ls (hz26a _ (Option.some.inj h).symm) hS (lv_sub hl [1, 2, 3, 4, 0] rfl) hk26_0
    obtain ⟨y26, e26, h⟩ := bd_some h
    refine hL26 1000 (-1 : Int32) (1000000 : Int32) (0 : Int32) y6.2.1 y6.2.2.1 y6.2.2.2.1 y6.2.2.2.2.1 y6.2.2.2.2.2.1 y6.2.2.2.2.2.2 y26 rc2 H locs ls e26 hS (lv_sub hl [4, 3, 2, 1, 0] rfl) (fun y26_0 y26_1 y26_2 y26_3 y26_4 y26_5 y26_6 y26_7 ey26 rw26_0 H locs ls hS hl => ?_)
    subst ey26
    have h := un_r h
    have h := un_r h
    have h := un_r h
    have h := un_r h
    have h := un_r h
    have h := un_r h
    have h := un_r h
    refine lv_aload_n hx hb dX11_asks_166 rfl (lv_at hl 0 rfl) ?_
    refine lv_iconst (v := 0) hx hb dX11_asks_167 (by decide) ?_
    refine r_put (ws' := [oX11 q0 (.ref q1) (.int v_people) u0_2 u0_3 (.ref q2) (.int (0 : Int32)) (.int (0 : Int32)) rw26_0 (.int y26_2) (.int y26_3) (.int y26_4) (.int y26_5) u0_12 (.ref q3) u0_14 (.int v_ruleSize) (.int y26_6) (.ref q4) u0_18 u0_19 u0_20 u0_21 u0_22 u0_23 u0_24 u0_25 u0_26 u0_27 u0_28 (.ref q5) (.ref q6) (.int v_heardMany) u0_32 u0_33 u0_34 u0_35 u0_36 u0_37 u0_38 u0_39 u0_40, aI cy q1 37 v_now, aJ cy q2 16 v_row, aB cy q3 40 v_rule, aI cy q4 7 y26_7, aI cy q5 12 v_heardOf, aI cy q6 12 v_heardBy]) E frX11_89 hS 0 rfl (Nat.le_of_ble_eq_true rfl) rfl rfl rfl rfl dX11_asks_168 (fun H locs hS => ?_)
    refine lv_aload_n hx hb dX11_asks_171 rfl (lv_at hl 0 rfl) ?_
    refine lv_iload_n hx hb dX11_asks_172 rfl (lv_at hl 2 rfl) ?_
    refine lv_i2l (v := (y26_1.toInt64)) hx hb dX11_asks_173 rfl ?_
    obtain ⟨y174, e16, h⟩ := bd_some h
    refine ct_V (ws' := fun _ => [oX11 q0 (.ref q1) (.int v_people) u0_2 u0_3 (.ref q2) (.int y174.1) (.int (0 : Int32)) rw26_0 (.int y26_2) (.int y26_3) (.int y26_4) (.int y26_5) u0_12 (.ref q3) u0_14 (.int v_ruleSize) (.int y26_6) (.ref q4) u0_18 u0_19 u0_20 u0_21 u0_22 u0_23 u0_24 u0_25 u0_26 u0_27 u0_28 (.ref q5) (.ref q6) (.int v_heardMany) u0_32 u0_33 u0_34 u0_35 u0_36 u0_37 u0_38 u0_39 u0_40, aI cy q1 37 v_now, aJ cy q2 16 y174.2, aB cy q3 40 v_rule, aI cy q4 7 y26_7, aI cy q5 12 v_heardOf, aI cy q6 12 v_heardBy]) (st' := []) (rest := []) E hS vlX11_256 (c_X11_tell (l := l) (D := D) (cy := cy) (q0 := q0) (q1 := q2) (u0_0 := .ref q1) (u0_1 := .int v_people) (u0_2 := u0_2) (u0_3 := u0_3) (u0_6 := .int (0 : Int32)) (u0_7 := rw26_0) (u0_8 := .int y26_2) (u0_9 := .int y26_3) (u0_10 := .int y26_4) (u0_11 := .int y26_5) (u0_12 := u0_12) (u0_13 := .ref q3) (u0_14 := u0_14) (u0_15 := .int v_ruleSize) (u0_16 := .int y26_6) (u0_17 := .ref q4) (u0_18 := u0_18) (u0_19 := u0_19) (u0_20 := u0_20) (u0_21 := u0_21) (u0_22 := u0_22) (u0_23 := u0_23) (u0_24 := u0_24) (u0_25 := u0_25) (u0_26 := u0_26) (u0_27 := u0_27) (u0_28 := u0_28) (u0_29 := .ref q5) (u0_30 := .ref q6) (u0_31 := .int v_heardMany) (u0_32 := u0_32) (u0_33 := u0_33) (u0_34 := u0_34) (u0_35 := u0_35) (u0_36 := u0_36) (u0_37 := u0_37) (u0_38 := u0_38) (u0_39 := u0_39) (u0_40 := u0_40) (v_rowMany := (0 : Int32)) (v_row := v_row) (p1 := (y26_1.toInt64)) (r := y174) e16) [0, 2] rfl rfl (fun _ => rfl) (fun _ => rfl) rfl rfl rfl rfl (Nat.le_of_ble_eq_true rfl) hl.1 (by rw [hRf]; exact Nat.le_of_ble_eq_true rfl) (by rw [hRl]; exact Nat.le_of_ble_eq_true rfl) ⟨Nat.zero_le _, Nat.zero_le _⟩ dX11_asks_174 rfl (fun H locs _ hS => ?_)
    refine lv_iload_n hx hb dX11_asks_177 rfl (lv_at hl 1 rfl) ?_
    obtain rfl := Option.some.inj h
    exact rt_i E hQ (rw26_0) hS dX11_asks_178
  · have h := it_pos c3 h
    refine lv_bipush (v := -2) hx hb dX11_asks_14 (by decide) ?_
    obtain rfl := Option.some.inj h
    exact rt_i E hQ (rc2) hS dX11_asks_16
set_option maxHeartbeats 4000000 in
set_option maxRecDepth 100000 in
theorem c_X11_saw {l : Launch} {D : va_G} {cy : Nat → ClassId} (q0 : Nat) (q1 : Nat) (q2 : Nat) (u0_0 : Value) (u0_1 : Value) (u0_2 : Value) (u0_3 : Value) (u0_4 : Value) (u0_5 : Value) (u0_7 : Value) (u0_8 : Value) (u0_9 : Value) (u0_10 : Value) (u0_11 : Value) (u0_12 : Value) (u0_13 : Value) (u0_14 : Value) (u0_15 : Value) (u0_16 : Value) (u0_17 : Value) (u0_18 : Value) (u0_19 : Value) (u0_20 : Value) (u0_21 : Value) (u0_22 : Value) (u0_23 : Value) (u0_24 : Value) (u0_25 : Value) (u0_26 : Value) (u0_27 : Value) (u0_28 : Value) (u0_29 : Value) (u0_30 : Value) (u0_31 : Value) (u0_35 : Value) (u0_36 : Value) (u0_37 : Value) (u0_38 : Value) (u0_39 : Value) (u0_40 : Value) (v_thrown : Int32) (v_sawMany : Int32) (v_sawOf : Nat → Int32) (v_sawAs : Nat → Int32) (p1 : Int32) (p2 : Int32) (p3 : Int32) (r : Int32 × Int32 × Int32 × (Nat → Int32) × (Nat → Int32)) (h : X11_saw v_sawMany v_sawOf v_sawAs p1 p2 p3 = some r) : Ct l yX11_saw cX11_saw 4 (some .int) 1 22 D cy [.ref q0, .int p1, .int p2, .int p3] [oX11 q0 u0_0 u0_1 u0_2 u0_3 u0_4 u0_5 (.int v_thrown) u0_7 u0_8 u0_9 u0_10 u0_11 u0_12 u0_13 u0_14 u0_15 u0_16 u0_17 u0_18 u0_19 u0_20 u0_21 u0_22 u0_23 u0_24 u0_25 u0_26 u0_27 u0_28 u0_29 u0_30 u0_31 (.ref q1) (.ref q2) (.int v_sawMany) u0_35 u0_36 u0_37 u0_38 u0_39 u0_40, aI cy q1 10 v_sawOf, aI cy q2 10 v_sawAs] (fun _ => [oX11 q0 u0_0 u0_1 u0_2 u0_3 u0_4 u0_5 (.int r.2.1) u0_7 u0_8 u0_9 u0_10 u0_11 u0_12 u0_13 u0_14 u0_15 u0_16 u0_17 u0_18 u0_19 u0_20 u0_21 u0_22 u0_23 u0_24 u0_25 u0_26 u0_27 u0_28 u0_29 u0_30 u0_31 (.ref q1) (.ref q2) (.int r.2.2.1) u0_35 u0_36 u0_37 u0_38 u0_39 u0_40, aI cy q1 10 r.2.2.2.1, aI cy q2 10 r.2.2.2.2]) (some (.int r.1)) := by
  refine Ct.mk kX11_saw (by decide +kernel) (Nat.le_of_ble_eq_true rfl) ?_
  intro p e s m below meth c A ls args R Q hRf hRl hQ E H locs hS hl
  have hx := E.x
  have hb := E.b
  have hl : lv_has ls 4 [(0, .ref q0), (1, .int p1), (2, .int p2), (3, .int p3)] := hl
  unfold X11_saw at h
  refine lv_aload_n hx hb dX11_saw_0 rfl (lv_at hl 0 rfl) ?_
  refine lv_iconst (v := 0) hx hb dX11_saw_1 (by decide) ?_
  refine r_put (ws' := [oX11 q0 u0_0 u0_1 u0_2 u0_3 u0_4 u0_5 (.int (0 : Int32)) u0_7 u0_8 u0_9 u0_10 u0_11 u0_12 u0_13 u0_14 u0_15 u0_16 u0_17 u0_18 u0_19 u0_20 u0_21 u0_22 u0_23 u0_24 u0_25 u0_26 u0_27 u0_28 u0_29 u0_30 u0_31 (.ref q1) (.ref q2) (.int v_sawMany) u0_35 u0_36 u0_37 u0_38 u0_39 u0_40, aI cy q1 10 v_sawOf, aI cy q2 10 v_sawAs]) E frX11_85 hS 0 rfl (Nat.le_of_ble_eq_true rfl) rfl rfl rfl rfl dX11_saw_2 (fun H locs hS => ?_)
  refine lv_iload_n hx hb dX11_saw_5 rfl (lv_at hl 1 rfl) ?_
  refine lv_iconst (v := 0) hx hb dX11_saw_6 (by decide) ?_
  refine lv_bipush (v := 9) hx hb dX11_saw_7 (by decide) ?_
  refine ct_S (ws' := fun _ => [oX11 q0 u0_0 u0_1 u0_2 u0_3 u0_4 u0_5 (.int (0 : Int32)) u0_7 u0_8 u0_9 u0_10 u0_11 u0_12 u0_13 u0_14 u0_15 u0_16 u0_17 u0_18 u0_19 u0_20 u0_21 u0_22 u0_23 u0_24 u0_25 u0_26 u0_27 u0_28 u0_29 u0_30 u0_31 (.ref q1) (.ref q2) (.int v_sawMany) u0_35 u0_36 u0_37 u0_38 u0_39 u0_40, aI cy q1 10 v_sawOf, aI cy q2 10 v_sawAs]) (st' := [.int (X11_in p1 (0 : Int32) (9 : Int32))]) (rest := []) E hS slX11_95 (c_X11_in (l := l) (D := D) (cy := cy) (p0 := p1) (p1 := (0 : Int32)) (p2 := (9 : Int32)) (r := (X11_in p1 (0 : Int32) (9 : Int32))) rfl) [] rfl rfl (fun _ => rfl) (fun _ => rfl) rfl rfl (Nat.le_of_ble_eq_true rfl) hl.1 (by rw [hRf]; exact Nat.le_of_ble_eq_true rfl) (by rw [hRl]; exact Nat.le_of_ble_eq_true rfl) ⟨Nat.zero_le _, Nat.zero_le _⟩ dX11_saw_9 rfl (fun H locs _ hS => ?_)
  refine lv_if_eq (tgt := 43) hx hb dX11_saw_12 (by decide) (fun c1 => ?_) (fun c1 => ?_)
  · have h := it_pos c1 h
    refine lv_iconst (v := -1) hx hb dX11_saw_43 (by decide) ?_
    obtain rfl := Option.some.inj h
    exact rt_i E hQ (.null) hS dX11_saw_44
  · have h := it_neg c1 h
    refine lv_iload_n hx hb dX11_saw_15 rfl (lv_at hl 2 rfl) ?_
    refine lv_iconst (v := 0) hx hb dX11_saw_16 (by decide) ?_
    refine lv_bipush (v := 6) hx hb dX11_saw_17 (by decide) ?_
    refine ct_S (ws' := fun _ => [oX11 q0 u0_0 u0_1 u0_2 u0_3 u0_4 u0_5 (.int (0 : Int32)) u0_7 u0_8 u0_9 u0_10 u0_11 u0_12 u0_13 u0_14 u0_15 u0_16 u0_17 u0_18 u0_19 u0_20 u0_21 u0_22 u0_23 u0_24 u0_25 u0_26 u0_27 u0_28 u0_29 u0_30 u0_31 (.ref q1) (.ref q2) (.int v_sawMany) u0_35 u0_36 u0_37 u0_38 u0_39 u0_40, aI cy q1 10 v_sawOf, aI cy q2 10 v_sawAs]) (st' := [.int (X11_in p2 (0 : Int32) (6 : Int32))]) (rest := []) E hS slX11_95 (c_X11_in (l := l) (D := D) (cy := cy) (p0 := p2) (p1 := (0 : Int32)) (p2 := (6 : Int32)) (r := (X11_in p2 (0 : Int32) (6 : Int32))) rfl) [] rfl rfl (fun _ => rfl) (fun _ => rfl) rfl rfl (Nat.le_of_ble_eq_true rfl) hl.1 (by rw [hRf]; exact Nat.le_of_ble_eq_true rfl) (by rw [hRl]; exact Nat.le_of_ble_eq_true rfl) ⟨Nat.zero_le _, Nat.zero_le _⟩ dX11_saw_19 rfl (fun H locs _ hS => ?_)
    refine lv_if_eq (tgt := 43) hx hb dX11_saw_22 (by decide) (fun c2 => ?_) (fun c2 => ?_)
    · have h := it_pos c2 h
      refine lv_iconst (v := -1) hx hb dX11_saw_43 (by decide) ?_
      obtain rfl := Option.some.inj h
      exact rt_i E hQ (.null) hS dX11_saw_44
    · have h := it_neg c2 h
      refine lv_iload_n hx hb dX11_saw_25 rfl (lv_at hl 3 rfl) ?_
      refine lv_iconst (v := 0) hx hb dX11_saw_26 (by decide) ?_
      refine lv_iconst (v := 1) hx hb dX11_saw_27 (by decide) ?_
      refine ct_S (ws' := fun _ => [oX11 q0 u0_0 u0_1 u0_2 u0_3 u0_4 u0_5 (.int (0 : Int32)) u0_7 u0_8 u0_9 u0_10 u0_11 u0_12 u0_13 u0_14 u0_15 u0_16 u0_17 u0_18 u0_19 u0_20 u0_21 u0_22 u0_23 u0_24 u0_25 u0_26 u0_27 u0_28 u0_29 u0_30 u0_31 (.ref q1) (.ref q2) (.int v_sawMany) u0_35 u0_36 u0_37 u0_38 u0_39 u0_40, aI cy q1 10 v_sawOf, aI cy q2 10 v_sawAs]) (st' := [.int (X11_in p3 (0 : Int32) (1 : Int32))]) (rest := []) E hS slX11_95 (c_X11_in (l := l) (D := D) (cy := cy) (p0 := p3) (p1 := (0 : Int32)) (p2 := (1 : Int32)) (r := (X11_in p3 (0 : Int32) (1 : Int32))) rfl) [] rfl rfl (fun _ => rfl) (fun _ => rfl) rfl rfl (Nat.le_of_ble_eq_true rfl) hl.1 (by rw [hRf]; exact Nat.le_of_ble_eq_true rfl) (by rw [hRl]; exact Nat.le_of_ble_eq_true rfl) ⟨Nat.zero_le _, Nat.zero_le _⟩ dX11_saw_28 rfl (fun H locs _ hS => ?_)
      refine lv_if_eq (tgt := 43) hx hb dX11_saw_31 (by decide) (fun c3 => ?_) (fun c3 => ?_)
      · have h := it_pos c3 h
        refine lv_iconst (v := -1) hx hb dX11_saw_43 (by decide) ?_
        obtain rfl := Option.some.inj h
        exact rt_i E hQ (.null) hS dX11_saw_44
      · have h := it_neg c3 h
        refine lv_aload_n hx hb dX11_saw_34 rfl (lv_at hl 0 rfl) ?_
        refine r_get E frX11_335 hS 0 rfl rfl dX11_saw_35 ?_
        refine lv_bipush (v := 10) hx hb dX11_saw_38 (by decide) ?_
        refine lv_icmp_ne (tgt := 45) hx hb dX11_saw_40 (by decide) (fun c4 => ?_) (fun c4 => ?_)
        · have h := it_neg c4 h
          refine lv_aload_n hx hb dX11_saw_45 rfl (lv_at hl 0 rfl) ?_
          refine r_get E frX11_66 hS 0 rfl rfl dX11_saw_46 ?_
          refine lv_aload_n hx hb dX11_saw_49 rfl (lv_at hl 0 rfl) ?_
          refine r_get E frX11_335 hS 0 rfl rfl dX11_saw_50 ?_
          refine lv_bipush (v := 10) hx hb dX11_saw_53 (by decide) ?_
          refine lv_iload_n hx hb dX11_saw_55 rfl (lv_at hl 1 rfl) ?_
          refine lv_imul hx hb dX11_saw_56 ?_
          refine lv_iload_n hx hb dX11_saw_57 rfl (lv_at hl 2 rfl) ?_
          refine lv_iadd hx hb dX11_saw_58 ?_
          obtain ⟨g5, h⟩ := gi_some h
          refine r_iast (ws' := [oX11 q0 u0_0 u0_1 u0_2 u0_3 u0_4 u0_5 (.int (0 : Int32)) u0_7 u0_8 u0_9 u0_10 u0_11 u0_12 u0_13 u0_14 u0_15 u0_16 u0_17 u0_18 u0_19 u0_20 u0_21 u0_22 u0_23 u0_24 u0_25 u0_26 u0_27 u0_28 u0_29 u0_30 u0_31 (.ref q1) (.ref q2) (.int v_sawMany) u0_35 u0_36 u0_37 u0_38 u0_39 u0_40, aI cy q1 10 (upd v_sawOf v_sawMany.toNatClampNeg (((10 : Int32) * p1) + p2)), aI cy q2 10 v_sawAs]) E hS 1 rfl g5 rfl dX11_saw_59 (fun H locs hS => ?_)
          refine lv_aload_n hx hb dX11_saw_60 rfl (lv_at hl 0 rfl) ?_
          refine r_get E frX11_69 hS 0 rfl rfl dX11_saw_61 ?_
          refine lv_aload_n hx hb dX11_saw_64 rfl (lv_at hl 0 rfl) ?_
          refine r_get E frX11_335 hS 0 rfl rfl dX11_saw_65 ?_
          refine lv_iload_n hx hb dX11_saw_68 rfl (lv_at hl 3 rfl) ?_
          obtain ⟨g6, h⟩ := gi_some h
          refine r_iast (ws' := [oX11 q0 u0_0 u0_1 u0_2 u0_3 u0_4 u0_5 (.int (0 : Int32)) u0_7 u0_8 u0_9 u0_10 u0_11 u0_12 u0_13 u0_14 u0_15 u0_16 u0_17 u0_18 u0_19 u0_20 u0_21 u0_22 u0_23 u0_24 u0_25 u0_26 u0_27 u0_28 u0_29 u0_30 u0_31 (.ref q1) (.ref q2) (.int v_sawMany) u0_35 u0_36 u0_37 u0_38 u0_39 u0_40, aI cy q1 10 (upd v_sawOf v_sawMany.toNatClampNeg (((10 : Int32) * p1) + p2)), aI cy q2 10 (upd v_sawAs v_sawMany.toNatClampNeg p3)]) E hS 2 rfl g6 rfl dX11_saw_69 (fun H locs hS => ?_)
          refine lv_aload_n hx hb dX11_saw_70 rfl (lv_at hl 0 rfl) ?_
          refine lv_dup hx hb dX11_saw_71 rfl ?_
          refine r_get E frX11_335 hS 0 rfl rfl dX11_saw_72 ?_
          refine lv_iconst (v := 1) hx hb dX11_saw_75 (by decide) ?_
          refine lv_iadd hx hb dX11_saw_76 ?_
          refine r_put (ws' := [oX11 q0 u0_0 u0_1 u0_2 u0_3 u0_4 u0_5 (.int (0 : Int32)) u0_7 u0_8 u0_9 u0_10 u0_11 u0_12 u0_13 u0_14 u0_15 u0_16 u0_17 u0_18 u0_19 u0_20 u0_21 u0_22 u0_23 u0_24 u0_25 u0_26 u0_27 u0_28 u0_29 u0_30 u0_31 (.ref q1) (.ref q2) (.int (v_sawMany + (1 : Int32))) u0_35 u0_36 u0_37 u0_38 u0_39 u0_40, aI cy q1 10 (upd v_sawOf v_sawMany.toNatClampNeg (((10 : Int32) * p1) + p2)), aI cy q2 10 (upd v_sawAs v_sawMany.toNatClampNeg p3)]) E frX11_335 hS 0 rfl (Nat.le_of_ble_eq_true rfl) rfl rfl rfl rfl dX11_saw_77 (fun H locs hS => ?_)
          refine lv_aload_n hx hb dX11_saw_80 rfl (lv_at hl 0 rfl) ?_
          refine r_get E frX11_335 hS 0 rfl rfl dX11_saw_81 ?_
          obtain rfl := Option.some.inj h
          exact rt_i E hQ (.null) hS dX11_saw_84
        · have h := it_pos c4 h
          refine lv_iconst (v := -1) hx hb dX11_saw_43 (by decide) ?_
          obtain rfl := Option.some.inj h
          exact rt_i E hQ (.null) hS dX11_saw_44
set_option maxHeartbeats 4000000 in
set_option maxRecDepth 100000 in
theorem c_X11_denies {l : Launch} {D : va_G} {cy : Nat → ClassId} (q0 : Nat) (u0_0 : Value) (u0_1 : Value) (u0_2 : Value) (u0_3 : Value) (u0_4 : Value) (u0_5 : Value) (u0_7 : Value) (u0_8 : Value) (u0_9 : Value) (u0_10 : Value) (u0_11 : Value) (u0_12 : Value) (u0_13 : Value) (u0_14 : Value) (u0_15 : Value) (u0_16 : Value) (u0_17 : Value) (u0_18 : Value) (u0_19 : Value) (u0_20 : Value) (u0_21 : Value) (u0_22 : Value) (u0_23 : Value) (u0_24 : Value) (u0_25 : Value) (u0_26 : Value) (u0_27 : Value) (u0_28 : Value) (u0_29 : Value) (u0_30 : Value) (u0_31 : Value) (u0_32 : Value) (u0_33 : Value) (u0_35 : Value) (u0_36 : Value) (u0_37 : Value) (u0_38 : Value) (u0_39 : Value) (u0_40 : Value) (v_thrown : Int32) (v_sawMany : Int32) (r : Int32 × Int32 × Int32) (h : X11_denies v_sawMany = r) : Ct l yX11_denies cX11_denies 2 (some .int) 0 0 D cy [.ref q0] [oX11 q0 u0_0 u0_1 u0_2 u0_3 u0_4 u0_5 (.int v_thrown) u0_7 u0_8 u0_9 u0_10 u0_11 u0_12 u0_13 u0_14 u0_15 u0_16 u0_17 u0_18 u0_19 u0_20 u0_21 u0_22 u0_23 u0_24 u0_25 u0_26 u0_27 u0_28 u0_29 u0_30 u0_31 u0_32 u0_33 (.int v_sawMany) u0_35 u0_36 u0_37 u0_38 u0_39 u0_40] (fun _ => [oX11 q0 u0_0 u0_1 u0_2 u0_3 u0_4 u0_5 (.int r.2.1) u0_7 u0_8 u0_9 u0_10 u0_11 u0_12 u0_13 u0_14 u0_15 u0_16 u0_17 u0_18 u0_19 u0_20 u0_21 u0_22 u0_23 u0_24 u0_25 u0_26 u0_27 u0_28 u0_29 u0_30 u0_31 u0_32 u0_33 (.int r.2.2) u0_35 u0_36 u0_37 u0_38 u0_39 u0_40]) (some (.int r.1)) := by
  refine Ct.mk kX11_denies (by decide +kernel) (Nat.le_of_ble_eq_true rfl) ?_
  intro p e s m below meth c A ls args R Q hRf hRl hQ E H locs hS hl
  have hx := E.x
  have hb := E.b
  have hl : lv_has ls 2 [(0, .ref q0)] := hl
  unfold X11_denies at h
  refine lv_aload_n hx hb dX11_denies_0 rfl (lv_at hl 0 rfl) ?_
  refine lv_iconst (v := 0) hx hb dX11_denies_1 (by decide) ?_
  refine r_put (ws' := [oX11 q0 u0_0 u0_1 u0_2 u0_3 u0_4 u0_5 (.int (0 : Int32)) u0_7 u0_8 u0_9 u0_10 u0_11 u0_12 u0_13 u0_14 u0_15 u0_16 u0_17 u0_18 u0_19 u0_20 u0_21 u0_22 u0_23 u0_24 u0_25 u0_26 u0_27 u0_28 u0_29 u0_30 u0_31 u0_32 u0_33 (.int v_sawMany) u0_35 u0_36 u0_37 u0_38 u0_39 u0_40]) E frX11_85 hS 0 rfl (Nat.le_of_ble_eq_true rfl) rfl rfl rfl rfl dX11_denies_2 (fun H locs hS => ?_)
  refine lv_aload_n hx hb dX11_denies_5 rfl (lv_at hl 0 rfl) ?_
  refine r_get E frX11_335 hS 0 rfl rfl dX11_denies_6 ?_
  refine lv_istore_n (lv' := [(1, .int v_sawMany), (0, .ref q0)]) hx hb dX11_denies_9 rfl hl (by decide) rfl (fun ls hl => ?_)
  refine lv_aload_n hx hb dX11_denies_10 rfl (lv_at hl 1 rfl) ?_
  refine lv_iconst (v := 0) hx hb dX11_denies_11 (by decide) ?_
  refine r_put (ws' := [oX11 q0 u0_0 u0_1 u0_2 u0_3 u0_4 u0_5 (.int (0 : Int32)) u0_7 u0_8 u0_9 u0_10 u0_11 u0_12 u0_13 u0_14 u0_15 u0_16 u0_17 u0_18 u0_19 u0_20 u0_21 u0_22 u0_23 u0_24 u0_25 u0_26 u0_27 u0_28 u0_29 u0_30 u0_31 u0_32 u0_33 (.int (0 : Int32)) u0_35 u0_36 u0_37 u0_38 u0_39 u0_40]) E frX11_335 hS 0 rfl (Nat.le_of_ble_eq_true rfl) rfl rfl rfl rfl dX11_denies_12 (fun H locs hS => ?_)
  refine lv_iload_n hx hb dX11_denies_15 rfl (lv_at hl 0 rfl) ?_
  subst h
  exact rt_i E hQ (.null) hS dX11_denies_16
set_option maxHeartbeats 4000000 in
set_option maxRecDepth 100000 in
theorem c_X11_lets {l : Launch} {D : va_G} {cy : Nat → ClassId} (p0 : Int32) (p1 : Int32) (r : Int32) (h : X11_lets p0 p1 = some r) : Ct l yX11_lets cX11_lets 2 (some .boolean) 0 0 D cy [.int p0, .int p1] [] (fun _ => []) (some (.int r)) := by
  refine Ct.mk kX11_lets (by decide +kernel) (Nat.le_of_ble_eq_true rfl) ?_
  intro p e s m below meth c A ls args R Q hRf hRl hQ E H locs hS hl
  have hx := E.x
  have hb := E.b
  have hl : lv_has ls 2 [(0, .int p0), (1, .int p1)] := hl
  unfold X11_lets at h
  refine lv_iload_n hx hb dX11_lets_0 rfl (lv_at hl 0 rfl) ?_
  refine lv_bipush (v := 40) hx hb dX11_lets_1 (by decide) ?_
  obtain ⟨g1, h⟩ := gz_some h
  refine lv_idiv hx hb dX11_lets_3 g1 ?_
  refine lv_iload_n hx hb dX11_lets_4 rfl (lv_at hl 1 rfl) ?_
  refine lv_bipush (v := 10) hx hb dX11_lets_5 (by decide) ?_
  obtain ⟨g2, h⟩ := gz_some h
  refine lv_idiv hx hb dX11_lets_7 g2 ?_
  refine lv_imul hx hb dX11_lets_8 ?_
  refine lv_iload_n hx hb dX11_lets_9 rfl (lv_at hl 0 rfl) ?_
  refine lv_bipush (v := 10) hx hb dX11_lets_10 (by decide) ?_
  obtain ⟨g3, h⟩ := gz_some h
  refine lv_idiv hx hb dX11_lets_12 g3 ?_
  refine lv_iconst (v := 4) hx hb dX11_lets_13 (by decide) ?_
  obtain ⟨g4, h⟩ := gz_some h
  refine lv_irem hx hb dX11_lets_14 g4 ?_
  refine lv_iload_n hx hb dX11_lets_15 rfl (lv_at hl 1 rfl) ?_
  refine lv_bipush (v := 10) hx hb dX11_lets_16 (by decide) ?_
  obtain ⟨g5, h⟩ := gz_some h
  refine lv_irem hx hb dX11_lets_18 g5 ?_
  refine lv_imul hx hb dX11_lets_19 ?_
  refine lv_iadd hx hb dX11_lets_20 ?_
  refine lv_iload_n hx hb dX11_lets_21 rfl (lv_at hl 0 rfl) ?_
  refine lv_bipush (v := 10) hx hb dX11_lets_22 (by decide) ?_
  obtain ⟨g6, h⟩ := gz_some h
  refine lv_irem hx hb dX11_lets_24 g6 ?_
  have hJ33 : ∀ (s33_0 : Int32) (ls : Array Slot), s33_0 = (if (((p0 / (40 : Int32)) * (p1 / (10 : Int32))) + ((irem (p0 / (10 : Int32)) (4 : Int32)) * (irem p1 (10 : Int32)))) ≤ (irem p0 (10 : Int32)) then (0 : Int32) else (1 : Int32)) → lv_has ls 2 [] → W p l e R s m args below meth c H locs 0 0 Q (F0 m 33 ls [.int s33_0]) := by
    intro s33_0 ls es33_0 hl
    subst es33_0
    obtain rfl := Option.some.inj h
    exact rt_n E (by repeat' (first | rfl | split)) hQ (.null) hS dX11_lets_33
  refine lv_icmp_le (tgt := 32) hx hb dX11_lets_25 (by decide) (fun c7 => ?_) (fun c7 => ?_)
  · refine lv_iconst (v := 0) hx hb dX11_lets_32 (by decide) ?_
    exact hJ33 _ ls ((if_pos c7)).symm (lv_sub hl [] rfl)
  · refine lv_iconst (v := 1) hx hb dX11_lets_28 (by decide) ?_
    refine lv_goto (tgt := 33) hx hb dX11_lets_29 (by decide) ?_
    exact hJ33 _ ls ((if_neg c7)).symm (lv_sub hl [] rfl)
set_option maxHeartbeats 4000000 in
set_option maxRecDepth 100000 in
theorem c_X11_isLaw {l : Launch} {D : va_G} {cy : Nat → ClassId} (q0 : Nat) (q1 : Nat) (q2 : Nat) (u0_0 : Value) (u0_1 : Value) (u0_2 : Value) (u0_3 : Value) (u0_4 : Value) (u0_5 : Value) (u0_6 : Value) (u0_7 : Value) (u0_8 : Value) (u0_9 : Value) (u0_10 : Value) (u0_11 : Value) (u0_12 : Value) (u0_13 : Value) (u0_14 : Value) (u0_15 : Value) (u0_16 : Value) (u0_17 : Value) (u0_18 : Value) (u0_19 : Value) (u0_20 : Value) (u0_21 : Value) (u0_22 : Value) (u0_23 : Value) (u0_24 : Value) (u0_25 : Value) (u0_26 : Value) (u0_27 : Value) (u0_28 : Value) (u0_29 : Value) (u0_30 : Value) (u0_31 : Value) (u0_35 : Value) (u0_36 : Value) (u0_37 : Value) (u0_38 : Value) (u0_39 : Value) (u0_40 : Value) (v_sawMany : Int32) (v_sawOf : Nat → Int32) (v_sawAs : Nat → Int32) (p1 : Int32) (r : Int32) (h : X11_isLaw v_sawMany v_sawOf v_sawAs p1 = some r) : Ct l yX11_isLaw cX11_isLaw 3 (some .boolean) 1 21 D cy [.ref q0, .int p1] [oX11 q0 u0_0 u0_1 u0_2 u0_3 u0_4 u0_5 u0_6 u0_7 u0_8 u0_9 u0_10 u0_11 u0_12 u0_13 u0_14 u0_15 u0_16 u0_17 u0_18 u0_19 u0_20 u0_21 u0_22 u0_23 u0_24 u0_25 u0_26 u0_27 u0_28 u0_29 u0_30 u0_31 (.ref q1) (.ref q2) (.int v_sawMany) u0_35 u0_36 u0_37 u0_38 u0_39 u0_40, aI cy q1 10 v_sawOf, aI cy q2 10 v_sawAs] (fun _ => [oX11 q0 u0_0 u0_1 u0_2 u0_3 u0_4 u0_5 u0_6 u0_7 u0_8 u0_9 u0_10 u0_11 u0_12 u0_13 u0_14 u0_15 u0_16 u0_17 u0_18 u0_19 u0_20 u0_21 u0_22 u0_23 u0_24 u0_25 u0_26 u0_27 u0_28 u0_29 u0_30 u0_31 (.ref q1) (.ref q2) (.int v_sawMany) u0_35 u0_36 u0_37 u0_38 u0_39 u0_40, aI cy q1 10 v_sawOf, aI cy q2 10 v_sawAs]) (some (.int r)) := by
  refine Ct.mk kX11_isLaw (by decide +kernel) (Nat.le_of_ble_eq_true rfl) ?_
  intro p e s m below meth c A ls args R Q hRf hRl hQ E H locs hS hl
  have hx := E.x
  have hb := E.b
  have hl : lv_has ls 3 [(0, .ref q0), (1, .int p1)] := hl
  unfold X11_isLaw at h
  refine lv_iconst (v := 0) hx hb dX11_isLaw_0 (by decide) ?_
  refine lv_istore_n (lv' := [(2, .int (0 : Int32)), (0, .ref q0), (1, .int p1)]) hx hb dX11_isLaw_1 rfl hl (by decide) rfl (fun ls hl => ?_)
  have hL2 : ∀ (n : Nat) (x2_0 : Int32) (y2 : (Unit) ⊕ (Unit)) (H : Heap) (locs : List Loc) (ls : Array Slot), lp (fun x2 => X11_isLaw_s2 v_sawMany v_sawOf v_sawAs p1 x2) n x2_0 = some y2 → Sv D A s.heap [oX11 q0 u0_0 u0_1 u0_2 u0_3 u0_4 u0_5 u0_6 u0_7 u0_8 u0_9 u0_10 u0_11 u0_12 u0_13 u0_14 u0_15 u0_16 u0_17 u0_18 u0_19 u0_20 u0_21 u0_22 u0_23 u0_24 u0_25 u0_26 u0_27 u0_28 u0_29 u0_30 u0_31 (.ref q1) (.ref q2) (.int v_sawMany) u0_35 u0_36 u0_37 u0_38 u0_39 u0_40, aI cy q1 10 v_sawOf, aI cy q2 10 v_sawAs] H locs → lv_has ls 3 [(0, .ref q0), (1, .int p1), (2, .int x2_0)] → ( .inl () = y2 → ∀ (H : Heap) (locs : List Loc) (ls : Array Slot), Sv D A s.heap [oX11 q0 u0_0 u0_1 u0_2 u0_3 u0_4 u0_5 u0_6 u0_7 u0_8 u0_9 u0_10 u0_11 u0_12 u0_13 u0_14 u0_15 u0_16 u0_17 u0_18 u0_19 u0_20 u0_21 u0_22 u0_23 u0_24 u0_25 u0_26 u0_27 u0_28 u0_29 u0_30 u0_31 (.ref q1) (.ref q2) (.int v_sawMany) u0_35 u0_36 u0_37 u0_38 u0_39 u0_40, aI cy q1 10 v_sawOf, aI cy q2 10 v_sawAs] H locs → lv_has ls 3 [] → W p l e R s m args below meth c H locs 0 0 Q (F0 m 46 ls [])) → ( .inr () = y2 → ∀ (H : Heap) (locs : List Loc) (ls : Array Slot), Sv D A s.heap [oX11 q0 u0_0 u0_1 u0_2 u0_3 u0_4 u0_5 u0_6 u0_7 u0_8 u0_9 u0_10 u0_11 u0_12 u0_13 u0_14 u0_15 u0_16 u0_17 u0_18 u0_19 u0_20 u0_21 u0_22 u0_23 u0_24 u0_25 u0_26 u0_27 u0_28 u0_29 u0_30 u0_31 (.ref q1) (.ref q2) (.int v_sawMany) u0_35 u0_36 u0_37 u0_38 u0_39 u0_40, aI cy q1 10 v_sawOf, aI cy q2 10 v_sawAs] H locs → lv_has ls 3 [] → W p l e R s m args below meth c H locs 0 0 Q (F0 m 38 ls [])) → W p l e R s m args below meth c H locs 0 0 Q (F0 m 2 ls []) := by
    intro n
    induction n with
    | zero =>
      intro x2_0 y2 H locs ls h
      exact lp_zero h
    | succ n ih2 =>
      intro x2_0 y2 H locs ls h hS hl hk2_0 hk2_1
      obtain ⟨z2, h, hz2a, hz2b⟩ := lp_succ h
      have h : X11_isLaw_s2 v_sawMany v_sawOf v_sawAs p1 x2_0 = some z2 := h
      unfold X11_isLaw_s2 at h
      refine lv_iload_n hx hb dX11_isLaw_2 rfl (lv_at hl 2 rfl) ?_
      refine lv_aload_n hx hb dX11_isLaw_3 rfl (lv_at hl 0 rfl) ?_
      refine r_get E frX11_335 hS 0 rfl rfl dX11_isLaw_4 ?_
      refine lv_icmp_ge (tgt := 46) hx hb dX11_isLaw_7 (by decide) (fun c1 => ?_) (fun c1 => ?_)
      · have h := it_pos c1 h
        exact hk2_0  (hz2b _ (Option.some.inj h).symm)  H locs ls hS (lv_sub hl [] rfl)
      · have h := it_neg c1 h
        refine lv_iload_n hx hb dX11_isLaw_10 rfl (lv_at hl 1 rfl) ?_
        refine lv_aload_n hx hb dX11_isLaw_11 rfl (lv_at hl 0 rfl) ?_
        refine r_get E frX11_66 hS 0 rfl rfl dX11_isLaw_12 ?_
        refine lv_iload_n hx hb dX11_isLaw_15 rfl (lv_at hl 2 rfl) ?_
        obtain ⟨g2, h⟩ := gi_some h
        refine r_iald E hS 1 rfl g2 dX11_isLaw_16 ?_
        obtain ⟨y17, e3, h⟩ := bd_some h
        refine ct_S (ws' := fun _ => [oX11 q0 u0_0 u0_1 u0_2 u0_3 u0_4 u0_5 u0_6 u0_7 u0_8 u0_9 u0_10 u0_11 u0_12 u0_13 u0_14 u0_15 u0_16 u0_17 u0_18 u0_19 u0_20 u0_21 u0_22 u0_23 u0_24 u0_25 u0_26 u0_27 u0_28 u0_29 u0_30 u0_31 (.ref q1) (.ref q2) (.int v_sawMany) u0_35 u0_36 u0_37 u0_38 u0_39 u0_40, aI cy q1 10 v_sawOf, aI cy q2 10 v_sawAs]) (st' := [.int y17]) (rest := []) E hS slX11_338 (c_X11_lets (l := l) (D := D) (cy := cy) (p0 := p1) (p1 := (v_sawOf x2_0.toNatClampNeg)) (r := y17) e3) [] rfl rfl (fun _ => rfl) (fun _ => rfl) rfl rfl (Nat.le_of_ble_eq_true rfl) hl.1 (by rw [hRf]; exact Nat.le_of_ble_eq_true rfl) (by rw [hRl]; exact Nat.le_of_ble_eq_true rfl) ⟨Nat.zero_le _, Nat.zero_le _⟩ dX11_isLaw_17 rfl (fun H locs _ hS => ?_)
        refine lv_aload_n hx hb dX11_isLaw_20 rfl (lv_at hl 0 rfl) ?_
        refine r_get E frX11_69 hS 0 rfl rfl dX11_isLaw_21 ?_
        refine lv_iload_n hx hb dX11_isLaw_24 rfl (lv_at hl 2 rfl) ?_
        obtain ⟨g4, h⟩ := gi_some h
        refine r_iald E hS 2 rfl g4 dX11_isLaw_25 ?_
        refine lv_iconst (v := 1) hx hb dX11_isLaw_26 (by decide) ?_
        have hJ35 : ∀ (s35_1 : Int32) (ls : Array Slot), s35_1 = (if (v_sawAs x2_0.toNatClampNeg) = (1 : Int32) then (1 : Int32) else (0 : Int32)) → lv_has ls 3 [(0, .ref q0), (1, .int p1), (2, .int x2_0)] → W p l e R s m args below meth c H locs 0 0 Q (F0 m 35 ls [.int s35_1, .int y17]) := by
          intro s35_1 ls es35_1 hl
          subst es35_1
          refine lv_icmp_eq (tgt := 40) hx hb dX11_isLaw_35 (by decide) (fun c5 => ?_) (fun c5 => ?_)
          · have h := it_pos c5 h
            refine lv_iinc (v := (x2_0 + (1 : Int32))) (lv' := [(2, .int (x2_0 + (1 : Int32))), (0, .ref q0), (1, .int p1)]) hx hb dX11_isLaw_40 hl (k := 2) rfl rfl (by decide) rfl (fun ls hl => ?_)
            refine lv_goto (tgt := 2) hx hb dX11_isLaw_43 (by decide) ?_
            exact ih2 (x2_0 + (1 : Int32)) y2  H locs ls (hz2a _ (Option.some.inj h).symm) hS (lv_sub hl [1, 2, 0] rfl) hk2_0 hk2_1
          · have h := it_neg c5 h
            exact hk2_1  (hz2b _ (Option.some.inj h).symm)  H locs ls hS (lv_sub hl [] rfl)
        refine lv_icmp_ne (tgt := 34) hx hb dX11_isLaw_27 (by decide) (fun c6 => ?_) (fun c6 => ?_)
        · refine lv_iconst (v := 0) hx hb dX11_isLaw_34 (by decide) ?_
          exact hJ35 _ ls ((if_neg c6)).symm (lv_sub hl [0, 1, 2] rfl)
        · refine lv_iconst (v := 1) hx hb dX11_isLaw_30 (by decide) ?_
          refine lv_goto (tgt := 35) hx hb dX11_isLaw_31 (by decide) ?_
          exact hJ35 _ ls ((if_pos c6)).symm (lv_sub hl [0, 1, 2] rfl)
  obtain ⟨y2, e2, h⟩ := bd_some h
  refine hL2 1000 (0 : Int32) y2  H locs ls e2 hS (lv_sub hl [1, 2, 0] rfl) (fun ey2 H locs ls hS hl => ?_) (fun ey2 H locs ls hS hl => ?_)
  · subst ey2
    have h := sm_l h
    refine lv_iconst (v := 1) hx hb dX11_isLaw_46 (by decide) ?_
    obtain rfl := Option.some.inj h
    exact rt_n E rfl hQ (.null) hS dX11_isLaw_47
  · subst ey2
    have h := sm_r h
    refine lv_iconst (v := 0) hx hb dX11_isLaw_38 (by decide) ?_
    obtain rfl := Option.some.inj h
    exact rt_n E rfl hQ (.null) hS dX11_isLaw_39
set_option maxHeartbeats 4000000 in
set_option maxRecDepth 100000 in
theorem c_X11_laws {l : Launch} {D : va_G} {cy : Nat → ClassId} (q0 : Nat) (q1 : Nat) (q2 : Nat) (q3 : Nat) (u0_0 : Value) (u0_1 : Value) (u0_2 : Value) (u0_3 : Value) (u0_7 : Value) (u0_8 : Value) (u0_9 : Value) (u0_10 : Value) (u0_11 : Value) (u0_12 : Value) (u0_13 : Value) (u0_14 : Value) (u0_15 : Value) (u0_16 : Value) (u0_17 : Value) (u0_18 : Value) (u0_19 : Value) (u0_20 : Value) (u0_21 : Value) (u0_22 : Value) (u0_23 : Value) (u0_24 : Value) (u0_25 : Value) (u0_26 : Value) (u0_27 : Value) (u0_28 : Value) (u0_29 : Value) (u0_30 : Value) (u0_31 : Value) (u0_35 : Value) (u0_36 : Value) (u0_37 : Value) (u0_38 : Value) (u0_39 : Value) (u0_40 : Value) (v_rowMany : Int32) (v_thrown : Int32) (v_sawMany : Int32) (v_row : Nat → Int64) (v_sawOf : Nat → Int32) (v_sawAs : Nat → Int32) (r : Int32 × Int32 × Int32 × (Nat → Int64)) (h : X11_laws v_sawMany v_row v_sawOf v_sawAs = some r) : Ct l yX11_laws cX11_laws 3 (some .int) 2 43 D cy [.ref q0] [oX11 q0 u0_0 u0_1 u0_2 u0_3 (.ref q1) (.int v_rowMany) (.int v_thrown) u0_7 u0_8 u0_9 u0_10 u0_11 u0_12 u0_13 u0_14 u0_15 u0_16 u0_17 u0_18 u0_19 u0_20 u0_21 u0_22 u0_23 u0_24 u0_25 u0_26 u0_27 u0_28 u0_29 u0_30 u0_31 (.ref q2) (.ref q3) (.int v_sawMany) u0_35 u0_36 u0_37 u0_38 u0_39 u0_40, aJ cy q1 16 v_row, aI cy q2 10 v_sawOf, aI cy q3 10 v_sawAs] (fun _ => [oX11 q0 u0_0 u0_1 u0_2 u0_3 (.ref q1) (.int r.2.1) (.int r.2.2.1) u0_7 u0_8 u0_9 u0_10 u0_11 u0_12 u0_13 u0_14 u0_15 u0_16 u0_17 u0_18 u0_19 u0_20 u0_21 u0_22 u0_23 u0_24 u0_25 u0_26 u0_27 u0_28 u0_29 u0_30 u0_31 (.ref q2) (.ref q3) (.int v_sawMany) u0_35 u0_36 u0_37 u0_38 u0_39 u0_40, aJ cy q1 16 r.2.2.2, aI cy q2 10 v_sawOf, aI cy q3 10 v_sawAs]) (some (.int r.1)) := by
  refine Ct.mk kX11_laws (by decide +kernel) (Nat.le_of_ble_eq_true rfl) ?_
  intro p e s m below meth c A ls args R Q hRf hRl hQ E H locs hS hl
  have hx := E.x
  have hb := E.b
  have hl : lv_has ls 3 [(0, .ref q0)] := hl
  unfold X11_laws at h
  refine lv_aload_n hx hb dX11_laws_0 rfl (lv_at hl 0 rfl) ?_
  refine lv_iconst (v := 0) hx hb dX11_laws_1 (by decide) ?_
  refine r_put (ws' := [oX11 q0 u0_0 u0_1 u0_2 u0_3 (.ref q1) (.int v_rowMany) (.int (0 : Int32)) u0_7 u0_8 u0_9 u0_10 u0_11 u0_12 u0_13 u0_14 u0_15 u0_16 u0_17 u0_18 u0_19 u0_20 u0_21 u0_22 u0_23 u0_24 u0_25 u0_26 u0_27 u0_28 u0_29 u0_30 u0_31 (.ref q2) (.ref q3) (.int v_sawMany) u0_35 u0_36 u0_37 u0_38 u0_39 u0_40, aJ cy q1 16 v_row, aI cy q2 10 v_sawOf, aI cy q3 10 v_sawAs]) E frX11_85 hS 0 rfl (Nat.le_of_ble_eq_true rfl) rfl rfl rfl rfl dX11_laws_2 (fun H locs hS => ?_)
  refine lv_iconst (v := 0) hx hb dX11_laws_5 (by decide) ?_
  refine lv_istore_n (lv' := [(1, .int (0 : Int32)), (0, .ref q0)]) hx hb dX11_laws_6 rfl hl (by decide) rfl (fun ls hl => ?_)
  refine lv_aload_n hx hb dX11_laws_7 rfl (lv_at hl 1 rfl) ?_
  refine lv_iconst (v := 0) hx hb dX11_laws_8 (by decide) ?_
  refine r_put (ws' := [oX11 q0 u0_0 u0_1 u0_2 u0_3 (.ref q1) (.int (0 : Int32)) (.int (0 : Int32)) u0_7 u0_8 u0_9 u0_10 u0_11 u0_12 u0_13 u0_14 u0_15 u0_16 u0_17 u0_18 u0_19 u0_20 u0_21 u0_22 u0_23 u0_24 u0_25 u0_26 u0_27 u0_28 u0_29 u0_30 u0_31 (.ref q2) (.ref q3) (.int v_sawMany) u0_35 u0_36 u0_37 u0_38 u0_39 u0_40, aJ cy q1 16 v_row, aI cy q2 10 v_sawOf, aI cy q3 10 v_sawAs]) E frX11_89 hS 0 rfl (Nat.le_of_ble_eq_true rfl) rfl rfl rfl rfl dX11_laws_9 (fun H locs hS => ?_)
  refine lv_iconst (v := 0) hx hb dX11_laws_12 (by decide) ?_
  refine lv_istore_n (lv' := [(2, .int (0 : Int32)), (1, .int (0 : Int32)), (0, .ref q0)]) hx hb dX11_laws_13 rfl hl (by decide) rfl (fun ls hl => ?_)
  have hL14 : ∀ (n : Nat) (x14_0 : Int32) (x14_1 : Int32) (x14_2 : Int32) (x14_3 : Nat → Int64) (y14 : Int32 × Int32 × (Nat → Int64)) (H : Heap) (locs : List Loc) (ls : Array Slot), lp (fun x14 => X11_laws_s14 v_sawMany v_sawOf v_sawAs x14.1 x14.2.1 x14.2.2.1 x14.2.2.2) n (x14_0, x14_1, x14_2, x14_3) = some y14 → Sv D A s.heap [oX11 q0 u0_0 u0_1 u0_2 u0_3 (.ref q1) (.int x14_2) (.int (0 : Int32)) u0_7 u0_8 u0_9 u0_10 u0_11 u0_12 u0_13 u0_14 u0_15 u0_16 u0_17 u0_18 u0_19 u0_20 u0_21 u0_22 u0_23 u0_24 u0_25 u0_26 u0_27 u0_28 u0_29 u0_30 u0_31 (.ref q2) (.ref q3) (.int v_sawMany) u0_35 u0_36 u0_37 u0_38 u0_39 u0_40, aJ cy q1 16 x14_3, aI cy q2 10 v_sawOf, aI cy q3 10 v_sawAs] H locs → lv_has ls 3 [(0, .ref q0), (1, .int x14_0), (2, .int x14_1)] → ( ∀ (y14_0 : Int32) (y14_1 : Int32) (y14_2 : Nat → Int64), (y14_0, y14_1, y14_2) = y14 → ∀ (H : Heap) (locs : List Loc) (ls : Array Slot), Sv D A s.heap [oX11 q0 u0_0 u0_1 u0_2 u0_3 (.ref q1) (.int y14_1) (.int (0 : Int32)) u0_7 u0_8 u0_9 u0_10 u0_11 u0_12 u0_13 u0_14 u0_15 u0_16 u0_17 u0_18 u0_19 u0_20 u0_21 u0_22 u0_23 u0_24 u0_25 u0_26 u0_27 u0_28 u0_29 u0_30 u0_31 (.ref q2) (.ref q3) (.int v_sawMany) u0_35 u0_36 u0_37 u0_38 u0_39 u0_40, aJ cy q1 16 y14_2, aI cy q2 10 v_sawOf, aI cy q3 10 v_sawAs] H locs → lv_has ls 3 [(1, .int y14_0)] → W p l e R s m args below meth c H locs 0 0 Q (F0 m 74 ls [])) → W p l e R s m args below meth c H locs 0 0 Q (F0 m 14 ls []) := by
    intro n
    induction n with
    | zero =>
      intro x14_0 x14_1 x14_2 x14_3 y14 H locs ls h
      exact lp_zero h
    | succ n ih14 =>
      intro x14_0 x14_1 x14_2 x14_3 y14 H locs ls h hS hl hk14_0
      obtain ⟨z14, h, hz14a, hz14b⟩ := lp_succ h
      have h : X11_laws_s14 v_sawMany v_sawOf v_sawAs x14_0 x14_1 x14_2 x14_3 = some z14 := h
      unfold X11_laws_s14 at h
      refine lv_iload_n hx hb dX11_laws_14 rfl (lv_at hl 2 rfl) ?_
      refine lv_sipush (v := 160) hx hb dX11_laws_15 (by decide) ?_
      refine lv_icmp_ge (tgt := 74) hx hb dX11_laws_18 (by decide) (fun c1 => ?_) (fun c1 => ?_)
      · have h := it_pos c1 h
        exact hk14_0 x14_0 x14_2 x14_3 (hz14b _ (Option.some.inj h).symm)  H locs ls hS (lv_sub hl [1] rfl)
      · have h := it_neg c1 h
        refine lv_aload_n hx hb dX11_laws_21 rfl (lv_at hl 0 rfl) ?_
        refine lv_iload_n hx hb dX11_laws_22 rfl (lv_at hl 2 rfl) ?_
        obtain ⟨y23, e2, h⟩ := bd_some h
        refine ct_V (ws' := fun _ => [oX11 q0 u0_0 u0_1 u0_2 u0_3 (.ref q1) (.int x14_2) (.int (0 : Int32)) u0_7 u0_8 u0_9 u0_10 u0_11 u0_12 u0_13 u0_14 u0_15 u0_16 u0_17 u0_18 u0_19 u0_20 u0_21 u0_22 u0_23 u0_24 u0_25 u0_26 u0_27 u0_28 u0_29 u0_30 u0_31 (.ref q2) (.ref q3) (.int v_sawMany) u0_35 u0_36 u0_37 u0_38 u0_39 u0_40, aJ cy q1 16 x14_3, aI cy q2 10 v_sawOf, aI cy q3 10 v_sawAs]) (st' := [.int y23]) (rest := []) E hS vlX11_341 (c_X11_isLaw (l := l) (D := D) (cy := cy) (q0 := q0) (q1 := q2) (q2 := q3) (u0_0 := u0_0) (u0_1 := u0_1) (u0_2 := u0_2) (u0_3 := u0_3) (u0_4 := .ref q1) (u0_5 := .int x14_2) (u0_6 := .int (0 : Int32)) (u0_7 := u0_7) (u0_8 := u0_8) (u0_9 := u0_9) (u0_10 := u0_10) (u0_11 := u0_11) (u0_12 := u0_12) (u0_13 := u0_13) (u0_14 := u0_14) (u0_15 := u0_15) (u0_16 := u0_16) (u0_17 := u0_17) (u0_18 := u0_18) (u0_19 := u0_19) (u0_20 := u0_20) (u0_21 := u0_21) (u0_22 := u0_22) (u0_23 := u0_23) (u0_24 := u0_24) (u0_25 := u0_25) (u0_26 := u0_26) (u0_27 := u0_27) (u0_28 := u0_28) (u0_29 := u0_29) (u0_30 := u0_30) (u0_31 := u0_31) (u0_35 := u0_35) (u0_36 := u0_36) (u0_37 := u0_37) (u0_38 := u0_38) (u0_39 := u0_39) (u0_40 := u0_40) (v_sawMany := v_sawMany) (v_sawOf := v_sawOf) (v_sawAs := v_sawAs) (p1 := x14_1) (r := y23) e2) [0, 2, 3] rfl rfl (fun _ => rfl) (fun _ => rfl) rfl rfl rfl rfl (Nat.le_of_ble_eq_true rfl) hl.1 (by rw [hRf]; exact Nat.le_of_ble_eq_true rfl) (by rw [hRl]; exact Nat.le_of_ble_eq_true rfl) ⟨Nat.zero_le _, Nat.zero_le _⟩ dX11_laws_23 rfl (fun H locs _ hS => ?_)
        refine lv_if_ne (tgt := 32) hx hb dX11_laws_26 (by decide) (fun c3 => ?_) (fun c3 => ?_)
        · have h := it_neg c3 h
          refine lv_iload_n hx hb dX11_laws_32 rfl (lv_at hl 1 rfl) ?_
          refine lv_if_ne (tgt := 65) hx hb dX11_laws_33 (by decide) (fun c4 => ?_) (fun c4 => ?_)
          · have h := it_neg c4 h
            refine lv_iinc (v := (x14_0 + (1 : Int32))) (lv' := [(1, .int (x14_0 + (1 : Int32))), (0, .ref q0), (2, .int x14_1)]) hx hb dX11_laws_65 hl (k := 1) rfl rfl (by decide) rfl (fun ls hl => ?_)
            refine lv_iinc (v := (x14_1 + (1 : Int32))) (lv' := [(2, .int (x14_1 + (1 : Int32))), (1, .int (x14_0 + (1 : Int32))), (0, .ref q0)]) hx hb dX11_laws_68 hl (k := 2) rfl rfl (by decide) rfl (fun ls hl => ?_)
            refine lv_goto (tgt := 14) hx hb dX11_laws_71 (by decide) ?_
            exact ih14 (x14_0 + (1 : Int32)) (x14_1 + (1 : Int32)) x14_2 x14_3 y14  H locs ls (hz14a _ (Option.some.inj h).symm) hS (lv_sub hl [2, 1, 0] rfl) hk14_0
          · have h := it_pos c4 h
            refine lv_aload_n hx hb dX11_laws_36 rfl (lv_at hl 0 rfl) ?_
            refine lv_iload_n hx hb dX11_laws_37 rfl (lv_at hl 2 rfl) ?_
            refine lv_bipush (v := 40) hx hb dX11_laws_38 (by decide) ?_
            obtain ⟨g5, h⟩ := gz_some h
            refine lv_idiv hx hb dX11_laws_40 g5 ?_
            refine lv_i2l (v := ((x14_1 / (40 : Int32)).toInt64)) hx hb dX11_laws_41 rfl ?_
            obtain ⟨y42, e6, h⟩ := bd_some h
            refine ct_V (ws' := fun _ => [oX11 q0 u0_0 u0_1 u0_2 u0_3 (.ref q1) (.int y42.1) (.int (0 : Int32)) u0_7 u0_8 u0_9 u0_10 u0_11 u0_12 u0_13 u0_14 u0_15 u0_16 u0_17 u0_18 u0_19 u0_20 u0_21 u0_22 u0_23 u0_24 u0_25 u0_26 u0_27 u0_28 u0_29 u0_30 u0_31 (.ref q2) (.ref q3) (.int v_sawMany) u0_35 u0_36 u0_37 u0_38 u0_39 u0_40, aJ cy q1 16 y42.2, aI cy q2 10 v_sawOf, aI cy q3 10 v_sawAs]) (st' := []) (rest := []) E hS vlX11_256 (c_X11_tell (l := l) (D := D) (cy := cy) (q0 := q0) (q1 := q1) (u0_0 := u0_0) (u0_1 := u0_1) (u0_2 := u0_2) (u0_3 := u0_3) (u0_6 := .int (0 : Int32)) (u0_7 := u0_7) (u0_8 := u0_8) (u0_9 := u0_9) (u0_10 := u0_10) (u0_11 := u0_11) (u0_12 := u0_12) (u0_13 := u0_13) (u0_14 := u0_14) (u0_15 := u0_15) (u0_16 := u0_16) (u0_17 := u0_17) (u0_18 := u0_18) (u0_19 := u0_19) (u0_20 := u0_20) (u0_21 := u0_21) (u0_22 := u0_22) (u0_23 := u0_23) (u0_24 := u0_24) (u0_25 := u0_25) (u0_26 := u0_26) (u0_27 := u0_27) (u0_28 := u0_28) (u0_29 := u0_29) (u0_30 := u0_30) (u0_31 := u0_31) (u0_32 := .ref q2) (u0_33 := .ref q3) (u0_34 := .int v_sawMany) (u0_35 := u0_35) (u0_36 := u0_36) (u0_37 := u0_37) (u0_38 := u0_38) (u0_39 := u0_39) (u0_40 := u0_40) (v_rowMany := x14_2) (v_row := x14_3) (p1 := ((x14_1 / (40 : Int32)).toInt64)) (r := y42) e6) [0, 1] rfl rfl (fun _ => rfl) (fun _ => rfl) rfl rfl rfl rfl (Nat.le_of_ble_eq_true rfl) hl.1 (by rw [hRf]; exact Nat.le_of_ble_eq_true rfl) (by rw [hRl]; exact Nat.le_of_ble_eq_true rfl) ⟨Nat.zero_le _, Nat.zero_le _⟩ dX11_laws_42 rfl (fun H locs _ hS => ?_)
            refine lv_aload_n hx hb dX11_laws_45 rfl (lv_at hl 0 rfl) ?_
            refine lv_iload_n hx hb dX11_laws_46 rfl (lv_at hl 2 rfl) ?_
            refine lv_bipush (v := 10) hx hb dX11_laws_47 (by decide) ?_
            obtain ⟨g7, h⟩ := gz_some h
            refine lv_idiv hx hb dX11_laws_49 g7 ?_
            refine lv_iconst (v := 4) hx hb dX11_laws_50 (by decide) ?_
            obtain ⟨g8, h⟩ := gz_some h
            refine lv_irem hx hb dX11_laws_51 g8 ?_
            refine lv_i2l (v := ((irem (x14_1 / (10 : Int32)) (4 : Int32)).toInt64)) hx hb dX11_laws_52 rfl ?_
            obtain ⟨y53, e9, h⟩ := bd_some h
            refine ct_V (ws' := fun _ => [oX11 q0 u0_0 u0_1 u0_2 u0_3 (.ref q1) (.int y53.1) (.int (0 : Int32)) u0_7 u0_8 u0_9 u0_10 u0_11 u0_12 u0_13 u0_14 u0_15 u0_16 u0_17 u0_18 u0_19 u0_20 u0_21 u0_22 u0_23 u0_24 u0_25 u0_26 u0_27 u0_28 u0_29 u0_30 u0_31 (.ref q2) (.ref q3) (.int v_sawMany) u0_35 u0_36 u0_37 u0_38 u0_39 u0_40, aJ cy q1 16 y53.2, aI cy q2 10 v_sawOf, aI cy q3 10 v_sawAs]) (st' := []) (rest := []) E hS vlX11_256 (c_X11_tell (l := l) (D := D) (cy := cy) (q0 := q0) (q1 := q1) (u0_0 := u0_0) (u0_1 := u0_1) (u0_2 := u0_2) (u0_3 := u0_3) (u0_6 := .int (0 : Int32)) (u0_7 := u0_7) (u0_8 := u0_8) (u0_9 := u0_9) (u0_10 := u0_10) (u0_11 := u0_11) (u0_12 := u0_12) (u0_13 := u0_13) (u0_14 := u0_14) (u0_15 := u0_15) (u0_16 := u0_16) (u0_17 := u0_17) (u0_18 := u0_18) (u0_19 := u0_19) (u0_20 := u0_20) (u0_21 := u0_21) (u0_22 := u0_22) (u0_23 := u0_23) (u0_24 := u0_24) (u0_25 := u0_25) (u0_26 := u0_26) (u0_27 := u0_27) (u0_28 := u0_28) (u0_29 := u0_29) (u0_30 := u0_30) (u0_31 := u0_31) (u0_32 := .ref q2) (u0_33 := .ref q3) (u0_34 := .int v_sawMany) (u0_35 := u0_35) (u0_36 := u0_36) (u0_37 := u0_37) (u0_38 := u0_38) (u0_39 := u0_39) (u0_40 := u0_40) (v_rowMany := y42.1) (v_row := y42.2) (p1 := ((irem (x14_1 / (10 : Int32)) (4 : Int32)).toInt64)) (r := y53) e9) [0, 1] rfl rfl (fun _ => rfl) (fun _ => rfl) rfl rfl rfl rfl (Nat.le_of_ble_eq_true rfl) hl.1 (by rw [hRf]; exact Nat.le_of_ble_eq_true rfl) (by rw [hRl]; exact Nat.le_of_ble_eq_true rfl) ⟨Nat.zero_le _, Nat.zero_le _⟩ dX11_laws_53 rfl (fun H locs _ hS => ?_)
            refine lv_aload_n hx hb dX11_laws_56 rfl (lv_at hl 0 rfl) ?_
            refine lv_iload_n hx hb dX11_laws_57 rfl (lv_at hl 2 rfl) ?_
            refine lv_bipush (v := 10) hx hb dX11_laws_58 (by decide) ?_
            obtain ⟨g10, h⟩ := gz_some h
            refine lv_irem hx hb dX11_laws_60 g10 ?_
            refine lv_i2l (v := ((irem x14_1 (10 : Int32)).toInt64)) hx hb dX11_laws_61 rfl ?_
            obtain ⟨y62, e11, h⟩ := bd_some h
            refine ct_V (ws' := fun _ => [oX11 q0 u0_0 u0_1 u0_2 u0_3 (.ref q1) (.int y62.1) (.int (0 : Int32)) u0_7 u0_8 u0_9 u0_10 u0_11 u0_12 u0_13 u0_14 u0_15 u0_16 u0_17 u0_18 u0_19 u0_20 u0_21 u0_22 u0_23 u0_24 u0_25 u0_26 u0_27 u0_28 u0_29 u0_30 u0_31 (.ref q2) (.ref q3) (.int v_sawMany) u0_35 u0_36 u0_37 u0_38 u0_39 u0_40, aJ cy q1 16 y62.2, aI cy q2 10 v_sawOf, aI cy q3 10 v_sawAs]) (st' := []) (rest := []) E hS vlX11_256 (c_X11_tell (l := l) (D := D) (cy := cy) (q0 := q0) (q1 := q1) (u0_0 := u0_0) (u0_1 := u0_1) (u0_2 := u0_2) (u0_3 := u0_3) (u0_6 := .int (0 : Int32)) (u0_7 := u0_7) (u0_8 := u0_8) (u0_9 := u0_9) (u0_10 := u0_10) (u0_11 := u0_11) (u0_12 := u0_12) (u0_13 := u0_13) (u0_14 := u0_14) (u0_15 := u0_15) (u0_16 := u0_16) (u0_17 := u0_17) (u0_18 := u0_18) (u0_19 := u0_19) (u0_20 := u0_20) (u0_21 := u0_21) (u0_22 := u0_22) (u0_23 := u0_23) (u0_24 := u0_24) (u0_25 := u0_25) (u0_26 := u0_26) (u0_27 := u0_27) (u0_28 := u0_28) (u0_29 := u0_29) (u0_30 := u0_30) (u0_31 := u0_31) (u0_32 := .ref q2) (u0_33 := .ref q3) (u0_34 := .int v_sawMany) (u0_35 := u0_35) (u0_36 := u0_36) (u0_37 := u0_37) (u0_38 := u0_38) (u0_39 := u0_39) (u0_40 := u0_40) (v_rowMany := y53.1) (v_row := y53.2) (p1 := ((irem x14_1 (10 : Int32)).toInt64)) (r := y62) e11) [0, 1] rfl rfl (fun _ => rfl) (fun _ => rfl) rfl rfl rfl rfl (Nat.le_of_ble_eq_true rfl) hl.1 (by rw [hRf]; exact Nat.le_of_ble_eq_true rfl) (by rw [hRl]; exact Nat.le_of_ble_eq_true rfl) ⟨Nat.zero_le _, Nat.zero_le _⟩ dX11_laws_62 rfl (fun H locs _ hS => ?_)
            refine lv_iinc (v := (x14_0 + (1 : Int32))) (lv' := [(1, .int (x14_0 + (1 : Int32))), (0, .ref q0), (2, .int x14_1)]) hx hb dX11_laws_65 hl (k := 1) rfl rfl (by decide) rfl (fun ls hl => ?_)
            refine lv_iinc (v := (x14_1 + (1 : Int32))) (lv' := [(2, .int (x14_1 + (1 : Int32))), (1, .int (x14_0 + (1 : Int32))), (0, .ref q0)]) hx hb dX11_laws_68 hl (k := 2) rfl rfl (by decide) rfl (fun ls hl => ?_)
            refine lv_goto (tgt := 14) hx hb dX11_laws_71 (by decide) ?_
            exact ih14 (x14_0 + (1 : Int32)) (x14_1 + (1 : Int32)) y62.1 y62.2 y14  H locs ls (hz14a _ (Option.some.inj h).symm) hS (lv_sub hl [2, 1, 0] rfl) hk14_0
        · have h := it_pos c3 h
          refine lv_goto (tgt := 68) hx hb dX11_laws_29 (by decide) ?_
          refine lv_iinc (v := (x14_1 + (1 : Int32))) (lv' := [(2, .int (x14_1 + (1 : Int32))), (0, .ref q0), (1, .int x14_0)]) hx hb dX11_laws_68 hl (k := 2) rfl rfl (by decide) rfl (fun ls hl => ?_)
          refine lv_goto (tgt := 14) hx hb dX11_laws_71 (by decide) ?_
          exact ih14 x14_0 (x14_1 + (1 : Int32)) x14_2 x14_3 y14  H locs ls (hz14a _ (Option.some.inj h).symm) hS (lv_sub hl [1, 2, 0] rfl) hk14_0
  obtain ⟨y14, e14, h⟩ := bd_some h
  refine hL14 1000 (0 : Int32) (0 : Int32) (0 : Int32) v_row y14  H locs ls e14 hS (lv_sub hl [2, 1, 0] rfl) (fun y14_0 y14_1 y14_2 ey14 H locs ls hS hl => ?_)
  subst ey14
  have h := un_r h
  have h := un_r h
  refine lv_iload_n hx hb dX11_laws_74 rfl (lv_at hl 0 rfl) ?_
  obtain rfl := Option.some.inj h
  exact rt_i E hQ (.null) hS dX11_laws_75
set_option maxHeartbeats 4000000 in
set_option maxRecDepth 100000 in
theorem c_X11_looks {l : Launch} {D : va_G} {cy : Nat → ClassId} (q0 : Nat) (q1 : Nat) (q2 : Nat) (q3 : Nat) (u0_0 : Value) (u0_1 : Value) (u0_2 : Value) (u0_3 : Value) (u0_7 : Value) (u0_8 : Value) (u0_9 : Value) (u0_10 : Value) (u0_11 : Value) (u0_12 : Value) (u0_13 : Value) (u0_14 : Value) (u0_15 : Value) (u0_16 : Value) (u0_17 : Value) (u0_18 : Value) (u0_19 : Value) (u0_20 : Value) (u0_21 : Value) (u0_22 : Value) (u0_23 : Value) (u0_24 : Value) (u0_25 : Value) (u0_26 : Value) (u0_27 : Value) (u0_28 : Value) (u0_29 : Value) (u0_30 : Value) (u0_31 : Value) (u0_35 : Value) (u0_36 : Value) (u0_37 : Value) (u0_38 : Value) (u0_39 : Value) (u0_40 : Value) (v_rowMany : Int32) (v_thrown : Int32) (v_sawMany : Int32) (v_row : Nat → Int64) (v_sawOf : Nat → Int32) (v_sawAs : Nat → Int32) (r : Int32 × Int32 × Int32 × (Nat → Int64)) (h : X11_looks v_rowMany v_sawMany v_row v_sawOf v_sawAs = some r) : Ct l yX11_looks cX11_looks 7 (some .int) 2 43 D cy [.ref q0] [oX11 q0 u0_0 u0_1 u0_2 u0_3 (.ref q1) (.int v_rowMany) (.int v_thrown) u0_7 u0_8 u0_9 u0_10 u0_11 u0_12 u0_13 u0_14 u0_15 u0_16 u0_17 u0_18 u0_19 u0_20 u0_21 u0_22 u0_23 u0_24 u0_25 u0_26 u0_27 u0_28 u0_29 u0_30 u0_31 (.ref q2) (.ref q3) (.int v_sawMany) u0_35 u0_36 u0_37 u0_38 u0_39 u0_40, aJ cy q1 16 v_row, aI cy q2 10 v_sawOf, aI cy q3 10 v_sawAs] (fun _ => [oX11 q0 u0_0 u0_1 u0_2 u0_3 (.ref q1) (.int r.2.1) (.int r.2.2.1) u0_7 u0_8 u0_9 u0_10 u0_11 u0_12 u0_13 u0_14 u0_15 u0_16 u0_17 u0_18 u0_19 u0_20 u0_21 u0_22 u0_23 u0_24 u0_25 u0_26 u0_27 u0_28 u0_29 u0_30 u0_31 (.ref q2) (.ref q3) (.int v_sawMany) u0_35 u0_36 u0_37 u0_38 u0_39 u0_40, aJ cy q1 16 r.2.2.2, aI cy q2 10 v_sawOf, aI cy q3 10 v_sawAs]) (some (.int r.1)) := by
  refine Ct.mk kX11_looks (by decide +kernel) (Nat.le_of_ble_eq_true rfl) ?_
  intro p e s m below meth c A ls args R Q hRf hRl hQ E H locs hS hl
  have hx := E.x
  have hb := E.b
  have hl : lv_has ls 7 [(0, .ref q0)] := hl
  unfold X11_looks at h
  refine lv_aload_n hx hb dX11_looks_0 rfl (lv_at hl 0 rfl) ?_
  refine lv_iconst (v := 0) hx hb dX11_looks_1 (by decide) ?_
  refine r_put (ws' := [oX11 q0 u0_0 u0_1 u0_2 u0_3 (.ref q1) (.int v_rowMany) (.int (0 : Int32)) u0_7 u0_8 u0_9 u0_10 u0_11 u0_12 u0_13 u0_14 u0_15 u0_16 u0_17 u0_18 u0_19 u0_20 u0_21 u0_22 u0_23 u0_24 u0_25 u0_26 u0_27 u0_28 u0_29 u0_30 u0_31 (.ref q2) (.ref q3) (.int v_sawMany) u0_35 u0_36 u0_37 u0_38 u0_39 u0_40, aJ cy q1 16 v_row, aI cy q2 10 v_sawOf, aI cy q3 10 v_sawAs]) E frX11_85 hS 0 rfl (Nat.le_of_ble_eq_true rfl) rfl rfl rfl rfl dX11_looks_2 (fun H locs hS => ?_)
  refine lv_iconst (v := -1) hx hb dX11_looks_5 (by decide) ?_
  refine lv_istore_n (lv' := [(1, .int (-1 : Int32)), (0, .ref q0)]) hx hb dX11_looks_6 rfl hl (by decide) rfl (fun ls hl => ?_)
  refine lv_ldcw hx hb E.ow (E.ts _ cnX11_307) dX11_looks_7 ?_
  refine lv_istore_n (lv' := [(2, .int (1000000 : Int32)), (1, .int (-1 : Int32)), (0, .ref q0)]) hx hb dX11_looks_10 rfl hl (by decide) rfl (fun ls hl => ?_)
  refine lv_iconst (v := 0) hx hb dX11_looks_11 (by decide) ?_
  refine lv_istore_n (lv' := [(3, .int (0 : Int32)), (2, .int (1000000 : Int32)), (1, .int (-1 : Int32)), (0, .ref q0)]) hx hb dX11_looks_12 rfl hl (by decide) rfl (fun ls hl => ?_)
  have hL13 : ∀ (n : Nat) (x13_0 : Int32) (x13_1 : Int32) (x13_2 : Int32) (y13 : Int32 × Int32) (H : Heap) (locs : List Loc) (ls : Array Slot), lp (fun x13 => X11_looks_s13 v_sawMany v_sawOf v_sawAs x13.1 x13.2.1 x13.2.2) n (x13_0, x13_1, x13_2) = some y13 → Sv D A s.heap [oX11 q0 u0_0 u0_1 u0_2 u0_3 (.ref q1) (.int v_rowMany) (.int (0 : Int32)) u0_7 u0_8 u0_9 u0_10 u0_11 u0_12 u0_13 u0_14 u0_15 u0_16 u0_17 u0_18 u0_19 u0_20 u0_21 u0_22 u0_23 u0_24 u0_25 u0_26 u0_27 u0_28 u0_29 u0_30 u0_31 (.ref q2) (.ref q3) (.int v_sawMany) u0_35 u0_36 u0_37 u0_38 u0_39 u0_40, aJ cy q1 16 v_row, aI cy q2 10 v_sawOf, aI cy q3 10 v_sawAs] H locs → lv_has ls 7 [(0, .ref q0), (1, .int x13_0), (2, .int x13_1), (3, .int x13_2)] → ( ∀ (y13_0 : Int32) (y13_1 : Int32), (y13_0, y13_1) = y13 → ∀ (H : Heap) (locs : List Loc) (ls : Array Slot), Sv D A s.heap [oX11 q0 u0_0 u0_1 u0_2 u0_3 (.ref q1) (.int v_rowMany) (.int (0 : Int32)) u0_7 u0_8 u0_9 u0_10 u0_11 u0_12 u0_13 u0_14 u0_15 u0_16 u0_17 u0_18 u0_19 u0_20 u0_21 u0_22 u0_23 u0_24 u0_25 u0_26 u0_27 u0_28 u0_29 u0_30 u0_31 (.ref q2) (.ref q3) (.int v_sawMany) u0_35 u0_36 u0_37 u0_38 u0_39 u0_40, aJ cy q1 16 v_row, aI cy q2 10 v_sawOf, aI cy q3 10 v_sawAs] H locs → lv_has ls 7 [(0, .ref q0), (1, .int y13_0), (2, .int y13_1)] → W p l e R s m args below meth c H locs 0 0 Q (F0 m 114 ls [])) → W p l e R s m args below meth c H locs 0 0 Q (F0 m 13 ls []) := by
    intro n
    induction n with
    | zero =>
      intro x13_0 x13_1 x13_2 y13 H locs ls h
      exact lp_zero h
    | succ n ih13 =>
      intro x13_0 x13_1 x13_2 y13 H locs ls h hS hl hk13_0
      obtain ⟨z13, h, hz13a, hz13b⟩ := lp_succ h
      have h : X11_looks_s13 v_sawMany v_sawOf v_sawAs x13_0 x13_1 x13_2 = some z13 := h
      unfold X11_looks_s13 at h
      refine lv_iload_n hx hb dX11_looks_13 rfl (lv_at hl 3 rfl) ?_
      refine lv_bipush (v := 97) hx hb dX11_looks_14 (by decide) ?_
      refine lv_icmp_ge (tgt := 114) hx hb dX11_looks_16 (by decide) (fun c1 => ?_) (fun c1 => ?_)
      · have h := it_pos c1 h
        exact hk13_0 x13_0 x13_1 (hz13b _ (Option.some.inj h).symm)  H locs ls hS (lv_sub hl [0, 1, 2] rfl)
      · have h := it_neg c1 h
        refine lv_iload_n hx hb dX11_looks_19 rfl (lv_at hl 3 rfl) ?_
        refine lv_bipush (v := 10) hx hb dX11_looks_20 (by decide) ?_
        obtain ⟨g2, h⟩ := gz_some h
        refine lv_irem hx hb dX11_looks_22 g2 ?_
        refine lv_bipush (v := 6) hx hb dX11_looks_23 (by decide) ?_
        refine lv_icmp_le (tgt := 31) hx hb dX11_looks_25 (by decide) (fun c3 => ?_) (fun c3 => ?_)
        · have h := it_pos c3 h
          refine lv_iconst (v := 0) hx hb dX11_looks_31 (by decide) ?_
          refine lv_istore (lv' := [(4, .int (0 : Int32)), (0, .ref q0), (1, .int x13_0), (2, .int x13_1), (3, .int x13_2)]) hx hb dX11_looks_32 hl (by decide) rfl (fun ls hl => ?_)
          refine lv_iconst (v := 0) hx hb dX11_looks_34 (by decide) ?_
          refine lv_istore (lv' := [(5, .int (0 : Int32)), (4, .int (0 : Int32)), (0, .ref q0), (1, .int x13_0), (2, .int x13_1), (3, .int x13_2)]) hx hb dX11_looks_35 hl (by decide) rfl (fun ls hl => ?_)
          refine lv_iconst (v := 0) hx hb dX11_looks_37 (by decide) ?_
          refine lv_istore (lv' := [(6, .int (0 : Int32)), (5, .int (0 : Int32)), (4, .int (0 : Int32)), (0, .ref q0), (1, .int x13_0), (2, .int x13_1), (3, .int x13_2)]) hx hb dX11_looks_38 hl (by decide) rfl (fun ls hl => ?_)
          have hL40 : ∀ (n : Nat) (x40_0 : Int32) (x40_1 : Int32) (x40_2 : Int32) (y40 : Int32 × Int32) (H : Heap) (locs : List Loc) (ls : Array Slot), lp (fun x40 => X11_looks_s40 v_sawMany v_sawOf v_sawAs x13_2 x40.1 x40.2.1 x40.2.2) n (x40_0, x40_1, x40_2) = some y40 → Sv D A s.heap [oX11 q0 u0_0 u0_1 u0_2 u0_3 (.ref q1) (.int v_rowMany) (.int (0 : Int32)) u0_7 u0_8 u0_9 u0_10 u0_11 u0_12 u0_13 u0_14 u0_15 u0_16 u0_17 u0_18 u0_19 u0_20 u0_21 u0_22 u0_23 u0_24 u0_25 u0_26 u0_27 u0_28 u0_29 u0_30 u0_31 (.ref q2) (.ref q3) (.int v_sawMany) u0_35 u0_36 u0_37 u0_38 u0_39 u0_40, aJ cy q1 16 v_row, aI cy q2 10 v_sawOf, aI cy q3 10 v_sawAs] H locs → lv_has ls 7 [(0, .ref q0), (1, .int x13_0), (2, .int x13_1), (3, .int x13_2), (4, .int x40_0), (5, .int x40_1), (6, .int x40_2)] → ( ∀ (y40_0 : Int32) (y40_1 : Int32), (y40_0, y40_1) = y40 → ∀ (H : Heap) (locs : List Loc) (ls : Array Slot), Sv D A s.heap [oX11 q0 u0_0 u0_1 u0_2 u0_3 (.ref q1) (.int v_rowMany) (.int (0 : Int32)) u0_7 u0_8 u0_9 u0_10 u0_11 u0_12 u0_13 u0_14 u0_15 u0_16 u0_17 u0_18 u0_19 u0_20 u0_21 u0_22 u0_23 u0_24 u0_25 u0_26 u0_27 u0_28 u0_29 u0_30 u0_31 (.ref q2) (.ref q3) (.int v_sawMany) u0_35 u0_36 u0_37 u0_38 u0_39 u0_40, aJ cy q1 16 v_row, aI cy q2 10 v_sawOf, aI cy q3 10 v_sawAs] H locs → lv_has ls 7 [(0, .ref q0), (1, .int x13_0), (2, .int x13_1), (3, .int x13_2), (4, .int y40_0), (5, .int y40_1)] → W p l e R s m args below meth c H locs 0 0 Q (F0 m 84 ls [])) → W p l e R s m args below meth c H locs 0 0 Q (F0 m 40 ls []) := by
            intro n
            induction n with
            | zero =>
              intro x40_0 x40_1 x40_2 y40 H locs ls h
              exact lp_zero h
            | succ n ih40 =>
              intro x40_0 x40_1 x40_2 y40 H locs ls h hS hl hk40_0
              obtain ⟨z40, h, hz40a, hz40b⟩ := lp_succ h
              have h : X11_looks_s40 v_sawMany v_sawOf v_sawAs x13_2 x40_0 x40_1 x40_2 = some z40 := h
              unfold X11_looks_s40 at h
              refine lv_iload hx hb dX11_looks_40 (lv_at hl 6 rfl) ?_
              refine lv_sipush (v := 160) hx hb dX11_looks_42 (by decide) ?_
              refine lv_icmp_ge (tgt := 84) hx hb dX11_looks_45 (by decide) (fun c4 => ?_) (fun c4 => ?_)
              · have h := it_pos c4 h
                exact hk40_0 x40_0 x40_1 (hz40b _ (Option.some.inj h).symm)  H locs ls hS (lv_sub hl [0, 1, 2, 3, 4, 5] rfl)
              · have h := it_neg c4 h
                refine lv_aload_n hx hb dX11_looks_48 rfl (lv_at hl 0 rfl) ?_
                refine lv_iload hx hb dX11_looks_49 (lv_at hl 6 rfl) ?_
                obtain ⟨y51, e5, h⟩ := bd_some h
                refine ct_V (ws' := fun _ => [oX11 q0 u0_0 u0_1 u0_2 u0_3 (.ref q1) (.int v_rowMany) (.int (0 : Int32)) u0_7 u0_8 u0_9 u0_10 u0_11 u0_12 u0_13 u0_14 u0_15 u0_16 u0_17 u0_18 u0_19 u0_20 u0_21 u0_22 u0_23 u0_24 u0_25 u0_26 u0_27 u0_28 u0_29 u0_30 u0_31 (.ref q2) (.ref q3) (.int v_sawMany) u0_35 u0_36 u0_37 u0_38 u0_39 u0_40, aJ cy q1 16 v_row, aI cy q2 10 v_sawOf, aI cy q3 10 v_sawAs]) (st' := [.int y51]) (rest := []) E hS vlX11_341 (c_X11_isLaw (l := l) (D := D) (cy := cy) (q0 := q0) (q1 := q2) (q2 := q3) (u0_0 := u0_0) (u0_1 := u0_1) (u0_2 := u0_2) (u0_3 := u0_3) (u0_4 := .ref q1) (u0_5 := .int v_rowMany) (u0_6 := .int (0 : Int32)) (u0_7 := u0_7) (u0_8 := u0_8) (u0_9 := u0_9) (u0_10 := u0_10) (u0_11 := u0_11) (u0_12 := u0_12) (u0_13 := u0_13) (u0_14 := u0_14) (u0_15 := u0_15) (u0_16 := u0_16) (u0_17 := u0_17) (u0_18 := u0_18) (u0_19 := u0_19) (u0_20 := u0_20) (u0_21 := u0_21) (u0_22 := u0_22) (u0_23 := u0_23) (u0_24 := u0_24) (u0_25 := u0_25) (u0_26 := u0_26) (u0_27 := u0_27) (u0_28 := u0_28) (u0_29 := u0_29) (u0_30 := u0_30) (u0_31 := u0_31) (u0_35 := u0_35) (u0_36 := u0_36) (u0_37 := u0_37) (u0_38 := u0_38) (u0_39 := u0_39) (u0_40 := u0_40) (v_sawMany := v_sawMany) (v_sawOf := v_sawOf) (v_sawAs := v_sawAs) (p1 := x40_2) (r := y51) e5) [0, 2, 3] rfl rfl (fun _ => rfl) (fun _ => rfl) rfl rfl rfl rfl (Nat.le_of_ble_eq_true rfl) hl.1 (by rw [hRf]; exact Nat.le_of_ble_eq_true rfl) (by rw [hRl]; exact Nat.le_of_ble_eq_true rfl) ⟨Nat.zero_le _, Nat.zero_le _⟩ dX11_looks_51 rfl (fun H locs _ hS => ?_)
                refine lv_if_ne (tgt := 60) hx hb dX11_looks_54 (by decide) (fun c6 => ?_) (fun c6 => ?_)
                · have h := it_neg c6 h
                  refine lv_iload hx hb dX11_looks_60 (lv_at hl 6 rfl) ?_
                  refine lv_iload_n hx hb dX11_looks_62 rfl (lv_at hl 3 rfl) ?_
                  obtain ⟨y63, e7, h⟩ := bd_some h
                  refine ct_S (ws' := fun _ => [oX11 q0 u0_0 u0_1 u0_2 u0_3 (.ref q1) (.int v_rowMany) (.int (0 : Int32)) u0_7 u0_8 u0_9 u0_10 u0_11 u0_12 u0_13 u0_14 u0_15 u0_16 u0_17 u0_18 u0_19 u0_20 u0_21 u0_22 u0_23 u0_24 u0_25 u0_26 u0_27 u0_28 u0_29 u0_30 u0_31 (.ref q2) (.ref q3) (.int v_sawMany) u0_35 u0_36 u0_37 u0_38 u0_39 u0_40, aJ cy q1 16 v_row, aI cy q2 10 v_sawOf, aI cy q3 10 v_sawAs]) (st' := [.int y63]) (rest := []) E hS slX11_338 (c_X11_lets (l := l) (D := D) (cy := cy) (p0 := x40_2) (p1 := x13_2) (r := y63) e7) [] rfl rfl (fun _ => rfl) (fun _ => rfl) rfl rfl (Nat.le_of_ble_eq_true rfl) hl.1 (by rw [hRf]; exact Nat.le_of_ble_eq_true rfl) (by rw [hRl]; exact Nat.le_of_ble_eq_true rfl) ⟨Nat.zero_le _, Nat.zero_le _⟩ dX11_looks_63 rfl (fun H locs _ hS => ?_)
                  refine lv_if_eq (tgt := 75) hx hb dX11_looks_66 (by decide) (fun c8 => ?_) (fun c8 => ?_)
                  · have h := it_pos c8 h
                    refine lv_iinc (v := (x40_1 + (1 : Int32))) (lv' := [(5, .int (x40_1 + (1 : Int32))), (0, .ref q0), (1, .int x13_0), (2, .int x13_1), (3, .int x13_2), (4, .int x40_0), (6, .int x40_2)]) hx hb dX11_looks_75 hl (k := 5) rfl rfl (by decide) rfl (fun ls hl => ?_)
                    refine lv_iinc (v := (x40_2 + (1 : Int32))) (lv' := [(6, .int (x40_2 + (1 : Int32))), (5, .int (x40_1 + (1 : Int32))), (0, .ref q0), (1, .int x13_0), (2, .int x13_1), (3, .int x13_2), (4, .int x40_0)]) hx hb dX11_looks_78 hl (k := 6) rfl rfl (by decide) rfl (fun ls hl => ?_)
                    refine lv_goto (tgt := 40) hx hb dX11_looks_81 (by decide) ?_
                    exact ih40 x40_0 (x40_1 + (1 : Int32)) (x40_2 + (1 : Int32)) y40  H locs ls (hz40a _ (Option.some.inj h).symm) hS (lv_sub hl [2, 3, 4, 5, 6, 1, 0] rfl) hk40_0
                  · have h := it_neg c8 h
                    refine lv_iinc (v := (x40_0 + (1 : Int32))) (lv' := [(4, .int (x40_0 + (1 : Int32))), (0, .ref q0), (1, .int x13_0), (2, .int x13_1), (3, .int x13_2), (5, .int x40_1), (6, .int x40_2)]) hx hb dX11_looks_69 hl (k := 4) rfl rfl (by decide) rfl (fun ls hl => ?_)
                    refine lv_goto (tgt := 78) hx hb dX11_looks_72 (by decide) ?_
                    refine lv_iinc (v := (x40_2 + (1 : Int32))) (lv' := [(6, .int (x40_2 + (1 : Int32))), (4, .int (x40_0 + (1 : Int32))), (0, .ref q0), (1, .int x13_0), (2, .int x13_1), (3, .int x13_2), (5, .int x40_1)]) hx hb dX11_looks_78 hl (k := 6) rfl rfl (by decide) rfl (fun ls hl => ?_)
                    refine lv_goto (tgt := 40) hx hb dX11_looks_81 (by decide) ?_
                    exact ih40 (x40_0 + (1 : Int32)) x40_1 (x40_2 + (1 : Int32)) y40  H locs ls (hz40a _ (Option.some.inj h).symm) hS (lv_sub hl [2, 3, 4, 5, 1, 6, 0] rfl) hk40_0
                · have h := it_pos c6 h
                  refine lv_goto (tgt := 78) hx hb dX11_looks_57 (by decide) ?_
                  refine lv_iinc (v := (x40_2 + (1 : Int32))) (lv' := [(6, .int (x40_2 + (1 : Int32))), (0, .ref q0), (1, .int x13_0), (2, .int x13_1), (3, .int x13_2), (4, .int x40_0), (5, .int x40_1)]) hx hb dX11_looks_78 hl (k := 6) rfl rfl (by decide) rfl (fun ls hl => ?_)
                  refine lv_goto (tgt := 40) hx hb dX11_looks_81 (by decide) ?_
                  exact ih40 x40_0 x40_1 (x40_2 + (1 : Int32)) y40  H locs ls (hz40a _ (Option.some.inj h).symm) hS (lv_sub hl [1, 2, 3, 4, 5, 6, 0] rfl) hk40_0
          obtain ⟨y40, e40, h⟩ := bd_some h
          refine hL40 1000 (0 : Int32) (0 : Int32) (0 : Int32) y40  H locs ls e40 hS (lv_sub hl [3, 4, 5, 6, 2, 1, 0] rfl) (fun y40_0 y40_1 ey40 H locs ls hS hl => ?_)
          subst ey40
          have h := un_r h
          refine lv_iload hx hb dX11_looks_84 (lv_at hl 4 rfl) ?_
          refine lv_iload hx hb dX11_looks_86 (lv_at hl 5 rfl) ?_
          refine ct_S (ws' := fun _ => [oX11 q0 u0_0 u0_1 u0_2 u0_3 (.ref q1) (.int v_rowMany) (.int (0 : Int32)) u0_7 u0_8 u0_9 u0_10 u0_11 u0_12 u0_13 u0_14 u0_15 u0_16 u0_17 u0_18 u0_19 u0_20 u0_21 u0_22 u0_23 u0_24 u0_25 u0_26 u0_27 u0_28 u0_29 u0_30 u0_31 (.ref q2) (.ref q3) (.int v_sawMany) u0_35 u0_36 u0_37 u0_38 u0_39 u0_40, aJ cy q1 16 v_row, aI cy q2 10 v_sawOf, aI cy q3 10 v_sawAs]) (st' := [.int (J9_max_7cf53 y40_0 y40_1)]) (rest := []) E hS slX11_229 (c_J9_max_7cf53 (l := l) (D := D) (cy := cy) (p0 := y40_0) (p1 := y40_1) (r := (J9_max_7cf53 y40_0 y40_1)) rfl) [] rfl rfl (fun _ => rfl) (fun _ => rfl) rfl rfl (Nat.le_of_ble_eq_true rfl) hl.1 (by rw [hRf]; exact Nat.le_of_ble_eq_true rfl) (by rw [hRl]; exact Nat.le_of_ble_eq_true rfl) ⟨Nat.zero_le _, Nat.zero_le _⟩ dX11_looks_88 rfl (fun H locs _ hS => ?_)
          refine lv_iload_n hx hb dX11_looks_91 rfl (lv_at hl 2 rfl) ?_
          refine lv_icmp_lt (tgt := 98) hx hb dX11_looks_92 (by decide) (fun c9 => ?_) (fun c9 => ?_)
          · have h := it_pos c9 h
            refine lv_iload_n hx hb dX11_looks_98 rfl (lv_at hl 3 rfl) ?_
            refine lv_istore_n (lv' := [(1, .int x13_2), (0, .ref q0), (2, .int x13_1), (3, .int x13_2), (4, .int y40_0), (5, .int y40_1)]) hx hb dX11_looks_99 rfl hl (by decide) rfl (fun ls hl => ?_)
            refine lv_iload hx hb dX11_looks_100 (lv_at hl 4 rfl) ?_
            refine lv_iload hx hb dX11_looks_102 (lv_at hl 5 rfl) ?_
            refine ct_S (ws' := fun _ => [oX11 q0 u0_0 u0_1 u0_2 u0_3 (.ref q1) (.int v_rowMany) (.int (0 : Int32)) u0_7 u0_8 u0_9 u0_10 u0_11 u0_12 u0_13 u0_14 u0_15 u0_16 u0_17 u0_18 u0_19 u0_20 u0_21 u0_22 u0_23 u0_24 u0_25 u0_26 u0_27 u0_28 u0_29 u0_30 u0_31 (.ref q2) (.ref q3) (.int v_sawMany) u0_35 u0_36 u0_37 u0_38 u0_39 u0_40, aJ cy q1 16 v_row, aI cy q2 10 v_sawOf, aI cy q3 10 v_sawAs]) (st' := [.int (J9_max_7cf53 y40_0 y40_1)]) (rest := []) E hS slX11_229 (c_J9_max_7cf53 (l := l) (D := D) (cy := cy) (p0 := y40_0) (p1 := y40_1) (r := (J9_max_7cf53 y40_0 y40_1)) rfl) [] rfl rfl (fun _ => rfl) (fun _ => rfl) rfl rfl (Nat.le_of_ble_eq_true rfl) hl.1 (by rw [hRf]; exact Nat.le_of_ble_eq_true rfl) (by rw [hRl]; exact Nat.le_of_ble_eq_true rfl) ⟨Nat.zero_le _, Nat.zero_le _⟩ dX11_looks_104 rfl (fun H locs _ hS => ?_)
            refine lv_istore_n (lv' := [(2, .int (J9_max_7cf53 y40_0 y40_1)), (1, .int x13_2), (0, .ref q0), (3, .int x13_2), (4, .int y40_0), (5, .int y40_1)]) hx hb dX11_looks_107 rfl hl (by decide) rfl (fun ls hl => ?_)
            refine lv_iinc (v := (x13_2 + (1 : Int32))) (lv' := [(3, .int (x13_2 + (1 : Int32))), (2, .int (J9_max_7cf53 y40_0 y40_1)), (1, .int x13_2), (0, .ref q0), (4, .int y40_0), (5, .int y40_1)]) hx hb dX11_looks_108 hl (k := 3) rfl rfl (by decide) rfl (fun ls hl => ?_)
            refine lv_goto (tgt := 13) hx hb dX11_looks_111 (by decide) ?_
            exact ih13 x13_2 (J9_max_7cf53 y40_0 y40_1) (x13_2 + (1 : Int32)) y13  H locs ls (hz13a _ (Option.some.inj h).symm) hS (lv_sub hl [3, 2, 1, 0] rfl) hk13_0
          · have h := it_neg c9 h
            refine lv_goto (tgt := 108) hx hb dX11_looks_95 (by decide) ?_
            refine lv_iinc (v := (x13_2 + (1 : Int32))) (lv' := [(3, .int (x13_2 + (1 : Int32))), (0, .ref q0), (1, .int x13_0), (2, .int x13_1), (4, .int y40_0), (5, .int y40_1)]) hx hb dX11_looks_108 hl (k := 3) rfl rfl (by decide) rfl (fun ls hl => ?_)
            refine lv_goto (tgt := 13) hx hb dX11_looks_111 (by decide) ?_
            exact ih13 x13_0 x13_1 (x13_2 + (1 : Int32)) y13  H locs ls (hz13a _ (Option.some.inj h).symm) hS (lv_sub hl [1, 2, 3, 0] rfl) hk13_0
        · have h := it_neg c3 h
          refine lv_goto (tgt := 108) hx hb dX11_looks_28 (by decide) ?_
          refine lv_iinc (v := (x13_2 + (1 : Int32))) (lv' := [(3, .int (x13_2 + (1 : Int32))), (0, .ref q0), (1, .int x13_0), (2, .int x13_1)]) hx hb dX11_looks_108 hl (k := 3) rfl rfl (by decide) rfl (fun ls hl => ?_)
          refine lv_goto (tgt := 13) hx hb dX11_looks_111 (by decide) ?_
          exact ih13 x13_0 x13_1 (x13_2 + (1 : Int32)) y13  H locs ls (hz13a _ (Option.some.inj h).symm) hS (lv_sub hl [1, 2, 3, 0] rfl) hk13_0
  obtain ⟨y13, e13, h⟩ := bd_some h
  refine hL13 1000 (-1 : Int32) (1000000 : Int32) (0 : Int32) y13  H locs ls e13 hS (lv_sub hl [3, 2, 1, 0] rfl) (fun y13_0 y13_1 ey13 H locs ls hS hl => ?_)
  subst ey13
  have h := un_r h
  refine lv_iload_n hx hb dX11_looks_114 rfl (lv_at hl 2 rfl) ?_
  refine lv_if_ne (tgt := 121) hx hb dX11_looks_115 (by decide) (fun c10 => ?_) (fun c10 => ?_)
  · have h := it_neg c10 h
    refine lv_aload_n hx hb dX11_looks_121 rfl (lv_at hl 0 rfl) ?_
    refine lv_iconst (v := 0) hx hb dX11_looks_122 (by decide) ?_
    refine r_put (ws' := [oX11 q0 u0_0 u0_1 u0_2 u0_3 (.ref q1) (.int (0 : Int32)) (.int (0 : Int32)) u0_7 u0_8 u0_9 u0_10 u0_11 u0_12 u0_13 u0_14 u0_15 u0_16 u0_17 u0_18 u0_19 u0_20 u0_21 u0_22 u0_23 u0_24 u0_25 u0_26 u0_27 u0_28 u0_29 u0_30 u0_31 (.ref q2) (.ref q3) (.int v_sawMany) u0_35 u0_36 u0_37 u0_38 u0_39 u0_40, aJ cy q1 16 v_row, aI cy q2 10 v_sawOf, aI cy q3 10 v_sawAs]) E frX11_89 hS 0 rfl (Nat.le_of_ble_eq_true rfl) rfl rfl rfl rfl dX11_looks_123 (fun H locs hS => ?_)
    refine lv_aload_n hx hb dX11_looks_126 rfl (lv_at hl 0 rfl) ?_
    refine lv_iload_n hx hb dX11_looks_127 rfl (lv_at hl 2 rfl) ?_
    refine lv_i2l (v := (y13_1.toInt64)) hx hb dX11_looks_128 rfl ?_
    obtain ⟨y129, e11, h⟩ := bd_some h
    refine ct_V (ws' := fun _ => [oX11 q0 u0_0 u0_1 u0_2 u0_3 (.ref q1) (.int y129.1) (.int (0 : Int32)) u0_7 u0_8 u0_9 u0_10 u0_11 u0_12 u0_13 u0_14 u0_15 u0_16 u0_17 u0_18 u0_19 u0_20 u0_21 u0_22 u0_23 u0_24 u0_25 u0_26 u0_27 u0_28 u0_29 u0_30 u0_31 (.ref q2) (.ref q3) (.int v_sawMany) u0_35 u0_36 u0_37 u0_38 u0_39 u0_40, aJ cy q1 16 y129.2, aI cy q2 10 v_sawOf, aI cy q3 10 v_sawAs]) (st' := []) (rest := []) E hS vlX11_256 (c_X11_tell (l := l) (D := D) (cy := cy) (q0 := q0) (q1 := q1) (u0_0 := u0_0) (u0_1 := u0_1) (u0_2 := u0_2) (u0_3 := u0_3) (u0_6 := .int (0 : Int32)) (u0_7 := u0_7) (u0_8 := u0_8) (u0_9 := u0_9) (u0_10 := u0_10) (u0_11 := u0_11) (u0_12 := u0_12) (u0_13 := u0_13) (u0_14 := u0_14) (u0_15 := u0_15) (u0_16 := u0_16) (u0_17 := u0_17) (u0_18 := u0_18) (u0_19 := u0_19) (u0_20 := u0_20) (u0_21 := u0_21) (u0_22 := u0_22) (u0_23 := u0_23) (u0_24 := u0_24) (u0_25 := u0_25) (u0_26 := u0_26) (u0_27 := u0_27) (u0_28 := u0_28) (u0_29 := u0_29) (u0_30 := u0_30) (u0_31 := u0_31) (u0_32 := .ref q2) (u0_33 := .ref q3) (u0_34 := .int v_sawMany) (u0_35 := u0_35) (u0_36 := u0_36) (u0_37 := u0_37) (u0_38 := u0_38) (u0_39 := u0_39) (u0_40 := u0_40) (v_rowMany := (0 : Int32)) (v_row := v_row) (p1 := (y13_1.toInt64)) (r := y129) e11) [0, 1] rfl rfl (fun _ => rfl) (fun _ => rfl) rfl rfl rfl rfl (Nat.le_of_ble_eq_true rfl) hl.1 (by rw [hRf]; exact Nat.le_of_ble_eq_true rfl) (by rw [hRl]; exact Nat.le_of_ble_eq_true rfl) ⟨Nat.zero_le _, Nat.zero_le _⟩ dX11_looks_129 rfl (fun H locs _ hS => ?_)
    refine lv_iload_n hx hb dX11_looks_132 rfl (lv_at hl 1 rfl) ?_
    obtain rfl := Option.some.inj h
    exact rt_i E hQ (.null) hS dX11_looks_133
  · have h := it_pos c10 h
    refine lv_bipush (v := -2) hx hb dX11_looks_118 (by decide) ?_
    obtain rfl := Option.some.inj h
    exact rt_i E hQ (.null) hS dX11_looks_120
theorem X11_gcd_z {C : Prop} {p0 : Int64} {p2 : Int64} {r : Int64} (h : X11_gcd 0 p0 p2 = some r) : C := by
  rw [X11_gcd] at h
  cases h
set_option maxHeartbeats 8000000 in
set_option maxRecDepth 100000 in
theorem g_X11_gcd {l : Launch} {D : va_G} {cy : Nat → ClassId} : ∀ n : Nat, (∀ (p0 : Int64) (p2 : Int64) (r : Int64), X11_gcd n p0 p2 = some r → Ct l yX11_common cX11_common 4 (some .long) (0 + n) (0 + n * 23) D cy [.long p0, .long p2] [] (fun _ => []) (some (.long r))) := by
  intro n
  induction n with
  | zero =>
    exact fun _ _ _ h => X11_gcd_z h
  | succ n ih =>
    have ih0 := ih
    intro p0 p2 r h
    have h : X11_gcd_b0 (X11_gcd n) p0 p2 = some r := h
    generalize X11_gcd n = rec at ih0 h
    unfold X11_gcd_b0 at h
    refine Ct.mk kX11_common (by decide +kernel) (Nat.le_of_ble_eq_true rfl) ?_
    intro p e s m below meth c A ls args R Q hRf hRl hQ E H locs hS hl
    have hx := E.x
    have hb := E.b
    have hl : lv_has ls 4 [(0, .long p0), (2, .long p2)] := hl
    refine lv_lload_n hx hb dX11_common_0 rfl (lv_at hl 1 rfl) ?_
    refine lv_lconst (v := 0) hx hb dX11_common_1 (by decide) ?_
    refine W.lcmp hx hb dX11_common_2 ?_
    refine lv_if_ne (tgt := 10) hx hb dX11_common_3 (by decide) (fun c1 => ?_) (fun c1 => ?_)
    · have h := it_neg c1 h
      refine lv_lload_n hx hb dX11_common_10 rfl (lv_at hl 1 rfl) ?_
      refine lv_lload_n hx hb dX11_common_11 rfl (lv_at hl 0 rfl) ?_
      refine lv_lload_n hx hb dX11_common_12 rfl (lv_at hl 1 rfl) ?_
      obtain ⟨g2, h⟩ := gzl_some h
      refine lv_lrem hx hb dX11_common_13 g2 ?_
      obtain ⟨y14, e3, h⟩ := bd_some h
      refine ct_S (ws' := fun _ => []) (st' := [.long y14]) (rest := []) E hS slX11_344 (ih0 p2 (lrem p0 p2) y14 e3) [] rfl rfl (fun _ => rfl) (fun _ => rfl) rfl rfl (Nat.le_of_ble_eq_true rfl) hl.1 (by rw [hRf]; omega) (by rw [hRl]; omega) ⟨Nat.zero_le _, Nat.zero_le _⟩ dX11_common_14 rfl (fun H locs _ hS => ?_)
      obtain rfl := Option.some.inj h
      exact rt_l E hQ (.null) hS dX11_common_17
    · have h := it_pos c1 h
      refine lv_lload_n hx hb dX11_common_6 rfl (lv_at hl 0 rfl) ?_
      refine lv_goto (tgt := 17) hx hb dX11_common_7 (by decide) ?_
      obtain rfl := Option.some.inj h
      exact rt_l E hQ (.null) hS dX11_common_17
theorem c_X11_common {l : Launch} {D : va_G} {cy : Nat → ClassId} (p0 : Int64) (p2 : Int64) (r : Int64) (h : X11_gcd 100 p0 p2 = some r) : Ct l yX11_common cX11_common 4 (some .long) 100 2300 D cy [.long p0, .long p2] [] (fun _ => []) (some (.long r)) := (g_X11_gcd 100) p0 p2 r h

