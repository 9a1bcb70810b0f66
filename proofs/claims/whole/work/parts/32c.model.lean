set_option maxHeartbeats 4000000 in
set_option maxRecDepth 100000 in
theorem c_X11_runs {l : Launch} {D : va_G} {cy : Nat → ClassId} (q0 : Nat) (q1 : Nat) (q2 : Nat) (q3 : Nat) (q4 : Nat) (q5 : Nat) (u0_2 : Value) (u0_3 : Value) (u0_7 : Value) (u0_12 : Value) (u0_14 : Value) (u0_18 : Value) (u0_19 : Value) (u0_20 : Value) (u0_22 : Value) (u0_23 : Value) (u0_24 : Value) (u0_25 : Value) (u0_26 : Value) (u0_27 : Value) (u0_28 : Value) (u0_29 : Value) (u0_30 : Value) (u0_31 : Value) (u0_32 : Value) (u0_33 : Value) (u0_34 : Value) (u0_35 : Value) (u0_36 : Value) (u0_37 : Value) (u0_38 : Value) (u0_39 : Value) (u0_40 : Value) (v_people : Int32) (v_rowMany : Int32) (v_thrown : Int32) (v_length : Int32) (v_top : Int32) (v_at : Int32) (v_wrong : Int32) (v_ruleSize : Int32) (v_isAsked : Int32) (v_now : Nat → Int32) (v_row : Nat → Int64) (v_rule : Nat → Int32) (v_asked : Nat → Int32) (v_then : Nat → Int32) (p1 : Int32) (p2 : Int32) (r : Int32 × Int32 × Int32 × Int32 × Int32 × Int32 × Int32 × Int32 × (Nat → Int64) × (Nat → Int32) × (Nat → Int32)) (h : X11_runs v_people v_rowMany v_length v_top v_at v_wrong v_ruleSize v_isAsked v_now v_row v_rule v_asked v_then p1 p2 = some r) : Ct l yX11_runs cX11_runs 7 (some .int) 110 2626 D cy [.ref q0, .int p1, .int p2] [oX11 q0 (.ref q1) (.int v_people) u0_2 u0_3 (.ref q2) (.int v_rowMany) (.int v_thrown) u0_7 (.int v_length) (.int v_top) (.int v_at) (.int v_wrong) u0_12 (.ref q3) u0_14 (.int v_ruleSize) (.int v_isAsked) (.ref q4) u0_18 u0_19 u0_20 (.ref q5) u0_22 u0_23 u0_24 u0_25 u0_26 u0_27 u0_28 u0_29 u0_30 u0_31 u0_32 u0_33 u0_34 u0_35 u0_36 u0_37 u0_38 u0_39 u0_40, aI cy q1 37 v_now, aJ cy q2 16 v_row, aB cy q3 40 v_rule, aI cy q4 7 v_asked, aI cy q5 37 v_then] (fun rv => [oX11 q0 (.ref q1) (.int v_people) u0_2 u0_3 (.ref q2) (.int r.2.1) (.int r.2.2.1) rv (.int r.2.2.2.1) (.int r.2.2.2.2.1) (.int r.2.2.2.2.2.1) (.int r.2.2.2.2.2.2.1) u0_12 (.ref q3) u0_14 (.int v_ruleSize) (.int r.2.2.2.2.2.2.2.1) (.ref q4) u0_18 u0_19 u0_20 (.ref q5) u0_22 u0_23 u0_24 u0_25 u0_26 u0_27 u0_28 u0_29 u0_30 u0_31 u0_32 u0_33 u0_34 u0_35 u0_36 u0_37 u0_38 u0_39 u0_40, aI cy q1 37 v_now, aJ cy q2 16 r.2.2.2.2.2.2.2.2.1, aB cy q3 40 v_rule, aI cy q4 7 r.2.2.2.2.2.2.2.2.2.1, aI cy q5 37 r.2.2.2.2.2.2.2.2.2.2]) (some (.int r.1)) := by
  refine Ct.mk kX11_runs (by decide +kernel) (Nat.le_of_ble_eq_true rfl) ?_
  intro p e s m below meth c A ls args R Q hRf hRl hQ E H locs hS hl
  have hx := E.x
  have hb := E.b
  have hl : lv_has ls 7 [(0, .ref q0), (1, .int p1), (2, .int p2)] := hl
  unfold X11_runs at h
  refine lv_aload_n hx hb dX11_runs_0 rfl (lv_at hl 0 rfl) ?_
  refine lv_iconst (v := 0) hx hb dX11_runs_1 (by decide) ?_
  refine r_put (ws' := [oX11 q0 (.ref q1) (.int v_people) u0_2 u0_3 (.ref q2) (.int v_rowMany) (.int (0 : Int32)) u0_7 (.int v_length) (.int v_top) (.int v_at) (.int v_wrong) u0_12 (.ref q3) u0_14 (.int v_ruleSize) (.int v_isAsked) (.ref q4) u0_18 u0_19 u0_20 (.ref q5) u0_22 u0_23 u0_24 u0_25 u0_26 u0_27 u0_28 u0_29 u0_30 u0_31 u0_32 u0_33 u0_34 u0_35 u0_36 u0_37 u0_38 u0_39 u0_40, aI cy q1 37 v_now, aJ cy q2 16 v_row, aB cy q3 40 v_rule, aI cy q4 7 v_asked, aI cy q5 37 v_then]) E frX11_85 hS 0 rfl (Nat.le_of_ble_eq_true rfl) rfl rfl rfl rfl dX11_runs_2 (fun H locs hS => ?_)
  refine lv_aload_n hx hb dX11_runs_5 rfl (lv_at hl 0 rfl) ?_
  refine lv_iload_n hx hb dX11_runs_6 rfl (lv_at hl 1 rfl) ?_
  obtain ⟨y7, e1, h⟩ := bd_some h
  refine ct_V (ws' := fun _ => [oX11 q0 (.ref q1) (.int v_people) u0_2 u0_3 (.ref q2) (.int v_rowMany) (.int (0 : Int32)) u0_7 (.int v_length) (.int v_top) (.int v_at) (.int v_wrong) u0_12 (.ref q3) u0_14 (.int v_ruleSize) (.int v_isAsked) (.ref q4) u0_18 u0_19 u0_20 (.ref q5) u0_22 u0_23 u0_24 u0_25 u0_26 u0_27 u0_28 u0_29 u0_30 u0_31 u0_32 u0_33 u0_34 u0_35 u0_36 u0_37 u0_38 u0_39 u0_40, aI cy q1 37 v_now, aJ cy q2 16 v_row, aB cy q3 40 v_rule, aI cy q4 7 v_asked, aI cy q5 37 v_then]) (st' := [.int y7]) (rest := []) E hS vlX11_99 (c_X11_isOne (l := l) (D := D) (cy := cy) (q0 := q0) (u0_0 := .ref q1) (u0_2 := u0_2) (u0_3 := u0_3) (u0_4 := .ref q2) (u0_5 := .int v_rowMany) (u0_6 := .int (0 : Int32)) (u0_7 := u0_7) (u0_8 := .int v_length) (u0_9 := .int v_top) (u0_10 := .int v_at) (u0_11 := .int v_wrong) (u0_12 := u0_12) (u0_13 := .ref q3) (u0_14 := u0_14) (u0_15 := .int v_ruleSize) (u0_16 := .int v_isAsked) (u0_17 := .ref q4) (u0_18 := u0_18) (u0_19 := u0_19) (u0_20 := u0_20) (u0_21 := .ref q5) (u0_22 := u0_22) (u0_23 := u0_23) (u0_24 := u0_24) (u0_25 := u0_25) (u0_26 := u0_26) (u0_27 := u0_27) (u0_28 := u0_28) (u0_29 := u0_29) (u0_30 := u0_30) (u0_31 := u0_31) (u0_32 := u0_32) (u0_33 := u0_33) (u0_34 := u0_34) (u0_35 := u0_35) (u0_36 := u0_36) (u0_37 := u0_37) (u0_38 := u0_38) (u0_39 := u0_39) (u0_40 := u0_40) (v_people := v_people) (p1 := p1) (r := y7) e1) [0] rfl rfl (fun _ => rfl) (fun _ => rfl) rfl rfl rfl rfl (Nat.le_of_ble_eq_true rfl) hl.1 (by rw [hRf]; exact Nat.le_of_ble_eq_true rfl) (by rw [hRl]; exact Nat.le_of_ble_eq_true rfl) ⟨Nat.zero_le _, Nat.zero_le _⟩ dX11_runs_7 rfl (fun H locs _ hS => ?_)
  refine lv_if_eq (tgt := 23) hx hb dX11_runs_10 (by decide) (fun c2 => ?_) (fun c2 => ?_)
  · have h := it_pos c2 h
    refine lv_iconst (v := -1) hx hb dX11_runs_23 (by decide) ?_
    obtain rfl := Option.some.inj h
    exact rt_i E hQ (u0_7) hS dX11_runs_24
  · have h := it_neg c2 h
    refine lv_iload_n hx hb dX11_runs_13 rfl (lv_at hl 2 rfl) ?_
    refine lv_iconst (v := 1) hx hb dX11_runs_14 (by decide) ?_
    refine lv_bipush (v := 99) hx hb dX11_runs_15 (by decide) ?_
    refine ct_S (ws' := fun _ => [oX11 q0 (.ref q1) (.int v_people) u0_2 u0_3 (.ref q2) (.int v_rowMany) (.int (0 : Int32)) u0_7 (.int v_length) (.int v_top) (.int v_at) (.int v_wrong) u0_12 (.ref q3) u0_14 (.int v_ruleSize) (.int v_isAsked) (.ref q4) u0_18 u0_19 u0_20 (.ref q5) u0_22 u0_23 u0_24 u0_25 u0_26 u0_27 u0_28 u0_29 u0_30 u0_31 u0_32 u0_33 u0_34 u0_35 u0_36 u0_37 u0_38 u0_39 u0_40, aI cy q1 37 v_now, aJ cy q2 16 v_row, aB cy q3 40 v_rule, aI cy q4 7 v_asked, aI cy q5 37 v_then]) (st' := [.int (X11_in p2 (1 : Int32) (99 : Int32))]) (rest := []) E hS slX11_95 (c_X11_in (l := l) (D := D) (cy := cy) (p0 := p2) (p1 := (1 : Int32)) (p2 := (99 : Int32)) (r := (X11_in p2 (1 : Int32) (99 : Int32))) rfl) [] rfl rfl (fun _ => rfl) (fun _ => rfl) rfl rfl (Nat.le_of_ble_eq_true rfl) hl.1 (by rw [hRf]; exact Nat.le_of_ble_eq_true rfl) (by rw [hRl]; exact Nat.le_of_ble_eq_true rfl) ⟨Nat.zero_le _, Nat.zero_le _⟩ dX11_runs_17 rfl (fun H locs _ hS => ?_)
    refine lv_if_ne (tgt := 25) hx hb dX11_runs_20 (by decide) (fun c3 => ?_) (fun c3 => ?_)
    · have h := it_neg c3 h
      refine lv_aload_n hx hb dX11_runs_25 rfl (lv_at hl 0 rfl) ?_
      refine r_get E frX11_9 hS 0 rfl rfl dX11_runs_26 ?_
      refine lv_aload_n hx hb dX11_runs_29 rfl (lv_at hl 0 rfl) ?_
      refine r_get E frX11_39 hS 0 rfl rfl dX11_runs_30 ?_
      refine lv_iconst (v := 0) hx hb dX11_runs_33 (by decide) ?_
      obtain ⟨y34, e4, h⟩ := bd_some h
      refine ct_S (ws' := fun _ => [oX11 q0 (.ref q1) (.int v_people) u0_2 u0_3 (.ref q2) (.int v_rowMany) (.int (0 : Int32)) u0_7 (.int v_length) (.int v_top) (.int v_at) (.int v_wrong) u0_12 (.ref q3) u0_14 (.int v_ruleSize) (.int v_isAsked) (.ref q4) u0_18 u0_19 u0_20 (.ref q5) u0_22 u0_23 u0_24 u0_25 u0_26 u0_27 u0_28 u0_29 u0_30 u0_31 u0_32 u0_33 u0_34 u0_35 u0_36 u0_37 u0_38 u0_39 u0_40, aI cy q1 37 v_now, aJ cy q2 16 v_row, aB cy q3 40 v_rule, aI cy q4 7 v_asked, aI cy q5 37 y34]) (st' := []) (rest := []) E hS slX11_235 (c_X11_lay (l := l) (D := D) (cy := cy) (q0 := q1) (q1 := q5) (nw1_ := 37) (w1_ := v_now) (nw2_ := 37) (w2_ := v_then) (p2 := (0 : Int32)) (r := y34) e4) [1, 5] rfl rfl (fun _ => rfl) (fun _ => rfl) rfl rfl (Nat.le_of_ble_eq_true rfl) hl.1 (by rw [hRf]; exact Nat.le_of_ble_eq_true rfl) (by rw [hRl]; exact Nat.le_of_ble_eq_true rfl) ⟨Nat.zero_le _, Nat.zero_le _⟩ dX11_runs_34 rfl (fun H locs _ hS => ?_)
      refine lv_iconst (v := 0) hx hb dX11_runs_37 (by decide) ?_
      refine lv_istore_n (lv' := [(3, .int (0 : Int32)), (0, .ref q0), (1, .int p1), (2, .int p2)]) hx hb dX11_runs_38 rfl hl (by decide) rfl (fun ls hl => ?_)
      refine lv_iconst (v := 0) hx hb dX11_runs_39 (by decide) ?_
      refine lv_istore (lv' := [(4, .int (0 : Int32)), (3, .int (0 : Int32)), (0, .ref q0), (1, .int p1), (2, .int p2)]) hx hb dX11_runs_40 hl (by decide) rfl (fun ls hl => ?_)
      refine lv_iconst (v := 0) hx hb dX11_runs_42 (by decide) ?_
      refine lv_istore (lv' := [(5, .int (0 : Int32)), (4, .int (0 : Int32)), (3, .int (0 : Int32)), (0, .ref q0), (1, .int p1), (2, .int p2)]) hx hb dX11_runs_43 hl (by decide) rfl (fun ls hl => ?_)
      refine lv_iconst (v := 1) hx hb dX11_runs_45 (by decide) ?_
      refine lv_istore (lv' := [(6, .int (1 : Int32)), (5, .int (0 : Int32)), (4, .int (0 : Int32)), (3, .int (0 : Int32)), (0, .ref q0), (1, .int p1), (2, .int p2)]) hx hb dX11_runs_46 hl (by decide) rfl (fun ls hl => ?_)
      have hL48 : ∀ (n : Nat) (x48_0 : Int32) (x48_1 : Int32) (x48_2 : Int32) (x48_3 : Int32) (x48_4 : Int32) (x48_5 : Int32) (x48_6 : Int32) (x48_7 : Int32) (x48_8 : Int32) (x48_9 : Nat → Int32) (x48_10 : Nat → Int32) (y48 : Int32 × Int32 × Int32 × Int32 × Int32 × Int32 × Int32 × (Nat → Int32) × (Nat → Int32)) (rv48_0 : Value) (H : Heap) (locs : List Loc) (ls : Array Slot), lp (fun x48 => X11_runs_s48 v_people v_ruleSize v_rule p1 p2 x48.1 x48.2.1 x48.2.2.1 x48.2.2.2.1 x48.2.2.2.2.1 x48.2.2.2.2.2.1 x48.2.2.2.2.2.2.1 x48.2.2.2.2.2.2.2.1 x48.2.2.2.2.2.2.2.2.1 x48.2.2.2.2.2.2.2.2.2.1 x48.2.2.2.2.2.2.2.2.2.2) n (x48_0, x48_1, x48_2, x48_3, x48_4, x48_5, x48_6, x48_7, x48_8, x48_9, x48_10) = some y48 → Sv D A s.heap [oX11 q0 (.ref q1) (.int v_people) u0_2 u0_3 (.ref q2) (.int v_rowMany) (.int (0 : Int32)) rv48_0 (.int x48_4) (.int x48_5) (.int x48_6) (.int x48_7) u0_12 (.ref q3) u0_14 (.int v_ruleSize) (.int x48_8) (.ref q4) u0_18 u0_19 u0_20 (.ref q5) u0_22 u0_23 u0_24 u0_25 u0_26 u0_27 u0_28 u0_29 u0_30 u0_31 u0_32 u0_33 u0_34 u0_35 u0_36 u0_37 u0_38 u0_39 u0_40, aI cy q1 37 v_now, aJ cy q2 16 v_row, aB cy q3 40 v_rule, aI cy q4 7 x48_9, aI cy q5 37 x48_10] H locs → lv_has ls 7 [(0, .ref q0), (1, .int p1), (2, .int p2), (3, .int x48_0), (4, .int x48_1), (5, .int x48_2), (6, .int x48_3)] → ( ∀ (y48_0 : Int32) (y48_1 : Int32) (y48_2 : Int32) (y48_3 : Int32) (y48_4 : Int32) (y48_5 : Int32) (y48_6 : Int32) (y48_7 : Nat → Int32) (y48_8 : Nat → Int32), (y48_0, y48_1, y48_2, y48_3, y48_4, y48_5, y48_6, y48_7, y48_8) = y48 → ∀ (rv48_0 : Value), ∀ (H : Heap) (locs : List Loc) (ls : Array Slot), Sv D A s.heap [oX11 q0 (.ref q1) (.int v_people) u0_2 u0_3 (.ref q2) (.int v_rowMany) (.int (0 : Int32)) rv48_0 (.int y48_2) (.int y48_3) (.int y48_4) (.int y48_5) u0_12 (.ref q3) u0_14 (.int v_ruleSize) (.int y48_6) (.ref q4) u0_18 u0_19 u0_20 (.ref q5) u0_22 u0_23 u0_24 u0_25 u0_26 u0_27 u0_28 u0_29 u0_30 u0_31 u0_32 u0_33 u0_34 u0_35 u0_36 u0_37 u0_38 u0_39 u0_40, aI cy q1 37 v_now, aJ cy q2 16 v_row, aB cy q3 40 v_rule, aI cy q4 7 y48_7, aI cy q5 37 y48_8] H locs → lv_has ls 7 [(0, .ref q0), (3, .int y48_0), (4, .int y48_1)] → W p l e R s m args below meth c H locs 0 0 Q (F0 m 106 ls [])) → W p l e R s m args below meth c H locs 0 0 Q (F0 m 48 ls []) := by
        intro n
        induction n with
        | zero =>
          intro x48_0 x48_1 x48_2 x48_3 x48_4 x48_5 x48_6 x48_7 x48_8 x48_9 x48_10 y48 rv48_0 H locs ls h
          exact lp_zero h
        | succ n ih48 =>
          intro x48_0 x48_1 x48_2 x48_3 x48_4 x48_5 x48_6 x48_7 x48_8 x48_9 x48_10 y48 rv48_0 H locs ls h hS hl hk48_0
          obtain ⟨z48, h, hz48a, hz48b⟩ := lp_succ h
          have h : X11_runs_s48 v_people v_ruleSize v_rule p1 p2 x48_0 x48_1 x48_2 x48_3 x48_4 x48_5 x48_6 x48_7 x48_8 x48_9 x48_10 = some z48 := h
          unfold X11_runs_s48 at h
          refine lv_iload hx hb dX11_runs_48 (lv_at hl 6 rfl) ?_
          refine lv_iload_n hx hb dX11_runs_50 rfl (lv_at hl 2 rfl) ?_
          refine lv_icmp_gt (tgt := 106) hx hb dX11_runs_51 (by decide) (fun c5 => ?_) (fun c5 => ?_)
          · have h := it_pos c5 h
            exact hk48_0 x48_0 x48_1 x48_4 x48_5 x48_6 x48_7 x48_8 x48_9 x48_10 (hz48b _ (Option.some.inj h).symm) rv48_0 H locs ls hS (lv_sub hl [0, 3, 4] rfl)
          · have h := it_neg c5 h
            refine lv_aload_n hx hb dX11_runs_54 rfl (lv_at hl 0 rfl) ?_
            refine lv_aload_n hx hb dX11_runs_55 rfl (lv_at hl 0 rfl) ?_
            refine r_get E frX11_39 hS 0 rfl rfl dX11_runs_56 ?_
            obtain ⟨y59, e6, h⟩ := bd_some h
            refine ct_V (ws' := fun rc7 => [oX11 q0 (.ref q1) (.int v_people) u0_2 u0_3 (.ref q2) (.int v_rowMany) (.int (0 : Int32)) rc7 (.int y59.2.1) (.int y59.2.2.1) (.int y59.2.2.2.1) (.int y59.2.2.2.2.1) u0_12 (.ref q3) u0_14 (.int v_ruleSize) (.int y59.2.2.2.2.2.1) (.ref q4) u0_18 u0_19 u0_20 (.ref q5) u0_22 u0_23 u0_24 u0_25 u0_26 u0_27 u0_28 u0_29 u0_30 u0_31 u0_32 u0_33 u0_34 u0_35 u0_36 u0_37 u0_38 u0_39 u0_40, aI cy q1 37 v_now, aJ cy q2 16 v_row, aB cy q3 40 v_rule, aI cy q4 7 y59.2.2.2.2.2.2.1, aI cy q5 37 y59.2.2.2.2.2.2.2]) (st' := [.int y59.1]) (rest := []) E hS vlX11_246 (c_X11_goMorning (l := l) (D := D) (cy := cy) (q0 := q0) (q1 := q3) (q2 := q4) (q3 := q5) (u0_0 := .ref q1) (u0_2 := u0_2) (u0_3 := u0_3) (u0_4 := .ref q2) (u0_5 := .int v_rowMany) (u0_6 := .int (0 : Int32)) (u0_7 := rv48_0) (u0_12 := u0_12) (u0_14 := u0_14) (u0_18 := u0_18) (u0_19 := u0_19) (u0_20 := u0_20) (u0_21 := .ref q5) (u0_22 := u0_22) (u0_23 := u0_23) (u0_24 := u0_24) (u0_25 := u0_25) (u0_26 := u0_26) (u0_27 := u0_27) (u0_28 := u0_28) (u0_29 := u0_29) (u0_30 := u0_30) (u0_31 := u0_31) (u0_32 := u0_32) (u0_33 := u0_33) (u0_34 := u0_34) (u0_35 := u0_35) (u0_36 := u0_36) (u0_37 := u0_37) (u0_38 := u0_38) (u0_39 := u0_39) (u0_40 := u0_40) (v_people := v_people) (v_length := x48_4) (v_top := x48_5) (v_at := x48_6) (v_wrong := x48_7) (v_ruleSize := v_ruleSize) (v_isAsked := x48_8) (v_rule := v_rule) (v_asked := x48_9) (nw1_ := 37) (w1_ := x48_10) (r := y59) e6) [0, 3, 4, 5] rfl rfl (fun _ => rfl) (fun _ => rfl) rfl rfl rfl rfl (Nat.le_of_ble_eq_true rfl) hl.1 (by rw [hRf]; exact Nat.le_of_ble_eq_true rfl) (by rw [hRl]; exact Nat.le_of_ble_eq_true rfl) ⟨Nat.zero_le _, Nat.zero_le _⟩ dX11_runs_59 rfl (fun H locs rc7 hS => ?_)
            refine lv_iload_n hx hb dX11_runs_62 rfl (lv_at hl 1 rfl) ?_
            refine ct_S (ws' := fun _ => [oX11 q0 (.ref q1) (.int v_people) u0_2 u0_3 (.ref q2) (.int v_rowMany) (.int (0 : Int32)) rc7 (.int y59.2.1) (.int y59.2.2.1) (.int y59.2.2.2.1) (.int y59.2.2.2.2.1) u0_12 (.ref q3) u0_14 (.int v_ruleSize) (.int y59.2.2.2.2.2.1) (.ref q4) u0_18 u0_19 u0_20 (.ref q5) u0_22 u0_23 u0_24 u0_25 u0_26 u0_27 u0_28 u0_29 u0_30 u0_31 u0_32 u0_33 u0_34 u0_35 u0_36 u0_37 u0_38 u0_39 u0_40, aI cy q1 37 v_now, aJ cy q2 16 v_row, aB cy q3 40 v_rule, aI cy q4 7 y59.2.2.2.2.2.2.1, aI cy q5 37 y59.2.2.2.2.2.2.2]) (st' := [.int (X11_has y59.1 p1)]) (rest := []) E hS slX11_196 (c_X11_has (l := l) (D := D) (cy := cy) (p0 := y59.1) (p1 := p1) (r := (X11_has y59.1 p1)) rfl) [] rfl rfl (fun _ => rfl) (fun _ => rfl) rfl rfl (Nat.le_of_ble_eq_true rfl) hl.1 (by rw [hRf]; exact Nat.le_of_ble_eq_true rfl) (by rw [hRl]; exact Nat.le_of_ble_eq_true rfl) ⟨Nat.zero_le _, Nat.zero_le _⟩ dX11_runs_63 rfl (fun H locs _ hS => ?_)
            have hJ77 : ∀ (s77_0 : Int32) (ls : Array Slot), s77_0 = (if (X11_has y59.1 p1) = 0 then (0 : Int32) else (x48_2 + (1 : Int32))) → lv_has ls 7 [(0, .ref q0), (1, .int p1), (2, .int p2), (3, .int x48_0), (4, .int x48_1), (6, .int x48_3)] → W p l e R s m args below meth c H locs 0 0 Q (F0 m 77 ls [.int s77_0]) := by
              intro s77_0 ls es77_0 hl
              subst es77_0
              refine lv_istore (lv' := [(5, .int (if (X11_has y59.1 p1) = 0 then (0 : Int32) else (x48_2 + (1 : Int32)))), (0, .ref q0), (1, .int p1), (2, .int p2), (3, .int x48_0), (4, .int x48_1), (6, .int x48_3)]) hx hb dX11_runs_77 hl (by decide) rfl (fun ls hl => ?_)
              refine lv_iload hx hb dX11_runs_79 (lv_at hl 0 rfl) ?_
              refine lv_iload_n hx hb dX11_runs_81 rfl (lv_at hl 4 rfl) ?_
              have hJ100 : ∀ (s100_l3 : Int32) (s100_l4 : Int32) (ls : Array Slot), s100_l3 = (if x48_0 < (if (X11_has y59.1 p1) = 0 then (0 : Int32) else (x48_2 + (1 : Int32))) then (if (X11_has y59.1 p1) = 0 then (0 : Int32) else (x48_2 + (1 : Int32))) else x48_0) → s100_l4 = (if x48_0 < (if (X11_has y59.1 p1) = 0 then (0 : Int32) else (x48_2 + (1 : Int32))) then ((x48_3 - (if (X11_has y59.1 p1) = 0 then (0 : Int32) else (x48_2 + (1 : Int32)))) + (1 : Int32)) else x48_1) → lv_has ls 7 [(0, .ref q0), (1, .int p1), (2, .int p2), (3, .int s100_l3), (4, .int s100_l4), (5, .int (if (X11_has y59.1 p1) = 0 then (0 : Int32) else (x48_2 + (1 : Int32)))), (6, .int x48_3)] → W p l e R s m args below meth c H locs 0 0 Q (F0 m 100 ls []) := by
                intro s100_l3 s100_l4 ls es100_l3 es100_l4 hl
                subst es100_l3
                subst es100_l4
                refine lv_iinc (v := (x48_3 + (1 : Int32))) (lv' := [(6, .int (x48_3 + (1 : Int32))), (0, .ref q0), (1, .int p1), (2, .int p2), (3, .int (if x48_0 < (if (X11_has y59.1 p1) = 0 then (0 : Int32) else (x48_2 + (1 : Int32))) then (if (X11_has y59.1 p1) = 0 then (0 : Int32) else (x48_2 + (1 : Int32))) else x48_0)), (4, .int (if x48_0 < (if (X11_has y59.1 p1) = 0 then (0 : Int32) else (x48_2 + (1 : Int32))) then ((x48_3 - (if (X11_has y59.1 p1) = 0 then (0 : Int32) else (x48_2 + (1 : Int32)))) + (1 : Int32)) else x48_1)), (5, .int (if (X11_has y59.1 p1) = 0 then (0 : Int32) else (x48_2 + (1 : Int32))))]) hx hb dX11_runs_100 hl (k := 6) rfl rfl (by decide) rfl (fun ls hl => ?_)
                refine lv_goto (tgt := 48) hx hb dX11_runs_103 (by decide) ?_
                exact ih48 (if x48_0 < (if (X11_has y59.1 p1) = 0 then (0 : Int32) else (x48_2 + (1 : Int32))) then (if (X11_has y59.1 p1) = 0 then (0 : Int32) else (x48_2 + (1 : Int32))) else x48_0) (if x48_0 < (if (X11_has y59.1 p1) = 0 then (0 : Int32) else (x48_2 + (1 : Int32))) then ((x48_3 - (if (X11_has y59.1 p1) = 0 then (0 : Int32) else (x48_2 + (1 : Int32)))) + (1 : Int32)) else x48_1) (if (X11_has y59.1 p1) = 0 then (0 : Int32) else (x48_2 + (1 : Int32))) (x48_3 + (1 : Int32)) y59.2.1 y59.2.2.1 y59.2.2.2.1 y59.2.2.2.2.1 y59.2.2.2.2.2.1 y59.2.2.2.2.2.2.1 y59.2.2.2.2.2.2.2 y48 rc7 H locs ls (hz48a _ (Option.some.inj h).symm) hS (lv_sub hl [1, 2, 3, 4, 5, 6, 0] rfl) hk48_0
              refine lv_icmp_gt (tgt := 88) hx hb dX11_runs_82 (by decide) (fun c8 => ?_) (fun c8 => ?_)
              · refine lv_iload hx hb dX11_runs_88 (lv_at hl 0 rfl) ?_
                refine lv_istore_n (lv' := [(3, .int (if (X11_has y59.1 p1) = 0 then (0 : Int32) else (x48_2 + (1 : Int32)))), (5, .int (if (X11_has y59.1 p1) = 0 then (0 : Int32) else (x48_2 + (1 : Int32)))), (0, .ref q0), (1, .int p1), (2, .int p2), (4, .int x48_1), (6, .int x48_3)]) hx hb dX11_runs_90 rfl hl (by decide) rfl (fun ls hl => ?_)
                refine lv_iload hx hb dX11_runs_91 (lv_at hl 6 rfl) ?_
                refine lv_iload hx hb dX11_runs_93 (lv_at hl 1 rfl) ?_
                refine lv_isub hx hb dX11_runs_95 ?_
                refine lv_iconst (v := 1) hx hb dX11_runs_96 (by decide) ?_
                refine lv_iadd hx hb dX11_runs_97 ?_
                refine lv_istore (lv' := [(4, .int ((x48_3 - (if (X11_has y59.1 p1) = 0 then (0 : Int32) else (x48_2 + (1 : Int32)))) + (1 : Int32))), (3, .int (if (X11_has y59.1 p1) = 0 then (0 : Int32) else (x48_2 + (1 : Int32)))), (5, .int (if (X11_has y59.1 p1) = 0 then (0 : Int32) else (x48_2 + (1 : Int32)))), (0, .ref q0), (1, .int p1), (2, .int p2), (6, .int x48_3)]) hx hb dX11_runs_98 hl (by decide) rfl (fun ls hl => ?_)
                exact hJ100 _ _ ls ((if_pos c8)).symm ((if_pos c8)).symm (lv_sub hl [3, 4, 5, 1, 0, 2, 6] rfl)
              · refine lv_goto (tgt := 100) hx hb dX11_runs_85 (by decide) ?_
                exact hJ100 _ _ ls ((if_neg c8)).symm ((if_neg c8)).symm (lv_sub hl [1, 2, 3, 4, 5, 0, 6] rfl)
            refine lv_if_eq (tgt := 76) hx hb dX11_runs_66 (by decide) (fun c9 => ?_) (fun c9 => ?_)
            · refine lv_iconst (v := 0) hx hb dX11_runs_76 (by decide) ?_
              exact hJ77 _ ls ((if_pos c9)).symm (lv_sub hl [0, 1, 2, 3, 4, 6] rfl)
            · refine lv_iload hx hb dX11_runs_69 (lv_at hl 5 rfl) ?_
              refine lv_iconst (v := 1) hx hb dX11_runs_71 (by decide) ?_
              refine lv_iadd hx hb dX11_runs_72 ?_
              refine lv_goto (tgt := 77) hx hb dX11_runs_73 (by decide) ?_
              exact hJ77 _ ls ((if_neg c9)).symm (lv_sub hl [0, 1, 2, 3, 4, 6] rfl)
      obtain ⟨y48, e48, h⟩ := bd_some h
      refine hL48 1000 (0 : Int32) (0 : Int32) (0 : Int32) (1 : Int32) v_length v_top v_at v_wrong v_isAsked v_asked y34 y48 u0_7 H locs ls e48 hS (lv_sub hl [4, 5, 6, 3, 2, 1, 0] rfl) (fun y48_0 y48_1 y48_2 y48_3 y48_4 y48_5 y48_6 y48_7 y48_8 ey48 rw48_0 H locs ls hS hl => ?_)
      subst ey48
      have h := un_r h
      have h := un_r h
      have h := un_r h
      have h := un_r h
      have h := un_r h
      have h := un_r h
      have h := un_r h
      have h := un_r h
      refine lv_aload_n hx hb dX11_runs_106 rfl (lv_at hl 0 rfl) ?_
      refine lv_iconst (v := 0) hx hb dX11_runs_107 (by decide) ?_
      refine r_put (ws' := [oX11 q0 (.ref q1) (.int v_people) u0_2 u0_3 (.ref q2) (.int (0 : Int32)) (.int (0 : Int32)) rw48_0 (.int y48_2) (.int y48_3) (.int y48_4) (.int y48_5) u0_12 (.ref q3) u0_14 (.int v_ruleSize) (.int y48_6) (.ref q4) u0_18 u0_19 u0_20 (.ref q5) u0_22 u0_23 u0_24 u0_25 u0_26 u0_27 u0_28 u0_29 u0_30 u0_31 u0_32 u0_33 u0_34 u0_35 u0_36 u0_37 u0_38 u0_39 u0_40, aI cy q1 37 v_now, aJ cy q2 16 v_row, aB cy q3 40 v_rule, aI cy q4 7 y48_7, aI cy q5 37 y48_8]) E frX11_89 hS 0 rfl (Nat.le_of_ble_eq_true rfl) rfl rfl rfl rfl dX11_runs_108 (fun H locs hS => ?_)
      refine lv_aload_n hx hb dX11_runs_111 rfl (lv_at hl 0 rfl) ?_
      refine lv_iload hx hb dX11_runs_112 (lv_at hl 2 rfl) ?_
      refine lv_i2l (v := (y48_1.toInt64)) hx hb dX11_runs_114 rfl ?_
      obtain ⟨y115, e10, h⟩ := bd_some h
      refine ct_V (ws' := fun _ => [oX11 q0 (.ref q1) (.int v_people) u0_2 u0_3 (.ref q2) (.int y115.1) (.int (0 : Int32)) rw48_0 (.int y48_2) (.int y48_3) (.int y48_4) (.int y48_5) u0_12 (.ref q3) u0_14 (.int v_ruleSize) (.int y48_6) (.ref q4) u0_18 u0_19 u0_20 (.ref q5) u0_22 u0_23 u0_24 u0_25 u0_26 u0_27 u0_28 u0_29 u0_30 u0_31 u0_32 u0_33 u0_34 u0_35 u0_36 u0_37 u0_38 u0_39 u0_40, aI cy q1 37 v_now, aJ cy q2 16 y115.2, aB cy q3 40 v_rule, aI cy q4 7 y48_7, aI cy q5 37 y48_8]) (st' := []) (rest := []) E hS vlX11_256 (c_X11_tell (l := l) (D := D) (cy := cy) (q0 := q0) (q1 := q2) (u0_0 := .ref q1) (u0_1 := .int v_people) (u0_2 := u0_2) (u0_3 := u0_3) (u0_6 := .int (0 : Int32)) (u0_7 := rw48_0) (u0_8 := .int y48_2) (u0_9 := .int y48_3) (u0_10 := .int y48_4) (u0_11 := .int y48_5) (u0_12 := u0_12) (u0_13 := .ref q3) (u0_14 := u0_14) (u0_15 := .int v_ruleSize) (u0_16 := .int y48_6) (u0_17 := .ref q4) (u0_18 := u0_18) (u0_19 := u0_19) (u0_20 := u0_20) (u0_21 := .ref q5) (u0_22 := u0_22) (u0_23 := u0_23) (u0_24 := u0_24) (u0_25 := u0_25) (u0_26 := u0_26) (u0_27 := u0_27) (u0_28 := u0_28) (u0_29 := u0_29) (u0_30 := u0_30) (u0_31 := u0_31) (u0_32 := u0_32) (u0_33 := u0_33) (u0_34 := u0_34) (u0_35 := u0_35) (u0_36 := u0_36) (u0_37 := u0_37) (u0_38 := u0_38) (u0_39 := u0_39) (u0_40 := u0_40) (v_rowMany := (0 : Int32)) (v_row := v_row) (p1 := (y48_1.toInt64)) (r := y115) e10) [0, 2] rfl rfl (fun _ => rfl) (fun _ => rfl) rfl rfl rfl rfl (Nat.le_of_ble_eq_true rfl) hl.1 (by rw [hRf]; exact Nat.le_of_ble_eq_true rfl) (by rw [hRl]; exact Nat.le_of_ble_eq_true rfl) ⟨Nat.zero_le _, Nat.zero_le _⟩ dX11_runs_115 rfl (fun H locs _ hS => ?_)
      refine lv_iload_n hx hb dX11_runs_118 rfl (lv_at hl 1 rfl) ?_
      obtain rfl := Option.some.inj h
      exact rt_i E hQ (rw48_0) hS dX11_runs_119
    · have h := it_pos c3 h
      refine lv_iconst (v := -1) hx hb dX11_runs_23 (by decide) ?_
      obtain rfl := Option.some.inj h
      exact rt_i E hQ (u0_7) hS dX11_runs_24
set_option maxHeartbeats 4000000 in
set_option maxRecDepth 100000 in
theorem c_X11_each {l : Launch} {D : va_G} {cy : Nat → ClassId} (q0 : Nat) (q1 : Nat) (q2 : Nat) (q3 : Nat) (q4 : Nat) (q5 : Nat) (u0_2 : Value) (u0_3 : Value) (u0_7 : Value) (u0_12 : Value) (u0_14 : Value) (u0_18 : Value) (u0_19 : Value) (u0_20 : Value) (u0_22 : Value) (u0_23 : Value) (u0_24 : Value) (u0_25 : Value) (u0_26 : Value) (u0_27 : Value) (u0_28 : Value) (u0_29 : Value) (u0_30 : Value) (u0_31 : Value) (u0_32 : Value) (u0_33 : Value) (u0_34 : Value) (u0_35 : Value) (u0_36 : Value) (u0_37 : Value) (u0_38 : Value) (u0_39 : Value) (u0_40 : Value) (v_people : Int32) (v_rowMany : Int32) (v_thrown : Int32) (v_length : Int32) (v_top : Int32) (v_at : Int32) (v_wrong : Int32) (v_ruleSize : Int32) (v_isAsked : Int32) (v_now : Nat → Int32) (v_row : Nat → Int64) (v_rule : Nat → Int32) (v_asked : Nat → Int32) (v_then : Nat → Int32) (r : Int32 × Int32 × Int32 × Int32 × Int32 × Int32 × Int32 × Int32 × (Nat → Int64) × (Nat → Int32) × (Nat → Int32)) (h : X11_each v_people v_rowMany v_length v_top v_at v_wrong v_ruleSize v_isAsked v_now v_row v_rule v_asked v_then = some r) : Ct l yX11_each cX11_each 4 (some .int) 110 2626 D cy [.ref q0] [oX11 q0 (.ref q1) (.int v_people) u0_2 u0_3 (.ref q2) (.int v_rowMany) (.int v_thrown) u0_7 (.int v_length) (.int v_top) (.int v_at) (.int v_wrong) u0_12 (.ref q3) u0_14 (.int v_ruleSize) (.int v_isAsked) (.ref q4) u0_18 u0_19 u0_20 (.ref q5) u0_22 u0_23 u0_24 u0_25 u0_26 u0_27 u0_28 u0_29 u0_30 u0_31 u0_32 u0_33 u0_34 u0_35 u0_36 u0_37 u0_38 u0_39 u0_40, aI cy q1 37 v_now, aJ cy q2 16 v_row, aB cy q3 40 v_rule, aI cy q4 7 v_asked, aI cy q5 37 v_then] (fun rv => [oX11 q0 (.ref q1) (.int v_people) u0_2 u0_3 (.ref q2) (.int r.2.1) (.int r.2.2.1) rv (.int r.2.2.2.1) (.int r.2.2.2.2.1) (.int r.2.2.2.2.2.1) (.int r.2.2.2.2.2.2.1) u0_12 (.ref q3) u0_14 (.int v_ruleSize) (.int r.2.2.2.2.2.2.2.1) (.ref q4) u0_18 u0_19 u0_20 (.ref q5) u0_22 u0_23 u0_24 u0_25 u0_26 u0_27 u0_28 u0_29 u0_30 u0_31 u0_32 u0_33 u0_34 u0_35 u0_36 u0_37 u0_38 u0_39 u0_40, aI cy q1 37 v_now, aJ cy q2 16 r.2.2.2.2.2.2.2.2.1, aB cy q3 40 v_rule, aI cy q4 7 r.2.2.2.2.2.2.2.2.2.1, aI cy q5 37 r.2.2.2.2.2.2.2.2.2.2]) (some (.int r.1)) := by
  refine Ct.mk kX11_each (by decide +kernel) (Nat.le_of_ble_eq_true rfl) ?_
  intro p e s m below meth c A ls args R Q hRf hRl hQ E H locs hS hl
  have hx := E.x
  have hb := E.b
  have hl : lv_has ls 4 [(0, .ref q0)] := hl
  unfold X11_each at h
  refine lv_aload_n hx hb dX11_each_0 rfl (lv_at hl 0 rfl) ?_
  refine lv_iconst (v := 0) hx hb dX11_each_1 (by decide) ?_
  refine r_put (ws' := [oX11 q0 (.ref q1) (.int v_people) u0_2 u0_3 (.ref q2) (.int v_rowMany) (.int (0 : Int32)) u0_7 (.int v_length) (.int v_top) (.int v_at) (.int v_wrong) u0_12 (.ref q3) u0_14 (.int v_ruleSize) (.int v_isAsked) (.ref q4) u0_18 u0_19 u0_20 (.ref q5) u0_22 u0_23 u0_24 u0_25 u0_26 u0_27 u0_28 u0_29 u0_30 u0_31 u0_32 u0_33 u0_34 u0_35 u0_36 u0_37 u0_38 u0_39 u0_40, aI cy q1 37 v_now, aJ cy q2 16 v_row, aB cy q3 40 v_rule, aI cy q4 7 v_asked, aI cy q5 37 v_then]) E frX11_85 hS 0 rfl (Nat.le_of_ble_eq_true rfl) rfl rfl rfl rfl dX11_each_2 (fun H locs hS => ?_)
  refine lv_aload_n hx hb dX11_each_5 rfl (lv_at hl 0 rfl) ?_
  refine r_get E frX11_9 hS 0 rfl rfl dX11_each_6 ?_
  refine lv_aload_n hx hb dX11_each_9 rfl (lv_at hl 0 rfl) ?_
  refine r_get E frX11_39 hS 0 rfl rfl dX11_each_10 ?_
  refine lv_iconst (v := 0) hx hb dX11_each_13 (by decide) ?_
  obtain ⟨y14, e1, h⟩ := bd_some h
  refine ct_S (ws' := fun _ => [oX11 q0 (.ref q1) (.int v_people) u0_2 u0_3 (.ref q2) (.int v_rowMany) (.int (0 : Int32)) u0_7 (.int v_length) (.int v_top) (.int v_at) (.int v_wrong) u0_12 (.ref q3) u0_14 (.int v_ruleSize) (.int v_isAsked) (.ref q4) u0_18 u0_19 u0_20 (.ref q5) u0_22 u0_23 u0_24 u0_25 u0_26 u0_27 u0_28 u0_29 u0_30 u0_31 u0_32 u0_33 u0_34 u0_35 u0_36 u0_37 u0_38 u0_39 u0_40, aI cy q1 37 v_now, aJ cy q2 16 v_row, aB cy q3 40 v_rule, aI cy q4 7 v_asked, aI cy q5 37 y14]) (st' := []) (rest := []) E hS slX11_235 (c_X11_lay (l := l) (D := D) (cy := cy) (q0 := q1) (q1 := q5) (nw1_ := 37) (w1_ := v_now) (nw2_ := 37) (w2_ := v_then) (p2 := (0 : Int32)) (r := y14) e1) [1, 5] rfl rfl (fun _ => rfl) (fun _ => rfl) rfl rfl (Nat.le_of_ble_eq_true rfl) hl.1 (by rw [hRf]; exact Nat.le_of_ble_eq_true rfl) (by rw [hRl]; exact Nat.le_of_ble_eq_true rfl) ⟨Nat.zero_le _, Nat.zero_le _⟩ dX11_each_14 rfl (fun H locs _ hS => ?_)
  refine lv_iconst (v := 0) hx hb dX11_each_17 (by decide) ?_
  refine lv_istore_n (lv' := [(1, .int (0 : Int32)), (0, .ref q0)]) hx hb dX11_each_18 rfl hl (by decide) rfl (fun ls hl => ?_)
  refine lv_iconst (v := 0) hx hb dX11_each_19 (by decide) ?_
  refine lv_istore_n (lv' := [(2, .int (0 : Int32)), (1, .int (0 : Int32)), (0, .ref q0)]) hx hb dX11_each_20 rfl hl (by decide) rfl (fun ls hl => ?_)
  refine lv_iconst (v := 0) hx hb dX11_each_21 (by decide) ?_
  refine lv_istore_n (lv' := [(3, .int (0 : Int32)), (2, .int (0 : Int32)), (1, .int (0 : Int32)), (0, .ref q0)]) hx hb dX11_each_22 rfl hl (by decide) rfl (fun ls hl => ?_)
  have hL23 : ∀ (n : Nat) (x23_0 : Int32) (x23_1 : Int32) (x23_2 : Int32) (x23_3 : Int32) (x23_4 : Int32) (x23_5 : Int32) (x23_6 : Int32) (x23_7 : Int32) (x23_8 : Nat → Int32) (x23_9 : Nat → Int32) (y23 : (Int32 × Int32 × Int32 × Int32 × Int32 × (Nat → Int32) × (Nat → Int32)) ⊕ (Int32 × Int32 × Int32 × Int32 × Int32 × Int32 × Int32 × (Nat → Int32) × (Nat → Int32))) (rv23_0 : Value) (H : Heap) (locs : List Loc) (ls : Array Slot), lp (fun x23 => X11_each_s23 v_people v_ruleSize v_rule x23.1 x23.2.1 x23.2.2.1 x23.2.2.2.1 x23.2.2.2.2.1 x23.2.2.2.2.2.1 x23.2.2.2.2.2.2.1 x23.2.2.2.2.2.2.2.1 x23.2.2.2.2.2.2.2.2.1 x23.2.2.2.2.2.2.2.2.2) n (x23_0, x23_1, x23_2, x23_3, x23_4, x23_5, x23_6, x23_7, x23_8, x23_9) = some y23 → Sv D A s.heap [oX11 q0 (.ref q1) (.int v_people) u0_2 u0_3 (.ref q2) (.int v_rowMany) (.int (0 : Int32)) rv23_0 (.int x23_3) (.int x23_4) (.int x23_5) (.int x23_6) u0_12 (.ref q3) u0_14 (.int v_ruleSize) (.int x23_7) (.ref q4) u0_18 u0_19 u0_20 (.ref q5) u0_22 u0_23 u0_24 u0_25 u0_26 u0_27 u0_28 u0_29 u0_30 u0_31 u0_32 u0_33 u0_34 u0_35 u0_36 u0_37 u0_38 u0_39 u0_40, aI cy q1 37 v_now, aJ cy q2 16 v_row, aB cy q3 40 v_rule, aI cy q4 7 x23_8, aI cy q5 37 x23_9] H locs → lv_has ls 4 [(0, .ref q0), (1, .int x23_0), (2, .int x23_1), (3, .int x23_2)] → ( ∀ (ye23_0_0 : Int32) (ye23_0_1 : Int32) (ye23_0_2 : Int32) (ye23_0_3 : Int32) (ye23_0_4 : Int32) (ye23_0_5 : Nat → Int32) (ye23_0_6 : Nat → Int32), .inl (ye23_0_0, ye23_0_1, ye23_0_2, ye23_0_3, ye23_0_4, ye23_0_5, ye23_0_6) = y23 → ∀ (rv23_0 : Value), ∀ (H : Heap) (locs : List Loc) (ls : Array Slot), Sv D A s.heap [oX11 q0 (.ref q1) (.int v_people) u0_2 u0_3 (.ref q2) (.int v_rowMany) (.int (0 : Int32)) rv23_0 (.int ye23_0_0) (.int ye23_0_1) (.int ye23_0_2) (.int ye23_0_3) u0_12 (.ref q3) u0_14 (.int v_ruleSize) (.int ye23_0_4) (.ref q4) u0_18 u0_19 u0_20 (.ref q5) u0_22 u0_23 u0_24 u0_25 u0_26 u0_27 u0_28 u0_29 u0_30 u0_31 u0_32 u0_33 u0_34 u0_35 u0_36 u0_37 u0_38 u0_39 u0_40, aI cy q1 37 v_now, aJ cy q2 16 v_row, aB cy q3 40 v_rule, aI cy q4 7 ye23_0_5, aI cy q5 37 ye23_0_6] H locs → lv_has ls 4 [] → W p l e R s m args below meth c H locs 0 0 Q (F0 m 69 ls [])) → ( ∀ (ye23_1_0 : Int32) (ye23_1_1 : Int32) (ye23_1_2 : Int32) (ye23_1_3 : Int32) (ye23_1_4 : Int32) (ye23_1_5 : Int32) (ye23_1_6 : Int32) (ye23_1_7 : Nat → Int32) (ye23_1_8 : Nat → Int32), .inr (ye23_1_0, ye23_1_1, ye23_1_2, ye23_1_3, ye23_1_4, ye23_1_5, ye23_1_6, ye23_1_7, ye23_1_8) = y23 → ∀ (rv23_0 : Value), ∀ (H : Heap) (locs : List Loc) (ls : Array Slot), Sv D A s.heap [oX11 q0 (.ref q1) (.int v_people) u0_2 u0_3 (.ref q2) (.int v_rowMany) (.int (0 : Int32)) rv23_0 (.int ye23_1_2) (.int ye23_1_3) (.int ye23_1_4) (.int ye23_1_5) u0_12 (.ref q3) u0_14 (.int v_ruleSize) (.int ye23_1_6) (.ref q4) u0_18 u0_19 u0_20 (.ref q5) u0_22 u0_23 u0_24 u0_25 u0_26 u0_27 u0_28 u0_29 u0_30 u0_31 u0_32 u0_33 u0_34 u0_35 u0_36 u0_37 u0_38 u0_39 u0_40, aI cy q1 37 v_now, aJ cy q2 16 v_row, aB cy q3 40 v_rule, aI cy q4 7 ye23_1_7, aI cy q5 37 ye23_1_8] H locs → lv_has ls 4 [(0, .ref q0), (2, .int ye23_1_0), (3, .int ye23_1_1)] → W p l e R s m args below meth c H locs 0 0 Q (F0 m 37 ls [])) → W p l e R s m args below meth c H locs 0 0 Q (F0 m 23 ls []) := by
    intro n
    induction n with
    | zero =>
      intro x23_0 x23_1 x23_2 x23_3 x23_4 x23_5 x23_6 x23_7 x23_8 x23_9 y23 rv23_0 H locs ls h
      exact lp_zero h
    | succ n ih23 =>
      intro x23_0 x23_1 x23_2 x23_3 x23_4 x23_5 x23_6 x23_7 x23_8 x23_9 y23 rv23_0 H locs ls h hS hl hk23_0 hk23_1
      obtain ⟨z23, h, hz23a, hz23b⟩ := lp_succ h
      have h : X11_each_s23 v_people v_ruleSize v_rule x23_0 x23_1 x23_2 x23_3 x23_4 x23_5 x23_6 x23_7 x23_8 x23_9 = some z23 := h
      unfold X11_each_s23 at h
      refine lv_iload_n hx hb dX11_each_23 rfl (lv_at hl 3 rfl) ?_
      refine lv_bipush (v := 99) hx hb dX11_each_24 (by decide) ?_
      refine lv_icmp_gt (tgt := 69) hx hb dX11_each_26 (by decide) (fun c2 => ?_) (fun c2 => ?_)
      · have h := it_pos c2 h
        exact hk23_0 x23_3 x23_4 x23_5 x23_6 x23_7 x23_8 x23_9 (hz23b _ (Option.some.inj h).symm) rv23_0 H locs ls hS (lv_sub hl [] rfl)
      · have h := it_neg c2 h
        refine lv_iload_n hx hb dX11_each_29 rfl (lv_at hl 1 rfl) ?_
        refine lv_aload_n hx hb dX11_each_30 rfl (lv_at hl 0 rfl) ?_
        refine ct_V (ws' := fun _ => [oX11 q0 (.ref q1) (.int v_people) u0_2 u0_3 (.ref q2) (.int v_rowMany) (.int (0 : Int32)) rv23_0 (.int x23_3) (.int x23_4) (.int x23_5) (.int x23_6) u0_12 (.ref q3) u0_14 (.int v_ruleSize) (.int x23_7) (.ref q4) u0_18 u0_19 u0_20 (.ref q5) u0_22 u0_23 u0_24 u0_25 u0_26 u0_27 u0_28 u0_29 u0_30 u0_31 u0_32 u0_33 u0_34 u0_35 u0_36 u0_37 u0_38 u0_39 u0_40, aI cy q1 37 v_now, aJ cy q2 16 v_row, aB cy q3 40 v_rule, aI cy q4 7 x23_8, aI cy q5 37 x23_9]) (st' := [.int (X11_everybody v_people), .int x23_0]) (rest := [.int x23_0]) E hS vlX11_285 (c_X11_everybody (l := l) (D := D) (cy := cy) (q0 := q0) (u0_0 := .ref q1) (u0_2 := u0_2) (u0_3 := u0_3) (u0_4 := .ref q2) (u0_5 := .int v_rowMany) (u0_6 := .int (0 : Int32)) (u0_7 := rv23_0) (u0_8 := .int x23_3) (u0_9 := .int x23_4) (u0_10 := .int x23_5) (u0_11 := .int x23_6) (u0_12 := u0_12) (u0_13 := .ref q3) (u0_14 := u0_14) (u0_15 := .int v_ruleSize) (u0_16 := .int x23_7) (u0_17 := .ref q4) (u0_18 := u0_18) (u0_19 := u0_19) (u0_20 := u0_20) (u0_21 := .ref q5) (u0_22 := u0_22) (u0_23 := u0_23) (u0_24 := u0_24) (u0_25 := u0_25) (u0_26 := u0_26) (u0_27 := u0_27) (u0_28 := u0_28) (u0_29 := u0_29) (u0_30 := u0_30) (u0_31 := u0_31) (u0_32 := u0_32) (u0_33 := u0_33) (u0_34 := u0_34) (u0_35 := u0_35) (u0_36 := u0_36) (u0_37 := u0_37) (u0_38 := u0_38) (u0_39 := u0_39) (u0_40 := u0_40) (v_people := v_people) (r := (X11_everybody v_people)) rfl) [0] rfl rfl (fun _ => rfl) (fun _ => rfl) rfl rfl rfl rfl (Nat.le_of_ble_eq_true rfl) hl.1 (by rw [hRf]; exact Nat.le_of_ble_eq_true rfl) (by rw [hRl]; exact Nat.le_of_ble_eq_true rfl) ⟨Nat.zero_le _, Nat.zero_le _⟩ dX11_each_31 rfl (fun H locs _ hS => ?_)
        refine lv_icmp_ne (tgt := 50) hx hb dX11_each_34 (by decide) (fun c3 => ?_) (fun c3 => ?_)
        · have h := it_neg c3 h
          refine lv_aload_n hx hb dX11_each_50 rfl (lv_at hl 0 rfl) ?_
          refine lv_aload_n hx hb dX11_each_51 rfl (lv_at hl 0 rfl) ?_
          refine r_get E frX11_39 hS 0 rfl rfl dX11_each_52 ?_
          obtain ⟨y55, e4, h⟩ := bd_some h
          refine ct_V (ws' := fun rc5 => [oX11 q0 (.ref q1) (.int v_people) u0_2 u0_3 (.ref q2) (.int v_rowMany) (.int (0 : Int32)) rc5 (.int y55.2.1) (.int y55.2.2.1) (.int y55.2.2.2.1) (.int y55.2.2.2.2.1) u0_12 (.ref q3) u0_14 (.int v_ruleSize) (.int y55.2.2.2.2.2.1) (.ref q4) u0_18 u0_19 u0_20 (.ref q5) u0_22 u0_23 u0_24 u0_25 u0_26 u0_27 u0_28 u0_29 u0_30 u0_31 u0_32 u0_33 u0_34 u0_35 u0_36 u0_37 u0_38 u0_39 u0_40, aI cy q1 37 v_now, aJ cy q2 16 v_row, aB cy q3 40 v_rule, aI cy q4 7 y55.2.2.2.2.2.2.1, aI cy q5 37 y55.2.2.2.2.2.2.2]) (st' := [.int y55.1]) (rest := []) E hS vlX11_246 (c_X11_goMorning (l := l) (D := D) (cy := cy) (q0 := q0) (q1 := q3) (q2 := q4) (q3 := q5) (u0_0 := .ref q1) (u0_2 := u0_2) (u0_3 := u0_3) (u0_4 := .ref q2) (u0_5 := .int v_rowMany) (u0_6 := .int (0 : Int32)) (u0_7 := rv23_0) (u0_12 := u0_12) (u0_14 := u0_14) (u0_18 := u0_18) (u0_19 := u0_19) (u0_20 := u0_20) (u0_21 := .ref q5) (u0_22 := u0_22) (u0_23 := u0_23) (u0_24 := u0_24) (u0_25 := u0_25) (u0_26 := u0_26) (u0_27 := u0_27) (u0_28 := u0_28) (u0_29 := u0_29) (u0_30 := u0_30) (u0_31 := u0_31) (u0_32 := u0_32) (u0_33 := u0_33) (u0_34 := u0_34) (u0_35 := u0_35) (u0_36 := u0_36) (u0_37 := u0_37) (u0_38 := u0_38) (u0_39 := u0_39) (u0_40 := u0_40) (v_people := v_people) (v_length := x23_3) (v_top := x23_4) (v_at := x23_5) (v_wrong := x23_6) (v_ruleSize := v_ruleSize) (v_isAsked := x23_7) (v_rule := v_rule) (v_asked := x23_8) (nw1_ := 37) (w1_ := x23_9) (r := y55) e4) [0, 3, 4, 5] rfl rfl (fun _ => rfl) (fun _ => rfl) rfl rfl rfl rfl (Nat.le_of_ble_eq_true rfl) hl.1 (by rw [hRf]; exact Nat.le_of_ble_eq_true rfl) (by rw [hRl]; exact Nat.le_of_ble_eq_true rfl) ⟨Nat.zero_le _, Nat.zero_le _⟩ dX11_each_55 rfl (fun H locs rc5 hS => ?_)
          refine lv_istore_n (lv' := [(2, .int y55.1), (0, .ref q0), (1, .int x23_0), (3, .int x23_2)]) hx hb dX11_each_58 rfl hl (by decide) rfl (fun ls hl => ?_)
          refine lv_iload_n hx hb dX11_each_59 rfl (lv_at hl 2 rfl) ?_
          refine lv_iload_n hx hb dX11_each_60 rfl (lv_at hl 0 rfl) ?_
          refine lv_ior hx hb dX11_each_61 ?_
          refine lv_istore_n (lv' := [(1, .int (x23_0 ||| y55.1)), (2, .int y55.1), (0, .ref q0), (3, .int x23_2)]) hx hb dX11_each_62 rfl hl (by decide) rfl (fun ls hl => ?_)
          refine lv_iinc (v := (x23_2 + (1 : Int32))) (lv' := [(3, .int (x23_2 + (1 : Int32))), (1, .int (x23_0 ||| y55.1)), (2, .int y55.1), (0, .ref q0)]) hx hb dX11_each_63 hl (k := 3) rfl rfl (by decide) rfl (fun ls hl => ?_)
          refine lv_goto (tgt := 23) hx hb dX11_each_66 (by decide) ?_
          exact ih23 (x23_0 ||| y55.1) y55.1 (x23_2 + (1 : Int32)) y55.2.1 y55.2.2.1 y55.2.2.2.1 y55.2.2.2.2.1 y55.2.2.2.2.2.1 y55.2.2.2.2.2.2.1 y55.2.2.2.2.2.2.2 y23 rc5 H locs ls (hz23a _ (Option.some.inj h).symm) hS (lv_sub hl [3, 1, 2, 0] rfl) hk23_0 hk23_1
        · have h := it_pos c3 h
          exact hk23_1 x23_1 x23_2 x23_3 x23_4 x23_5 x23_6 x23_7 x23_8 x23_9 (hz23b _ (Option.some.inj h).symm) rv23_0 H locs ls hS (lv_sub hl [0, 2, 3] rfl)
  obtain ⟨y23, e23, h⟩ := bd_some h
  refine hL23 1000 (0 : Int32) (0 : Int32) (0 : Int32) v_length v_top v_at v_wrong v_isAsked v_asked y14 y23 u0_7 H locs ls e23 hS (lv_sub hl [3, 2, 1, 0] rfl) (fun ye23_0_0 ye23_0_1 ye23_0_2 ye23_0_3 ye23_0_4 ye23_0_5 ye23_0_6 ey23 rw23_0 H locs ls hS hl => ?_) (fun ye23_1_0 ye23_1_1 ye23_1_2 ye23_1_3 ye23_1_4 ye23_1_5 ye23_1_6 ye23_1_7 ye23_1_8 ey23 rw23_0 H locs ls hS hl => ?_)
  · subst ey23
    have h := sm_l h
    have h := un_r h
    have h := un_r h
    have h := un_r h
    have h := un_r h
    have h := un_r h
    have h := un_r h
    refine lv_bipush (v := -2) hx hb dX11_each_69 (by decide) ?_
    obtain rfl := Option.some.inj h
    exact rt_i E hQ (rw23_0) hS dX11_each_71
  · subst ey23
    have h := sm_r h
    have h := un_r h
    have h := un_r h
    have h := un_r h
    have h := un_r h
    have h := un_r h
    have h := un_r h
    have h := un_r h
    have h := un_r h
    refine lv_aload_n hx hb dX11_each_37 rfl (lv_at hl 0 rfl) ?_
    refine lv_iconst (v := 0) hx hb dX11_each_38 (by decide) ?_
    refine r_put (ws' := [oX11 q0 (.ref q1) (.int v_people) u0_2 u0_3 (.ref q2) (.int (0 : Int32)) (.int (0 : Int32)) rw23_0 (.int ye23_1_2) (.int ye23_1_3) (.int ye23_1_4) (.int ye23_1_5) u0_12 (.ref q3) u0_14 (.int v_ruleSize) (.int ye23_1_6) (.ref q4) u0_18 u0_19 u0_20 (.ref q5) u0_22 u0_23 u0_24 u0_25 u0_26 u0_27 u0_28 u0_29 u0_30 u0_31 u0_32 u0_33 u0_34 u0_35 u0_36 u0_37 u0_38 u0_39 u0_40, aI cy q1 37 v_now, aJ cy q2 16 v_row, aB cy q3 40 v_rule, aI cy q4 7 ye23_1_7, aI cy q5 37 ye23_1_8]) E frX11_89 hS 0 rfl (Nat.le_of_ble_eq_true rfl) rfl rfl rfl rfl dX11_each_39 (fun H locs hS => ?_)
    refine lv_aload_n hx hb dX11_each_42 rfl (lv_at hl 0 rfl) ?_
    refine lv_iload_n hx hb dX11_each_43 rfl (lv_at hl 1 rfl) ?_
    refine lv_i2l (v := (ye23_1_0.toInt64)) hx hb dX11_each_44 rfl ?_
    obtain ⟨y45, e6, h⟩ := bd_some h
    refine ct_V (ws' := fun _ => [oX11 q0 (.ref q1) (.int v_people) u0_2 u0_3 (.ref q2) (.int y45.1) (.int (0 : Int32)) rw23_0 (.int ye23_1_2) (.int ye23_1_3) (.int ye23_1_4) (.int ye23_1_5) u0_12 (.ref q3) u0_14 (.int v_ruleSize) (.int ye23_1_6) (.ref q4) u0_18 u0_19 u0_20 (.ref q5) u0_22 u0_23 u0_24 u0_25 u0_26 u0_27 u0_28 u0_29 u0_30 u0_31 u0_32 u0_33 u0_34 u0_35 u0_36 u0_37 u0_38 u0_39 u0_40, aI cy q1 37 v_now, aJ cy q2 16 y45.2, aB cy q3 40 v_rule, aI cy q4 7 ye23_1_7, aI cy q5 37 ye23_1_8]) (st' := []) (rest := []) E hS vlX11_256 (c_X11_tell (l := l) (D := D) (cy := cy) (q0 := q0) (q1 := q2) (u0_0 := .ref q1) (u0_1 := .int v_people) (u0_2 := u0_2) (u0_3 := u0_3) (u0_6 := .int (0 : Int32)) (u0_7 := rw23_0) (u0_8 := .int ye23_1_2) (u0_9 := .int ye23_1_3) (u0_10 := .int ye23_1_4) (u0_11 := .int ye23_1_5) (u0_12 := u0_12) (u0_13 := .ref q3) (u0_14 := u0_14) (u0_15 := .int v_ruleSize) (u0_16 := .int ye23_1_6) (u0_17 := .ref q4) (u0_18 := u0_18) (u0_19 := u0_19) (u0_20 := u0_20) (u0_21 := .ref q5) (u0_22 := u0_22) (u0_23 := u0_23) (u0_24 := u0_24) (u0_25 := u0_25) (u0_26 := u0_26) (u0_27 := u0_27) (u0_28 := u0_28) (u0_29 := u0_29) (u0_30 := u0_30) (u0_31 := u0_31) (u0_32 := u0_32) (u0_33 := u0_33) (u0_34 := u0_34) (u0_35 := u0_35) (u0_36 := u0_36) (u0_37 := u0_37) (u0_38 := u0_38) (u0_39 := u0_39) (u0_40 := u0_40) (v_rowMany := (0 : Int32)) (v_row := v_row) (p1 := (ye23_1_0.toInt64)) (r := y45) e6) [0, 2] rfl rfl (fun _ => rfl) (fun _ => rfl) rfl rfl rfl rfl (Nat.le_of_ble_eq_true rfl) hl.1 (by rw [hRf]; exact Nat.le_of_ble_eq_true rfl) (by rw [hRl]; exact Nat.le_of_ble_eq_true rfl) ⟨Nat.zero_le _, Nat.zero_le _⟩ dX11_each_45 rfl (fun H locs _ hS => ?_)
    refine lv_iload_n hx hb dX11_each_48 rfl (lv_at hl 2 rfl) ?_
    obtain rfl := Option.some.inj h
    exact rt_i E hQ (rw23_0) hS dX11_each_49
set_option maxHeartbeats 4000000 in
set_option maxRecDepth 100000 in
theorem c_X11_busiest {l : Launch} {D : va_G} {cy : Nat → ClassId} (q0 : Nat) (q1 : Nat) (q2 : Nat) (q3 : Nat) (q4 : Nat) (q5 : Nat) (q6 : Nat) (u0_2 : Value) (u0_3 : Value) (u0_7 : Value) (u0_12 : Value) (u0_14 : Value) (u0_18 : Value) (u0_19 : Value) (u0_20 : Value) (u0_22 : Value) (u0_24 : Value) (u0_25 : Value) (u0_26 : Value) (u0_27 : Value) (u0_28 : Value) (u0_29 : Value) (u0_30 : Value) (u0_31 : Value) (u0_32 : Value) (u0_33 : Value) (u0_34 : Value) (u0_35 : Value) (u0_36 : Value) (u0_37 : Value) (u0_38 : Value) (u0_39 : Value) (u0_40 : Value) (v_people : Int32) (v_rowMany : Int32) (v_thrown : Int32) (v_length : Int32) (v_top : Int32) (v_at : Int32) (v_wrong : Int32) (v_ruleSize : Int32) (v_isAsked : Int32) (v_now : Nat → Int32) (v_row : Nat → Int64) (v_rule : Nat → Int32) (v_asked : Nat → Int32) (v_then : Nat → Int32) (v_often : Nat → Int32) (p1 : Int32) (r : Int32 × Int32 × Int32 × Int32 × Int32 × Int32 × Int32 × Int32 × (Nat → Int64) × (Nat → Int32) × (Nat → Int32) × (Nat → Int32)) (h : X11_busiest v_people v_rowMany v_length v_top v_at v_wrong v_ruleSize v_isAsked v_now v_row v_rule v_asked v_then v_often p1 = some r) : Ct l yX11_busiest cX11_busiest 5 (some .int) 110 2626 D cy [.ref q0, .int p1] [oX11 q0 (.ref q1) (.int v_people) u0_2 u0_3 (.ref q2) (.int v_rowMany) (.int v_thrown) u0_7 (.int v_length) (.int v_top) (.int v_at) (.int v_wrong) u0_12 (.ref q3) u0_14 (.int v_ruleSize) (.int v_isAsked) (.ref q4) u0_18 u0_19 u0_20 (.ref q5) u0_22 (.ref q6) u0_24 u0_25 u0_26 u0_27 u0_28 u0_29 u0_30 u0_31 u0_32 u0_33 u0_34 u0_35 u0_36 u0_37 u0_38 u0_39 u0_40, aI cy q1 37 v_now, aJ cy q2 16 v_row, aB cy q3 40 v_rule, aI cy q4 7 v_asked, aI cy q5 37 v_then, aI cy q6 7 v_often] (fun rv => [oX11 q0 (.ref q1) (.int v_people) u0_2 u0_3 (.ref q2) (.int r.2.1) (.int r.2.2.1) rv (.int r.2.2.2.1) (.int r.2.2.2.2.1) (.int r.2.2.2.2.2.1) (.int r.2.2.2.2.2.2.1) u0_12 (.ref q3) u0_14 (.int v_ruleSize) (.int r.2.2.2.2.2.2.2.1) (.ref q4) u0_18 u0_19 u0_20 (.ref q5) u0_22 (.ref q6) u0_24 u0_25 u0_26 u0_27 u0_28 u0_29 u0_30 u0_31 u0_32 u0_33 u0_34 u0_35 u0_36 u0_37 u0_38 u0_39 u0_40, aI cy q1 37 v_now, aJ cy q2 16 r.2.2.2.2.2.2.2.2.1, aB cy q3 40 v_rule, aI cy q4 7 r.2.2.2.2.2.2.2.2.2.1, aI cy q5 37 r.2.2.2.2.2.2.2.2.2.2.1, aI cy q6 7 r.2.2.2.2.2.2.2.2.2.2.2]) (some (.int r.1)) := by
  refine Ct.mk kX11_busiest (by decide +kernel) (Nat.le_of_ble_eq_true rfl) ?_
  intro p e s m below meth c A ls args R Q hRf hRl hQ E H locs hS hl
  have hx := E.x
  have hb := E.b
  have hl : lv_has ls 5 [(0, .ref q0), (1, .int p1)] := hl
  unfold X11_busiest at h
  refine lv_aload_n hx hb dX11_busiest_0 rfl (lv_at hl 0 rfl) ?_
  refine lv_iconst (v := 0) hx hb dX11_busiest_1 (by decide) ?_
  refine r_put (ws' := [oX11 q0 (.ref q1) (.int v_people) u0_2 u0_3 (.ref q2) (.int v_rowMany) (.int (0 : Int32)) u0_7 (.int v_length) (.int v_top) (.int v_at) (.int v_wrong) u0_12 (.ref q3) u0_14 (.int v_ruleSize) (.int v_isAsked) (.ref q4) u0_18 u0_19 u0_20 (.ref q5) u0_22 (.ref q6) u0_24 u0_25 u0_26 u0_27 u0_28 u0_29 u0_30 u0_31 u0_32 u0_33 u0_34 u0_35 u0_36 u0_37 u0_38 u0_39 u0_40, aI cy q1 37 v_now, aJ cy q2 16 v_row, aB cy q3 40 v_rule, aI cy q4 7 v_asked, aI cy q5 37 v_then, aI cy q6 7 v_often]) E frX11_85 hS 0 rfl (Nat.le_of_ble_eq_true rfl) rfl rfl rfl rfl dX11_busiest_2 (fun H locs hS => ?_)
  refine lv_iload_n hx hb dX11_busiest_5 rfl (lv_at hl 1 rfl) ?_
  refine lv_iconst (v := 1) hx hb dX11_busiest_6 (by decide) ?_
  refine lv_bipush (v := 99) hx hb dX11_busiest_7 (by decide) ?_
  refine ct_S (ws' := fun _ => [oX11 q0 (.ref q1) (.int v_people) u0_2 u0_3 (.ref q2) (.int v_rowMany) (.int (0 : Int32)) u0_7 (.int v_length) (.int v_top) (.int v_at) (.int v_wrong) u0_12 (.ref q3) u0_14 (.int v_ruleSize) (.int v_isAsked) (.ref q4) u0_18 u0_19 u0_20 (.ref q5) u0_22 (.ref q6) u0_24 u0_25 u0_26 u0_27 u0_28 u0_29 u0_30 u0_31 u0_32 u0_33 u0_34 u0_35 u0_36 u0_37 u0_38 u0_39 u0_40, aI cy q1 37 v_now, aJ cy q2 16 v_row, aB cy q3 40 v_rule, aI cy q4 7 v_asked, aI cy q5 37 v_then, aI cy q6 7 v_often]) (st' := [.int (X11_in p1 (1 : Int32) (99 : Int32))]) (rest := []) E hS slX11_95 (c_X11_in (l := l) (D := D) (cy := cy) (p0 := p1) (p1 := (1 : Int32)) (p2 := (99 : Int32)) (r := (X11_in p1 (1 : Int32) (99 : Int32))) rfl) [] rfl rfl (fun _ => rfl) (fun _ => rfl) rfl rfl (Nat.le_of_ble_eq_true rfl) hl.1 (by rw [hRf]; exact Nat.le_of_ble_eq_true rfl) (by rw [hRl]; exact Nat.le_of_ble_eq_true rfl) ⟨Nat.zero_le _, Nat.zero_le _⟩ dX11_busiest_9 rfl (fun H locs _ hS => ?_)
  refine lv_if_ne (tgt := 17) hx hb dX11_busiest_12 (by decide) (fun c1 => ?_) (fun c1 => ?_)
  · have h := it_neg c1 h
    refine lv_aload_n hx hb dX11_busiest_17 rfl (lv_at hl 0 rfl) ?_
    refine r_get E frX11_92 hS 0 rfl rfl dX11_busiest_18 ?_
    refine lv_if_ne (tgt := 27) hx hb dX11_busiest_21 (by decide) (fun c2 => ?_) (fun c2 => ?_)
    · have h := it_neg c2 h
      refine lv_iconst (v := 0) hx hb dX11_busiest_27 (by decide) ?_
      refine lv_istore_n (lv' := [(2, .int (0 : Int32)), (0, .ref q0), (1, .int p1)]) hx hb dX11_busiest_28 rfl hl (by decide) rfl (fun ls hl => ?_)
      have hL29 : ∀ (n : Nat) (x29_0 : Int32) (x29_1 : Nat → Int32) (y29 : (Nat → Int32)) (H : Heap) (locs : List Loc) (ls : Array Slot), lp (fun x29 => X11_busiest_s29 v_people x29.1 x29.2) n (x29_0, x29_1) = some y29 → Sv D A s.heap [oX11 q0 (.ref q1) (.int v_people) u0_2 u0_3 (.ref q2) (.int v_rowMany) (.int (0 : Int32)) u0_7 (.int v_length) (.int v_top) (.int v_at) (.int v_wrong) u0_12 (.ref q3) u0_14 (.int v_ruleSize) (.int v_isAsked) (.ref q4) u0_18 u0_19 u0_20 (.ref q5) u0_22 (.ref q6) u0_24 u0_25 u0_26 u0_27 u0_28 u0_29 u0_30 u0_31 u0_32 u0_33 u0_34 u0_35 u0_36 u0_37 u0_38 u0_39 u0_40, aI cy q1 37 v_now, aJ cy q2 16 v_row, aB cy q3 40 v_rule, aI cy q4 7 v_asked, aI cy q5 37 v_then, aI cy q6 7 x29_1] H locs → lv_has ls 5 [(0, .ref q0), (1, .int p1), (2, .int x29_0)] → ( ∀ (y29_0 : Nat → Int32), y29_0 = y29 → ∀ (H : Heap) (locs : List Loc) (ls : Array Slot), Sv D A s.heap [oX11 q0 (.ref q1) (.int v_people) u0_2 u0_3 (.ref q2) (.int v_rowMany) (.int (0 : Int32)) u0_7 (.int v_length) (.int v_top) (.int v_at) (.int v_wrong) u0_12 (.ref q3) u0_14 (.int v_ruleSize) (.int v_isAsked) (.ref q4) u0_18 u0_19 u0_20 (.ref q5) u0_22 (.ref q6) u0_24 u0_25 u0_26 u0_27 u0_28 u0_29 u0_30 u0_31 u0_32 u0_33 u0_34 u0_35 u0_36 u0_37 u0_38 u0_39 u0_40, aI cy q1 37 v_now, aJ cy q2 16 v_row, aB cy q3 40 v_rule, aI cy q4 7 v_asked, aI cy q5 37 v_then, aI cy q6 7 y29_0] H locs → lv_has ls 5 [(0, .ref q0), (1, .int p1)] → W p l e R s m args below meth c H locs 0 0 Q (F0 m 50 ls [])) → W p l e R s m args below meth c H locs 0 0 Q (F0 m 29 ls []) := by
        intro n
        induction n with
        | zero =>
          intro x29_0 x29_1 y29 H locs ls h
          exact lp_zero h
        | succ n ih29 =>
          intro x29_0 x29_1 y29 H locs ls h hS hl hk29_0
          obtain ⟨z29, h, hz29a, hz29b⟩ := lp_succ h
          have h : X11_busiest_s29 v_people x29_0 x29_1 = some z29 := h
          unfold X11_busiest_s29 at h
          refine lv_iload_n hx hb dX11_busiest_29 rfl (lv_at hl 2 rfl) ?_
          refine lv_aload_n hx hb dX11_busiest_30 rfl (lv_at hl 0 rfl) ?_
          refine r_get E frX11_92 hS 0 rfl rfl dX11_busiest_31 ?_
          refine lv_icmp_ge (tgt := 50) hx hb dX11_busiest_34 (by decide) (fun c3 => ?_) (fun c3 => ?_)
          · have h := it_pos c3 h
            exact hk29_0 x29_1 (hz29b _ (Option.some.inj h).symm)  H locs ls hS (lv_sub hl [0, 1] rfl)
          · have h := it_neg c3 h
            refine lv_aload_n hx hb dX11_busiest_37 rfl (lv_at hl 0 rfl) ?_
            refine r_get E frX11_45 hS 0 rfl rfl dX11_busiest_38 ?_
            refine lv_iload_n hx hb dX11_busiest_41 rfl (lv_at hl 2 rfl) ?_
            refine lv_iconst (v := 0) hx hb dX11_busiest_42 (by decide) ?_
            obtain ⟨g4, h⟩ := gi_some h
            refine r_iast (ws' := [oX11 q0 (.ref q1) (.int v_people) u0_2 u0_3 (.ref q2) (.int v_rowMany) (.int (0 : Int32)) u0_7 (.int v_length) (.int v_top) (.int v_at) (.int v_wrong) u0_12 (.ref q3) u0_14 (.int v_ruleSize) (.int v_isAsked) (.ref q4) u0_18 u0_19 u0_20 (.ref q5) u0_22 (.ref q6) u0_24 u0_25 u0_26 u0_27 u0_28 u0_29 u0_30 u0_31 u0_32 u0_33 u0_34 u0_35 u0_36 u0_37 u0_38 u0_39 u0_40, aI cy q1 37 v_now, aJ cy q2 16 v_row, aB cy q3 40 v_rule, aI cy q4 7 v_asked, aI cy q5 37 v_then, aI cy q6 7 (upd x29_1 x29_0.toNatClampNeg (0 : Int32))]) E hS 6 rfl g4 rfl dX11_busiest_43 (fun H locs hS => ?_)
            refine lv_iinc (v := (x29_0 + (1 : Int32))) (lv' := [(2, .int (x29_0 + (1 : Int32))), (0, .ref q0), (1, .int p1)]) hx hb dX11_busiest_44 hl (k := 2) rfl rfl (by decide) rfl (fun ls hl => ?_)
            refine lv_goto (tgt := 29) hx hb dX11_busiest_47 (by decide) ?_
            exact ih29 (x29_0 + (1 : Int32)) (upd x29_1 x29_0.toNatClampNeg (0 : Int32)) y29  H locs ls (hz29a _ (Option.some.inj h).symm) hS (lv_sub hl [1, 2, 0] rfl) hk29_0
      obtain ⟨y29, e29, h⟩ := bd_some h
      refine hL29 1000 (0 : Int32) v_often y29  H locs ls e29 hS (lv_sub hl [1, 2, 0] rfl) (fun y29_0 ey29 H locs ls hS hl => ?_)
      subst ey29
      refine lv_aload_n hx hb dX11_busiest_50 rfl (lv_at hl 0 rfl) ?_
      refine r_get E frX11_9 hS 0 rfl rfl dX11_busiest_51 ?_
      refine lv_aload_n hx hb dX11_busiest_54 rfl (lv_at hl 0 rfl) ?_
      refine r_get E frX11_39 hS 0 rfl rfl dX11_busiest_55 ?_
      refine lv_iconst (v := 0) hx hb dX11_busiest_58 (by decide) ?_
      obtain ⟨y59, e5, h⟩ := bd_some h
      refine ct_S (ws' := fun _ => [oX11 q0 (.ref q1) (.int v_people) u0_2 u0_3 (.ref q2) (.int v_rowMany) (.int (0 : Int32)) u0_7 (.int v_length) (.int v_top) (.int v_at) (.int v_wrong) u0_12 (.ref q3) u0_14 (.int v_ruleSize) (.int v_isAsked) (.ref q4) u0_18 u0_19 u0_20 (.ref q5) u0_22 (.ref q6) u0_24 u0_25 u0_26 u0_27 u0_28 u0_29 u0_30 u0_31 u0_32 u0_33 u0_34 u0_35 u0_36 u0_37 u0_38 u0_39 u0_40, aI cy q1 37 v_now, aJ cy q2 16 v_row, aB cy q3 40 v_rule, aI cy q4 7 v_asked, aI cy q5 37 y59, aI cy q6 7 y29_0]) (st' := []) (rest := []) E hS slX11_235 (c_X11_lay (l := l) (D := D) (cy := cy) (q0 := q1) (q1 := q5) (nw1_ := 37) (w1_ := v_now) (nw2_ := 37) (w2_ := v_then) (p2 := (0 : Int32)) (r := y59) e5) [1, 5] rfl rfl (fun _ => rfl) (fun _ => rfl) rfl rfl (Nat.le_of_ble_eq_true rfl) hl.1 (by rw [hRf]; exact Nat.le_of_ble_eq_true rfl) (by rw [hRl]; exact Nat.le_of_ble_eq_true rfl) ⟨Nat.zero_le _, Nat.zero_le _⟩ dX11_busiest_59 rfl (fun H locs _ hS => ?_)
      refine lv_iconst (v := 0) hx hb dX11_busiest_62 (by decide) ?_
      refine lv_istore_n (lv' := [(2, .int (0 : Int32)), (0, .ref q0), (1, .int p1)]) hx hb dX11_busiest_63 rfl hl (by decide) rfl (fun ls hl => ?_)
      have hL64 : ∀ (n : Nat) (x64_0 : Int32) (x64_1 : Int32) (x64_2 : Int32) (x64_3 : Int32) (x64_4 : Int32) (x64_5 : Int32) (x64_6 : Nat → Int32) (x64_7 : Nat → Int32) (x64_8 : Nat → Int32) (y64 : Int32 × Int32 × Int32 × Int32 × Int32 × (Nat → Int32) × (Nat → Int32) × (Nat → Int32)) (rv64_0 : Value) (H : Heap) (locs : List Loc) (ls : Array Slot), lp (fun x64 => X11_busiest_s64 v_people v_ruleSize v_rule p1 x64.1 x64.2.1 x64.2.2.1 x64.2.2.2.1 x64.2.2.2.2.1 x64.2.2.2.2.2.1 x64.2.2.2.2.2.2.1 x64.2.2.2.2.2.2.2.1 x64.2.2.2.2.2.2.2.2) n (x64_0, x64_1, x64_2, x64_3, x64_4, x64_5, x64_6, x64_7, x64_8) = some y64 → Sv D A s.heap [oX11 q0 (.ref q1) (.int v_people) u0_2 u0_3 (.ref q2) (.int v_rowMany) (.int (0 : Int32)) rv64_0 (.int x64_1) (.int x64_2) (.int x64_3) (.int x64_4) u0_12 (.ref q3) u0_14 (.int v_ruleSize) (.int x64_5) (.ref q4) u0_18 u0_19 u0_20 (.ref q5) u0_22 (.ref q6) u0_24 u0_25 u0_26 u0_27 u0_28 u0_29 u0_30 u0_31 u0_32 u0_33 u0_34 u0_35 u0_36 u0_37 u0_38 u0_39 u0_40, aI cy q1 37 v_now, aJ cy q2 16 v_row, aB cy q3 40 v_rule, aI cy q4 7 x64_6, aI cy q5 37 x64_7, aI cy q6 7 x64_8] H locs → lv_has ls 5 [(0, .ref q0), (1, .int p1), (2, .int x64_0)] → ( ∀ (y64_0 : Int32) (y64_1 : Int32) (y64_2 : Int32) (y64_3 : Int32) (y64_4 : Int32) (y64_5 : Nat → Int32) (y64_6 : Nat → Int32) (y64_7 : Nat → Int32), (y64_0, y64_1, y64_2, y64_3, y64_4, y64_5, y64_6, y64_7) = y64 → ∀ (rv64_0 : Value), ∀ (H : Heap) (locs : List Loc) (ls : Array Slot), Sv D A s.heap [oX11 q0 (.ref q1) (.int v_people) u0_2 u0_3 (.ref q2) (.int v_rowMany) (.int (0 : Int32)) rv64_0 (.int y64_0) (.int y64_1) (.int y64_2) (.int y64_3) u0_12 (.ref q3) u0_14 (.int v_ruleSize) (.int y64_4) (.ref q4) u0_18 u0_19 u0_20 (.ref q5) u0_22 (.ref q6) u0_24 u0_25 u0_26 u0_27 u0_28 u0_29 u0_30 u0_31 u0_32 u0_33 u0_34 u0_35 u0_36 u0_37 u0_38 u0_39 u0_40, aI cy q1 37 v_now, aJ cy q2 16 v_row, aB cy q3 40 v_rule, aI cy q4 7 y64_5, aI cy q5 37 y64_6, aI cy q6 7 y64_7] H locs → lv_has ls 5 [(0, .ref q0)] → W p l e R s m args below meth c H locs 0 0 Q (F0 m 118 ls [])) → W p l e R s m args below meth c H locs 0 0 Q (F0 m 64 ls []) := by
        intro n
        induction n with
        | zero =>
          intro x64_0 x64_1 x64_2 x64_3 x64_4 x64_5 x64_6 x64_7 x64_8 y64 rv64_0 H locs ls h
          exact lp_zero h
        | succ n ih64 =>
          intro x64_0 x64_1 x64_2 x64_3 x64_4 x64_5 x64_6 x64_7 x64_8 y64 rv64_0 H locs ls h hS hl hk64_0
          obtain ⟨z64, h, hz64a, hz64b⟩ := lp_succ h
          have h : X11_busiest_s64 v_people v_ruleSize v_rule p1 x64_0 x64_1 x64_2 x64_3 x64_4 x64_5 x64_6 x64_7 x64_8 = some z64 := h
          unfold X11_busiest_s64 at h
          refine lv_iload_n hx hb dX11_busiest_64 rfl (lv_at hl 2 rfl) ?_
          refine lv_iload_n hx hb dX11_busiest_65 rfl (lv_at hl 1 rfl) ?_
          refine lv_icmp_ge (tgt := 118) hx hb dX11_busiest_66 (by decide) (fun c6 => ?_) (fun c6 => ?_)
          · have h := it_pos c6 h
            exact hk64_0 x64_1 x64_2 x64_3 x64_4 x64_5 x64_6 x64_7 x64_8 (hz64b _ (Option.some.inj h).symm) rv64_0 H locs ls hS (lv_sub hl [0] rfl)
          · have h := it_neg c6 h
            refine lv_aload_n hx hb dX11_busiest_69 rfl (lv_at hl 0 rfl) ?_
            refine lv_aload_n hx hb dX11_busiest_70 rfl (lv_at hl 0 rfl) ?_
            refine r_get E frX11_39 hS 0 rfl rfl dX11_busiest_71 ?_
            obtain ⟨y74, e7, h⟩ := bd_some h
            refine ct_V (ws' := fun rc8 => [oX11 q0 (.ref q1) (.int v_people) u0_2 u0_3 (.ref q2) (.int v_rowMany) (.int (0 : Int32)) rc8 (.int y74.2.1) (.int y74.2.2.1) (.int y74.2.2.2.1) (.int y74.2.2.2.2.1) u0_12 (.ref q3) u0_14 (.int v_ruleSize) (.int y74.2.2.2.2.2.1) (.ref q4) u0_18 u0_19 u0_20 (.ref q5) u0_22 (.ref q6) u0_24 u0_25 u0_26 u0_27 u0_28 u0_29 u0_30 u0_31 u0_32 u0_33 u0_34 u0_35 u0_36 u0_37 u0_38 u0_39 u0_40, aI cy q1 37 v_now, aJ cy q2 16 v_row, aB cy q3 40 v_rule, aI cy q4 7 y74.2.2.2.2.2.2.1, aI cy q5 37 y74.2.2.2.2.2.2.2, aI cy q6 7 x64_8]) (st' := [.int y74.1]) (rest := []) E hS vlX11_246 (c_X11_goMorning (l := l) (D := D) (cy := cy) (q0 := q0) (q1 := q3) (q2 := q4) (q3 := q5) (u0_0 := .ref q1) (u0_2 := u0_2) (u0_3 := u0_3) (u0_4 := .ref q2) (u0_5 := .int v_rowMany) (u0_6 := .int (0 : Int32)) (u0_7 := rv64_0) (u0_12 := u0_12) (u0_14 := u0_14) (u0_18 := u0_18) (u0_19 := u0_19) (u0_20 := u0_20) (u0_21 := .ref q5) (u0_22 := u0_22) (u0_23 := .ref q6) (u0_24 := u0_24) (u0_25 := u0_25) (u0_26 := u0_26) (u0_27 := u0_27) (u0_28 := u0_28) (u0_29 := u0_29) (u0_30 := u0_30) (u0_31 := u0_31) (u0_32 := u0_32) (u0_33 := u0_33) (u0_34 := u0_34) (u0_35 := u0_35) (u0_36 := u0_36) (u0_37 := u0_37) (u0_38 := u0_38) (u0_39 := u0_39) (u0_40 := u0_40) (v_people := v_people) (v_length := x64_1) (v_top := x64_2) (v_at := x64_3) (v_wrong := x64_4) (v_ruleSize := v_ruleSize) (v_isAsked := x64_5) (v_rule := v_rule) (v_asked := x64_6) (nw1_ := 37) (w1_ := x64_7) (r := y74) e7) [0, 3, 4, 5] rfl rfl (fun _ => rfl) (fun _ => rfl) rfl rfl rfl rfl (Nat.le_of_ble_eq_true rfl) hl.1 (by rw [hRf]; exact Nat.le_of_ble_eq_true rfl) (by rw [hRl]; exact Nat.le_of_ble_eq_true rfl) ⟨Nat.zero_le _, Nat.zero_le _⟩ dX11_busiest_74 rfl (fun H locs rc8 hS => ?_)
            refine lv_istore_n (lv' := [(3, .int y74.1), (0, .ref q0), (1, .int p1), (2, .int x64_0)]) hx hb dX11_busiest_77 rfl hl (by decide) rfl (fun ls hl => ?_)
            refine lv_iconst (v := 0) hx hb dX11_busiest_78 (by decide) ?_
            refine lv_istore (lv' := [(4, .int (0 : Int32)), (3, .int y74.1), (0, .ref q0), (1, .int p1), (2, .int x64_0)]) hx hb dX11_busiest_79 hl (by decide) rfl (fun ls hl => ?_)
            have hL81 : ∀ (n : Nat) (x81_0 : Int32) (x81_1 : Nat → Int32) (y81 : (Nat → Int32)) (H : Heap) (locs : List Loc) (ls : Array Slot), lp (fun x81 => X11_busiest_s81 v_people y74 x81.1 x81.2) n (x81_0, x81_1) = some y81 → Sv D A s.heap [oX11 q0 (.ref q1) (.int v_people) u0_2 u0_3 (.ref q2) (.int v_rowMany) (.int (0 : Int32)) rc8 (.int y74.2.1) (.int y74.2.2.1) (.int y74.2.2.2.1) (.int y74.2.2.2.2.1) u0_12 (.ref q3) u0_14 (.int v_ruleSize) (.int y74.2.2.2.2.2.1) (.ref q4) u0_18 u0_19 u0_20 (.ref q5) u0_22 (.ref q6) u0_24 u0_25 u0_26 u0_27 u0_28 u0_29 u0_30 u0_31 u0_32 u0_33 u0_34 u0_35 u0_36 u0_37 u0_38 u0_39 u0_40, aI cy q1 37 v_now, aJ cy q2 16 v_row, aB cy q3 40 v_rule, aI cy q4 7 y74.2.2.2.2.2.2.1, aI cy q5 37 y74.2.2.2.2.2.2.2, aI cy q6 7 x81_1] H locs → lv_has ls 5 [(0, .ref q0), (1, .int p1), (2, .int x64_0), (3, .int y74.1), (4, .int x81_0)] → ( ∀ (y81_0 : Nat → Int32), y81_0 = y81 → ∀ (H : Heap) (locs : List Loc) (ls : Array Slot), Sv D A s.heap [oX11 q0 (.ref q1) (.int v_people) u0_2 u0_3 (.ref q2) (.int v_rowMany) (.int (0 : Int32)) rc8 (.int y74.2.1) (.int y74.2.2.1) (.int y74.2.2.2.1) (.int y74.2.2.2.2.1) u0_12 (.ref q3) u0_14 (.int v_ruleSize) (.int y74.2.2.2.2.2.1) (.ref q4) u0_18 u0_19 u0_20 (.ref q5) u0_22 (.ref q6) u0_24 u0_25 u0_26 u0_27 u0_28 u0_29 u0_30 u0_31 u0_32 u0_33 u0_34 u0_35 u0_36 u0_37 u0_38 u0_39 u0_40, aI cy q1 37 v_now, aJ cy q2 16 v_row, aB cy q3 40 v_rule, aI cy q4 7 y74.2.2.2.2.2.2.1, aI cy q5 37 y74.2.2.2.2.2.2.2, aI cy q6 7 y81_0] H locs → lv_has ls 5 [(0, .ref q0), (1, .int p1), (2, .int x64_0)] → W p l e R s m args below meth c H locs 0 0 Q (F0 m 112 ls [])) → W p l e R s m args below meth c H locs 0 0 Q (F0 m 81 ls []) := by
              intro n
              induction n with
              | zero =>
                intro x81_0 x81_1 y81 H locs ls h
                exact lp_zero h
              | succ n ih81 =>
                intro x81_0 x81_1 y81 H locs ls h hS hl hk81_0
                obtain ⟨z81, h, hz81a, hz81b⟩ := lp_succ h
                have h : X11_busiest_s81 v_people y74 x81_0 x81_1 = some z81 := h
                unfold X11_busiest_s81 at h
                refine lv_iload hx hb dX11_busiest_81 (lv_at hl 4 rfl) ?_
                refine lv_aload_n hx hb dX11_busiest_83 rfl (lv_at hl 0 rfl) ?_
                refine r_get E frX11_92 hS 0 rfl rfl dX11_busiest_84 ?_
                refine lv_icmp_ge (tgt := 112) hx hb dX11_busiest_87 (by decide) (fun c9 => ?_) (fun c9 => ?_)
                · have h := it_pos c9 h
                  exact hk81_0 x81_1 (hz81b _ (Option.some.inj h).symm)  H locs ls hS (lv_sub hl [0, 1, 2] rfl)
                · have h := it_neg c9 h
                  refine lv_aload_n hx hb dX11_busiest_90 rfl (lv_at hl 0 rfl) ?_
                  refine r_get E frX11_45 hS 0 rfl rfl dX11_busiest_91 ?_
                  refine lv_iload hx hb dX11_busiest_94 (lv_at hl 4 rfl) ?_
                  refine lv_dup2_11 hx hb dX11_busiest_96 rfl rfl ?_
                  obtain ⟨g10, h⟩ := gi_some h
                  refine r_iald E hS 6 rfl g10 dX11_busiest_97 ?_
                  refine lv_iload_n hx hb dX11_busiest_98 rfl (lv_at hl 3 rfl) ?_
                  refine lv_iload hx hb dX11_busiest_99 (lv_at hl 4 rfl) ?_
                  refine lv_ishr hx hb dX11_busiest_101 ?_
                  refine lv_iconst (v := 1) hx hb dX11_busiest_102 (by decide) ?_
                  refine lv_iand hx hb dX11_busiest_103 ?_
                  refine lv_iadd hx hb dX11_busiest_104 ?_
                  obtain ⟨g11, h⟩ := gi_some h
                  refine r_iast (ws' := [oX11 q0 (.ref q1) (.int v_people) u0_2 u0_3 (.ref q2) (.int v_rowMany) (.int (0 : Int32)) rc8 (.int y74.2.1) (.int y74.2.2.1) (.int y74.2.2.2.1) (.int y74.2.2.2.2.1) u0_12 (.ref q3) u0_14 (.int v_ruleSize) (.int y74.2.2.2.2.2.1) (.ref q4) u0_18 u0_19 u0_20 (.ref q5) u0_22 (.ref q6) u0_24 u0_25 u0_26 u0_27 u0_28 u0_29 u0_30 u0_31 u0_32 u0_33 u0_34 u0_35 u0_36 u0_37 u0_38 u0_39 u0_40, aI cy q1 37 v_now, aJ cy q2 16 v_row, aB cy q3 40 v_rule, aI cy q4 7 y74.2.2.2.2.2.2.1, aI cy q5 37 y74.2.2.2.2.2.2.2, aI cy q6 7 (upd x81_1 x81_0.toNatClampNeg ((x81_1 x81_0.toNatClampNeg) + ((y74.1 >>> (x81_0 &&& 31)) &&& (1 : Int32))))]) E hS 6 rfl g11 rfl dX11_busiest_105 (fun H locs hS => ?_)
                  refine lv_iinc (v := (x81_0 + (1 : Int32))) (lv' := [(4, .int (x81_0 + (1 : Int32))), (0, .ref q0), (1, .int p1), (2, .int x64_0), (3, .int y74.1)]) hx hb dX11_busiest_106 hl (k := 4) rfl rfl (by decide) rfl (fun ls hl => ?_)
                  refine lv_goto (tgt := 81) hx hb dX11_busiest_109 (by decide) ?_
                  exact ih81 (x81_0 + (1 : Int32)) (upd x81_1 x81_0.toNatClampNeg ((x81_1 x81_0.toNatClampNeg) + ((y74.1 >>> (x81_0 &&& 31)) &&& (1 : Int32)))) y81  H locs ls (hz81a _ (Option.some.inj h).symm) hS (lv_sub hl [1, 2, 3, 4, 0] rfl) hk81_0
            obtain ⟨y81, e81, h⟩ := bd_some h
            refine hL81 1000 (0 : Int32) x64_8 y81  H locs ls e81 hS (lv_sub hl [2, 3, 4, 1, 0] rfl) (fun y81_0 ey81 H locs ls hS hl => ?_)
            subst ey81
            refine lv_iinc (v := (x64_0 + (1 : Int32))) (lv' := [(2, .int (x64_0 + (1 : Int32))), (0, .ref q0), (1, .int p1)]) hx hb dX11_busiest_112 hl (k := 2) rfl rfl (by decide) rfl (fun ls hl => ?_)
            refine lv_goto (tgt := 64) hx hb dX11_busiest_115 (by decide) ?_
            exact ih64 (x64_0 + (1 : Int32)) y74.2.1 y74.2.2.1 y74.2.2.2.1 y74.2.2.2.2.1 y74.2.2.2.2.2.1 y74.2.2.2.2.2.2.1 y74.2.2.2.2.2.2.2 y81_0 y64 rc8 H locs ls (hz64a _ (Option.some.inj h).symm) hS (lv_sub hl [1, 2, 0] rfl) hk64_0
      obtain ⟨y64, e64, h⟩ := bd_some h
      refine hL64 1000 (0 : Int32) v_length v_top v_at v_wrong v_isAsked v_asked y59 y29_0 y64 u0_7 H locs ls e64 hS (lv_sub hl [1, 2, 0] rfl) (fun y64_0 y64_1 y64_2 y64_3 y64_4 y64_5 y64_6 y64_7 ey64 rw64_0 H locs ls hS hl => ?_)
      subst ey64
      have h := un_r h
      have h := un_r h
      have h := un_r h
      have h := un_r h
      have h := un_r h
      have h := un_r h
      have h := un_r h
      refine lv_iconst (v := 0) hx hb dX11_busiest_118 (by decide) ?_
      refine lv_istore_n (lv' := [(2, .int (0 : Int32)), (0, .ref q0)]) hx hb dX11_busiest_119 rfl hl (by decide) rfl (fun ls hl => ?_)
      refine lv_iconst (v := 0) hx hb dX11_busiest_120 (by decide) ?_
      refine lv_istore_n (lv' := [(3, .int (0 : Int32)), (2, .int (0 : Int32)), (0, .ref q0)]) hx hb dX11_busiest_121 rfl hl (by decide) rfl (fun ls hl => ?_)
      refine lv_iconst (v := 0) hx hb dX11_busiest_122 (by decide) ?_
      refine lv_istore (lv' := [(4, .int (0 : Int32)), (3, .int (0 : Int32)), (2, .int (0 : Int32)), (0, .ref q0)]) hx hb dX11_busiest_123 hl (by decide) rfl (fun ls hl => ?_)
      have hL125 : ∀ (n : Nat) (x125_0 : Int32) (x125_1 : Int32) (x125_2 : Int32) (y125 : Int32 × Int32) (H : Heap) (locs : List Loc) (ls : Array Slot), lp (fun x125 => X11_busiest_s125 v_people y64_7 x125.1 x125.2.1 x125.2.2) n (x125_0, x125_1, x125_2) = some y125 → Sv D A s.heap [oX11 q0 (.ref q1) (.int v_people) u0_2 u0_3 (.ref q2) (.int v_rowMany) (.int (0 : Int32)) rw64_0 (.int y64_0) (.int y64_1) (.int y64_2) (.int y64_3) u0_12 (.ref q3) u0_14 (.int v_ruleSize) (.int y64_4) (.ref q4) u0_18 u0_19 u0_20 (.ref q5) u0_22 (.ref q6) u0_24 u0_25 u0_26 u0_27 u0_28 u0_29 u0_30 u0_31 u0_32 u0_33 u0_34 u0_35 u0_36 u0_37 u0_38 u0_39 u0_40, aI cy q1 37 v_now, aJ cy q2 16 v_row, aB cy q3 40 v_rule, aI cy q4 7 y64_5, aI cy q5 37 y64_6, aI cy q6 7 y64_7] H locs → lv_has ls 5 [(0, .ref q0), (2, .int x125_0), (3, .int x125_1), (4, .int x125_2)] → ( ∀ (y125_0 : Int32) (y125_1 : Int32), (y125_0, y125_1) = y125 → ∀ (H : Heap) (locs : List Loc) (ls : Array Slot), Sv D A s.heap [oX11 q0 (.ref q1) (.int v_people) u0_2 u0_3 (.ref q2) (.int v_rowMany) (.int (0 : Int32)) rw64_0 (.int y64_0) (.int y64_1) (.int y64_2) (.int y64_3) u0_12 (.ref q3) u0_14 (.int v_ruleSize) (.int y64_4) (.ref q4) u0_18 u0_19 u0_20 (.ref q5) u0_22 (.ref q6) u0_24 u0_25 u0_26 u0_27 u0_28 u0_29 u0_30 u0_31 u0_32 u0_33 u0_34 u0_35 u0_36 u0_37 u0_38 u0_39 u0_40, aI cy q1 37 v_now, aJ cy q2 16 v_row, aB cy q3 40 v_rule, aI cy q4 7 y64_5, aI cy q5 37 y64_6, aI cy q6 7 y64_7] H locs → lv_has ls 5 [(0, .ref q0), (2, .int y125_0), (3, .int y125_1)] → W p l e R s m args below meth c H locs 0 0 Q (F0 m 184 ls [])) → W p l e R s m args below meth c H locs 0 0 Q (F0 m 125 ls []) := by
        intro n
        induction n with
        | zero =>
          intro x125_0 x125_1 x125_2 y125 H locs ls h
          exact lp_zero h
        | succ n ih125 =>
          intro x125_0 x125_1 x125_2 y125 H locs ls h hS hl hk125_0
          obtain ⟨z125, h, hz125a, hz125b⟩ := lp_succ h
          have h : X11_busiest_s125 v_people y64_7 x125_0 x125_1 x125_2 = some z125 := h
          unfold X11_busiest_s125 at h
          refine lv_iload hx hb dX11_busiest_125 (lv_at hl 3 rfl) ?_
          refine lv_aload_n hx hb dX11_busiest_127 rfl (lv_at hl 0 rfl) ?_
          refine r_get E frX11_92 hS 0 rfl rfl dX11_busiest_128 ?_
          refine lv_icmp_ge (tgt := 184) hx hb dX11_busiest_131 (by decide) (fun c12 => ?_) (fun c12 => ?_)
          · have h := it_pos c12 h
            exact hk125_0 x125_0 x125_1 (hz125b _ (Option.some.inj h).symm)  H locs ls hS (lv_sub hl [0, 1, 2] rfl)
          · have h := it_neg c12 h
            refine lv_aload_n hx hb dX11_busiest_134 rfl (lv_at hl 0 rfl) ?_
            refine r_get E frX11_45 hS 0 rfl rfl dX11_busiest_135 ?_
            refine lv_iload hx hb dX11_busiest_138 (lv_at hl 3 rfl) ?_
            obtain ⟨g13, h⟩ := gi_some h
            refine r_iald E hS 6 rfl g13 dX11_busiest_140 ?_
            refine lv_aload_n hx hb dX11_busiest_141 rfl (lv_at hl 0 rfl) ?_
            refine r_get E frX11_45 hS 0 rfl rfl dX11_busiest_142 ?_
            refine lv_iload_n hx hb dX11_busiest_145 rfl (lv_at hl 1 rfl) ?_
            obtain ⟨g14, h⟩ := gi_some h
            refine r_iald E hS 6 rfl g14 dX11_busiest_146 ?_
            have hJ156 : ∀ (s156_0 : Int32) (ls : Array Slot), s156_0 = (if (y64_7 x125_2.toNatClampNeg) ≤ (y64_7 x125_0.toNatClampNeg) then x125_0 else x125_2) → lv_has ls 5 [(0, .ref q0), (3, .int x125_1), (4, .int x125_2)] → W p l e R s m args below meth c H locs 0 0 Q (F0 m 156 ls [.int s156_0]) := by
              intro s156_0 ls es156_0 hl
              subst es156_0
              refine lv_istore_n (lv' := [(2, .int (if (y64_7 x125_2.toNatClampNeg) ≤ (y64_7 x125_0.toNatClampNeg) then x125_0 else x125_2)), (0, .ref q0), (3, .int x125_1), (4, .int x125_2)]) hx hb dX11_busiest_156 rfl hl (by decide) rfl (fun ls hl => ?_)
              refine lv_iload_n hx hb dX11_busiest_157 rfl (lv_at hl 2 rfl) ?_
              refine lv_aload_n hx hb dX11_busiest_158 rfl (lv_at hl 1 rfl) ?_
              refine r_get E frX11_45 hS 0 rfl rfl dX11_busiest_159 ?_
              refine lv_iload hx hb dX11_busiest_162 (lv_at hl 3 rfl) ?_
              obtain ⟨g15, h⟩ := gi_some h
              refine r_iald E hS 6 rfl g15 dX11_busiest_164 ?_
              have hJ176 : ∀ (s176_1 : Int32) (ls : Array Slot), s176_1 = (if (y64_7 x125_2.toNatClampNeg) = 0 then ((1 : Int32) <<< (x125_2 &&& 31)) else (0 : Int32)) → lv_has ls 5 [(0, .ref q0), (2, .int (if (y64_7 x125_2.toNatClampNeg) ≤ (y64_7 x125_0.toNatClampNeg) then x125_0 else x125_2)), (4, .int x125_2)] → W p l e R s m args below meth c H locs 0 0 Q (F0 m 176 ls [.int s176_1, .int x125_1]) := by
                intro s176_1 ls es176_1 hl
                subst es176_1
                refine lv_ior hx hb dX11_busiest_176 ?_
                refine lv_istore_n (lv' := [(3, .int (x125_1 ||| (if (y64_7 x125_2.toNatClampNeg) = 0 then ((1 : Int32) <<< (x125_2 &&& 31)) else (0 : Int32)))), (0, .ref q0), (2, .int (if (y64_7 x125_2.toNatClampNeg) ≤ (y64_7 x125_0.toNatClampNeg) then x125_0 else x125_2)), (4, .int x125_2)]) hx hb dX11_busiest_177 rfl hl (by decide) rfl (fun ls hl => ?_)
                refine lv_iinc (v := (x125_2 + (1 : Int32))) (lv' := [(4, .int (x125_2 + (1 : Int32))), (3, .int (x125_1 ||| (if (y64_7 x125_2.toNatClampNeg) = 0 then ((1 : Int32) <<< (x125_2 &&& 31)) else (0 : Int32)))), (0, .ref q0), (2, .int (if (y64_7 x125_2.toNatClampNeg) ≤ (y64_7 x125_0.toNatClampNeg) then x125_0 else x125_2))]) hx hb dX11_busiest_178 hl (k := 3) rfl rfl (by decide) rfl (fun ls hl => ?_)
                refine lv_goto (tgt := 125) hx hb dX11_busiest_181 (by decide) ?_
                exact ih125 (if (y64_7 x125_2.toNatClampNeg) ≤ (y64_7 x125_0.toNatClampNeg) then x125_0 else x125_2) (x125_1 ||| (if (y64_7 x125_2.toNatClampNeg) = 0 then ((1 : Int32) <<< (x125_2 &&& 31)) else (0 : Int32))) (x125_2 + (1 : Int32)) y125  H locs ls (hz125a _ (Option.some.inj h).symm) hS (lv_sub hl [2, 3, 1, 0] rfl) hk125_0
              refine lv_if_ne (tgt := 175) hx hb dX11_busiest_165 (by decide) (fun c16 => ?_) (fun c16 => ?_)
              · refine lv_iconst (v := 0) hx hb dX11_busiest_175 (by decide) ?_
                exact hJ176 _ ls ((if_neg c16)).symm (lv_sub hl [1, 0, 3] rfl)
              · refine lv_iconst (v := 1) hx hb dX11_busiest_168 (by decide) ?_
                refine lv_iload hx hb dX11_busiest_169 (lv_at hl 3 rfl) ?_
                refine lv_ishl hx hb dX11_busiest_171 ?_
                refine lv_goto (tgt := 176) hx hb dX11_busiest_172 (by decide) ?_
                exact hJ176 _ ls ((if_pos c16)).symm (lv_sub hl [1, 0, 3] rfl)
            refine lv_icmp_le (tgt := 155) hx hb dX11_busiest_147 (by decide) (fun c17 => ?_) (fun c17 => ?_)
            · refine lv_iload_n hx hb dX11_busiest_155 rfl (lv_at hl 1 rfl) ?_
              exact hJ156 _ ls ((if_pos c17)).symm (lv_sub hl [0, 2, 3] rfl)
            · refine lv_iload hx hb dX11_busiest_150 (lv_at hl 3 rfl) ?_
              refine lv_goto (tgt := 156) hx hb dX11_busiest_152 (by decide) ?_
              exact hJ156 _ ls ((if_neg c17)).symm (lv_sub hl [0, 2, 3] rfl)
      obtain ⟨y125, e125, h⟩ := bd_some h
      refine hL125 1000 (0 : Int32) (0 : Int32) (0 : Int32) y125  H locs ls e125 hS (lv_sub hl [3, 2, 1, 0] rfl) (fun y125_0 y125_1 ey125 H locs ls hS hl => ?_)
      subst ey125
      have h := un_r h
      refine lv_aload_n hx hb dX11_busiest_184 rfl (lv_at hl 0 rfl) ?_
      refine lv_iconst (v := 0) hx hb dX11_busiest_185 (by decide) ?_
      refine r_put (ws' := [oX11 q0 (.ref q1) (.int v_people) u0_2 u0_3 (.ref q2) (.int (0 : Int32)) (.int (0 : Int32)) rw64_0 (.int y64_0) (.int y64_1) (.int y64_2) (.int y64_3) u0_12 (.ref q3) u0_14 (.int v_ruleSize) (.int y64_4) (.ref q4) u0_18 u0_19 u0_20 (.ref q5) u0_22 (.ref q6) u0_24 u0_25 u0_26 u0_27 u0_28 u0_29 u0_30 u0_31 u0_32 u0_33 u0_34 u0_35 u0_36 u0_37 u0_38 u0_39 u0_40, aI cy q1 37 v_now, aJ cy q2 16 v_row, aB cy q3 40 v_rule, aI cy q4 7 y64_5, aI cy q5 37 y64_6, aI cy q6 7 y64_7]) E frX11_89 hS 0 rfl (Nat.le_of_ble_eq_true rfl) rfl rfl rfl rfl dX11_busiest_186 (fun H locs hS => ?_)
      refine lv_aload_n hx hb dX11_busiest_189 rfl (lv_at hl 0 rfl) ?_
      refine lv_aload_n hx hb dX11_busiest_190 rfl (lv_at hl 0 rfl) ?_
      refine r_get E frX11_45 hS 0 rfl rfl dX11_busiest_191 ?_
      refine lv_iload_n hx hb dX11_busiest_194 rfl (lv_at hl 1 rfl) ?_
      obtain ⟨g18, h⟩ := gi_some h
      refine r_iald E hS 6 rfl g18 dX11_busiest_195 ?_
      refine lv_i2l (v := ((y64_7 y125_0.toNatClampNeg).toInt64)) hx hb dX11_busiest_196 rfl ?_
      obtain ⟨y197, e19, h⟩ := bd_some h
      refine ct_V (ws' := fun _ => [oX11 q0 (.ref q1) (.int v_people) u0_2 u0_3 (.ref q2) (.int y197.1) (.int (0 : Int32)) rw64_0 (.int y64_0) (.int y64_1) (.int y64_2) (.int y64_3) u0_12 (.ref q3) u0_14 (.int v_ruleSize) (.int y64_4) (.ref q4) u0_18 u0_19 u0_20 (.ref q5) u0_22 (.ref q6) u0_24 u0_25 u0_26 u0_27 u0_28 u0_29 u0_30 u0_31 u0_32 u0_33 u0_34 u0_35 u0_36 u0_37 u0_38 u0_39 u0_40, aI cy q1 37 v_now, aJ cy q2 16 y197.2, aB cy q3 40 v_rule, aI cy q4 7 y64_5, aI cy q5 37 y64_6, aI cy q6 7 y64_7]) (st' := []) (rest := []) E hS vlX11_256 (c_X11_tell (l := l) (D := D) (cy := cy) (q0 := q0) (q1 := q2) (u0_0 := .ref q1) (u0_1 := .int v_people) (u0_2 := u0_2) (u0_3 := u0_3) (u0_6 := .int (0 : Int32)) (u0_7 := rw64_0) (u0_8 := .int y64_0) (u0_9 := .int y64_1) (u0_10 := .int y64_2) (u0_11 := .int y64_3) (u0_12 := u0_12) (u0_13 := .ref q3) (u0_14 := u0_14) (u0_15 := .int v_ruleSize) (u0_16 := .int y64_4) (u0_17 := .ref q4) (u0_18 := u0_18) (u0_19 := u0_19) (u0_20 := u0_20) (u0_21 := .ref q5) (u0_22 := u0_22) (u0_23 := .ref q6) (u0_24 := u0_24) (u0_25 := u0_25) (u0_26 := u0_26) (u0_27 := u0_27) (u0_28 := u0_28) (u0_29 := u0_29) (u0_30 := u0_30) (u0_31 := u0_31) (u0_32 := u0_32) (u0_33 := u0_33) (u0_34 := u0_34) (u0_35 := u0_35) (u0_36 := u0_36) (u0_37 := u0_37) (u0_38 := u0_38) (u0_39 := u0_39) (u0_40 := u0_40) (v_rowMany := (0 : Int32)) (v_row := v_row) (p1 := ((y64_7 y125_0.toNatClampNeg).toInt64)) (r := y197) e19) [0, 2] rfl rfl (fun _ => rfl) (fun _ => rfl) rfl rfl rfl rfl (Nat.le_of_ble_eq_true rfl) hl.1 (by rw [hRf]; exact Nat.le_of_ble_eq_true rfl) (by rw [hRl]; exact Nat.le_of_ble_eq_true rfl) ⟨Nat.zero_le _, Nat.zero_le _⟩ dX11_busiest_197 rfl (fun H locs _ hS => ?_)
      refine lv_aload_n hx hb dX11_busiest_200 rfl (lv_at hl 0 rfl) ?_
      refine lv_iload_n hx hb dX11_busiest_201 rfl (lv_at hl 2 rfl) ?_
      refine lv_i2l (v := (y125_1.toInt64)) hx hb dX11_busiest_202 rfl ?_
      obtain ⟨y203, e20, h⟩ := bd_some h
      refine ct_V (ws' := fun _ => [oX11 q0 (.ref q1) (.int v_people) u0_2 u0_3 (.ref q2) (.int y203.1) (.int (0 : Int32)) rw64_0 (.int y64_0) (.int y64_1) (.int y64_2) (.int y64_3) u0_12 (.ref q3) u0_14 (.int v_ruleSize) (.int y64_4) (.ref q4) u0_18 u0_19 u0_20 (.ref q5) u0_22 (.ref q6) u0_24 u0_25 u0_26 u0_27 u0_28 u0_29 u0_30 u0_31 u0_32 u0_33 u0_34 u0_35 u0_36 u0_37 u0_38 u0_39 u0_40, aI cy q1 37 v_now, aJ cy q2 16 y203.2, aB cy q3 40 v_rule, aI cy q4 7 y64_5, aI cy q5 37 y64_6, aI cy q6 7 y64_7]) (st' := []) (rest := []) E hS vlX11_256 (c_X11_tell (l := l) (D := D) (cy := cy) (q0 := q0) (q1 := q2) (u0_0 := .ref q1) (u0_1 := .int v_people) (u0_2 := u0_2) (u0_3 := u0_3) (u0_6 := .int (0 : Int32)) (u0_7 := rw64_0) (u0_8 := .int y64_0) (u0_9 := .int y64_1) (u0_10 := .int y64_2) (u0_11 := .int y64_3) (u0_12 := u0_12) (u0_13 := .ref q3) (u0_14 := u0_14) (u0_15 := .int v_ruleSize) (u0_16 := .int y64_4) (u0_17 := .ref q4) (u0_18 := u0_18) (u0_19 := u0_19) (u0_20 := u0_20) (u0_21 := .ref q5) (u0_22 := u0_22) (u0_23 := .ref q6) (u0_24 := u0_24) (u0_25 := u0_25) (u0_26 := u0_26) (u0_27 := u0_27) (u0_28 := u0_28) (u0_29 := u0_29) (u0_30 := u0_30) (u0_31 := u0_31) (u0_32 := u0_32) (u0_33 := u0_33) (u0_34 := u0_34) (u0_35 := u0_35) (u0_36 := u0_36) (u0_37 := u0_37) (u0_38 := u0_38) (u0_39 := u0_39) (u0_40 := u0_40) (v_rowMany := y197.1) (v_row := y197.2) (p1 := (y125_1.toInt64)) (r := y203) e20) [0, 2] rfl rfl (fun _ => rfl) (fun _ => rfl) rfl rfl rfl rfl (Nat.le_of_ble_eq_true rfl) hl.1 (by rw [hRf]; exact Nat.le_of_ble_eq_true rfl) (by rw [hRl]; exact Nat.le_of_ble_eq_true rfl) ⟨Nat.zero_le _, Nat.zero_le _⟩ dX11_busiest_203 rfl (fun H locs _ hS => ?_)
      refine lv_iload_n hx hb dX11_busiest_206 rfl (lv_at hl 1 rfl) ?_
      obtain rfl := Option.some.inj h
      exact rt_i E hQ (rw64_0) hS dX11_busiest_207
    · have h := it_pos c2 h
      refine lv_bipush (v := -2) hx hb dX11_busiest_24 (by decide) ?_
      obtain rfl := Option.some.inj h
      exact rt_i E hQ (u0_7) hS dX11_busiest_26
  · have h := it_pos c1 h
    refine lv_iconst (v := -1) hx hb dX11_busiest_15 (by decide) ?_
    obtain rfl := Option.some.inj h
    exact rt_i E hQ (u0_7) hS dX11_busiest_16
set_option maxHeartbeats 4000000 in
set_option maxRecDepth 100000 in
theorem c_X11_serves {l : Launch} {D : va_G} {cy : Nat → ClassId} (q0 : Nat) (q1 : Nat) (q2 : Nat) (q3 : Nat) (q4 : Nat) (q5 : Nat) (u0_2 : Value) (u0_3 : Value) (u0_7 : Value) (u0_12 : Value) (u0_14 : Value) (u0_18 : Value) (u0_19 : Value) (u0_20 : Value) (u0_21 : Value) (u0_22 : Value) (u0_23 : Value) (u0_25 : Value) (u0_26 : Value) (u0_27 : Value) (u0_28 : Value) (u0_29 : Value) (u0_30 : Value) (u0_31 : Value) (u0_32 : Value) (u0_33 : Value) (u0_34 : Value) (u0_35 : Value) (u0_36 : Value) (u0_37 : Value) (u0_38 : Value) (u0_39 : Value) (u0_40 : Value) (v_people : Int32) (v_rowMany : Int32) (v_thrown : Int32) (v_length : Int32) (v_top : Int32) (v_at : Int32) (v_wrong : Int32) (v_ruleSize : Int32) (v_isAsked : Int32) (v_now : Nat → Int32) (v_row : Nat → Int64) (v_rule : Nat → Int32) (v_asked : Nat → Int32) (v_served : Nat → Int32) (r : Int32 × Int32 × Int32 × Int32 × Int32 × Int32 × Int32 × Int32 × (Nat → Int64) × (Nat → Int32) × (Nat → Int32)) (h : X11_serves v_people v_length v_top v_at v_wrong v_ruleSize v_isAsked v_now v_row v_rule v_asked v_served = some r) : Ct l yX11_serves cX11_serves 6 (some .int) 109 2603 D cy [.ref q0] [oX11 q0 (.ref q1) (.int v_people) u0_2 u0_3 (.ref q2) (.int v_rowMany) (.int v_thrown) u0_7 (.int v_length) (.int v_top) (.int v_at) (.int v_wrong) u0_12 (.ref q3) u0_14 (.int v_ruleSize) (.int v_isAsked) (.ref q4) u0_18 u0_19 u0_20 u0_21 u0_22 u0_23 (.ref q5) u0_25 u0_26 u0_27 u0_28 u0_29 u0_30 u0_31 u0_32 u0_33 u0_34 u0_35 u0_36 u0_37 u0_38 u0_39 u0_40, aI cy q1 37 v_now, aJ cy q2 16 v_row, aB cy q3 40 v_rule, aI cy q4 7 v_asked, aI cy q5 1024 v_served] (fun rv => [oX11 q0 (.ref q1) (.int v_people) u0_2 u0_3 (.ref q2) (.int r.2.1) (.int r.2.2.1) rv (.int r.2.2.2.1) (.int r.2.2.2.2.1) (.int r.2.2.2.2.2.1) (.int r.2.2.2.2.2.2.1) u0_12 (.ref q3) u0_14 (.int v_ruleSize) (.int r.2.2.2.2.2.2.2.1) (.ref q4) u0_18 u0_19 u0_20 u0_21 u0_22 u0_23 (.ref q5) u0_25 u0_26 u0_27 u0_28 u0_29 u0_30 u0_31 u0_32 u0_33 u0_34 u0_35 u0_36 u0_37 u0_38 u0_39 u0_40, aI cy q1 37 v_now, aJ cy q2 16 r.2.2.2.2.2.2.2.2.1, aB cy q3 40 v_rule, aI cy q4 7 r.2.2.2.2.2.2.2.2.2.1, aI cy q5 1024 r.2.2.2.2.2.2.2.2.2.2]) (some (.int r.1)) := by
  refine Ct.mk kX11_serves (by decide +kernel) (Nat.le_of_ble_eq_true rfl) ?_
  intro p e s m below meth c A ls args R Q hRf hRl hQ E H locs hS hl
  have hx := E.x
  have hb := E.b
  have hl : lv_has ls 6 [(0, .ref q0)] := hl
  unfold X11_serves at h
  refine lv_aload_n hx hb dX11_serves_0 rfl (lv_at hl 0 rfl) ?_
  refine lv_iconst (v := 0) hx hb dX11_serves_1 (by decide) ?_
  refine r_put (ws' := [oX11 q0 (.ref q1) (.int v_people) u0_2 u0_3 (.ref q2) (.int v_rowMany) (.int (0 : Int32)) u0_7 (.int v_length) (.int v_top) (.int v_at) (.int v_wrong) u0_12 (.ref q3) u0_14 (.int v_ruleSize) (.int v_isAsked) (.ref q4) u0_18 u0_19 u0_20 u0_21 u0_22 u0_23 (.ref q5) u0_25 u0_26 u0_27 u0_28 u0_29 u0_30 u0_31 u0_32 u0_33 u0_34 u0_35 u0_36 u0_37 u0_38 u0_39 u0_40, aI cy q1 37 v_now, aJ cy q2 16 v_row, aB cy q3 40 v_rule, aI cy q4 7 v_asked, aI cy q5 1024 v_served]) E frX11_85 hS 0 rfl (Nat.le_of_ble_eq_true rfl) rfl rfl rfl rfl dX11_serves_2 (fun H locs hS => ?_)
  refine lv_aload_n hx hb dX11_serves_5 rfl (lv_at hl 0 rfl) ?_
  refine lv_aload_n hx hb dX11_serves_6 rfl (lv_at hl 0 rfl) ?_
  refine r_get E frX11_9 hS 0 rfl rfl dX11_serves_7 ?_
  obtain ⟨y10, e1, h⟩ := bd_some h
  refine ct_V (ws' := fun rc2 => [oX11 q0 (.ref q1) (.int v_people) u0_2 u0_3 (.ref q2) (.int v_rowMany) (.int (0 : Int32)) rc2 (.int y10.2.1) (.int y10.2.2.1) (.int y10.2.2.2.1) (.int y10.2.2.2.2.1) u0_12 (.ref q3) u0_14 (.int v_ruleSize) (.int y10.2.2.2.2.2.1) (.ref q4) u0_18 u0_19 u0_20 u0_21 u0_22 u0_23 (.ref q5) u0_25 u0_26 u0_27 u0_28 u0_29 u0_30 u0_31 u0_32 u0_33 u0_34 u0_35 u0_36 u0_37 u0_38 u0_39 u0_40, aI cy q1 37 v_now, aJ cy q2 16 v_row, aB cy q3 40 v_rule, aI cy q4 7 y10.2.2.2.2.2.2, aI cy q5 1024 v_served]) (st' := [.int y10.1]) (rest := []) E hS vlX11_239 (c_X11_awake (l := l) (D := D) (cy := cy) (q0 := q0) (q1 := q3) (q2 := q4) (q3 := q1) (u0_0 := .ref q1) (u0_2 := u0_2) (u0_3 := u0_3) (u0_4 := .ref q2) (u0_5 := .int v_rowMany) (u0_6 := .int (0 : Int32)) (u0_7 := u0_7) (u0_12 := u0_12) (u0_14 := u0_14) (u0_18 := u0_18) (u0_19 := u0_19) (u0_20 := u0_20) (u0_21 := u0_21) (u0_22 := u0_22) (u0_23 := u0_23) (u0_24 := .ref q5) (u0_25 := u0_25) (u0_26 := u0_26) (u0_27 := u0_27) (u0_28 := u0_28) (u0_29 := u0_29) (u0_30 := u0_30) (u0_31 := u0_31) (u0_32 := u0_32) (u0_33 := u0_33) (u0_34 := u0_34) (u0_35 := u0_35) (u0_36 := u0_36) (u0_37 := u0_37) (u0_38 := u0_38) (u0_39 := u0_39) (u0_40 := u0_40) (v_people := v_people) (v_length := v_length) (v_top := v_top) (v_at := v_at) (v_wrong := v_wrong) (v_ruleSize := v_ruleSize) (v_isAsked := v_isAsked) (v_rule := v_rule) (v_asked := v_asked) (nw1_ := 37) (w1_ := v_now) (r := y10) e1) [0, 3, 4, 1] rfl rfl (fun _ => rfl) (fun _ => rfl) rfl rfl rfl rfl (Nat.le_of_ble_eq_true rfl) hl.1 (by rw [hRf]; exact Nat.le_of_ble_eq_true rfl) (by rw [hRl]; exact Nat.le_of_ble_eq_true rfl) ⟨Nat.zero_le _, Nat.zero_le _⟩ dX11_serves_10 rfl (fun H locs rc2 hS => ?_)
  refine lv_istore_n (lv' := [(1, .int y10.1), (0, .ref q0)]) hx hb dX11_serves_13 rfl hl (by decide) rfl (fun ls hl => ?_)
  refine lv_iconst (v := 0) hx hb dX11_serves_14 (by decide) ?_
  refine lv_istore_n (lv' := [(2, .int (0 : Int32)), (1, .int y10.1), (0, .ref q0)]) hx hb dX11_serves_15 rfl hl (by decide) rfl (fun ls hl => ?_)
  have hL16 : ∀ (n : Nat) (x16_0 : Int32) (x16_1 : Nat → Int32) (y16 : (Nat → Int32)) (H : Heap) (locs : List Loc) (ls : Array Slot), lp (fun x16 => X11_serves_s16 v_people x16.1 x16.2) n (x16_0, x16_1) = some y16 → Sv D A s.heap [oX11 q0 (.ref q1) (.int v_people) u0_2 u0_3 (.ref q2) (.int v_rowMany) (.int (0 : Int32)) rc2 (.int y10.2.1) (.int y10.2.2.1) (.int y10.2.2.2.1) (.int y10.2.2.2.2.1) u0_12 (.ref q3) u0_14 (.int v_ruleSize) (.int y10.2.2.2.2.2.1) (.ref q4) u0_18 u0_19 u0_20 u0_21 u0_22 u0_23 (.ref q5) u0_25 u0_26 u0_27 u0_28 u0_29 u0_30 u0_31 u0_32 u0_33 u0_34 u0_35 u0_36 u0_37 u0_38 u0_39 u0_40, aI cy q1 37 v_now, aJ cy q2 16 v_row, aB cy q3 40 v_rule, aI cy q4 7 y10.2.2.2.2.2.2, aI cy q5 1024 x16_1] H locs → lv_has ls 6 [(0, .ref q0), (1, .int y10.1), (2, .int x16_0)] → ( ∀ (y16_0 : Nat → Int32), y16_0 = y16 → ∀ (H : Heap) (locs : List Loc) (ls : Array Slot), Sv D A s.heap [oX11 q0 (.ref q1) (.int v_people) u0_2 u0_3 (.ref q2) (.int v_rowMany) (.int (0 : Int32)) rc2 (.int y10.2.1) (.int y10.2.2.1) (.int y10.2.2.2.1) (.int y10.2.2.2.2.1) u0_12 (.ref q3) u0_14 (.int v_ruleSize) (.int y10.2.2.2.2.2.1) (.ref q4) u0_18 u0_19 u0_20 u0_21 u0_22 u0_23 (.ref q5) u0_25 u0_26 u0_27 u0_28 u0_29 u0_30 u0_31 u0_32 u0_33 u0_34 u0_35 u0_36 u0_37 u0_38 u0_39 u0_40, aI cy q1 37 v_now, aJ cy q2 16 v_row, aB cy q3 40 v_rule, aI cy q4 7 y10.2.2.2.2.2.2, aI cy q5 1024 y16_0] H locs → lv_has ls 6 [(0, .ref q0), (1, .int y10.1)] → W p l e R s m args below meth c H locs 0 0 Q (F0 m 45 ls [])) → W p l e R s m args below meth c H locs 0 0 Q (F0 m 16 ls []) := by
    intro n
    induction n with
    | zero =>
      intro x16_0 x16_1 y16 H locs ls h
      exact lp_zero h
    | succ n ih16 =>
      intro x16_0 x16_1 y16 H locs ls h hS hl hk16_0
      obtain ⟨z16, h, hz16a, hz16b⟩ := lp_succ h
      have h : X11_serves_s16 v_people x16_0 x16_1 = some z16 := h
      unfold X11_serves_s16 at h
      refine lv_iload_n hx hb dX11_serves_16 rfl (lv_at hl 2 rfl) ?_
      refine lv_aload_n hx hb dX11_serves_17 rfl (lv_at hl 0 rfl) ?_
      refine ct_V (ws' := fun _ => [oX11 q0 (.ref q1) (.int v_people) u0_2 u0_3 (.ref q2) (.int v_rowMany) (.int (0 : Int32)) rc2 (.int y10.2.1) (.int y10.2.2.1) (.int y10.2.2.2.1) (.int y10.2.2.2.2.1) u0_12 (.ref q3) u0_14 (.int v_ruleSize) (.int y10.2.2.2.2.2.1) (.ref q4) u0_18 u0_19 u0_20 u0_21 u0_22 u0_23 (.ref q5) u0_25 u0_26 u0_27 u0_28 u0_29 u0_30 u0_31 u0_32 u0_33 u0_34 u0_35 u0_36 u0_37 u0_38 u0_39 u0_40, aI cy q1 37 v_now, aJ cy q2 16 v_row, aB cy q3 40 v_rule, aI cy q4 7 y10.2.2.2.2.2.2, aI cy q5 1024 x16_1]) (st' := [.int (X11_everybody v_people), .int x16_0]) (rest := [.int x16_0]) E hS vlX11_285 (c_X11_everybody (l := l) (D := D) (cy := cy) (q0 := q0) (u0_0 := .ref q1) (u0_2 := u0_2) (u0_3 := u0_3) (u0_4 := .ref q2) (u0_5 := .int v_rowMany) (u0_6 := .int (0 : Int32)) (u0_7 := rc2) (u0_8 := .int y10.2.1) (u0_9 := .int y10.2.2.1) (u0_10 := .int y10.2.2.2.1) (u0_11 := .int y10.2.2.2.2.1) (u0_12 := u0_12) (u0_13 := .ref q3) (u0_14 := u0_14) (u0_15 := .int v_ruleSize) (u0_16 := .int y10.2.2.2.2.2.1) (u0_17 := .ref q4) (u0_18 := u0_18) (u0_19 := u0_19) (u0_20 := u0_20) (u0_21 := u0_21) (u0_22 := u0_22) (u0_23 := u0_23) (u0_24 := .ref q5) (u0_25 := u0_25) (u0_26 := u0_26) (u0_27 := u0_27) (u0_28 := u0_28) (u0_29 := u0_29) (u0_30 := u0_30) (u0_31 := u0_31) (u0_32 := u0_32) (u0_33 := u0_33) (u0_34 := u0_34) (u0_35 := u0_35) (u0_36 := u0_36) (u0_37 := u0_37) (u0_38 := u0_38) (u0_39 := u0_39) (u0_40 := u0_40) (v_people := v_people) (r := (X11_everybody v_people)) rfl) [0] rfl rfl (fun _ => rfl) (fun _ => rfl) rfl rfl rfl rfl (Nat.le_of_ble_eq_true rfl) hl.1 (by rw [hRf]; exact Nat.le_of_ble_eq_true rfl) (by rw [hRl]; exact Nat.le_of_ble_eq_true rfl) ⟨Nat.zero_le _, Nat.zero_le _⟩ dX11_serves_18 rfl (fun H locs _ hS => ?_)
      refine lv_icmp_gt (tgt := 45) hx hb dX11_serves_21 (by decide) (fun c3 => ?_) (fun c3 => ?_)
      · have h := it_pos c3 h
        exact hk16_0 x16_1 (hz16b _ (Option.some.inj h).symm)  H locs ls hS (lv_sub hl [0, 1] rfl)
      · have h := it_neg c3 h
        refine lv_aload_n hx hb dX11_serves_24 rfl (lv_at hl 0 rfl) ?_
        refine r_get E frX11_48 hS 0 rfl rfl dX11_serves_25 ?_
        refine lv_aload_n hx hb dX11_serves_28 rfl (lv_at hl 0 rfl) ?_
        refine r_get E frX11_92 hS 0 rfl rfl dX11_serves_29 ?_
        refine lv_bipush (v := 7) hx hb dX11_serves_32 (by decide) ?_
        refine lv_ishl hx hb dX11_serves_34 ?_
        refine lv_iload_n hx hb dX11_serves_35 rfl (lv_at hl 2 rfl) ?_
        refine lv_ior hx hb dX11_serves_36 ?_
        refine lv_iconst (v := 0) hx hb dX11_serves_37 (by decide) ?_
        obtain ⟨g4, h⟩ := gi_some h
        refine r_iast (ws' := [oX11 q0 (.ref q1) (.int v_people) u0_2 u0_3 (.ref q2) (.int v_rowMany) (.int (0 : Int32)) rc2 (.int y10.2.1) (.int y10.2.2.1) (.int y10.2.2.2.1) (.int y10.2.2.2.2.1) u0_12 (.ref q3) u0_14 (.int v_ruleSize) (.int y10.2.2.2.2.2.1) (.ref q4) u0_18 u0_19 u0_20 u0_21 u0_22 u0_23 (.ref q5) u0_25 u0_26 u0_27 u0_28 u0_29 u0_30 u0_31 u0_32 u0_33 u0_34 u0_35 u0_36 u0_37 u0_38 u0_39 u0_40, aI cy q1 37 v_now, aJ cy q2 16 v_row, aB cy q3 40 v_rule, aI cy q4 7 y10.2.2.2.2.2.2, aI cy q5 1024 (upd x16_1 ((v_people <<< ((7 : Int32) &&& 31)) ||| x16_0).toNatClampNeg (0 : Int32))]) E hS 5 rfl g4 rfl dX11_serves_38 (fun H locs hS => ?_)
        refine lv_iinc (v := (x16_0 + (1 : Int32))) (lv' := [(2, .int (x16_0 + (1 : Int32))), (0, .ref q0), (1, .int y10.1)]) hx hb dX11_serves_39 hl (k := 2) rfl rfl (by decide) rfl (fun ls hl => ?_)
        refine lv_goto (tgt := 16) hx hb dX11_serves_42 (by decide) ?_
        exact ih16 (x16_0 + (1 : Int32)) (upd x16_1 ((v_people <<< ((7 : Int32) &&& 31)) ||| x16_0).toNatClampNeg (0 : Int32)) y16  H locs ls (hz16a _ (Option.some.inj h).symm) hS (lv_sub hl [1, 2, 0] rfl) hk16_0
  obtain ⟨y16, e16, h⟩ := bd_some h
  refine hL16 1000 (0 : Int32) v_served y16  H locs ls e16 hS (lv_sub hl [2, 1, 0] rfl) (fun y16_0 ey16 H locs ls hS hl => ?_)
  subst ey16
  refine lv_aload_n hx hb dX11_serves_45 rfl (lv_at hl 0 rfl) ?_
  refine r_get E frX11_92 hS 0 rfl rfl dX11_serves_46 ?_
  refine lv_iconst (v := 1) hx hb dX11_serves_49 (by decide) ?_
  refine lv_isub hx hb dX11_serves_50 ?_
  refine lv_istore_n (lv' := [(2, .int (v_people - (1 : Int32))), (0, .ref q0), (1, .int y10.1)]) hx hb dX11_serves_51 rfl hl (by decide) rfl (fun ls hl => ?_)
  have hL52 : ∀ (n : Nat) (x52_0 : Int32) (x52_1 : Nat → Int32) (y52 : (Nat → Int32)) (H : Heap) (locs : List Loc) (ls : Array Slot), lp (fun x52 => X11_serves_s52 v_people v_now y10 x52.1 x52.2) n (x52_0, x52_1) = some y52 → Sv D A s.heap [oX11 q0 (.ref q1) (.int v_people) u0_2 u0_3 (.ref q2) (.int v_rowMany) (.int (0 : Int32)) rc2 (.int y10.2.1) (.int y10.2.2.1) (.int y10.2.2.2.1) (.int y10.2.2.2.2.1) u0_12 (.ref q3) u0_14 (.int v_ruleSize) (.int y10.2.2.2.2.2.1) (.ref q4) u0_18 u0_19 u0_20 u0_21 u0_22 u0_23 (.ref q5) u0_25 u0_26 u0_27 u0_28 u0_29 u0_30 u0_31 u0_32 u0_33 u0_34 u0_35 u0_36 u0_37 u0_38 u0_39 u0_40, aI cy q1 37 v_now, aJ cy q2 16 v_row, aB cy q3 40 v_rule, aI cy q4 7 y10.2.2.2.2.2.2, aI cy q5 1024 x52_1] H locs → lv_has ls 6 [(0, .ref q0), (1, .int y10.1), (2, .int x52_0)] → ( ∀ (y52_0 : Nat → Int32), y52_0 = y52 → ∀ (H : Heap) (locs : List Loc) (ls : Array Slot), Sv D A s.heap [oX11 q0 (.ref q1) (.int v_people) u0_2 u0_3 (.ref q2) (.int v_rowMany) (.int (0 : Int32)) rc2 (.int y10.2.1) (.int y10.2.2.1) (.int y10.2.2.2.1) (.int y10.2.2.2.2.1) u0_12 (.ref q3) u0_14 (.int v_ruleSize) (.int y10.2.2.2.2.2.1) (.ref q4) u0_18 u0_19 u0_20 u0_21 u0_22 u0_23 (.ref q5) u0_25 u0_26 u0_27 u0_28 u0_29 u0_30 u0_31 u0_32 u0_33 u0_34 u0_35 u0_36 u0_37 u0_38 u0_39 u0_40, aI cy q1 37 v_now, aJ cy q2 16 v_row, aB cy q3 40 v_rule, aI cy q4 7 y10.2.2.2.2.2.2, aI cy q5 1024 y52_0] H locs → lv_has ls 6 [(0, .ref q0), (1, .int y10.1)] → W p l e R s m args below meth c H locs 0 0 Q (F0 m 174 ls [])) → W p l e R s m args below meth c H locs 0 0 Q (F0 m 52 ls []) := by
    intro n
    induction n with
    | zero =>
      intro x52_0 x52_1 y52 H locs ls h
      exact lp_zero h
    | succ n ih52 =>
      intro x52_0 x52_1 y52 H locs ls h hS hl hk52_0
      obtain ⟨z52, h, hz52a, hz52b⟩ := lp_succ h
      have h : X11_serves_s52 v_people v_now y10 x52_0 x52_1 = some z52 := h
      unfold X11_serves_s52 at h
      refine lv_iload_n hx hb dX11_serves_52 rfl (lv_at hl 2 rfl) ?_
      refine lv_if_lt (tgt := 174) hx hb dX11_serves_53 (by decide) (fun c5 => ?_) (fun c5 => ?_)
      · have h := it_pos c5 h
        exact hk52_0 x52_1 (hz52b _ (Option.some.inj h).symm)  H locs ls hS (lv_sub hl [0, 1] rfl)
      · have h := it_neg c5 h
        refine lv_iconst (v := 0) hx hb dX11_serves_56 (by decide) ?_
        refine lv_istore_n (lv' := [(3, .int (0 : Int32)), (0, .ref q0), (1, .int y10.1), (2, .int x52_0)]) hx hb dX11_serves_57 rfl hl (by decide) rfl (fun ls hl => ?_)
        have hL58 : ∀ (n : Nat) (x58_0 : Int32) (x58_1 : Nat → Int32) (y58 : (Nat → Int32)) (H : Heap) (locs : List Loc) (ls : Array Slot), lp (fun x58 => X11_serves_s58 v_people v_now y10 x52_0 x58.1 x58.2) n (x58_0, x58_1) = some y58 → Sv D A s.heap [oX11 q0 (.ref q1) (.int v_people) u0_2 u0_3 (.ref q2) (.int v_rowMany) (.int (0 : Int32)) rc2 (.int y10.2.1) (.int y10.2.2.1) (.int y10.2.2.2.1) (.int y10.2.2.2.2.1) u0_12 (.ref q3) u0_14 (.int v_ruleSize) (.int y10.2.2.2.2.2.1) (.ref q4) u0_18 u0_19 u0_20 u0_21 u0_22 u0_23 (.ref q5) u0_25 u0_26 u0_27 u0_28 u0_29 u0_30 u0_31 u0_32 u0_33 u0_34 u0_35 u0_36 u0_37 u0_38 u0_39 u0_40, aI cy q1 37 v_now, aJ cy q2 16 v_row, aB cy q3 40 v_rule, aI cy q4 7 y10.2.2.2.2.2.2, aI cy q5 1024 x58_1] H locs → lv_has ls 6 [(0, .ref q0), (1, .int y10.1), (2, .int x52_0), (3, .int x58_0)] → ( ∀ (y58_0 : Nat → Int32), y58_0 = y58 → ∀ (H : Heap) (locs : List Loc) (ls : Array Slot), Sv D A s.heap [oX11 q0 (.ref q1) (.int v_people) u0_2 u0_3 (.ref q2) (.int v_rowMany) (.int (0 : Int32)) rc2 (.int y10.2.1) (.int y10.2.2.1) (.int y10.2.2.2.1) (.int y10.2.2.2.2.1) u0_12 (.ref q3) u0_14 (.int v_ruleSize) (.int y10.2.2.2.2.2.1) (.ref q4) u0_18 u0_19 u0_20 u0_21 u0_22 u0_23 (.ref q5) u0_25 u0_26 u0_27 u0_28 u0_29 u0_30 u0_31 u0_32 u0_33 u0_34 u0_35 u0_36 u0_37 u0_38 u0_39 u0_40, aI cy q1 37 v_now, aJ cy q2 16 v_row, aB cy q3 40 v_rule, aI cy q4 7 y10.2.2.2.2.2.2, aI cy q5 1024 y58_0] H locs → lv_has ls 6 [(0, .ref q0), (1, .int y10.1), (2, .int x52_0)] → W p l e R s m args below meth c H locs 0 0 Q (F0 m 168 ls [])) → W p l e R s m args below meth c H locs 0 0 Q (F0 m 58 ls []) := by
          intro n
          induction n with
          | zero =>
            intro x58_0 x58_1 y58 H locs ls h
            exact lp_zero h
          | succ n ih58 =>
            intro x58_0 x58_1 y58 H locs ls h hS hl hk58_0
            obtain ⟨z58, h, hz58a, hz58b⟩ := lp_succ h
            have h : X11_serves_s58 v_people v_now y10 x52_0 x58_0 x58_1 = some z58 := h
            unfold X11_serves_s58 at h
            refine lv_iload_n hx hb dX11_serves_58 rfl (lv_at hl 3 rfl) ?_
            refine lv_aload_n hx hb dX11_serves_59 rfl (lv_at hl 0 rfl) ?_
            refine ct_V (ws' := fun _ => [oX11 q0 (.ref q1) (.int v_people) u0_2 u0_3 (.ref q2) (.int v_rowMany) (.int (0 : Int32)) rc2 (.int y10.2.1) (.int y10.2.2.1) (.int y10.2.2.2.1) (.int y10.2.2.2.2.1) u0_12 (.ref q3) u0_14 (.int v_ruleSize) (.int y10.2.2.2.2.2.1) (.ref q4) u0_18 u0_19 u0_20 u0_21 u0_22 u0_23 (.ref q5) u0_25 u0_26 u0_27 u0_28 u0_29 u0_30 u0_31 u0_32 u0_33 u0_34 u0_35 u0_36 u0_37 u0_38 u0_39 u0_40, aI cy q1 37 v_now, aJ cy q2 16 v_row, aB cy q3 40 v_rule, aI cy q4 7 y10.2.2.2.2.2.2, aI cy q5 1024 x58_1]) (st' := [.int (X11_everybody v_people), .int x58_0]) (rest := [.int x58_0]) E hS vlX11_285 (c_X11_everybody (l := l) (D := D) (cy := cy) (q0 := q0) (u0_0 := .ref q1) (u0_2 := u0_2) (u0_3 := u0_3) (u0_4 := .ref q2) (u0_5 := .int v_rowMany) (u0_6 := .int (0 : Int32)) (u0_7 := rc2) (u0_8 := .int y10.2.1) (u0_9 := .int y10.2.2.1) (u0_10 := .int y10.2.2.2.1) (u0_11 := .int y10.2.2.2.2.1) (u0_12 := u0_12) (u0_13 := .ref q3) (u0_14 := u0_14) (u0_15 := .int v_ruleSize) (u0_16 := .int y10.2.2.2.2.2.1) (u0_17 := .ref q4) (u0_18 := u0_18) (u0_19 := u0_19) (u0_20 := u0_20) (u0_21 := u0_21) (u0_22 := u0_22) (u0_23 := u0_23) (u0_24 := .ref q5) (u0_25 := u0_25) (u0_26 := u0_26) (u0_27 := u0_27) (u0_28 := u0_28) (u0_29 := u0_29) (u0_30 := u0_30) (u0_31 := u0_31) (u0_32 := u0_32) (u0_33 := u0_33) (u0_34 := u0_34) (u0_35 := u0_35) (u0_36 := u0_36) (u0_37 := u0_37) (u0_38 := u0_38) (u0_39 := u0_39) (u0_40 := u0_40) (v_people := v_people) (r := (X11_everybody v_people)) rfl) [0] rfl rfl (fun _ => rfl) (fun _ => rfl) rfl rfl rfl rfl (Nat.le_of_ble_eq_true rfl) hl.1 (by rw [hRf]; exact Nat.le_of_ble_eq_true rfl) (by rw [hRl]; exact Nat.le_of_ble_eq_true rfl) ⟨Nat.zero_le _, Nat.zero_le _⟩ dX11_serves_60 rfl (fun H locs _ hS => ?_)
            refine lv_icmp_gt (tgt := 168) hx hb dX11_serves_63 (by decide) (fun c6 => ?_) (fun c6 => ?_)
            · have h := it_pos c6 h
              exact hk58_0 x58_1 (hz58b _ (Option.some.inj h).symm)  H locs ls hS (lv_sub hl [0, 1, 2] rfl)
            · have h := it_neg c6 h
              refine lv_aload_n hx hb dX11_serves_66 rfl (lv_at hl 0 rfl) ?_
              refine r_get E frX11_48 hS 0 rfl rfl dX11_serves_67 ?_
              refine lv_iload_n hx hb dX11_serves_70 rfl (lv_at hl 2 rfl) ?_
              refine lv_iconst (v := 1) hx hb dX11_serves_71 (by decide) ?_
              refine lv_iadd hx hb dX11_serves_72 ?_
              refine lv_bipush (v := 7) hx hb dX11_serves_73 (by decide) ?_
              refine lv_ishl hx hb dX11_serves_75 ?_
              refine lv_iload_n hx hb dX11_serves_76 rfl (lv_at hl 3 rfl) ?_
              refine lv_ior hx hb dX11_serves_77 ?_
              obtain ⟨g7, h⟩ := gi_some h
              refine r_iald E hS 5 rfl g7 dX11_serves_78 ?_
              refine lv_istore (lv' := [(4, .int (x58_1 (((x52_0 + (1 : Int32)) <<< ((7 : Int32) &&& 31)) ||| x58_0).toNatClampNeg)), (0, .ref q0), (1, .int y10.1), (2, .int x52_0), (3, .int x58_0)]) hx hb dX11_serves_79 hl (by decide) rfl (fun ls hl => ?_)
              refine lv_iconst (v := 0) hx hb dX11_serves_81 (by decide) ?_
              refine lv_istore (lv' := [(5, .int (0 : Int32)), (4, .int (x58_1 (((x52_0 + (1 : Int32)) <<< ((7 : Int32) &&& 31)) ||| x58_0).toNatClampNeg)), (0, .ref q0), (1, .int y10.1), (2, .int x52_0), (3, .int x58_0)]) hx hb dX11_serves_82 hl (by decide) rfl (fun ls hl => ?_)
              have hL84 : ∀ (n : Nat) (x84_0 : Int32) (x84_1 : Int32) (y84 : Int32) (H : Heap) (locs : List Loc) (ls : Array Slot), lp (fun x84 => X11_serves_s84 v_people v_now y10 x52_0 x58_0 x58_1 x84.1 x84.2) n (x84_0, x84_1) = some y84 → Sv D A s.heap [oX11 q0 (.ref q1) (.int v_people) u0_2 u0_3 (.ref q2) (.int v_rowMany) (.int (0 : Int32)) rc2 (.int y10.2.1) (.int y10.2.2.1) (.int y10.2.2.2.1) (.int y10.2.2.2.2.1) u0_12 (.ref q3) u0_14 (.int v_ruleSize) (.int y10.2.2.2.2.2.1) (.ref q4) u0_18 u0_19 u0_20 u0_21 u0_22 u0_23 (.ref q5) u0_25 u0_26 u0_27 u0_28 u0_29 u0_30 u0_31 u0_32 u0_33 u0_34 u0_35 u0_36 u0_37 u0_38 u0_39 u0_40, aI cy q1 37 v_now, aJ cy q2 16 v_row, aB cy q3 40 v_rule, aI cy q4 7 y10.2.2.2.2.2.2, aI cy q5 1024 x58_1] H locs → lv_has ls 6 [(0, .ref q0), (1, .int y10.1), (2, .int x52_0), (3, .int x58_0), (4, .int x84_0), (5, .int x84_1)] → ( ∀ (y84_0 : Int32), y84_0 = y84 → ∀ (H : Heap) (locs : List Loc) (ls : Array Slot), Sv D A s.heap [oX11 q0 (.ref q1) (.int v_people) u0_2 u0_3 (.ref q2) (.int v_rowMany) (.int (0 : Int32)) rc2 (.int y10.2.1) (.int y10.2.2.1) (.int y10.2.2.2.1) (.int y10.2.2.2.2.1) u0_12 (.ref q3) u0_14 (.int v_ruleSize) (.int y10.2.2.2.2.2.1) (.ref q4) u0_18 u0_19 u0_20 u0_21 u0_22 u0_23 (.ref q5) u0_25 u0_26 u0_27 u0_28 u0_29 u0_30 u0_31 u0_32 u0_33 u0_34 u0_35 u0_36 u0_37 u0_38 u0_39 u0_40, aI cy q1 37 v_now, aJ cy q2 16 v_row, aB cy q3 40 v_rule, aI cy q4 7 y10.2.2.2.2.2.2, aI cy q5 1024 x58_1] H locs → lv_has ls 6 [(0, .ref q0), (1, .int y10.1), (2, .int x52_0), (3, .int x58_0), (4, .int y84_0)] → W p l e R s m args below meth c H locs 0 0 Q (F0 m 149 ls [])) → W p l e R s m args below meth c H locs 0 0 Q (F0 m 84 ls []) := by
                intro n
                induction n with
                | zero =>
                  intro x84_0 x84_1 y84 H locs ls h
                  exact lp_zero h
                | succ n ih84 =>
                  intro x84_0 x84_1 y84 H locs ls h hS hl hk84_0
                  obtain ⟨z84, h, hz84a, hz84b⟩ := lp_succ h
                  have h : X11_serves_s84 v_people v_now y10 x52_0 x58_0 x58_1 x84_0 x84_1 = some z84 := h
                  unfold X11_serves_s84 at h
                  refine lv_iload hx hb dX11_serves_84 (lv_at hl 5 rfl) ?_
                  refine lv_aload_n hx hb dX11_serves_86 rfl (lv_at hl 0 rfl) ?_
                  refine r_get E frX11_92 hS 0 rfl rfl dX11_serves_87 ?_
                  refine lv_icmp_ge (tgt := 149) hx hb dX11_serves_90 (by decide) (fun c8 => ?_) (fun c8 => ?_)
                  · have h := it_pos c8 h
                    exact hk84_0 x84_0 (hz84b _ (Option.some.inj h).symm)  H locs ls hS (lv_sub hl [0, 1, 2, 3, 4] rfl)
                  · have h := it_neg c8 h
                    refine lv_aload_n hx hb dX11_serves_93 rfl (lv_at hl 0 rfl) ?_
                    refine r_get E frX11_9 hS 0 rfl rfl dX11_serves_94 ?_
                    refine lv_bipush (v := 28) hx hb dX11_serves_97 (by decide) ?_
                    refine lv_iload_n hx hb dX11_serves_99 rfl (lv_at hl 2 rfl) ?_
                    refine lv_iadd hx hb dX11_serves_100 ?_
                    obtain ⟨g9, h⟩ := gi_some h
                    refine r_iald E hS 1 rfl g9 dX11_serves_101 ?_
                    refine lv_iload_n hx hb dX11_serves_102 rfl (lv_at hl 1 rfl) ?_
                    refine lv_iand hx hb dX11_serves_103 ?_
                    refine lv_iload_n hx hb dX11_serves_104 rfl (lv_at hl 3 rfl) ?_
                    refine lv_iconst (v := -1) hx hb dX11_serves_105 (by decide) ?_
                    refine lv_ixor hx hb dX11_serves_106 ?_
                    refine lv_iand hx hb dX11_serves_107 ?_
                    refine lv_iload hx hb dX11_serves_108 (lv_at hl 5 rfl) ?_
                    refine ct_S (ws' := fun _ => [oX11 q0 (.ref q1) (.int v_people) u0_2 u0_3 (.ref q2) (.int v_rowMany) (.int (0 : Int32)) rc2 (.int y10.2.1) (.int y10.2.2.1) (.int y10.2.2.2.1) (.int y10.2.2.2.2.1) u0_12 (.ref q3) u0_14 (.int v_ruleSize) (.int y10.2.2.2.2.2.1) (.ref q4) u0_18 u0_19 u0_20 u0_21 u0_22 u0_23 (.ref q5) u0_25 u0_26 u0_27 u0_28 u0_29 u0_30 u0_31 u0_32 u0_33 u0_34 u0_35 u0_36 u0_37 u0_38 u0_39 u0_40, aI cy q1 37 v_now, aJ cy q2 16 v_row, aB cy q3 40 v_rule, aI cy q4 7 y10.2.2.2.2.2.2, aI cy q5 1024 x58_1]) (st' := [.int (X11_has (((v_now ((28 : Int32) + x52_0).toNatClampNeg) &&& y10.1) &&& (x58_0 ^^^ (-1 : Int32))) x84_1)]) (rest := []) E hS slX11_196 (c_X11_has (l := l) (D := D) (cy := cy) (p0 := (((v_now ((28 : Int32) + x52_0).toNatClampNeg) &&& y10.1) &&& (x58_0 ^^^ (-1 : Int32)))) (p1 := x84_1) (r := (X11_has (((v_now ((28 : Int32) + x52_0).toNatClampNeg) &&& y10.1) &&& (x58_0 ^^^ (-1 : Int32))) x84_1)) rfl) [] rfl rfl (fun _ => rfl) (fun _ => rfl) rfl rfl (Nat.le_of_ble_eq_true rfl) hl.1 (by rw [hRf]; exact Nat.le_of_ble_eq_true rfl) (by rw [hRl]; exact Nat.le_of_ble_eq_true rfl) ⟨Nat.zero_le _, Nat.zero_le _⟩ dX11_serves_110 rfl (fun H locs _ hS => ?_)
                    refine lv_if_eq (tgt := 143) hx hb dX11_serves_113 (by decide) (fun c10 => ?_) (fun c10 => ?_)
                    · have h := it_pos c10 h
                      refine lv_iinc (v := (x84_1 + (1 : Int32))) (lv' := [(5, .int (x84_1 + (1 : Int32))), (0, .ref q0), (1, .int y10.1), (2, .int x52_0), (3, .int x58_0), (4, .int x84_0)]) hx hb dX11_serves_143 hl (k := 5) rfl rfl (by decide) rfl (fun ls hl => ?_)
                      refine lv_goto (tgt := 84) hx hb dX11_serves_146 (by decide) ?_
                      exact ih84 x84_0 (x84_1 + (1 : Int32)) y84  H locs ls (hz84a _ (Option.some.inj h).symm) hS (lv_sub hl [1, 2, 3, 4, 5, 0] rfl) hk84_0
                    · have h := it_neg c10 h
                      refine lv_iload hx hb dX11_serves_116 (lv_at hl 4 rfl) ?_
                      refine lv_iconst (v := 1) hx hb dX11_serves_118 (by decide) ?_
                      refine lv_aload_n hx hb dX11_serves_119 rfl (lv_at hl 0 rfl) ?_
                      refine r_get E frX11_48 hS 0 rfl rfl dX11_serves_120 ?_
                      refine lv_iload_n hx hb dX11_serves_123 rfl (lv_at hl 2 rfl) ?_
                      refine lv_iconst (v := 1) hx hb dX11_serves_124 (by decide) ?_
                      refine lv_iadd hx hb dX11_serves_125 ?_
                      refine lv_bipush (v := 7) hx hb dX11_serves_126 (by decide) ?_
                      refine lv_ishl hx hb dX11_serves_128 ?_
                      refine lv_iload_n hx hb dX11_serves_129 rfl (lv_at hl 3 rfl) ?_
                      refine lv_ior hx hb dX11_serves_130 ?_
                      refine lv_iconst (v := 1) hx hb dX11_serves_131 (by decide) ?_
                      refine lv_iload hx hb dX11_serves_132 (lv_at hl 5 rfl) ?_
                      refine lv_ishl hx hb dX11_serves_134 ?_
                      refine lv_ior hx hb dX11_serves_135 ?_
                      obtain ⟨g11, h⟩ := gi_some h
                      refine r_iald E hS 5 rfl g11 dX11_serves_136 ?_
                      refine lv_iadd hx hb dX11_serves_137 ?_
                      refine ct_S (ws' := fun _ => [oX11 q0 (.ref q1) (.int v_people) u0_2 u0_3 (.ref q2) (.int v_rowMany) (.int (0 : Int32)) rc2 (.int y10.2.1) (.int y10.2.2.1) (.int y10.2.2.2.1) (.int y10.2.2.2.2.1) u0_12 (.ref q3) u0_14 (.int v_ruleSize) (.int y10.2.2.2.2.2.1) (.ref q4) u0_18 u0_19 u0_20 u0_21 u0_22 u0_23 (.ref q5) u0_25 u0_26 u0_27 u0_28 u0_29 u0_30 u0_31 u0_32 u0_33 u0_34 u0_35 u0_36 u0_37 u0_38 u0_39 u0_40, aI cy q1 37 v_now, aJ cy q2 16 v_row, aB cy q3 40 v_rule, aI cy q4 7 y10.2.2.2.2.2.2, aI cy q5 1024 x58_1]) (st' := [.int (J9_max_7cf53 x84_0 ((1 : Int32) + (x58_1 ((((x52_0 + (1 : Int32)) <<< ((7 : Int32) &&& 31)) ||| x58_0) ||| ((1 : Int32) <<< (x84_1 &&& 31))).toNatClampNeg)))]) (rest := []) E hS slX11_229 (c_J9_max_7cf53 (l := l) (D := D) (cy := cy) (p0 := x84_0) (p1 := ((1 : Int32) + (x58_1 ((((x52_0 + (1 : Int32)) <<< ((7 : Int32) &&& 31)) ||| x58_0) ||| ((1 : Int32) <<< (x84_1 &&& 31))).toNatClampNeg))) (r := (J9_max_7cf53 x84_0 ((1 : Int32) + (x58_1 ((((x52_0 + (1 : Int32)) <<< ((7 : Int32) &&& 31)) ||| x58_0) ||| ((1 : Int32) <<< (x84_1 &&& 31))).toNatClampNeg)))) rfl) [] rfl rfl (fun _ => rfl) (fun _ => rfl) rfl rfl (Nat.le_of_ble_eq_true rfl) hl.1 (by rw [hRf]; exact Nat.le_of_ble_eq_true rfl) (by rw [hRl]; exact Nat.le_of_ble_eq_true rfl) ⟨Nat.zero_le _, Nat.zero_le _⟩ dX11_serves_138 rfl (fun H locs _ hS => ?_)
                      refine lv_istore (lv' := [(4, .int (J9_max_7cf53 x84_0 ((1 : Int32) + (x58_1 ((((x52_0 + (1 : Int32)) <<< ((7 : Int32) &&& 31)) ||| x58_0) ||| ((1 : Int32) <<< (x84_1 &&& 31))).toNatClampNeg)))), (0, .ref q0), (1, .int y10.1), (2, .int x52_0), (3, .int x58_0), (5, .int x84_1)]) hx hb dX11_serves_141 hl (by decide) rfl (fun ls hl => ?_)
                      refine lv_iinc (v := (x84_1 + (1 : Int32))) (lv' := [(5, .int (x84_1 + (1 : Int32))), (4, .int (J9_max_7cf53 x84_0 ((1 : Int32) + (x58_1 ((((x52_0 + (1 : Int32)) <<< ((7 : Int32) &&& 31)) ||| x58_0) ||| ((1 : Int32) <<< (x84_1 &&& 31))).toNatClampNeg)))), (0, .ref q0), (1, .int y10.1), (2, .int x52_0), (3, .int x58_0)]) hx hb dX11_serves_143 hl (k := 5) rfl rfl (by decide) rfl (fun ls hl => ?_)
                      refine lv_goto (tgt := 84) hx hb dX11_serves_146 (by decide) ?_
                      exact ih84 (J9_max_7cf53 x84_0 ((1 : Int32) + (x58_1 ((((x52_0 + (1 : Int32)) <<< ((7 : Int32) &&& 31)) ||| x58_0) ||| ((1 : Int32) <<< (x84_1 &&& 31))).toNatClampNeg))) (x84_1 + (1 : Int32)) y84  H locs ls (hz84a _ (Option.some.inj h).symm) hS (lv_sub hl [2, 3, 4, 5, 1, 0] rfl) hk84_0
              obtain ⟨y84, e84, h⟩ := bd_some h
              refine hL84 1000 (x58_1 (((x52_0 + (1 : Int32)) <<< ((7 : Int32) &&& 31)) ||| x58_0).toNatClampNeg) (0 : Int32) y84  H locs ls e84 hS (lv_sub hl [2, 3, 4, 5, 1, 0] rfl) (fun y84_0 ey84 H locs ls hS hl => ?_)
              subst ey84
              refine lv_aload_n hx hb dX11_serves_149 rfl (lv_at hl 0 rfl) ?_
              refine r_get E frX11_48 hS 0 rfl rfl dX11_serves_150 ?_
              refine lv_iload_n hx hb dX11_serves_153 rfl (lv_at hl 2 rfl) ?_
              refine lv_bipush (v := 7) hx hb dX11_serves_154 (by decide) ?_
              refine lv_ishl hx hb dX11_serves_156 ?_
              refine lv_iload_n hx hb dX11_serves_157 rfl (lv_at hl 3 rfl) ?_
              refine lv_ior hx hb dX11_serves_158 ?_
              refine lv_iload hx hb dX11_serves_159 (lv_at hl 4 rfl) ?_
              obtain ⟨g12, h⟩ := gi_some h
              refine r_iast (ws' := [oX11 q0 (.ref q1) (.int v_people) u0_2 u0_3 (.ref q2) (.int v_rowMany) (.int (0 : Int32)) rc2 (.int y10.2.1) (.int y10.2.2.1) (.int y10.2.2.2.1) (.int y10.2.2.2.2.1) u0_12 (.ref q3) u0_14 (.int v_ruleSize) (.int y10.2.2.2.2.2.1) (.ref q4) u0_18 u0_19 u0_20 u0_21 u0_22 u0_23 (.ref q5) u0_25 u0_26 u0_27 u0_28 u0_29 u0_30 u0_31 u0_32 u0_33 u0_34 u0_35 u0_36 u0_37 u0_38 u0_39 u0_40, aI cy q1 37 v_now, aJ cy q2 16 v_row, aB cy q3 40 v_rule, aI cy q4 7 y10.2.2.2.2.2.2, aI cy q5 1024 (upd x58_1 ((x52_0 <<< ((7 : Int32) &&& 31)) ||| x58_0).toNatClampNeg y84_0)]) E hS 5 rfl g12 rfl dX11_serves_161 (fun H locs hS => ?_)
              refine lv_iinc (v := (x58_0 + (1 : Int32))) (lv' := [(3, .int (x58_0 + (1 : Int32))), (0, .ref q0), (1, .int y10.1), (2, .int x52_0), (4, .int y84_0)]) hx hb dX11_serves_162 hl (k := 3) rfl rfl (by decide) rfl (fun ls hl => ?_)
              refine lv_goto (tgt := 58) hx hb dX11_serves_165 (by decide) ?_
              exact ih58 (x58_0 + (1 : Int32)) (upd x58_1 ((x52_0 <<< ((7 : Int32) &&& 31)) ||| x58_0).toNatClampNeg y84_0) y58  H locs ls (hz58a _ (Option.some.inj h).symm) hS (lv_sub hl [1, 2, 3, 0] rfl) hk58_0
        obtain ⟨y58, e58, h⟩ := bd_some h
        refine hL58 1000 (0 : Int32) x52_1 y58  H locs ls e58 hS (lv_sub hl [1, 2, 3, 0] rfl) (fun y58_0 ey58 H locs ls hS hl => ?_)
        subst ey58
        refine lv_iinc (v := (x52_0 + (-1 : Int32))) (lv' := [(2, .int (x52_0 + (-1 : Int32))), (0, .ref q0), (1, .int y10.1)]) hx hb dX11_serves_168 hl (k := 2) rfl rfl (by decide) rfl (fun ls hl => ?_)
        refine lv_goto (tgt := 52) hx hb dX11_serves_171 (by decide) ?_
        exact ih52 (x52_0 + (-1 : Int32)) y58_0 y52  H locs ls (hz52a _ (Option.some.inj h).symm) hS (lv_sub hl [1, 2, 0] rfl) hk52_0
  obtain ⟨y52, e52, h⟩ := bd_some h
  refine hL52 1000 (v_people - (1 : Int32)) y16_0 y52  H locs ls e52 hS (lv_sub hl [1, 2, 0] rfl) (fun y52_0 ey52 H locs ls hS hl => ?_)
  subst ey52
  refine lv_iconst (v := 0) hx hb dX11_serves_174 (by decide) ?_
  refine lv_istore_n (lv' := [(2, .int (0 : Int32)), (0, .ref q0), (1, .int y10.1)]) hx hb dX11_serves_175 rfl hl (by decide) rfl (fun ls hl => ?_)
  refine lv_aload_n hx hb dX11_serves_176 rfl (lv_at hl 1 rfl) ?_
  refine lv_iconst (v := 0) hx hb dX11_serves_177 (by decide) ?_
  refine r_put (ws' := [oX11 q0 (.ref q1) (.int v_people) u0_2 u0_3 (.ref q2) (.int (0 : Int32)) (.int (0 : Int32)) rc2 (.int y10.2.1) (.int y10.2.2.1) (.int y10.2.2.2.1) (.int y10.2.2.2.2.1) u0_12 (.ref q3) u0_14 (.int v_ruleSize) (.int y10.2.2.2.2.2.1) (.ref q4) u0_18 u0_19 u0_20 u0_21 u0_22 u0_23 (.ref q5) u0_25 u0_26 u0_27 u0_28 u0_29 u0_30 u0_31 u0_32 u0_33 u0_34 u0_35 u0_36 u0_37 u0_38 u0_39 u0_40, aI cy q1 37 v_now, aJ cy q2 16 v_row, aB cy q3 40 v_rule, aI cy q4 7 y10.2.2.2.2.2.2, aI cy q5 1024 y52_0]) E frX11_89 hS 0 rfl (Nat.le_of_ble_eq_true rfl) rfl rfl rfl rfl dX11_serves_178 (fun H locs hS => ?_)
  refine lv_iconst (v := 0) hx hb dX11_serves_181 (by decide) ?_
  refine lv_istore_n (lv' := [(3, .int (0 : Int32)), (2, .int (0 : Int32)), (0, .ref q0), (1, .int y10.1)]) hx hb dX11_serves_182 rfl hl (by decide) rfl (fun ls hl => ?_)
  have hL183 : ∀ (n : Nat) (x183_0 : Int32) (x183_1 : Int32) (x183_2 : Int32) (x183_3 : Nat → Int64) (y183 : Int32 × (Nat → Int64)) (H : Heap) (locs : List Loc) (ls : Array Slot), lp (fun x183 => X11_serves_s183 v_people v_now y10 y52_0 x183.1 x183.2.1 x183.2.2.1 x183.2.2.2) n (x183_0, x183_1, x183_2, x183_3) = some y183 → Sv D A s.heap [oX11 q0 (.ref q1) (.int v_people) u0_2 u0_3 (.ref q2) (.int x183_2) (.int (0 : Int32)) rc2 (.int y10.2.1) (.int y10.2.2.1) (.int y10.2.2.2.1) (.int y10.2.2.2.2.1) u0_12 (.ref q3) u0_14 (.int v_ruleSize) (.int y10.2.2.2.2.2.1) (.ref q4) u0_18 u0_19 u0_20 u0_21 u0_22 u0_23 (.ref q5) u0_25 u0_26 u0_27 u0_28 u0_29 u0_30 u0_31 u0_32 u0_33 u0_34 u0_35 u0_36 u0_37 u0_38 u0_39 u0_40, aI cy q1 37 v_now, aJ cy q2 16 x183_3, aB cy q3 40 v_rule, aI cy q4 7 y10.2.2.2.2.2.2, aI cy q5 1024 y52_0] H locs → lv_has ls 6 [(0, .ref q0), (1, .int y10.1), (2, .int x183_0), (3, .int x183_1)] → ( ∀ (y183_0 : Int32) (y183_1 : Nat → Int64), (y183_0, y183_1) = y183 → ∀ (H : Heap) (locs : List Loc) (ls : Array Slot), Sv D A s.heap [oX11 q0 (.ref q1) (.int v_people) u0_2 u0_3 (.ref q2) (.int y183_0) (.int (0 : Int32)) rc2 (.int y10.2.1) (.int y10.2.2.1) (.int y10.2.2.2.1) (.int y10.2.2.2.2.1) u0_12 (.ref q3) u0_14 (.int v_ruleSize) (.int y10.2.2.2.2.2.1) (.ref q4) u0_18 u0_19 u0_20 u0_21 u0_22 u0_23 (.ref q5) u0_25 u0_26 u0_27 u0_28 u0_29 u0_30 u0_31 u0_32 u0_33 u0_34 u0_35 u0_36 u0_37 u0_38 u0_39 u0_40, aI cy q1 37 v_now, aJ cy q2 16 y183_1, aB cy q3 40 v_rule, aI cy q4 7 y10.2.2.2.2.2.2, aI cy q5 1024 y52_0] H locs → lv_has ls 6 [(0, .ref q0)] → W p l e R s m args below meth c H locs 0 0 Q (F0 m 302 ls [])) → W p l e R s m args below meth c H locs 0 0 Q (F0 m 183 ls []) := by
    intro n
    induction n with
    | zero =>
      intro x183_0 x183_1 x183_2 x183_3 y183 H locs ls h
      exact lp_zero h
    | succ n ih183 =>
      intro x183_0 x183_1 x183_2 x183_3 y183 H locs ls h hS hl hk183_0
      obtain ⟨z183, h, hz183a, hz183b⟩ := lp_succ h
      have h : X11_serves_s183 v_people v_now y10 y52_0 x183_0 x183_1 x183_2 x183_3 = some z183 := h
      unfold X11_serves_s183 at h
      refine lv_iload_n hx hb dX11_serves_183 rfl (lv_at hl 3 rfl) ?_
      refine lv_aload_n hx hb dX11_serves_184 rfl (lv_at hl 0 rfl) ?_
      refine r_get E frX11_92 hS 0 rfl rfl dX11_serves_185 ?_
      refine lv_icmp_ge (tgt := 302) hx hb dX11_serves_188 (by decide) (fun c13 => ?_) (fun c13 => ?_)
      · have h := it_pos c13 h
        exact hk183_0 x183_2 x183_3 (hz183b _ (Option.some.inj h).symm)  H locs ls hS (lv_sub hl [0] rfl)
      · have h := it_neg c13 h
        refine lv_aload_n hx hb dX11_serves_191 rfl (lv_at hl 0 rfl) ?_
        refine r_get E frX11_48 hS 0 rfl rfl dX11_serves_192 ?_
        refine lv_iload_n hx hb dX11_serves_195 rfl (lv_at hl 3 rfl) ?_
        refine lv_bipush (v := 7) hx hb dX11_serves_196 (by decide) ?_
        refine lv_ishl hx hb dX11_serves_198 ?_
        refine lv_iload_n hx hb dX11_serves_199 rfl (lv_at hl 2 rfl) ?_
        refine lv_ior hx hb dX11_serves_200 ?_
        obtain ⟨g14, h⟩ := gi_some h
        refine r_iald E hS 5 rfl g14 dX11_serves_201 ?_
        refine lv_istore (lv' := [(4, .int (y52_0 ((x183_1 <<< ((7 : Int32) &&& 31)) ||| x183_0).toNatClampNeg)), (0, .ref q0), (1, .int y10.1), (2, .int x183_0), (3, .int x183_1)]) hx hb dX11_serves_202 hl (by decide) rfl (fun ls hl => ?_)
        refine lv_iconst (v := -1) hx hb dX11_serves_204 (by decide) ?_
        refine lv_istore (lv' := [(5, .int (-1 : Int32)), (4, .int (y52_0 ((x183_1 <<< ((7 : Int32) &&& 31)) ||| x183_0).toNatClampNeg)), (0, .ref q0), (1, .int y10.1), (2, .int x183_0), (3, .int x183_1)]) hx hb dX11_serves_205 hl (by decide) rfl (fun ls hl => ?_)
        refine lv_aload_n hx hb dX11_serves_207 rfl (lv_at hl 2 rfl) ?_
        refine r_get E frX11_48 hS 0 rfl rfl dX11_serves_208 ?_
        refine lv_iload_n hx hb dX11_serves_211 rfl (lv_at hl 5 rfl) ?_
        refine lv_iconst (v := 1) hx hb dX11_serves_212 (by decide) ?_
        refine lv_iadd hx hb dX11_serves_213 ?_
        refine lv_bipush (v := 7) hx hb dX11_serves_214 (by decide) ?_
        refine lv_ishl hx hb dX11_serves_216 ?_
        refine lv_iload_n hx hb dX11_serves_217 rfl (lv_at hl 4 rfl) ?_
        refine lv_ior hx hb dX11_serves_218 ?_
        obtain ⟨g15, h⟩ := gi_some h
        refine r_iald E hS 5 rfl g15 dX11_serves_219 ?_
        refine lv_iload hx hb dX11_serves_220 (lv_at hl 1 rfl) ?_
        have hJ289 : ∀ (j289_l2 : Int32) (j289_l5 : Int32) (H : Heap) (locs : List Loc) (ls : Array Slot), X11_serves_k289 x183_1 x183_2 x183_3 j289_l2 j289_l5 = some z183 → Sv D A s.heap [oX11 q0 (.ref q1) (.int v_people) u0_2 u0_3 (.ref q2) (.int x183_2) (.int (0 : Int32)) rc2 (.int y10.2.1) (.int y10.2.2.1) (.int y10.2.2.2.1) (.int y10.2.2.2.2.1) u0_12 (.ref q3) u0_14 (.int v_ruleSize) (.int y10.2.2.2.2.2.1) (.ref q4) u0_18 u0_19 u0_20 u0_21 u0_22 u0_23 (.ref q5) u0_25 u0_26 u0_27 u0_28 u0_29 u0_30 u0_31 u0_32 u0_33 u0_34 u0_35 u0_36 u0_37 u0_38 u0_39 u0_40, aI cy q1 37 v_now, aJ cy q2 16 x183_3, aB cy q3 40 v_rule, aI cy q4 7 y10.2.2.2.2.2.2, aI cy q5 1024 y52_0] H locs → lv_has ls 6 [(0, .ref q0), (1, .int y10.1), (2, .int j289_l2), (3, .int x183_1), (5, .int j289_l5)] → W p l e R s m args below meth c H locs 0 0 Q (F0 m 289 ls []) := by
          intro j289_l2 j289_l5 H locs ls h hS hl
          unfold X11_serves_k289 at h
          refine lv_aload_n hx hb dX11_serves_289 rfl (lv_at hl 0 rfl) ?_
          refine lv_iload hx hb dX11_serves_290 (lv_at hl 4 rfl) ?_
          refine lv_i2l (v := (j289_l5.toInt64)) hx hb dX11_serves_292 rfl ?_
          obtain ⟨y293, e16, h⟩ := bd_some h
          refine ct_V (ws' := fun _ => [oX11 q0 (.ref q1) (.int v_people) u0_2 u0_3 (.ref q2) (.int y293.1) (.int (0 : Int32)) rc2 (.int y10.2.1) (.int y10.2.2.1) (.int y10.2.2.2.1) (.int y10.2.2.2.2.1) u0_12 (.ref q3) u0_14 (.int v_ruleSize) (.int y10.2.2.2.2.2.1) (.ref q4) u0_18 u0_19 u0_20 u0_21 u0_22 u0_23 (.ref q5) u0_25 u0_26 u0_27 u0_28 u0_29 u0_30 u0_31 u0_32 u0_33 u0_34 u0_35 u0_36 u0_37 u0_38 u0_39 u0_40, aI cy q1 37 v_now, aJ cy q2 16 y293.2, aB cy q3 40 v_rule, aI cy q4 7 y10.2.2.2.2.2.2, aI cy q5 1024 y52_0]) (st' := []) (rest := []) E hS vlX11_256 (c_X11_tell (l := l) (D := D) (cy := cy) (q0 := q0) (q1 := q2) (u0_0 := .ref q1) (u0_1 := .int v_people) (u0_2 := u0_2) (u0_3 := u0_3) (u0_6 := .int (0 : Int32)) (u0_7 := rc2) (u0_8 := .int y10.2.1) (u0_9 := .int y10.2.2.1) (u0_10 := .int y10.2.2.2.1) (u0_11 := .int y10.2.2.2.2.1) (u0_12 := u0_12) (u0_13 := .ref q3) (u0_14 := u0_14) (u0_15 := .int v_ruleSize) (u0_16 := .int y10.2.2.2.2.2.1) (u0_17 := .ref q4) (u0_18 := u0_18) (u0_19 := u0_19) (u0_20 := u0_20) (u0_21 := u0_21) (u0_22 := u0_22) (u0_23 := u0_23) (u0_24 := .ref q5) (u0_25 := u0_25) (u0_26 := u0_26) (u0_27 := u0_27) (u0_28 := u0_28) (u0_29 := u0_29) (u0_30 := u0_30) (u0_31 := u0_31) (u0_32 := u0_32) (u0_33 := u0_33) (u0_34 := u0_34) (u0_35 := u0_35) (u0_36 := u0_36) (u0_37 := u0_37) (u0_38 := u0_38) (u0_39 := u0_39) (u0_40 := u0_40) (v_rowMany := x183_2) (v_row := x183_3) (p1 := (j289_l5.toInt64)) (r := y293) e16) [0, 2] rfl rfl (fun _ => rfl) (fun _ => rfl) rfl rfl rfl rfl (Nat.le_of_ble_eq_true rfl) hl.1 (by rw [hRf]; exact Nat.le_of_ble_eq_true rfl) (by rw [hRl]; exact Nat.le_of_ble_eq_true rfl) ⟨Nat.zero_le _, Nat.zero_le _⟩ dX11_serves_293 rfl (fun H locs _ hS => ?_)
          refine lv_iinc (v := (x183_1 + (1 : Int32))) (lv' := [(3, .int (x183_1 + (1 : Int32))), (0, .ref q0), (1, .int y10.1), (2, .int j289_l2), (5, .int j289_l5)]) hx hb dX11_serves_296 hl (k := 3) rfl rfl (by decide) rfl (fun ls hl => ?_)
          refine lv_goto (tgt := 183) hx hb dX11_serves_299 (by decide) ?_
          exact ih183 j289_l2 (x183_1 + (1 : Int32)) y293.1 y293.2 y183  H locs ls (hz183a _ (Option.some.inj h).symm) hS (lv_sub hl [1, 2, 3, 0] rfl) hk183_0
        refine lv_icmp_eq (tgt := 289) hx hb dX11_serves_222 (by decide) (fun c17 => ?_) (fun c17 => ?_)
        · have h := it_pos c17 h
          exact hJ289 x183_0 (-1 : Int32)  H locs ls h hS (lv_sub hl [2, 3, 4, 5, 0] rfl)
        · have h := it_neg c17 h
          refine lv_iconst (v := 0) hx hb dX11_serves_225 (by decide) ?_
          refine lv_istore (lv' := [(5, .int (0 : Int32)), (4, .int (y52_0 ((x183_1 <<< ((7 : Int32) &&& 31)) ||| x183_0).toNatClampNeg)), (0, .ref q0), (1, .int y10.1), (2, .int x183_0), (3, .int x183_1)]) hx hb dX11_serves_226 hl (by decide) rfl (fun ls hl => ?_)
          have hL228 : ∀ (n : Nat) (x228_0 : Int32) (y228 : Int32) (H : Heap) (locs : List Loc) (ls : Array Slot), lp (fun x228 => X11_serves_s228 v_now y10 y52_0 x183_0 x183_1 x228) n x228_0 = some y228 → Sv D A s.heap [oX11 q0 (.ref q1) (.int v_people) u0_2 u0_3 (.ref q2) (.int x183_2) (.int (0 : Int32)) rc2 (.int y10.2.1) (.int y10.2.2.1) (.int y10.2.2.2.1) (.int y10.2.2.2.2.1) u0_12 (.ref q3) u0_14 (.int v_ruleSize) (.int y10.2.2.2.2.2.1) (.ref q4) u0_18 u0_19 u0_20 u0_21 u0_22 u0_23 (.ref q5) u0_25 u0_26 u0_27 u0_28 u0_29 u0_30 u0_31 u0_32 u0_33 u0_34 u0_35 u0_36 u0_37 u0_38 u0_39 u0_40, aI cy q1 37 v_now, aJ cy q2 16 x183_3, aB cy q3 40 v_rule, aI cy q4 7 y10.2.2.2.2.2.2, aI cy q5 1024 y52_0] H locs → lv_has ls 6 [(0, .ref q0), (1, .int y10.1), (2, .int x183_0), (3, .int x183_1), (4, .int (y52_0 ((x183_1 <<< ((7 : Int32) &&& 31)) ||| x183_0).toNatClampNeg)), (5, .int x228_0)] → ( ∀ (y228_0 : Int32), y228_0 = y228 → ∀ (H : Heap) (locs : List Loc) (ls : Array Slot), Sv D A s.heap [oX11 q0 (.ref q1) (.int v_people) u0_2 u0_3 (.ref q2) (.int x183_2) (.int (0 : Int32)) rc2 (.int y10.2.1) (.int y10.2.2.1) (.int y10.2.2.2.1) (.int y10.2.2.2.2.1) u0_12 (.ref q3) u0_14 (.int v_ruleSize) (.int y10.2.2.2.2.2.1) (.ref q4) u0_18 u0_19 u0_20 u0_21 u0_22 u0_23 (.ref q5) u0_25 u0_26 u0_27 u0_28 u0_29 u0_30 u0_31 u0_32 u0_33 u0_34 u0_35 u0_36 u0_37 u0_38 u0_39 u0_40, aI cy q1 37 v_now, aJ cy q2 16 x183_3, aB cy q3 40 v_rule, aI cy q4 7 y10.2.2.2.2.2.2, aI cy q5 1024 y52_0] H locs → lv_has ls 6 [(0, .ref q0), (1, .int y10.1), (2, .int x183_0), (3, .int x183_1), (5, .int y228_0)] → W p l e R s m args below meth c H locs 0 0 Q (F0 m 282 ls [])) → W p l e R s m args below meth c H locs 0 0 Q (F0 m 228 ls []) := by
            intro n
            induction n with
            | zero =>
              intro x228_0 y228 H locs ls h
              exact lp_zero h
            | succ n ih228 =>
              intro x228_0 y228 H locs ls h hS hl hk228_0
              obtain ⟨z228, h, hz228a, hz228b⟩ := lp_succ h
              have h : X11_serves_s228 v_now y10 y52_0 x183_0 x183_1 x228_0 = some z228 := h
              unfold X11_serves_s228 at h
              refine lv_aload_n hx hb dX11_serves_228 rfl (lv_at hl 0 rfl) ?_
              refine r_get E frX11_9 hS 0 rfl rfl dX11_serves_229 ?_
              refine lv_bipush (v := 28) hx hb dX11_serves_232 (by decide) ?_
              refine lv_iload_n hx hb dX11_serves_234 rfl (lv_at hl 3 rfl) ?_
              refine lv_iadd hx hb dX11_serves_235 ?_
              obtain ⟨g18, h⟩ := gi_some h
              refine r_iald E hS 1 rfl g18 dX11_serves_236 ?_
              refine lv_iload_n hx hb dX11_serves_237 rfl (lv_at hl 1 rfl) ?_
              refine lv_iand hx hb dX11_serves_238 ?_
              refine lv_iload_n hx hb dX11_serves_239 rfl (lv_at hl 2 rfl) ?_
              refine lv_iconst (v := -1) hx hb dX11_serves_240 (by decide) ?_
              refine lv_ixor hx hb dX11_serves_241 ?_
              refine lv_iand hx hb dX11_serves_242 ?_
              refine lv_iload hx hb dX11_serves_243 (lv_at hl 5 rfl) ?_
              refine ct_S (ws' := fun _ => [oX11 q0 (.ref q1) (.int v_people) u0_2 u0_3 (.ref q2) (.int x183_2) (.int (0 : Int32)) rc2 (.int y10.2.1) (.int y10.2.2.1) (.int y10.2.2.2.1) (.int y10.2.2.2.2.1) u0_12 (.ref q3) u0_14 (.int v_ruleSize) (.int y10.2.2.2.2.2.1) (.ref q4) u0_18 u0_19 u0_20 u0_21 u0_22 u0_23 (.ref q5) u0_25 u0_26 u0_27 u0_28 u0_29 u0_30 u0_31 u0_32 u0_33 u0_34 u0_35 u0_36 u0_37 u0_38 u0_39 u0_40, aI cy q1 37 v_now, aJ cy q2 16 x183_3, aB cy q3 40 v_rule, aI cy q4 7 y10.2.2.2.2.2.2, aI cy q5 1024 y52_0]) (st' := [.int (X11_has (((v_now ((28 : Int32) + x183_1).toNatClampNeg) &&& y10.1) &&& (x183_0 ^^^ (-1 : Int32))) x228_0)]) (rest := []) E hS slX11_196 (c_X11_has (l := l) (D := D) (cy := cy) (p0 := (((v_now ((28 : Int32) + x183_1).toNatClampNeg) &&& y10.1) &&& (x183_0 ^^^ (-1 : Int32)))) (p1 := x228_0) (r := (X11_has (((v_now ((28 : Int32) + x183_1).toNatClampNeg) &&& y10.1) &&& (x183_0 ^^^ (-1 : Int32))) x228_0)) rfl) [] rfl rfl (fun _ => rfl) (fun _ => rfl) rfl rfl (Nat.le_of_ble_eq_true rfl) hl.1 (by rw [hRf]; exact Nat.le_of_ble_eq_true rfl) (by rw [hRl]; exact Nat.le_of_ble_eq_true rfl) ⟨Nat.zero_le _, Nat.zero_le _⟩ dX11_serves_245 rfl (fun H locs _ hS => ?_)
              refine lv_if_eq (tgt := 276) hx hb dX11_serves_248 (by decide) (fun c19 => ?_) (fun c19 => ?_)
              · have h := it_pos c19 h
                refine lv_iinc (v := (x228_0 + (1 : Int32))) (lv' := [(5, .int (x228_0 + (1 : Int32))), (0, .ref q0), (1, .int y10.1), (2, .int x183_0), (3, .int x183_1), (4, .int (y52_0 ((x183_1 <<< ((7 : Int32) &&& 31)) ||| x183_0).toNatClampNeg))]) hx hb dX11_serves_276 hl (k := 5) rfl rfl (by decide) rfl (fun ls hl => ?_)
                refine lv_goto (tgt := 228) hx hb dX11_serves_279 (by decide) ?_
                exact ih228 (x228_0 + (1 : Int32)) y228  H locs ls (hz228a _ (Option.some.inj h).symm) hS (lv_sub hl [1, 2, 3, 4, 5, 0] rfl) hk228_0
              · have h := it_neg c19 h
                refine lv_iconst (v := 1) hx hb dX11_serves_251 (by decide) ?_
                refine lv_aload_n hx hb dX11_serves_252 rfl (lv_at hl 0 rfl) ?_
                refine r_get E frX11_48 hS 0 rfl rfl dX11_serves_253 ?_
                refine lv_iload_n hx hb dX11_serves_256 rfl (lv_at hl 3 rfl) ?_
                refine lv_iconst (v := 1) hx hb dX11_serves_257 (by decide) ?_
                refine lv_iadd hx hb dX11_serves_258 ?_
                refine lv_bipush (v := 7) hx hb dX11_serves_259 (by decide) ?_
                refine lv_ishl hx hb dX11_serves_261 ?_
                refine lv_iload_n hx hb dX11_serves_262 rfl (lv_at hl 2 rfl) ?_
                refine lv_ior hx hb dX11_serves_263 ?_
                refine lv_iconst (v := 1) hx hb dX11_serves_264 (by decide) ?_
                refine lv_iload hx hb dX11_serves_265 (lv_at hl 5 rfl) ?_
                refine lv_ishl hx hb dX11_serves_267 ?_
                refine lv_ior hx hb dX11_serves_268 ?_
                obtain ⟨g20, h⟩ := gi_some h
                refine r_iald E hS 5 rfl g20 dX11_serves_269 ?_
                refine lv_iadd hx hb dX11_serves_270 ?_
                refine lv_iload hx hb dX11_serves_271 (lv_at hl 4 rfl) ?_
                refine lv_icmp_eq (tgt := 282) hx hb dX11_serves_273 (by decide) (fun c21 => ?_) (fun c21 => ?_)
                · have h := it_pos c21 h
                  exact hk228_0 x228_0 (hz228b _ (Option.some.inj h).symm)  H locs ls hS (lv_sub hl [0, 1, 2, 3, 5] rfl)
                · have h := it_neg c21 h
                  refine lv_iinc (v := (x228_0 + (1 : Int32))) (lv' := [(5, .int (x228_0 + (1 : Int32))), (0, .ref q0), (1, .int y10.1), (2, .int x183_0), (3, .int x183_1), (4, .int (y52_0 ((x183_1 <<< ((7 : Int32) &&& 31)) ||| x183_0).toNatClampNeg))]) hx hb dX11_serves_276 hl (k := 5) rfl rfl (by decide) rfl (fun ls hl => ?_)
                  refine lv_goto (tgt := 228) hx hb dX11_serves_279 (by decide) ?_
                  exact ih228 (x228_0 + (1 : Int32)) y228  H locs ls (hz228a _ (Option.some.inj h).symm) hS (lv_sub hl [1, 2, 3, 4, 5, 0] rfl) hk228_0
          obtain ⟨y228, e228, h⟩ := bd_some h
          refine hL228 1000 (0 : Int32) y228  H locs ls e228 hS (lv_sub hl [2, 3, 4, 5, 1, 0] rfl) (fun y228_0 ey228 H locs ls hS hl => ?_)
          subst ey228
          refine lv_iload_n hx hb dX11_serves_282 rfl (lv_at hl 2 rfl) ?_
          refine lv_iconst (v := 1) hx hb dX11_serves_283 (by decide) ?_
          refine lv_iload hx hb dX11_serves_284 (lv_at hl 4 rfl) ?_
          refine lv_ishl hx hb dX11_serves_286 ?_
          refine lv_ior hx hb dX11_serves_287 ?_
          refine lv_istore_n (lv' := [(2, .int (x183_0 ||| ((1 : Int32) <<< (y228_0 &&& 31)))), (0, .ref q0), (1, .int y10.1), (3, .int x183_1), (5, .int y228_0)]) hx hb dX11_serves_288 rfl hl (by decide) rfl (fun ls hl => ?_)
          exact hJ289 (x183_0 ||| ((1 : Int32) <<< (y228_0 &&& 31))) y228_0  H locs ls h hS (lv_sub hl [1, 2, 0, 3, 4] rfl)
  obtain ⟨y183, e183, h⟩ := bd_some h
  refine hL183 1000 (0 : Int32) (0 : Int32) (0 : Int32) v_row y183  H locs ls e183 hS (lv_sub hl [2, 3, 1, 0] rfl) (fun y183_0 y183_1 ey183 H locs ls hS hl => ?_)
  subst ey183
  have h := un_r h
  refine lv_aload_n hx hb dX11_serves_302 rfl (lv_at hl 0 rfl) ?_
  refine r_get E frX11_48 hS 0 rfl rfl dX11_serves_303 ?_
  refine lv_iconst (v := 0) hx hb dX11_serves_306 (by decide) ?_
  obtain ⟨g22, h⟩ := gi_some h
  refine r_iald E hS 5 rfl g22 dX11_serves_307 ?_
  obtain rfl := Option.some.inj h
  exact rt_i E hQ (rc2) hS dX11_serves_308
set_option maxHeartbeats 4000000 in
set_option maxRecDepth 100000 in
theorem c_X11_wantsOfAll {l : Launch} {D : va_G} {cy : Nat → ClassId} (q0 : Nat) (q1 : Nat) (u0_2 : Value) (u0_3 : Value) (u0_4 : Value) (u0_5 : Value) (u0_6 : Value) (u0_7 : Value) (u0_8 : Value) (u0_9 : Value) (u0_10 : Value) (u0_11 : Value) (u0_12 : Value) (u0_13 : Value) (u0_14 : Value) (u0_15 : Value) (u0_16 : Value) (u0_17 : Value) (u0_18 : Value) (u0_19 : Value) (u0_20 : Value) (u0_21 : Value) (u0_22 : Value) (u0_23 : Value) (u0_24 : Value) (u0_25 : Value) (u0_26 : Value) (u0_27 : Value) (u0_28 : Value) (u0_29 : Value) (u0_30 : Value) (u0_31 : Value) (u0_32 : Value) (u0_33 : Value) (u0_34 : Value) (u0_35 : Value) (u0_36 : Value) (u0_37 : Value) (u0_38 : Value) (u0_39 : Value) (u0_40 : Value) (v_people : Int32) (v_now : Nat → Int32) (p1 : Int32) (r : Int32) (h : X11_wantsOfAll v_people v_now p1 = some r) : Ct l yX11_wantsOfAll cX11_wantsOfAll 4 (some .int) 1 21 D cy [.ref q0, .int p1] [oX11 q0 (.ref q1) (.int v_people) u0_2 u0_3 u0_4 u0_5 u0_6 u0_7 u0_8 u0_9 u0_10 u0_11 u0_12 u0_13 u0_14 u0_15 u0_16 u0_17 u0_18 u0_19 u0_20 u0_21 u0_22 u0_23 u0_24 u0_25 u0_26 u0_27 u0_28 u0_29 u0_30 u0_31 u0_32 u0_33 u0_34 u0_35 u0_36 u0_37 u0_38 u0_39 u0_40, aI cy q1 37 v_now] (fun _ => [oX11 q0 (.ref q1) (.int v_people) u0_2 u0_3 u0_4 u0_5 u0_6 u0_7 u0_8 u0_9 u0_10 u0_11 u0_12 u0_13 u0_14 u0_15 u0_16 u0_17 u0_18 u0_19 u0_20 u0_21 u0_22 u0_23 u0_24 u0_25 u0_26 u0_27 u0_28 u0_29 u0_30 u0_31 u0_32 u0_33 u0_34 u0_35 u0_36 u0_37 u0_38 u0_39 u0_40, aI cy q1 37 v_now]) (some (.int r)) := by
  refine Ct.mk kX11_wantsOfAll (by decide +kernel) (Nat.le_of_ble_eq_true rfl) ?_
  intro p e s m below meth c A ls args R Q hRf hRl hQ E H locs hS hl
  have hx := E.x
  have hb := E.b
  have hl : lv_has ls 4 [(0, .ref q0), (1, .int p1)] := hl
  unfold X11_wantsOfAll at h
  refine lv_iconst (v := 0) hx hb dX11_wantsOfAll_0 (by decide) ?_
  refine lv_istore_n (lv' := [(2, .int (0 : Int32)), (0, .ref q0), (1, .int p1)]) hx hb dX11_wantsOfAll_1 rfl hl (by decide) rfl (fun ls hl => ?_)
  refine lv_iconst (v := 0) hx hb dX11_wantsOfAll_2 (by decide) ?_
  refine lv_istore_n (lv' := [(3, .int (0 : Int32)), (2, .int (0 : Int32)), (0, .ref q0), (1, .int p1)]) hx hb dX11_wantsOfAll_3 rfl hl (by decide) rfl (fun ls hl => ?_)
  have hL4 : ∀ (n : Nat) (x4_0 : Int32) (x4_1 : Int32) (y4 : Int32) (H : Heap) (locs : List Loc) (ls : Array Slot), lp (fun x4 => X11_wantsOfAll_s4 v_people v_now p1 x4.1 x4.2) n (x4_0, x4_1) = some y4 → Sv D A s.heap [oX11 q0 (.ref q1) (.int v_people) u0_2 u0_3 u0_4 u0_5 u0_6 u0_7 u0_8 u0_9 u0_10 u0_11 u0_12 u0_13 u0_14 u0_15 u0_16 u0_17 u0_18 u0_19 u0_20 u0_21 u0_22 u0_23 u0_24 u0_25 u0_26 u0_27 u0_28 u0_29 u0_30 u0_31 u0_32 u0_33 u0_34 u0_35 u0_36 u0_37 u0_38 u0_39 u0_40, aI cy q1 37 v_now] H locs → lv_has ls 4 [(0, .ref q0), (1, .int p1), (2, .int x4_0), (3, .int x4_1)] → ( ∀ (y4_0 : Int32), y4_0 = y4 → ∀ (H : Heap) (locs : List Loc) (ls : Array Slot), Sv D A s.heap [oX11 q0 (.ref q1) (.int v_people) u0_2 u0_3 u0_4 u0_5 u0_6 u0_7 u0_8 u0_9 u0_10 u0_11 u0_12 u0_13 u0_14 u0_15 u0_16 u0_17 u0_18 u0_19 u0_20 u0_21 u0_22 u0_23 u0_24 u0_25 u0_26 u0_27 u0_28 u0_29 u0_30 u0_31 u0_32 u0_33 u0_34 u0_35 u0_36 u0_37 u0_38 u0_39 u0_40, aI cy q1 37 v_now] H locs → lv_has ls 4 [(2, .int y4_0)] → W p l e R s m args below meth c H locs 0 0 Q (F0 m 42 ls [])) → W p l e R s m args below meth c H locs 0 0 Q (F0 m 4 ls []) := by
    intro n
    induction n with
    | zero =>
      intro x4_0 x4_1 y4 H locs ls h
      exact lp_zero h
    | succ n ih4 =>
      intro x4_0 x4_1 y4 H locs ls h hS hl hk4_0
      obtain ⟨z4, h, hz4a, hz4b⟩ := lp_succ h
      have h : X11_wantsOfAll_s4 v_people v_now p1 x4_0 x4_1 = some z4 := h
      unfold X11_wantsOfAll_s4 at h
      refine lv_iload_n hx hb dX11_wantsOfAll_4 rfl (lv_at hl 3 rfl) ?_
      refine lv_aload_n hx hb dX11_wantsOfAll_5 rfl (lv_at hl 0 rfl) ?_
      refine r_get E frX11_92 hS 0 rfl rfl dX11_wantsOfAll_6 ?_
      refine lv_icmp_ge (tgt := 42) hx hb dX11_wantsOfAll_9 (by decide) (fun c1 => ?_) (fun c1 => ?_)
      · have h := it_pos c1 h
        exact hk4_0 x4_0 (hz4b _ (Option.some.inj h).symm)  H locs ls hS (lv_sub hl [2] rfl)
      · have h := it_neg c1 h
        refine lv_iload_n hx hb dX11_wantsOfAll_12 rfl (lv_at hl 2 rfl) ?_
        refine lv_iload_n hx hb dX11_wantsOfAll_13 rfl (lv_at hl 1 rfl) ?_
        refine lv_iload_n hx hb dX11_wantsOfAll_14 rfl (lv_at hl 3 rfl) ?_
        refine ct_S (ws' := fun _ => [oX11 q0 (.ref q1) (.int v_people) u0_2 u0_3 u0_4 u0_5 u0_6 u0_7 u0_8 u0_9 u0_10 u0_11 u0_12 u0_13 u0_14 u0_15 u0_16 u0_17 u0_18 u0_19 u0_20 u0_21 u0_22 u0_23 u0_24 u0_25 u0_26 u0_27 u0_28 u0_29 u0_30 u0_31 u0_32 u0_33 u0_34 u0_35 u0_36 u0_37 u0_38 u0_39 u0_40, aI cy q1 37 v_now]) (st' := [.int (X11_has p1 x4_1), .int x4_0]) (rest := [.int x4_0]) E hS slX11_196 (c_X11_has (l := l) (D := D) (cy := cy) (p0 := p1) (p1 := x4_1) (r := (X11_has p1 x4_1)) rfl) [] rfl rfl (fun _ => rfl) (fun _ => rfl) rfl rfl (Nat.le_of_ble_eq_true rfl) hl.1 (by rw [hRf]; exact Nat.le_of_ble_eq_true rfl) (by rw [hRl]; exact Nat.le_of_ble_eq_true rfl) ⟨Nat.zero_le _, Nat.zero_le _⟩ dX11_wantsOfAll_15 rfl (fun H locs _ hS => ?_)
        refine lv_if_eq (tgt := 33) hx hb dX11_wantsOfAll_18 (by decide) (fun c2 => ?_) (fun c2 => ?_)
        · have h := it_pos c2 h
          refine lv_iconst (v := 0) hx hb dX11_wantsOfAll_33 (by decide) ?_
          refine lv_ior hx hb dX11_wantsOfAll_34 ?_
          refine lv_istore_n (lv' := [(2, .int (x4_0 ||| (0 : Int32))), (0, .ref q0), (1, .int p1), (3, .int x4_1)]) hx hb dX11_wantsOfAll_35 rfl hl (by decide) rfl (fun ls hl => ?_)
          refine lv_iinc (v := (x4_1 + (1 : Int32))) (lv' := [(3, .int (x4_1 + (1 : Int32))), (2, .int (x4_0 ||| (0 : Int32))), (0, .ref q0), (1, .int p1)]) hx hb dX11_wantsOfAll_36 hl (k := 3) rfl rfl (by decide) rfl (fun ls hl => ?_)
          refine lv_goto (tgt := 4) hx hb dX11_wantsOfAll_39 (by decide) ?_
          exact ih4 (x4_0 ||| (0 : Int32)) (x4_1 + (1 : Int32)) y4  H locs ls (hz4a _ (Option.some.inj h).symm) hS (lv_sub hl [2, 3, 1, 0] rfl) hk4_0
        · have h := it_neg c2 h
          refine lv_aload_n hx hb dX11_wantsOfAll_21 rfl (lv_at hl 0 rfl) ?_
          refine r_get E frX11_9 hS 0 rfl rfl dX11_wantsOfAll_22 ?_
          refine lv_bipush (v := 28) hx hb dX11_wantsOfAll_25 (by decide) ?_
          refine lv_iload_n hx hb dX11_wantsOfAll_27 rfl (lv_at hl 3 rfl) ?_
          refine lv_iadd hx hb dX11_wantsOfAll_28 ?_
          obtain ⟨g3, h⟩ := gi_some h
          refine r_iald E hS 1 rfl g3 dX11_wantsOfAll_29 ?_
          refine lv_goto (tgt := 34) hx hb dX11_wantsOfAll_30 (by decide) ?_
          refine lv_ior hx hb dX11_wantsOfAll_34 ?_
          refine lv_istore_n (lv' := [(2, .int (x4_0 ||| (v_now ((28 : Int32) + x4_1).toNatClampNeg))), (0, .ref q0), (1, .int p1), (3, .int x4_1)]) hx hb dX11_wantsOfAll_35 rfl hl (by decide) rfl (fun ls hl => ?_)
          refine lv_iinc (v := (x4_1 + (1 : Int32))) (lv' := [(3, .int (x4_1 + (1 : Int32))), (2, .int (x4_0 ||| (v_now ((28 : Int32) + x4_1).toNatClampNeg))), (0, .ref q0), (1, .int p1)]) hx hb dX11_wantsOfAll_36 hl (k := 3) rfl rfl (by decide) rfl (fun ls hl => ?_)
          refine lv_goto (tgt := 4) hx hb dX11_wantsOfAll_39 (by decide) ?_
          exact ih4 (x4_0 ||| (v_now ((28 : Int32) + x4_1).toNatClampNeg)) (x4_1 + (1 : Int32)) y4  H locs ls (hz4a _ (Option.some.inj h).symm) hS (lv_sub hl [2, 3, 1, 0] rfl) hk4_0
  obtain ⟨y4, e4, h⟩ := bd_some h
  refine hL4 1000 (0 : Int32) (0 : Int32) y4  H locs ls e4 hS (lv_sub hl [2, 3, 1, 0] rfl) (fun y4_0 ey4 H locs ls hS hl => ?_)
  subst ey4
  refine lv_iload_n hx hb dX11_wantsOfAll_42 rfl (lv_at hl 0 rfl) ?_
  obtain rfl := Option.some.inj h
  exact rt_i E hQ (.null) hS dX11_wantsOfAll_43
set_option maxHeartbeats 4000000 in
set_option maxRecDepth 100000 in
theorem c_X11_wanting {l : Launch} {D : va_G} {cy : Nat → ClassId} (q0 : Nat) (q1 : Nat) (u0_2 : Value) (u0_3 : Value) (u0_4 : Value) (u0_5 : Value) (u0_6 : Value) (u0_7 : Value) (u0_8 : Value) (u0_9 : Value) (u0_10 : Value) (u0_11 : Value) (u0_12 : Value) (u0_13 : Value) (u0_14 : Value) (u0_15 : Value) (u0_16 : Value) (u0_17 : Value) (u0_18 : Value) (u0_19 : Value) (u0_20 : Value) (u0_21 : Value) (u0_22 : Value) (u0_23 : Value) (u0_24 : Value) (u0_25 : Value) (u0_26 : Value) (u0_27 : Value) (u0_28 : Value) (u0_29 : Value) (u0_30 : Value) (u0_31 : Value) (u0_32 : Value) (u0_33 : Value) (u0_34 : Value) (u0_35 : Value) (u0_36 : Value) (u0_37 : Value) (u0_38 : Value) (u0_39 : Value) (u0_40 : Value) (v_people : Int32) (v_now : Nat → Int32) (r : Int32) (h : X11_wanting v_people v_now = some r) : Ct l yX11_wanting cX11_wanting 3 (some .int) 0 0 D cy [.ref q0] [oX11 q0 (.ref q1) (.int v_people) u0_2 u0_3 u0_4 u0_5 u0_6 u0_7 u0_8 u0_9 u0_10 u0_11 u0_12 u0_13 u0_14 u0_15 u0_16 u0_17 u0_18 u0_19 u0_20 u0_21 u0_22 u0_23 u0_24 u0_25 u0_26 u0_27 u0_28 u0_29 u0_30 u0_31 u0_32 u0_33 u0_34 u0_35 u0_36 u0_37 u0_38 u0_39 u0_40, aI cy q1 37 v_now] (fun _ => [oX11 q0 (.ref q1) (.int v_people) u0_2 u0_3 u0_4 u0_5 u0_6 u0_7 u0_8 u0_9 u0_10 u0_11 u0_12 u0_13 u0_14 u0_15 u0_16 u0_17 u0_18 u0_19 u0_20 u0_21 u0_22 u0_23 u0_24 u0_25 u0_26 u0_27 u0_28 u0_29 u0_30 u0_31 u0_32 u0_33 u0_34 u0_35 u0_36 u0_37 u0_38 u0_39 u0_40, aI cy q1 37 v_now]) (some (.int r)) := by
  refine Ct.mk kX11_wanting (by decide +kernel) (Nat.le_of_ble_eq_true rfl) ?_
  intro p e s m below meth c A ls args R Q hRf hRl hQ E H locs hS hl
  have hx := E.x
  have hb := E.b
  have hl : lv_has ls 3 [(0, .ref q0)] := hl
  unfold X11_wanting at h
  refine lv_iconst (v := 0) hx hb dX11_wanting_0 (by decide) ?_
  refine lv_istore_n (lv' := [(1, .int (0 : Int32)), (0, .ref q0)]) hx hb dX11_wanting_1 rfl hl (by decide) rfl (fun ls hl => ?_)
  refine lv_iconst (v := 0) hx hb dX11_wanting_2 (by decide) ?_
  refine lv_istore_n (lv' := [(2, .int (0 : Int32)), (1, .int (0 : Int32)), (0, .ref q0)]) hx hb dX11_wanting_3 rfl hl (by decide) rfl (fun ls hl => ?_)
  have hL4 : ∀ (n : Nat) (x4_0 : Int32) (x4_1 : Int32) (y4 : Int32) (H : Heap) (locs : List Loc) (ls : Array Slot), lp (fun x4 => X11_wanting_s4 v_people v_now x4.1 x4.2) n (x4_0, x4_1) = some y4 → Sv D A s.heap [oX11 q0 (.ref q1) (.int v_people) u0_2 u0_3 u0_4 u0_5 u0_6 u0_7 u0_8 u0_9 u0_10 u0_11 u0_12 u0_13 u0_14 u0_15 u0_16 u0_17 u0_18 u0_19 u0_20 u0_21 u0_22 u0_23 u0_24 u0_25 u0_26 u0_27 u0_28 u0_29 u0_30 u0_31 u0_32 u0_33 u0_34 u0_35 u0_36 u0_37 u0_38 u0_39 u0_40, aI cy q1 37 v_now] H locs → lv_has ls 3 [(0, .ref q0), (1, .int x4_0), (2, .int x4_1)] → ( ∀ (y4_0 : Int32), y4_0 = y4 → ∀ (H : Heap) (locs : List Loc) (ls : Array Slot), Sv D A s.heap [oX11 q0 (.ref q1) (.int v_people) u0_2 u0_3 u0_4 u0_5 u0_6 u0_7 u0_8 u0_9 u0_10 u0_11 u0_12 u0_13 u0_14 u0_15 u0_16 u0_17 u0_18 u0_19 u0_20 u0_21 u0_22 u0_23 u0_24 u0_25 u0_26 u0_27 u0_28 u0_29 u0_30 u0_31 u0_32 u0_33 u0_34 u0_35 u0_36 u0_37 u0_38 u0_39 u0_40, aI cy q1 37 v_now] H locs → lv_has ls 3 [(1, .int y4_0)] → W p l e R s m args below meth c H locs 0 0 Q (F0 m 40 ls [])) → W p l e R s m args below meth c H locs 0 0 Q (F0 m 4 ls []) := by
    intro n
    induction n with
    | zero =>
      intro x4_0 x4_1 y4 H locs ls h
      exact lp_zero h
    | succ n ih4 =>
      intro x4_0 x4_1 y4 H locs ls h hS hl hk4_0
      obtain ⟨z4, h, hz4a, hz4b⟩ := lp_succ h
      have h : X11_wanting_s4 v_people v_now x4_0 x4_1 = some z4 := h
      unfold X11_wanting_s4 at h
      refine lv_iload_n hx hb dX11_wanting_4 rfl (lv_at hl 2 rfl) ?_
      refine lv_aload_n hx hb dX11_wanting_5 rfl (lv_at hl 0 rfl) ?_
      refine r_get E frX11_92 hS 0 rfl rfl dX11_wanting_6 ?_
      refine lv_icmp_ge (tgt := 40) hx hb dX11_wanting_9 (by decide) (fun c1 => ?_) (fun c1 => ?_)
      · have h := it_pos c1 h
        exact hk4_0 x4_0 (hz4b _ (Option.some.inj h).symm)  H locs ls hS (lv_sub hl [1] rfl)
      · have h := it_neg c1 h
        refine lv_iload_n hx hb dX11_wanting_12 rfl (lv_at hl 1 rfl) ?_
        refine lv_aload_n hx hb dX11_wanting_13 rfl (lv_at hl 0 rfl) ?_
        refine r_get E frX11_9 hS 0 rfl rfl dX11_wanting_14 ?_
        refine lv_bipush (v := 28) hx hb dX11_wanting_17 (by decide) ?_
        refine lv_iload_n hx hb dX11_wanting_19 rfl (lv_at hl 2 rfl) ?_
        refine lv_iadd hx hb dX11_wanting_20 ?_
        obtain ⟨g2, h⟩ := gi_some h
        refine r_iald E hS 1 rfl g2 dX11_wanting_21 ?_
        have hJ32 : ∀ (s32_1 : Int32) (ls : Array Slot), s32_1 = (if (v_now ((28 : Int32) + x4_1).toNatClampNeg) = 0 then (0 : Int32) else ((1 : Int32) <<< (x4_1 &&& 31))) → lv_has ls 3 [(0, .ref q0), (2, .int x4_1)] → W p l e R s m args below meth c H locs 0 0 Q (F0 m 32 ls [.int s32_1, .int x4_0]) := by
          intro s32_1 ls es32_1 hl
          subst es32_1
          refine lv_ior hx hb dX11_wanting_32 ?_
          refine lv_istore_n (lv' := [(1, .int (x4_0 ||| (if (v_now ((28 : Int32) + x4_1).toNatClampNeg) = 0 then (0 : Int32) else ((1 : Int32) <<< (x4_1 &&& 31))))), (0, .ref q0), (2, .int x4_1)]) hx hb dX11_wanting_33 rfl hl (by decide) rfl (fun ls hl => ?_)
          refine lv_iinc (v := (x4_1 + (1 : Int32))) (lv' := [(2, .int (x4_1 + (1 : Int32))), (1, .int (x4_0 ||| (if (v_now ((28 : Int32) + x4_1).toNatClampNeg) = 0 then (0 : Int32) else ((1 : Int32) <<< (x4_1 &&& 31))))), (0, .ref q0)]) hx hb dX11_wanting_34 hl (k := 2) rfl rfl (by decide) rfl (fun ls hl => ?_)
          refine lv_goto (tgt := 4) hx hb dX11_wanting_37 (by decide) ?_
          exact ih4 (x4_0 ||| (if (v_now ((28 : Int32) + x4_1).toNatClampNeg) = 0 then (0 : Int32) else ((1 : Int32) <<< (x4_1 &&& 31)))) (x4_1 + (1 : Int32)) y4  H locs ls (hz4a _ (Option.some.inj h).symm) hS (lv_sub hl [2, 1, 0] rfl) hk4_0
        refine lv_if_eq (tgt := 31) hx hb dX11_wanting_22 (by decide) (fun c3 => ?_) (fun c3 => ?_)
        · refine lv_iconst (v := 0) hx hb dX11_wanting_31 (by decide) ?_
          exact hJ32 _ ls ((if_pos c3)).symm (lv_sub hl [0, 2] rfl)
        · refine lv_iconst (v := 1) hx hb dX11_wanting_25 (by decide) ?_
          refine lv_iload_n hx hb dX11_wanting_26 rfl (lv_at hl 2 rfl) ?_
          refine lv_ishl hx hb dX11_wanting_27 ?_
          refine lv_goto (tgt := 32) hx hb dX11_wanting_28 (by decide) ?_
          exact hJ32 _ ls ((if_neg c3)).symm (lv_sub hl [0, 2] rfl)
  obtain ⟨y4, e4, h⟩ := bd_some h
  refine hL4 1000 (0 : Int32) (0 : Int32) y4  H locs ls e4 hS (lv_sub hl [2, 1, 0] rfl) (fun y4_0 ey4 H locs ls hS hl => ?_)
  subst ey4
  refine lv_iload_n hx hb dX11_wanting_40 rfl (lv_at hl 0 rfl) ?_
  obtain rfl := Option.some.inj h
  exact rt_i E hQ (.null) hS dX11_wanting_41
set_option maxHeartbeats 4000000 in
set_option maxRecDepth 100000 in
theorem c_X11_boot {l : Launch} {D : va_G} {cy : Nat → ClassId} (q0 : Nat) (q1 : Nat) (q2 : Nat) (q3 : Nat) (q4 : Nat) (u0_2 : Value) (u0_3 : Value) (u0_7 : Value) (u0_12 : Value) (u0_14 : Value) (u0_18 : Value) (u0_19 : Value) (u0_20 : Value) (u0_21 : Value) (u0_22 : Value) (u0_23 : Value) (u0_24 : Value) (u0_25 : Value) (u0_26 : Value) (u0_27 : Value) (u0_28 : Value) (u0_29 : Value) (u0_30 : Value) (u0_31 : Value) (u0_32 : Value) (u0_33 : Value) (u0_34 : Value) (u0_35 : Value) (u0_36 : Value) (u0_37 : Value) (u0_38 : Value) (u0_39 : Value) (u0_40 : Value) (v_people : Int32) (v_rowMany : Int32) (v_thrown : Int32) (v_length : Int32) (v_top : Int32) (v_at : Int32) (v_wrong : Int32) (v_ruleSize : Int32) (v_isAsked : Int32) (v_now : Nat → Int32) (v_row : Nat → Int64) (v_rule : Nat → Int32) (v_asked : Nat → Int32) (r : Int32 × Int32 × Int32 × Int32 × Int32 × Int32 × Int32 × Int32 × (Nat → Int64) × (Nat → Int32)) (h : X11_boot v_people v_rowMany v_length v_top v_at v_wrong v_ruleSize v_isAsked v_now v_row v_rule v_asked = some r) : Ct l yX11_boot cX11_boot 5 (some .int) 109 2603 D cy [.ref q0] [oX11 q0 (.ref q1) (.int v_people) u0_2 u0_3 (.ref q2) (.int v_rowMany) (.int v_thrown) u0_7 (.int v_length) (.int v_top) (.int v_at) (.int v_wrong) u0_12 (.ref q3) u0_14 (.int v_ruleSize) (.int v_isAsked) (.ref q4) u0_18 u0_19 u0_20 u0_21 u0_22 u0_23 u0_24 u0_25 u0_26 u0_27 u0_28 u0_29 u0_30 u0_31 u0_32 u0_33 u0_34 u0_35 u0_36 u0_37 u0_38 u0_39 u0_40, aI cy q1 37 v_now, aJ cy q2 16 v_row, aB cy q3 40 v_rule, aI cy q4 7 v_asked] (fun rv => [oX11 q0 (.ref q1) (.int v_people) u0_2 u0_3 (.ref q2) (.int r.2.1) (.int r.2.2.1) rv (.int r.2.2.2.1) (.int r.2.2.2.2.1) (.int r.2.2.2.2.2.1) (.int r.2.2.2.2.2.2.1) u0_12 (.ref q3) u0_14 (.int v_ruleSize) (.int r.2.2.2.2.2.2.2.1) (.ref q4) u0_18 u0_19 u0_20 u0_21 u0_22 u0_23 u0_24 u0_25 u0_26 u0_27 u0_28 u0_29 u0_30 u0_31 u0_32 u0_33 u0_34 u0_35 u0_36 u0_37 u0_38 u0_39 u0_40, aI cy q1 37 v_now, aJ cy q2 16 r.2.2.2.2.2.2.2.2.1, aB cy q3 40 v_rule, aI cy q4 7 r.2.2.2.2.2.2.2.2.2]) (some (.int r.1)) := by
  refine Ct.mk kX11_boot (by decide +kernel) (Nat.le_of_ble_eq_true rfl) ?_
  intro p e s m below meth c A ls args R Q hRf hRl hQ E H locs hS hl
  have hx := E.x
  have hb := E.b
  have hl : lv_has ls 5 [(0, .ref q0)] := hl
  unfold X11_boot at h
  refine lv_aload_n hx hb dX11_boot_0 rfl (lv_at hl 0 rfl) ?_
  refine lv_iconst (v := 0) hx hb dX11_boot_1 (by decide) ?_
  refine r_put (ws' := [oX11 q0 (.ref q1) (.int v_people) u0_2 u0_3 (.ref q2) (.int v_rowMany) (.int (0 : Int32)) u0_7 (.int v_length) (.int v_top) (.int v_at) (.int v_wrong) u0_12 (.ref q3) u0_14 (.int v_ruleSize) (.int v_isAsked) (.ref q4) u0_18 u0_19 u0_20 u0_21 u0_22 u0_23 u0_24 u0_25 u0_26 u0_27 u0_28 u0_29 u0_30 u0_31 u0_32 u0_33 u0_34 u0_35 u0_36 u0_37 u0_38 u0_39 u0_40, aI cy q1 37 v_now, aJ cy q2 16 v_row, aB cy q3 40 v_rule, aI cy q4 7 v_asked]) E frX11_85 hS 0 rfl (Nat.le_of_ble_eq_true rfl) rfl rfl rfl rfl dX11_boot_2 (fun H locs hS => ?_)
  refine lv_aload_n hx hb dX11_boot_5 rfl (lv_at hl 0 rfl) ?_
  refine lv_aload_n hx hb dX11_boot_6 rfl (lv_at hl 0 rfl) ?_
  refine r_get E frX11_9 hS 0 rfl rfl dX11_boot_7 ?_
  obtain ⟨y10, e1, h⟩ := bd_some h
  refine ct_V (ws' := fun rc2 => [oX11 q0 (.ref q1) (.int v_people) u0_2 u0_3 (.ref q2) (.int v_rowMany) (.int (0 : Int32)) rc2 (.int y10.2.1) (.int y10.2.2.1) (.int y10.2.2.2.1) (.int y10.2.2.2.2.1) u0_12 (.ref q3) u0_14 (.int v_ruleSize) (.int y10.2.2.2.2.2.1) (.ref q4) u0_18 u0_19 u0_20 u0_21 u0_22 u0_23 u0_24 u0_25 u0_26 u0_27 u0_28 u0_29 u0_30 u0_31 u0_32 u0_33 u0_34 u0_35 u0_36 u0_37 u0_38 u0_39 u0_40, aI cy q1 37 v_now, aJ cy q2 16 v_row, aB cy q3 40 v_rule, aI cy q4 7 y10.2.2.2.2.2.2]) (st' := [.int y10.1]) (rest := []) E hS vlX11_239 (c_X11_awake (l := l) (D := D) (cy := cy) (q0 := q0) (q1 := q3) (q2 := q4) (q3 := q1) (u0_0 := .ref q1) (u0_2 := u0_2) (u0_3 := u0_3) (u0_4 := .ref q2) (u0_5 := .int v_rowMany) (u0_6 := .int (0 : Int32)) (u0_7 := u0_7) (u0_12 := u0_12) (u0_14 := u0_14) (u0_18 := u0_18) (u0_19 := u0_19) (u0_20 := u0_20) (u0_21 := u0_21) (u0_22 := u0_22) (u0_23 := u0_23) (u0_24 := u0_24) (u0_25 := u0_25) (u0_26 := u0_26) (u0_27 := u0_27) (u0_28 := u0_28) (u0_29 := u0_29) (u0_30 := u0_30) (u0_31 := u0_31) (u0_32 := u0_32) (u0_33 := u0_33) (u0_34 := u0_34) (u0_35 := u0_35) (u0_36 := u0_36) (u0_37 := u0_37) (u0_38 := u0_38) (u0_39 := u0_39) (u0_40 := u0_40) (v_people := v_people) (v_length := v_length) (v_top := v_top) (v_at := v_at) (v_wrong := v_wrong) (v_ruleSize := v_ruleSize) (v_isAsked := v_isAsked) (v_rule := v_rule) (v_asked := v_asked) (nw1_ := 37) (w1_ := v_now) (r := y10) e1) [0, 3, 4, 1] rfl rfl (fun _ => rfl) (fun _ => rfl) rfl rfl rfl rfl (Nat.le_of_ble_eq_true rfl) hl.1 (by rw [hRf]; exact Nat.le_of_ble_eq_true rfl) (by rw [hRl]; exact Nat.le_of_ble_eq_true rfl) ⟨Nat.zero_le _, Nat.zero_le _⟩ dX11_boot_10 rfl (fun H locs rc2 hS => ?_)
  refine lv_istore_n (lv' := [(1, .int y10.1), (0, .ref q0)]) hx hb dX11_boot_13 rfl hl (by decide) rfl (fun ls hl => ?_)
  refine lv_aload_n hx hb dX11_boot_14 rfl (lv_at hl 1 rfl) ?_
  obtain ⟨y15, e3, h⟩ := bd_some h
  refine ct_V (ws' := fun _ => [oX11 q0 (.ref q1) (.int v_people) u0_2 u0_3 (.ref q2) (.int v_rowMany) (.int (0 : Int32)) rc2 (.int y10.2.1) (.int y10.2.2.1) (.int y10.2.2.2.1) (.int y10.2.2.2.2.1) u0_12 (.ref q3) u0_14 (.int v_ruleSize) (.int y10.2.2.2.2.2.1) (.ref q4) u0_18 u0_19 u0_20 u0_21 u0_22 u0_23 u0_24 u0_25 u0_26 u0_27 u0_28 u0_29 u0_30 u0_31 u0_32 u0_33 u0_34 u0_35 u0_36 u0_37 u0_38 u0_39 u0_40, aI cy q1 37 v_now, aJ cy q2 16 v_row, aB cy q3 40 v_rule, aI cy q4 7 y10.2.2.2.2.2.2]) (st' := [.int y15]) (rest := []) E hS vlX11_288 (c_X11_wanting (l := l) (D := D) (cy := cy) (q0 := q0) (q1 := q1) (u0_2 := u0_2) (u0_3 := u0_3) (u0_4 := .ref q2) (u0_5 := .int v_rowMany) (u0_6 := .int (0 : Int32)) (u0_7 := rc2) (u0_8 := .int y10.2.1) (u0_9 := .int y10.2.2.1) (u0_10 := .int y10.2.2.2.1) (u0_11 := .int y10.2.2.2.2.1) (u0_12 := u0_12) (u0_13 := .ref q3) (u0_14 := u0_14) (u0_15 := .int v_ruleSize) (u0_16 := .int y10.2.2.2.2.2.1) (u0_17 := .ref q4) (u0_18 := u0_18) (u0_19 := u0_19) (u0_20 := u0_20) (u0_21 := u0_21) (u0_22 := u0_22) (u0_23 := u0_23) (u0_24 := u0_24) (u0_25 := u0_25) (u0_26 := u0_26) (u0_27 := u0_27) (u0_28 := u0_28) (u0_29 := u0_29) (u0_30 := u0_30) (u0_31 := u0_31) (u0_32 := u0_32) (u0_33 := u0_33) (u0_34 := u0_34) (u0_35 := u0_35) (u0_36 := u0_36) (u0_37 := u0_37) (u0_38 := u0_38) (u0_39 := u0_39) (u0_40 := u0_40) (v_people := v_people) (v_now := v_now) (r := y15) e3) [0, 1] rfl rfl (fun _ => rfl) (fun _ => rfl) rfl rfl rfl rfl (Nat.le_of_ble_eq_true rfl) hl.1 (by rw [hRf]; exact Nat.le_of_ble_eq_true rfl) (by rw [hRl]; exact Nat.le_of_ble_eq_true rfl) ⟨Nat.zero_le _, Nat.zero_le _⟩ dX11_boot_15 rfl (fun H locs _ hS => ?_)
  refine lv_istore_n (lv' := [(2, .int y15), (1, .int y10.1), (0, .ref q0)]) hx hb dX11_boot_18 rfl hl (by decide) rfl (fun ls hl => ?_)
  refine lv_iconst (v := -1) hx hb dX11_boot_19 (by decide) ?_
  refine lv_istore_n (lv' := [(3, .int (-1 : Int32)), (2, .int y15), (1, .int y10.1), (0, .ref q0)]) hx hb dX11_boot_20 rfl hl (by decide) rfl (fun ls hl => ?_)
  refine lv_iconst (v := 1) hx hb dX11_boot_21 (by decide) ?_
  refine lv_istore (lv' := [(4, .int (1 : Int32)), (3, .int (-1 : Int32)), (2, .int y15), (1, .int y10.1), (0, .ref q0)]) hx hb dX11_boot_22 hl (by decide) rfl (fun ls hl => ?_)
  have hL24 : ∀ (n : Nat) (x24_0 : Int32) (x24_1 : Int32) (y24 : Int32) (H : Heap) (locs : List Loc) (ls : Array Slot), lp (fun x24 => X11_boot_s24 v_people v_now y10 y15 x24.1 x24.2) n (x24_0, x24_1) = some y24 → Sv D A s.heap [oX11 q0 (.ref q1) (.int v_people) u0_2 u0_3 (.ref q2) (.int v_rowMany) (.int (0 : Int32)) rc2 (.int y10.2.1) (.int y10.2.2.1) (.int y10.2.2.2.1) (.int y10.2.2.2.2.1) u0_12 (.ref q3) u0_14 (.int v_ruleSize) (.int y10.2.2.2.2.2.1) (.ref q4) u0_18 u0_19 u0_20 u0_21 u0_22 u0_23 u0_24 u0_25 u0_26 u0_27 u0_28 u0_29 u0_30 u0_31 u0_32 u0_33 u0_34 u0_35 u0_36 u0_37 u0_38 u0_39 u0_40, aI cy q1 37 v_now, aJ cy q2 16 v_row, aB cy q3 40 v_rule, aI cy q4 7 y10.2.2.2.2.2.2] H locs → lv_has ls 5 [(0, .ref q0), (1, .int y10.1), (2, .int y15), (3, .int x24_0), (4, .int x24_1)] → ( ∀ (y24_0 : Int32), y24_0 = y24 → ∀ (H : Heap) (locs : List Loc) (ls : Array Slot), Sv D A s.heap [oX11 q0 (.ref q1) (.int v_people) u0_2 u0_3 (.ref q2) (.int v_rowMany) (.int (0 : Int32)) rc2 (.int y10.2.1) (.int y10.2.2.1) (.int y10.2.2.2.1) (.int y10.2.2.2.2.1) u0_12 (.ref q3) u0_14 (.int v_ruleSize) (.int y10.2.2.2.2.2.1) (.ref q4) u0_18 u0_19 u0_20 u0_21 u0_22 u0_23 u0_24 u0_25 u0_26 u0_27 u0_28 u0_29 u0_30 u0_31 u0_32 u0_33 u0_34 u0_35 u0_36 u0_37 u0_38 u0_39 u0_40, aI cy q1 37 v_now, aJ cy q2 16 v_row, aB cy q3 40 v_rule, aI cy q4 7 y10.2.2.2.2.2.2] H locs → lv_has ls 5 [(0, .ref q0), (1, .int y10.1), (3, .int y24_0)] → W p l e R s m args below meth c H locs 0 0 Q (F0 m 87 ls [])) → W p l e R s m args below meth c H locs 0 0 Q (F0 m 24 ls []) := by
    intro n
    induction n with
    | zero =>
      intro x24_0 x24_1 y24 H locs ls h
      exact lp_zero h
    | succ n ih24 =>
      intro x24_0 x24_1 y24 H locs ls h hS hl hk24_0
      obtain ⟨z24, h, hz24a, hz24b⟩ := lp_succ h
      have h : X11_boot_s24 v_people v_now y10 y15 x24_0 x24_1 = some z24 := h
      unfold X11_boot_s24 at h
      refine lv_iload hx hb dX11_boot_24 (lv_at hl 4 rfl) ?_
      refine lv_iload_n hx hb dX11_boot_26 rfl (lv_at hl 2 rfl) ?_
      refine lv_icmp_gt (tgt := 87) hx hb dX11_boot_27 (by decide) (fun c4 => ?_) (fun c4 => ?_)
      · have h := it_pos c4 h
        exact hk24_0 x24_0 (hz24b _ (Option.some.inj h).symm)  H locs ls hS (lv_sub hl [0, 1, 3] rfl)
      · have h := it_neg c4 h
        refine lv_iload hx hb dX11_boot_30 (lv_at hl 4 rfl) ?_
        refine lv_iload_n hx hb dX11_boot_32 rfl (lv_at hl 2 rfl) ?_
        refine lv_iconst (v := -1) hx hb dX11_boot_33 (by decide) ?_
        refine lv_ixor hx hb dX11_boot_34 ?_
        refine lv_iand hx hb dX11_boot_35 ?_
        refine lv_if_ne (tgt := 81) hx hb dX11_boot_36 (by decide) (fun c5 => ?_) (fun c5 => ?_)
        · have h := it_neg c5 h
          refine lv_iinc (v := (x24_1 + (1 : Int32))) (lv' := [(4, .int (x24_1 + (1 : Int32))), (0, .ref q0), (1, .int y10.1), (2, .int y15), (3, .int x24_0)]) hx hb dX11_boot_81 hl (k := 4) rfl rfl (by decide) rfl (fun ls hl => ?_)
          refine lv_goto (tgt := 24) hx hb dX11_boot_84 (by decide) ?_
          exact ih24 x24_0 (x24_1 + (1 : Int32)) y24  H locs ls (hz24a _ (Option.some.inj h).symm) hS (lv_sub hl [1, 2, 3, 4, 0] rfl) hk24_0
        · have h := it_pos c5 h
          refine lv_aload_n hx hb dX11_boot_39 rfl (lv_at hl 0 rfl) ?_
          refine lv_iload hx hb dX11_boot_40 (lv_at hl 4 rfl) ?_
          obtain ⟨y42, e6, h⟩ := bd_some h
          refine ct_V (ws' := fun _ => [oX11 q0 (.ref q1) (.int v_people) u0_2 u0_3 (.ref q2) (.int v_rowMany) (.int (0 : Int32)) rc2 (.int y10.2.1) (.int y10.2.2.1) (.int y10.2.2.2.1) (.int y10.2.2.2.2.1) u0_12 (.ref q3) u0_14 (.int v_ruleSize) (.int y10.2.2.2.2.2.1) (.ref q4) u0_18 u0_19 u0_20 u0_21 u0_22 u0_23 u0_24 u0_25 u0_26 u0_27 u0_28 u0_29 u0_30 u0_31 u0_32 u0_33 u0_34 u0_35 u0_36 u0_37 u0_38 u0_39 u0_40, aI cy q1 37 v_now, aJ cy q2 16 v_row, aB cy q3 40 v_rule, aI cy q4 7 y10.2.2.2.2.2.2]) (st' := [.int y42]) (rest := []) E hS vlX11_291 (c_X11_wantsOfAll (l := l) (D := D) (cy := cy) (q0 := q0) (q1 := q1) (u0_2 := u0_2) (u0_3 := u0_3) (u0_4 := .ref q2) (u0_5 := .int v_rowMany) (u0_6 := .int (0 : Int32)) (u0_7 := rc2) (u0_8 := .int y10.2.1) (u0_9 := .int y10.2.2.1) (u0_10 := .int y10.2.2.2.1) (u0_11 := .int y10.2.2.2.2.1) (u0_12 := u0_12) (u0_13 := .ref q3) (u0_14 := u0_14) (u0_15 := .int v_ruleSize) (u0_16 := .int y10.2.2.2.2.2.1) (u0_17 := .ref q4) (u0_18 := u0_18) (u0_19 := u0_19) (u0_20 := u0_20) (u0_21 := u0_21) (u0_22 := u0_22) (u0_23 := u0_23) (u0_24 := u0_24) (u0_25 := u0_25) (u0_26 := u0_26) (u0_27 := u0_27) (u0_28 := u0_28) (u0_29 := u0_29) (u0_30 := u0_30) (u0_31 := u0_31) (u0_32 := u0_32) (u0_33 := u0_33) (u0_34 := u0_34) (u0_35 := u0_35) (u0_36 := u0_36) (u0_37 := u0_37) (u0_38 := u0_38) (u0_39 := u0_39) (u0_40 := u0_40) (v_people := v_people) (v_now := v_now) (p1 := x24_1) (r := y42) e6) [0, 1] rfl rfl (fun _ => rfl) (fun _ => rfl) rfl rfl rfl rfl (Nat.le_of_ble_eq_true rfl) hl.1 (by rw [hRf]; exact Nat.le_of_ble_eq_true rfl) (by rw [hRl]; exact Nat.le_of_ble_eq_true rfl) ⟨Nat.zero_le _, Nat.zero_le _⟩ dX11_boot_42 rfl (fun H locs _ hS => ?_)
          refine lv_iload_n hx hb dX11_boot_45 rfl (lv_at hl 1 rfl) ?_
          refine lv_iand hx hb dX11_boot_46 ?_
          refine ct_S (ws' := fun _ => [oX11 q0 (.ref q1) (.int v_people) u0_2 u0_3 (.ref q2) (.int v_rowMany) (.int (0 : Int32)) rc2 (.int y10.2.1) (.int y10.2.2.1) (.int y10.2.2.2.1) (.int y10.2.2.2.2.1) u0_12 (.ref q3) u0_14 (.int v_ruleSize) (.int y10.2.2.2.2.2.1) (.ref q4) u0_18 u0_19 u0_20 u0_21 u0_22 u0_23 u0_24 u0_25 u0_26 u0_27 u0_28 u0_29 u0_30 u0_31 u0_32 u0_33 u0_34 u0_35 u0_36 u0_37 u0_38 u0_39 u0_40, aI cy q1 37 v_now, aJ cy q2 16 v_row, aB cy q3 40 v_rule, aI cy q4 7 y10.2.2.2.2.2.2]) (st' := [.int (J6_bitCount_0f7a4 (y42 &&& y10.1))]) (rest := []) E hS slX11_204 (c_J6_bitCount_0f7a4 (l := l) (D := D) (cy := cy) (p0 := (y42 &&& y10.1)) (r := (J6_bitCount_0f7a4 (y42 &&& y10.1))) rfl) [] rfl rfl (fun _ => rfl) (fun _ => rfl) rfl rfl (Nat.le_of_ble_eq_true rfl) hl.1 (by rw [hRf]; exact Nat.le_of_ble_eq_true rfl) (by rw [hRl]; exact Nat.le_of_ble_eq_true rfl) ⟨Nat.zero_le _, Nat.zero_le _⟩ dX11_boot_47 rfl (fun H locs _ hS => ?_)
          refine lv_iload hx hb dX11_boot_50 (lv_at hl 4 rfl) ?_
          refine ct_S (ws' := fun _ => [oX11 q0 (.ref q1) (.int v_people) u0_2 u0_3 (.ref q2) (.int v_rowMany) (.int (0 : Int32)) rc2 (.int y10.2.1) (.int y10.2.2.1) (.int y10.2.2.2.1) (.int y10.2.2.2.2.1) u0_12 (.ref q3) u0_14 (.int v_ruleSize) (.int y10.2.2.2.2.2.1) (.ref q4) u0_18 u0_19 u0_20 u0_21 u0_22 u0_23 u0_24 u0_25 u0_26 u0_27 u0_28 u0_29 u0_30 u0_31 u0_32 u0_33 u0_34 u0_35 u0_36 u0_37 u0_38 u0_39 u0_40, aI cy q1 37 v_now, aJ cy q2 16 v_row, aB cy q3 40 v_rule, aI cy q4 7 y10.2.2.2.2.2.2]) (st' := [.int (J6_bitCount_0f7a4 x24_1), .int (J6_bitCount_0f7a4 (y42 &&& y10.1))]) (rest := [.int (J6_bitCount_0f7a4 (y42 &&& y10.1))]) E hS slX11_204 (c_J6_bitCount_0f7a4 (l := l) (D := D) (cy := cy) (p0 := x24_1) (r := (J6_bitCount_0f7a4 x24_1)) rfl) [] rfl rfl (fun _ => rfl) (fun _ => rfl) rfl rfl (Nat.le_of_ble_eq_true rfl) hl.1 (by rw [hRf]; exact Nat.le_of_ble_eq_true rfl) (by rw [hRl]; exact Nat.le_of_ble_eq_true rfl) ⟨Nat.zero_le _, Nat.zero_le _⟩ dX11_boot_52 rfl (fun H locs _ hS => ?_)
          refine lv_icmp_lt (tgt := 61) hx hb dX11_boot_55 (by decide) (fun c7 => ?_) (fun c7 => ?_)
          · have h := it_pos c7 h
            refine lv_iload_n hx hb dX11_boot_61 rfl (lv_at hl 3 rfl) ?_
            refine lv_iconst (v := -1) hx hb dX11_boot_62 (by decide) ?_
            refine lv_icmp_eq (tgt := 78) hx hb dX11_boot_63 (by decide) (fun c8 => ?_) (fun c8 => ?_)
            · have h := it_pos c8 h
              refine lv_iload hx hb dX11_boot_78 (lv_at hl 4 rfl) ?_
              refine lv_istore_n (lv' := [(3, .int x24_1), (0, .ref q0), (1, .int y10.1), (2, .int y15), (4, .int x24_1)]) hx hb dX11_boot_80 rfl hl (by decide) rfl (fun ls hl => ?_)
              refine lv_iinc (v := (x24_1 + (1 : Int32))) (lv' := [(4, .int (x24_1 + (1 : Int32))), (3, .int x24_1), (0, .ref q0), (1, .int y10.1), (2, .int y15)]) hx hb dX11_boot_81 hl (k := 4) rfl rfl (by decide) rfl (fun ls hl => ?_)
              refine lv_goto (tgt := 24) hx hb dX11_boot_84 (by decide) ?_
              exact ih24 x24_1 (x24_1 + (1 : Int32)) y24  H locs ls (hz24a _ (Option.some.inj h).symm) hS (lv_sub hl [2, 3, 4, 1, 0] rfl) hk24_0
            · have h := it_neg c8 h
              refine lv_iload hx hb dX11_boot_66 (lv_at hl 4 rfl) ?_
              refine ct_S (ws' := fun _ => [oX11 q0 (.ref q1) (.int v_people) u0_2 u0_3 (.ref q2) (.int v_rowMany) (.int (0 : Int32)) rc2 (.int y10.2.1) (.int y10.2.2.1) (.int y10.2.2.2.1) (.int y10.2.2.2.2.1) u0_12 (.ref q3) u0_14 (.int v_ruleSize) (.int y10.2.2.2.2.2.1) (.ref q4) u0_18 u0_19 u0_20 u0_21 u0_22 u0_23 u0_24 u0_25 u0_26 u0_27 u0_28 u0_29 u0_30 u0_31 u0_32 u0_33 u0_34 u0_35 u0_36 u0_37 u0_38 u0_39 u0_40, aI cy q1 37 v_now, aJ cy q2 16 v_row, aB cy q3 40 v_rule, aI cy q4 7 y10.2.2.2.2.2.2]) (st' := [.int (J6_bitCount_0f7a4 x24_1)]) (rest := []) E hS slX11_204 (c_J6_bitCount_0f7a4 (l := l) (D := D) (cy := cy) (p0 := x24_1) (r := (J6_bitCount_0f7a4 x24_1)) rfl) [] rfl rfl (fun _ => rfl) (fun _ => rfl) rfl rfl (Nat.le_of_ble_eq_true rfl) hl.1 (by rw [hRf]; exact Nat.le_of_ble_eq_true rfl) (by rw [hRl]; exact Nat.le_of_ble_eq_true rfl) ⟨Nat.zero_le _, Nat.zero_le _⟩ dX11_boot_68 rfl (fun H locs _ hS => ?_)
              refine lv_iload_n hx hb dX11_boot_71 rfl (lv_at hl 3 rfl) ?_
              refine ct_S (ws' := fun _ => [oX11 q0 (.ref q1) (.int v_people) u0_2 u0_3 (.ref q2) (.int v_rowMany) (.int (0 : Int32)) rc2 (.int y10.2.1) (.int y10.2.2.1) (.int y10.2.2.2.1) (.int y10.2.2.2.2.1) u0_12 (.ref q3) u0_14 (.int v_ruleSize) (.int y10.2.2.2.2.2.1) (.ref q4) u0_18 u0_19 u0_20 u0_21 u0_22 u0_23 u0_24 u0_25 u0_26 u0_27 u0_28 u0_29 u0_30 u0_31 u0_32 u0_33 u0_34 u0_35 u0_36 u0_37 u0_38 u0_39 u0_40, aI cy q1 37 v_now, aJ cy q2 16 v_row, aB cy q3 40 v_rule, aI cy q4 7 y10.2.2.2.2.2.2]) (st' := [.int (J6_bitCount_0f7a4 x24_0), .int (J6_bitCount_0f7a4 x24_1)]) (rest := [.int (J6_bitCount_0f7a4 x24_1)]) E hS slX11_204 (c_J6_bitCount_0f7a4 (l := l) (D := D) (cy := cy) (p0 := x24_0) (r := (J6_bitCount_0f7a4 x24_0)) rfl) [] rfl rfl (fun _ => rfl) (fun _ => rfl) rfl rfl (Nat.le_of_ble_eq_true rfl) hl.1 (by rw [hRf]; exact Nat.le_of_ble_eq_true rfl) (by rw [hRl]; exact Nat.le_of_ble_eq_true rfl) ⟨Nat.zero_le _, Nat.zero_le _⟩ dX11_boot_72 rfl (fun H locs _ hS => ?_)
              refine lv_icmp_ge (tgt := 81) hx hb dX11_boot_75 (by decide) (fun c9 => ?_) (fun c9 => ?_)
              · have h := it_pos c9 h
                refine lv_iinc (v := (x24_1 + (1 : Int32))) (lv' := [(4, .int (x24_1 + (1 : Int32))), (0, .ref q0), (1, .int y10.1), (2, .int y15), (3, .int x24_0)]) hx hb dX11_boot_81 hl (k := 4) rfl rfl (by decide) rfl (fun ls hl => ?_)
                refine lv_goto (tgt := 24) hx hb dX11_boot_84 (by decide) ?_
                exact ih24 x24_0 (x24_1 + (1 : Int32)) y24  H locs ls (hz24a _ (Option.some.inj h).symm) hS (lv_sub hl [1, 2, 3, 4, 0] rfl) hk24_0
              · have h := it_neg c9 h
                refine lv_iload hx hb dX11_boot_78 (lv_at hl 4 rfl) ?_
                refine lv_istore_n (lv' := [(3, .int x24_1), (0, .ref q0), (1, .int y10.1), (2, .int y15), (4, .int x24_1)]) hx hb dX11_boot_80 rfl hl (by decide) rfl (fun ls hl => ?_)
                refine lv_iinc (v := (x24_1 + (1 : Int32))) (lv' := [(4, .int (x24_1 + (1 : Int32))), (3, .int x24_1), (0, .ref q0), (1, .int y10.1), (2, .int y15)]) hx hb dX11_boot_81 hl (k := 4) rfl rfl (by decide) rfl (fun ls hl => ?_)
                refine lv_goto (tgt := 24) hx hb dX11_boot_84 (by decide) ?_
                exact ih24 x24_1 (x24_1 + (1 : Int32)) y24  H locs ls (hz24a _ (Option.some.inj h).symm) hS (lv_sub hl [2, 3, 4, 1, 0] rfl) hk24_0
          · have h := it_neg c7 h
            refine lv_goto (tgt := 81) hx hb dX11_boot_58 (by decide) ?_
            refine lv_iinc (v := (x24_1 + (1 : Int32))) (lv' := [(4, .int (x24_1 + (1 : Int32))), (0, .ref q0), (1, .int y10.1), (2, .int y15), (3, .int x24_0)]) hx hb dX11_boot_81 hl (k := 4) rfl rfl (by decide) rfl (fun ls hl => ?_)
            refine lv_goto (tgt := 24) hx hb dX11_boot_84 (by decide) ?_
            exact ih24 x24_0 (x24_1 + (1 : Int32)) y24  H locs ls (hz24a _ (Option.some.inj h).symm) hS (lv_sub hl [1, 2, 3, 4, 0] rfl) hk24_0
  obtain ⟨y24, e24, h⟩ := bd_some h
  refine hL24 1000 (-1 : Int32) (1 : Int32) y24  H locs ls e24 hS (lv_sub hl [4, 3, 2, 1, 0] rfl) (fun y24_0 ey24 H locs ls hS hl => ?_)
  subst ey24
  refine lv_iload_n hx hb dX11_boot_87 rfl (lv_at hl 2 rfl) ?_
  refine lv_iconst (v := -1) hx hb dX11_boot_88 (by decide) ?_
  refine lv_icmp_ne (tgt := 95) hx hb dX11_boot_89 (by decide) (fun c10 => ?_) (fun c10 => ?_)
  · have h := it_neg c10 h
    refine lv_aload_n hx hb dX11_boot_95 rfl (lv_at hl 0 rfl) ?_
    refine lv_iconst (v := 0) hx hb dX11_boot_96 (by decide) ?_
    refine r_put (ws' := [oX11 q0 (.ref q1) (.int v_people) u0_2 u0_3 (.ref q2) (.int (0 : Int32)) (.int (0 : Int32)) rc2 (.int y10.2.1) (.int y10.2.2.1) (.int y10.2.2.2.1) (.int y10.2.2.2.2.1) u0_12 (.ref q3) u0_14 (.int v_ruleSize) (.int y10.2.2.2.2.2.1) (.ref q4) u0_18 u0_19 u0_20 u0_21 u0_22 u0_23 u0_24 u0_25 u0_26 u0_27 u0_28 u0_29 u0_30 u0_31 u0_32 u0_33 u0_34 u0_35 u0_36 u0_37 u0_38 u0_39 u0_40, aI cy q1 37 v_now, aJ cy q2 16 v_row, aB cy q3 40 v_rule, aI cy q4 7 y10.2.2.2.2.2.2]) E frX11_89 hS 0 rfl (Nat.le_of_ble_eq_true rfl) rfl rfl rfl rfl dX11_boot_97 (fun H locs hS => ?_)
    refine lv_aload_n hx hb dX11_boot_100 rfl (lv_at hl 0 rfl) ?_
    refine lv_iload_n hx hb dX11_boot_101 rfl (lv_at hl 2 rfl) ?_
    refine lv_i2l (v := (y24_0.toInt64)) hx hb dX11_boot_102 rfl ?_
    obtain ⟨y103, e11, h⟩ := bd_some h
    refine ct_V (ws' := fun _ => [oX11 q0 (.ref q1) (.int v_people) u0_2 u0_3 (.ref q2) (.int y103.1) (.int (0 : Int32)) rc2 (.int y10.2.1) (.int y10.2.2.1) (.int y10.2.2.2.1) (.int y10.2.2.2.2.1) u0_12 (.ref q3) u0_14 (.int v_ruleSize) (.int y10.2.2.2.2.2.1) (.ref q4) u0_18 u0_19 u0_20 u0_21 u0_22 u0_23 u0_24 u0_25 u0_26 u0_27 u0_28 u0_29 u0_30 u0_31 u0_32 u0_33 u0_34 u0_35 u0_36 u0_37 u0_38 u0_39 u0_40, aI cy q1 37 v_now, aJ cy q2 16 y103.2, aB cy q3 40 v_rule, aI cy q4 7 y10.2.2.2.2.2.2]) (st' := []) (rest := []) E hS vlX11_256 (c_X11_tell (l := l) (D := D) (cy := cy) (q0 := q0) (q1 := q2) (u0_0 := .ref q1) (u0_1 := .int v_people) (u0_2 := u0_2) (u0_3 := u0_3) (u0_6 := .int (0 : Int32)) (u0_7 := rc2) (u0_8 := .int y10.2.1) (u0_9 := .int y10.2.2.1) (u0_10 := .int y10.2.2.2.1) (u0_11 := .int y10.2.2.2.2.1) (u0_12 := u0_12) (u0_13 := .ref q3) (u0_14 := u0_14) (u0_15 := .int v_ruleSize) (u0_16 := .int y10.2.2.2.2.2.1) (u0_17 := .ref q4) (u0_18 := u0_18) (u0_19 := u0_19) (u0_20 := u0_20) (u0_21 := u0_21) (u0_22 := u0_22) (u0_23 := u0_23) (u0_24 := u0_24) (u0_25 := u0_25) (u0_26 := u0_26) (u0_27 := u0_27) (u0_28 := u0_28) (u0_29 := u0_29) (u0_30 := u0_30) (u0_31 := u0_31) (u0_32 := u0_32) (u0_33 := u0_33) (u0_34 := u0_34) (u0_35 := u0_35) (u0_36 := u0_36) (u0_37 := u0_37) (u0_38 := u0_38) (u0_39 := u0_39) (u0_40 := u0_40) (v_rowMany := (0 : Int32)) (v_row := v_row) (p1 := (y24_0.toInt64)) (r := y103) e11) [0, 2] rfl rfl (fun _ => rfl) (fun _ => rfl) rfl rfl rfl rfl (Nat.le_of_ble_eq_true rfl) hl.1 (by rw [hRf]; exact Nat.le_of_ble_eq_true rfl) (by rw [hRl]; exact Nat.le_of_ble_eq_true rfl) ⟨Nat.zero_le _, Nat.zero_le _⟩ dX11_boot_103 rfl (fun H locs _ hS => ?_)
    refine lv_aload_n hx hb dX11_boot_106 rfl (lv_at hl 0 rfl) ?_
    refine lv_aload_n hx hb dX11_boot_107 rfl (lv_at hl 0 rfl) ?_
    refine lv_iload_n hx hb dX11_boot_108 rfl (lv_at hl 2 rfl) ?_
    obtain ⟨y109, e12, h⟩ := bd_some h
    refine ct_V (ws' := fun _ => [oX11 q0 (.ref q1) (.int v_people) u0_2 u0_3 (.ref q2) (.int y103.1) (.int (0 : Int32)) rc2 (.int y10.2.1) (.int y10.2.2.1) (.int y10.2.2.2.1) (.int y10.2.2.2.2.1) u0_12 (.ref q3) u0_14 (.int v_ruleSize) (.int y10.2.2.2.2.2.1) (.ref q4) u0_18 u0_19 u0_20 u0_21 u0_22 u0_23 u0_24 u0_25 u0_26 u0_27 u0_28 u0_29 u0_30 u0_31 u0_32 u0_33 u0_34 u0_35 u0_36 u0_37 u0_38 u0_39 u0_40, aI cy q1 37 v_now, aJ cy q2 16 y103.2, aB cy q3 40 v_rule, aI cy q4 7 y10.2.2.2.2.2.2]) (st' := [.int y109, .ref q0]) (rest := [.ref q0]) E hS vlX11_291 (c_X11_wantsOfAll (l := l) (D := D) (cy := cy) (q0 := q0) (q1 := q1) (u0_2 := u0_2) (u0_3 := u0_3) (u0_4 := .ref q2) (u0_5 := .int y103.1) (u0_6 := .int (0 : Int32)) (u0_7 := rc2) (u0_8 := .int y10.2.1) (u0_9 := .int y10.2.2.1) (u0_10 := .int y10.2.2.2.1) (u0_11 := .int y10.2.2.2.2.1) (u0_12 := u0_12) (u0_13 := .ref q3) (u0_14 := u0_14) (u0_15 := .int v_ruleSize) (u0_16 := .int y10.2.2.2.2.2.1) (u0_17 := .ref q4) (u0_18 := u0_18) (u0_19 := u0_19) (u0_20 := u0_20) (u0_21 := u0_21) (u0_22 := u0_22) (u0_23 := u0_23) (u0_24 := u0_24) (u0_25 := u0_25) (u0_26 := u0_26) (u0_27 := u0_27) (u0_28 := u0_28) (u0_29 := u0_29) (u0_30 := u0_30) (u0_31 := u0_31) (u0_32 := u0_32) (u0_33 := u0_33) (u0_34 := u0_34) (u0_35 := u0_35) (u0_36 := u0_36) (u0_37 := u0_37) (u0_38 := u0_38) (u0_39 := u0_39) (u0_40 := u0_40) (v_people := v_people) (v_now := v_now) (p1 := y24_0) (r := y109) e12) [0, 1] rfl rfl (fun _ => rfl) (fun _ => rfl) rfl rfl rfl rfl (Nat.le_of_ble_eq_true rfl) hl.1 (by rw [hRf]; exact Nat.le_of_ble_eq_true rfl) (by rw [hRl]; exact Nat.le_of_ble_eq_true rfl) ⟨Nat.zero_le _, Nat.zero_le _⟩ dX11_boot_109 rfl (fun H locs _ hS => ?_)
    refine lv_iload_n hx hb dX11_boot_112 rfl (lv_at hl 1 rfl) ?_
    refine lv_iand hx hb dX11_boot_113 ?_
    refine lv_i2l (v := ((y109 &&& y10.1).toInt64)) hx hb dX11_boot_114 rfl ?_
    obtain ⟨y115, e13, h⟩ := bd_some h
    refine ct_V (ws' := fun _ => [oX11 q0 (.ref q1) (.int v_people) u0_2 u0_3 (.ref q2) (.int y115.1) (.int (0 : Int32)) rc2 (.int y10.2.1) (.int y10.2.2.1) (.int y10.2.2.2.1) (.int y10.2.2.2.2.1) u0_12 (.ref q3) u0_14 (.int v_ruleSize) (.int y10.2.2.2.2.2.1) (.ref q4) u0_18 u0_19 u0_20 u0_21 u0_22 u0_23 u0_24 u0_25 u0_26 u0_27 u0_28 u0_29 u0_30 u0_31 u0_32 u0_33 u0_34 u0_35 u0_36 u0_37 u0_38 u0_39 u0_40, aI cy q1 37 v_now, aJ cy q2 16 y115.2, aB cy q3 40 v_rule, aI cy q4 7 y10.2.2.2.2.2.2]) (st' := []) (rest := []) E hS vlX11_256 (c_X11_tell (l := l) (D := D) (cy := cy) (q0 := q0) (q1 := q2) (u0_0 := .ref q1) (u0_1 := .int v_people) (u0_2 := u0_2) (u0_3 := u0_3) (u0_6 := .int (0 : Int32)) (u0_7 := rc2) (u0_8 := .int y10.2.1) (u0_9 := .int y10.2.2.1) (u0_10 := .int y10.2.2.2.1) (u0_11 := .int y10.2.2.2.2.1) (u0_12 := u0_12) (u0_13 := .ref q3) (u0_14 := u0_14) (u0_15 := .int v_ruleSize) (u0_16 := .int y10.2.2.2.2.2.1) (u0_17 := .ref q4) (u0_18 := u0_18) (u0_19 := u0_19) (u0_20 := u0_20) (u0_21 := u0_21) (u0_22 := u0_22) (u0_23 := u0_23) (u0_24 := u0_24) (u0_25 := u0_25) (u0_26 := u0_26) (u0_27 := u0_27) (u0_28 := u0_28) (u0_29 := u0_29) (u0_30 := u0_30) (u0_31 := u0_31) (u0_32 := u0_32) (u0_33 := u0_33) (u0_34 := u0_34) (u0_35 := u0_35) (u0_36 := u0_36) (u0_37 := u0_37) (u0_38 := u0_38) (u0_39 := u0_39) (u0_40 := u0_40) (v_rowMany := y103.1) (v_row := y103.2) (p1 := ((y109 &&& y10.1).toInt64)) (r := y115) e13) [0, 2] rfl rfl (fun _ => rfl) (fun _ => rfl) rfl rfl rfl rfl (Nat.le_of_ble_eq_true rfl) hl.1 (by rw [hRf]; exact Nat.le_of_ble_eq_true rfl) (by rw [hRl]; exact Nat.le_of_ble_eq_true rfl) ⟨Nat.zero_le _, Nat.zero_le _⟩ dX11_boot_115 rfl (fun H locs _ hS => ?_)
    refine lv_iload_n hx hb dX11_boot_118 rfl (lv_at hl 2 rfl) ?_
    refine ct_S (ws' := fun _ => [oX11 q0 (.ref q1) (.int v_people) u0_2 u0_3 (.ref q2) (.int y115.1) (.int (0 : Int32)) rc2 (.int y10.2.1) (.int y10.2.2.1) (.int y10.2.2.2.1) (.int y10.2.2.2.2.1) u0_12 (.ref q3) u0_14 (.int v_ruleSize) (.int y10.2.2.2.2.2.1) (.ref q4) u0_18 u0_19 u0_20 u0_21 u0_22 u0_23 u0_24 u0_25 u0_26 u0_27 u0_28 u0_29 u0_30 u0_31 u0_32 u0_33 u0_34 u0_35 u0_36 u0_37 u0_38 u0_39 u0_40, aI cy q1 37 v_now, aJ cy q2 16 y115.2, aB cy q3 40 v_rule, aI cy q4 7 y10.2.2.2.2.2.2]) (st' := [.int (J6_bitCount_0f7a4 y24_0)]) (rest := []) E hS slX11_204 (c_J6_bitCount_0f7a4 (l := l) (D := D) (cy := cy) (p0 := y24_0) (r := (J6_bitCount_0f7a4 y24_0)) rfl) [] rfl rfl (fun _ => rfl) (fun _ => rfl) rfl rfl (Nat.le_of_ble_eq_true rfl) hl.1 (by rw [hRf]; exact Nat.le_of_ble_eq_true rfl) (by rw [hRl]; exact Nat.le_of_ble_eq_true rfl) ⟨Nat.zero_le _, Nat.zero_le _⟩ dX11_boot_119 rfl (fun H locs _ hS => ?_)
    obtain rfl := Option.some.inj h
    exact rt_i E hQ (rc2) hS dX11_boot_122
  · have h := it_pos c10 h
    refine lv_bipush (v := -2) hx hb dX11_boot_92 (by decide) ?_
    obtain rfl := Option.some.inj h
    exact rt_i E hQ (rc2) hS dX11_boot_94
set_option maxHeartbeats 4000000 in
set_option maxRecDepth 100000 in
theorem c_X11_areEnough {l : Launch} {D : va_G} {cy : Nat → ClassId} (q0 : Nat) (q1 : Nat) (u0_2 : Value) (u0_3 : Value) (u0_4 : Value) (u0_5 : Value) (u0_6 : Value) (u0_7 : Value) (u0_8 : Value) (u0_9 : Value) (u0_10 : Value) (u0_11 : Value) (u0_12 : Value) (u0_13 : Value) (u0_14 : Value) (u0_15 : Value) (u0_16 : Value) (u0_17 : Value) (u0_18 : Value) (u0_19 : Value) (u0_20 : Value) (u0_21 : Value) (u0_22 : Value) (u0_23 : Value) (u0_24 : Value) (u0_25 : Value) (u0_26 : Value) (u0_27 : Value) (u0_28 : Value) (u0_29 : Value) (u0_30 : Value) (u0_31 : Value) (u0_32 : Value) (u0_33 : Value) (u0_34 : Value) (u0_35 : Value) (u0_36 : Value) (u0_37 : Value) (u0_38 : Value) (u0_39 : Value) (u0_40 : Value) (v_people : Int32) (v_now : Nat → Int32) (p1 : Int32) (p2 : Int32) (r : Int32) (h : X11_areEnough v_people v_now p1 p2 = some r) : Ct l yX11_areEnough cX11_areEnough 4 (some .boolean) 0 0 D cy [.ref q0, .int p1, .int p2] [oX11 q0 (.ref q1) (.int v_people) u0_2 u0_3 u0_4 u0_5 u0_6 u0_7 u0_8 u0_9 u0_10 u0_11 u0_12 u0_13 u0_14 u0_15 u0_16 u0_17 u0_18 u0_19 u0_20 u0_21 u0_22 u0_23 u0_24 u0_25 u0_26 u0_27 u0_28 u0_29 u0_30 u0_31 u0_32 u0_33 u0_34 u0_35 u0_36 u0_37 u0_38 u0_39 u0_40, aI cy q1 37 v_now] (fun _ => [oX11 q0 (.ref q1) (.int v_people) u0_2 u0_3 u0_4 u0_5 u0_6 u0_7 u0_8 u0_9 u0_10 u0_11 u0_12 u0_13 u0_14 u0_15 u0_16 u0_17 u0_18 u0_19 u0_20 u0_21 u0_22 u0_23 u0_24 u0_25 u0_26 u0_27 u0_28 u0_29 u0_30 u0_31 u0_32 u0_33 u0_34 u0_35 u0_36 u0_37 u0_38 u0_39 u0_40, aI cy q1 37 v_now]) (some (.int r)) := by
  refine Ct.mk kX11_areEnough (by decide +kernel) (Nat.le_of_ble_eq_true rfl) ?_
  intro p e s m below meth c A ls args R Q hRf hRl hQ E H locs hS hl
  have hx := E.x
  have hb := E.b
  have hl : lv_has ls 4 [(0, .ref q0), (1, .int p1), (2, .int p2)] := hl
  unfold X11_areEnough at h
  refine lv_iconst (v := 0) hx hb dX11_areEnough_0 (by decide) ?_
  refine lv_istore_n (lv' := [(3, .int (0 : Int32)), (0, .ref q0), (1, .int p1), (2, .int p2)]) hx hb dX11_areEnough_1 rfl hl (by decide) rfl (fun ls hl => ?_)
  have hL2 : ∀ (n : Nat) (x2_0 : Int32) (y2 : (Unit) ⊕ (Unit)) (H : Heap) (locs : List Loc) (ls : Array Slot), lp (fun x2 => X11_areEnough_s2 v_people v_now p1 p2 x2) n x2_0 = some y2 → Sv D A s.heap [oX11 q0 (.ref q1) (.int v_people) u0_2 u0_3 u0_4 u0_5 u0_6 u0_7 u0_8 u0_9 u0_10 u0_11 u0_12 u0_13 u0_14 u0_15 u0_16 u0_17 u0_18 u0_19 u0_20 u0_21 u0_22 u0_23 u0_24 u0_25 u0_26 u0_27 u0_28 u0_29 u0_30 u0_31 u0_32 u0_33 u0_34 u0_35 u0_36 u0_37 u0_38 u0_39 u0_40, aI cy q1 37 v_now] H locs → lv_has ls 4 [(0, .ref q0), (1, .int p1), (2, .int p2), (3, .int x2_0)] → ( .inl () = y2 → ∀ (H : Heap) (locs : List Loc) (ls : Array Slot), Sv D A s.heap [oX11 q0 (.ref q1) (.int v_people) u0_2 u0_3 u0_4 u0_5 u0_6 u0_7 u0_8 u0_9 u0_10 u0_11 u0_12 u0_13 u0_14 u0_15 u0_16 u0_17 u0_18 u0_19 u0_20 u0_21 u0_22 u0_23 u0_24 u0_25 u0_26 u0_27 u0_28 u0_29 u0_30 u0_31 u0_32 u0_33 u0_34 u0_35 u0_36 u0_37 u0_38 u0_39 u0_40, aI cy q1 37 v_now] H locs → lv_has ls 4 [] → W p l e R s m args below meth c H locs 0 0 Q (F0 m 46 ls [])) → ( .inr () = y2 → ∀ (H : Heap) (locs : List Loc) (ls : Array Slot), Sv D A s.heap [oX11 q0 (.ref q1) (.int v_people) u0_2 u0_3 u0_4 u0_5 u0_6 u0_7 u0_8 u0_9 u0_10 u0_11 u0_12 u0_13 u0_14 u0_15 u0_16 u0_17 u0_18 u0_19 u0_20 u0_21 u0_22 u0_23 u0_24 u0_25 u0_26 u0_27 u0_28 u0_29 u0_30 u0_31 u0_32 u0_33 u0_34 u0_35 u0_36 u0_37 u0_38 u0_39 u0_40, aI cy q1 37 v_now] H locs → lv_has ls 4 [] → W p l e R s m args below meth c H locs 0 0 Q (F0 m 38 ls [])) → W p l e R s m args below meth c H locs 0 0 Q (F0 m 2 ls []) := by
    intro n
    induction n with
    | zero =>
      intro x2_0 y2 H locs ls h
      exact lp_zero h
    | succ n ih2 =>
      intro x2_0 y2 H locs ls h hS hl hk2_0 hk2_1
      obtain ⟨z2, h, hz2a, hz2b⟩ := lp_succ h
      have h : X11_areEnough_s2 v_people v_now p1 p2 x2_0 = some z2 := h
      unfold X11_areEnough_s2 at h
      refine lv_iload_n hx hb dX11_areEnough_2 rfl (lv_at hl 3 rfl) ?_
      refine lv_aload_n hx hb dX11_areEnough_3 rfl (lv_at hl 0 rfl) ?_
      refine r_get E frX11_92 hS 0 rfl rfl dX11_areEnough_4 ?_
      refine lv_icmp_ge (tgt := 46) hx hb dX11_areEnough_7 (by decide) (fun c1 => ?_) (fun c1 => ?_)
      · have h := it_pos c1 h
        exact hk2_0  (hz2b _ (Option.some.inj h).symm)  H locs ls hS (lv_sub hl [] rfl)
      · have h := it_neg c1 h
        refine lv_aload_n hx hb dX11_areEnough_10 rfl (lv_at hl 0 rfl) ?_
        refine r_get E frX11_9 hS 0 rfl rfl dX11_areEnough_11 ?_
        refine lv_bipush (v := 28) hx hb dX11_areEnough_14 (by decide) ?_
        refine lv_iload_n hx hb dX11_areEnough_16 rfl (lv_at hl 3 rfl) ?_
        refine lv_iadd hx hb dX11_areEnough_17 ?_
        obtain ⟨g2, h⟩ := gi_some h
        refine r_iald E hS 1 rfl g2 dX11_areEnough_18 ?_
        refine lv_iload_n hx hb dX11_areEnough_19 rfl (lv_at hl 2 rfl) ?_
        refine lv_iand hx hb dX11_areEnough_20 ?_
        refine lv_if_eq (tgt := 40) hx hb dX11_areEnough_21 (by decide) (fun c3 => ?_) (fun c3 => ?_)
        · have h := it_pos c3 h
          refine lv_iinc (v := (x2_0 + (1 : Int32))) (lv' := [(3, .int (x2_0 + (1 : Int32))), (0, .ref q0), (1, .int p1), (2, .int p2)]) hx hb dX11_areEnough_40 hl (k := 3) rfl rfl (by decide) rfl (fun ls hl => ?_)
          refine lv_goto (tgt := 2) hx hb dX11_areEnough_43 (by decide) ?_
          exact ih2 (x2_0 + (1 : Int32)) y2  H locs ls (hz2a _ (Option.some.inj h).symm) hS (lv_sub hl [1, 2, 3, 0] rfl) hk2_0 hk2_1
        · have h := it_neg c3 h
          refine lv_aload_n hx hb dX11_areEnough_24 rfl (lv_at hl 0 rfl) ?_
          refine r_get E frX11_9 hS 0 rfl rfl dX11_areEnough_25 ?_
          refine lv_bipush (v := 28) hx hb dX11_areEnough_28 (by decide) ?_
          refine lv_iload_n hx hb dX11_areEnough_30 rfl (lv_at hl 3 rfl) ?_
          refine lv_iadd hx hb dX11_areEnough_31 ?_
          obtain ⟨g4, h⟩ := gi_some h
          refine r_iald E hS 1 rfl g4 dX11_areEnough_32 ?_
          refine lv_iload_n hx hb dX11_areEnough_33 rfl (lv_at hl 1 rfl) ?_
          refine lv_iand hx hb dX11_areEnough_34 ?_
          refine lv_if_ne (tgt := 40) hx hb dX11_areEnough_35 (by decide) (fun c5 => ?_) (fun c5 => ?_)
          · have h := it_neg c5 h
            refine lv_iinc (v := (x2_0 + (1 : Int32))) (lv' := [(3, .int (x2_0 + (1 : Int32))), (0, .ref q0), (1, .int p1), (2, .int p2)]) hx hb dX11_areEnough_40 hl (k := 3) rfl rfl (by decide) rfl (fun ls hl => ?_)
            refine lv_goto (tgt := 2) hx hb dX11_areEnough_43 (by decide) ?_
            exact ih2 (x2_0 + (1 : Int32)) y2  H locs ls (hz2a _ (Option.some.inj h).symm) hS (lv_sub hl [1, 2, 3, 0] rfl) hk2_0 hk2_1
          · have h := it_pos c5 h
            exact hk2_1  (hz2b _ (Option.some.inj h).symm)  H locs ls hS (lv_sub hl [] rfl)
  obtain ⟨y2, e2, h⟩ := bd_some h
  refine hL2 1000 (0 : Int32) y2  H locs ls e2 hS (lv_sub hl [1, 2, 3, 0] rfl) (fun ey2 H locs ls hS hl => ?_) (fun ey2 H locs ls hS hl => ?_)
  · subst ey2
    have h := sm_l h
    refine lv_iconst (v := 1) hx hb dX11_areEnough_46 (by decide) ?_
    obtain rfl := Option.some.inj h
    exact rt_n E rfl hQ (.null) hS dX11_areEnough_47
  · subst ey2
    have h := sm_r h
    refine lv_iconst (v := 0) hx hb dX11_areEnough_38 (by decide) ?_
    obtain rfl := Option.some.inj h
    exact rt_n E rfl hQ (.null) hS dX11_areEnough_39
set_option maxHeartbeats 4000000 in
set_option maxRecDepth 100000 in
theorem c_X11_enough {l : Launch} {D : va_G} {cy : Nat → ClassId} (q0 : Nat) (q1 : Nat) (q2 : Nat) (q3 : Nat) (q4 : Nat) (u0_2 : Value) (u0_3 : Value) (u0_7 : Value) (u0_12 : Value) (u0_14 : Value) (u0_18 : Value) (u0_19 : Value) (u0_20 : Value) (u0_21 : Value) (u0_22 : Value) (u0_23 : Value) (u0_24 : Value) (u0_25 : Value) (u0_26 : Value) (u0_27 : Value) (u0_28 : Value) (u0_29 : Value) (u0_30 : Value) (u0_31 : Value) (u0_32 : Value) (u0_33 : Value) (u0_34 : Value) (u0_35 : Value) (u0_36 : Value) (u0_37 : Value) (u0_38 : Value) (u0_39 : Value) (u0_40 : Value) (v_people : Int32) (v_rowMany : Int32) (v_thrown : Int32) (v_length : Int32) (v_top : Int32) (v_at : Int32) (v_wrong : Int32) (v_ruleSize : Int32) (v_isAsked : Int32) (v_now : Nat → Int32) (v_row : Nat → Int64) (v_rule : Nat → Int32) (v_asked : Nat → Int32) (r : Int32 × Int32 × Int32 × Int32 × Int32 × Int32 × Int32 × Int32 × (Nat → Int64) × (Nat → Int32)) (h : X11_enough v_people v_length v_top v_at v_wrong v_ruleSize v_isAsked v_now v_row v_rule v_asked = some r) : Ct l yX11_enough cX11_enough 4 (some .int) 109 2603 D cy [.ref q0] [oX11 q0 (.ref q1) (.int v_people) u0_2 u0_3 (.ref q2) (.int v_rowMany) (.int v_thrown) u0_7 (.int v_length) (.int v_top) (.int v_at) (.int v_wrong) u0_12 (.ref q3) u0_14 (.int v_ruleSize) (.int v_isAsked) (.ref q4) u0_18 u0_19 u0_20 u0_21 u0_22 u0_23 u0_24 u0_25 u0_26 u0_27 u0_28 u0_29 u0_30 u0_31 u0_32 u0_33 u0_34 u0_35 u0_36 u0_37 u0_38 u0_39 u0_40, aI cy q1 37 v_now, aJ cy q2 16 v_row, aB cy q3 40 v_rule, aI cy q4 7 v_asked] (fun rv => [oX11 q0 (.ref q1) (.int v_people) u0_2 u0_3 (.ref q2) (.int r.2.1) (.int r.2.2.1) rv (.int r.2.2.2.1) (.int r.2.2.2.2.1) (.int r.2.2.2.2.2.1) (.int r.2.2.2.2.2.2.1) u0_12 (.ref q3) u0_14 (.int v_ruleSize) (.int r.2.2.2.2.2.2.2.1) (.ref q4) u0_18 u0_19 u0_20 u0_21 u0_22 u0_23 u0_24 u0_25 u0_26 u0_27 u0_28 u0_29 u0_30 u0_31 u0_32 u0_33 u0_34 u0_35 u0_36 u0_37 u0_38 u0_39 u0_40, aI cy q1 37 v_now, aJ cy q2 16 r.2.2.2.2.2.2.2.2.1, aB cy q3 40 v_rule, aI cy q4 7 r.2.2.2.2.2.2.2.2.2]) (some (.int r.1)) := by
  refine Ct.mk kX11_enough (by decide +kernel) (Nat.le_of_ble_eq_true rfl) ?_
  intro p e s m below meth c A ls args R Q hRf hRl hQ E H locs hS hl
  have hx := E.x
  have hb := E.b
  have hl : lv_has ls 4 [(0, .ref q0)] := hl
  unfold X11_enough at h
  refine lv_aload_n hx hb dX11_enough_0 rfl (lv_at hl 0 rfl) ?_
  refine lv_iconst (v := 0) hx hb dX11_enough_1 (by decide) ?_
  refine r_put (ws' := [oX11 q0 (.ref q1) (.int v_people) u0_2 u0_3 (.ref q2) (.int v_rowMany) (.int (0 : Int32)) u0_7 (.int v_length) (.int v_top) (.int v_at) (.int v_wrong) u0_12 (.ref q3) u0_14 (.int v_ruleSize) (.int v_isAsked) (.ref q4) u0_18 u0_19 u0_20 u0_21 u0_22 u0_23 u0_24 u0_25 u0_26 u0_27 u0_28 u0_29 u0_30 u0_31 u0_32 u0_33 u0_34 u0_35 u0_36 u0_37 u0_38 u0_39 u0_40, aI cy q1 37 v_now, aJ cy q2 16 v_row, aB cy q3 40 v_rule, aI cy q4 7 v_asked]) E frX11_85 hS 0 rfl (Nat.le_of_ble_eq_true rfl) rfl rfl rfl rfl dX11_enough_2 (fun H locs hS => ?_)
  refine lv_aload_n hx hb dX11_enough_5 rfl (lv_at hl 0 rfl) ?_
  refine lv_aload_n hx hb dX11_enough_6 rfl (lv_at hl 0 rfl) ?_
  refine r_get E frX11_9 hS 0 rfl rfl dX11_enough_7 ?_
  obtain ⟨y10, e1, h⟩ := bd_some h
  refine ct_V (ws' := fun rc2 => [oX11 q0 (.ref q1) (.int v_people) u0_2 u0_3 (.ref q2) (.int v_rowMany) (.int (0 : Int32)) rc2 (.int y10.2.1) (.int y10.2.2.1) (.int y10.2.2.2.1) (.int y10.2.2.2.2.1) u0_12 (.ref q3) u0_14 (.int v_ruleSize) (.int y10.2.2.2.2.2.1) (.ref q4) u0_18 u0_19 u0_20 u0_21 u0_22 u0_23 u0_24 u0_25 u0_26 u0_27 u0_28 u0_29 u0_30 u0_31 u0_32 u0_33 u0_34 u0_35 u0_36 u0_37 u0_38 u0_39 u0_40, aI cy q1 37 v_now, aJ cy q2 16 v_row, aB cy q3 40 v_rule, aI cy q4 7 y10.2.2.2.2.2.2]) (st' := [.int y10.1]) (rest := []) E hS vlX11_239 (c_X11_awake (l := l) (D := D) (cy := cy) (q0 := q0) (q1 := q3) (q2 := q4) (q3 := q1) (u0_0 := .ref q1) (u0_2 := u0_2) (u0_3 := u0_3) (u0_4 := .ref q2) (u0_5 := .int v_rowMany) (u0_6 := .int (0 : Int32)) (u0_7 := u0_7) (u0_12 := u0_12) (u0_14 := u0_14) (u0_18 := u0_18) (u0_19 := u0_19) (u0_20 := u0_20) (u0_21 := u0_21) (u0_22 := u0_22) (u0_23 := u0_23) (u0_24 := u0_24) (u0_25 := u0_25) (u0_26 := u0_26) (u0_27 := u0_27) (u0_28 := u0_28) (u0_29 := u0_29) (u0_30 := u0_30) (u0_31 := u0_31) (u0_32 := u0_32) (u0_33 := u0_33) (u0_34 := u0_34) (u0_35 := u0_35) (u0_36 := u0_36) (u0_37 := u0_37) (u0_38 := u0_38) (u0_39 := u0_39) (u0_40 := u0_40) (v_people := v_people) (v_length := v_length) (v_top := v_top) (v_at := v_at) (v_wrong := v_wrong) (v_ruleSize := v_ruleSize) (v_isAsked := v_isAsked) (v_rule := v_rule) (v_asked := v_asked) (nw1_ := 37) (w1_ := v_now) (r := y10) e1) [0, 3, 4, 1] rfl rfl (fun _ => rfl) (fun _ => rfl) rfl rfl rfl rfl (Nat.le_of_ble_eq_true rfl) hl.1 (by rw [hRf]; exact Nat.le_of_ble_eq_true rfl) (by rw [hRl]; exact Nat.le_of_ble_eq_true rfl) ⟨Nat.zero_le _, Nat.zero_le _⟩ dX11_enough_10 rfl (fun H locs rc2 hS => ?_)
  refine lv_istore_n (lv' := [(1, .int y10.1), (0, .ref q0)]) hx hb dX11_enough_13 rfl hl (by decide) rfl (fun ls hl => ?_)
  refine lv_iload_n hx hb dX11_enough_14 rfl (lv_at hl 0 rfl) ?_
  refine lv_istore_n (lv' := [(2, .int y10.1), (1, .int y10.1), (0, .ref q0)]) hx hb dX11_enough_15 rfl hl (by decide) rfl (fun ls hl => ?_)
  refine lv_iload_n hx hb dX11_enough_16 rfl (lv_at hl 1 rfl) ?_
  refine lv_istore_n (lv' := [(3, .int y10.1), (2, .int y10.1), (1, .int y10.1), (0, .ref q0)]) hx hb dX11_enough_17 rfl hl (by decide) rfl (fun ls hl => ?_)
  have hL18 : ∀ (n : Nat) (x18_0 : Int32) (x18_1 : Int32) (y18 : Int32) (H : Heap) (locs : List Loc) (ls : Array Slot), lp (fun x18 => X11_enough_s18 v_people v_now y10 x18.1 x18.2) n (x18_0, x18_1) = some y18 → Sv D A s.heap [oX11 q0 (.ref q1) (.int v_people) u0_2 u0_3 (.ref q2) (.int v_rowMany) (.int (0 : Int32)) rc2 (.int y10.2.1) (.int y10.2.2.1) (.int y10.2.2.2.1) (.int y10.2.2.2.2.1) u0_12 (.ref q3) u0_14 (.int v_ruleSize) (.int y10.2.2.2.2.2.1) (.ref q4) u0_18 u0_19 u0_20 u0_21 u0_22 u0_23 u0_24 u0_25 u0_26 u0_27 u0_28 u0_29 u0_30 u0_31 u0_32 u0_33 u0_34 u0_35 u0_36 u0_37 u0_38 u0_39 u0_40, aI cy q1 37 v_now, aJ cy q2 16 v_row, aB cy q3 40 v_rule, aI cy q4 7 y10.2.2.2.2.2.2] H locs → lv_has ls 4 [(0, .ref q0), (1, .int y10.1), (2, .int x18_0), (3, .int x18_1)] → ( ∀ (y18_0 : Int32), y18_0 = y18 → ∀ (H : Heap) (locs : List Loc) (ls : Array Slot), Sv D A s.heap [oX11 q0 (.ref q1) (.int v_people) u0_2 u0_3 (.ref q2) (.int v_rowMany) (.int (0 : Int32)) rc2 (.int y10.2.1) (.int y10.2.2.1) (.int y10.2.2.2.1) (.int y10.2.2.2.2.1) u0_12 (.ref q3) u0_14 (.int v_ruleSize) (.int y10.2.2.2.2.2.1) (.ref q4) u0_18 u0_19 u0_20 u0_21 u0_22 u0_23 u0_24 u0_25 u0_26 u0_27 u0_28 u0_29 u0_30 u0_31 u0_32 u0_33 u0_34 u0_35 u0_36 u0_37 u0_38 u0_39 u0_40, aI cy q1 37 v_now, aJ cy q2 16 v_row, aB cy q3 40 v_rule, aI cy q4 7 y10.2.2.2.2.2.2] H locs → lv_has ls 4 [(0, .ref q0), (2, .int y18_0)] → W p l e R s m args below meth c H locs 0 0 Q (F0 m 58 ls [])) → W p l e R s m args below meth c H locs 0 0 Q (F0 m 18 ls []) := by
    intro n
    induction n with
    | zero =>
      intro x18_0 x18_1 y18 H locs ls h
      exact lp_zero h
    | succ n ih18 =>
      intro x18_0 x18_1 y18 H locs ls h hS hl hk18_0
      obtain ⟨z18, h, hz18a, hz18b⟩ := lp_succ h
      have h : X11_enough_s18 v_people v_now y10 x18_0 x18_1 = some z18 := h
      unfold X11_enough_s18 at h
      refine lv_iload_n hx hb dX11_enough_18 rfl (lv_at hl 3 rfl) ?_
      refine lv_if_lt (tgt := 58) hx hb dX11_enough_19 (by decide) (fun c3 => ?_) (fun c3 => ?_)
      · have h := it_pos c3 h
        exact hk18_0 x18_0 (hz18b _ (Option.some.inj h).symm)  H locs ls hS (lv_sub hl [0, 2] rfl)
      · have h := it_neg c3 h
        refine lv_iload_n hx hb dX11_enough_22 rfl (lv_at hl 3 rfl) ?_
        refine lv_iload_n hx hb dX11_enough_23 rfl (lv_at hl 1 rfl) ?_
        refine lv_iconst (v := -1) hx hb dX11_enough_24 (by decide) ?_
        refine lv_ixor hx hb dX11_enough_25 ?_
        refine lv_iand hx hb dX11_enough_26 ?_
        refine lv_if_ne (tgt := 52) hx hb dX11_enough_27 (by decide) (fun c4 => ?_) (fun c4 => ?_)
        · have h := it_neg c4 h
          refine lv_iinc (v := (x18_1 + (-1 : Int32))) (lv' := [(3, .int (x18_1 + (-1 : Int32))), (0, .ref q0), (1, .int y10.1), (2, .int x18_0)]) hx hb dX11_enough_52 hl (k := 3) rfl rfl (by decide) rfl (fun ls hl => ?_)
          refine lv_goto (tgt := 18) hx hb dX11_enough_55 (by decide) ?_
          exact ih18 x18_0 (x18_1 + (-1 : Int32)) y18  H locs ls (hz18a _ (Option.some.inj h).symm) hS (lv_sub hl [1, 2, 3, 0] rfl) hk18_0
        · have h := it_pos c4 h
          refine lv_iload_n hx hb dX11_enough_30 rfl (lv_at hl 3 rfl) ?_
          refine ct_S (ws' := fun _ => [oX11 q0 (.ref q1) (.int v_people) u0_2 u0_3 (.ref q2) (.int v_rowMany) (.int (0 : Int32)) rc2 (.int y10.2.1) (.int y10.2.2.1) (.int y10.2.2.2.1) (.int y10.2.2.2.2.1) u0_12 (.ref q3) u0_14 (.int v_ruleSize) (.int y10.2.2.2.2.2.1) (.ref q4) u0_18 u0_19 u0_20 u0_21 u0_22 u0_23 u0_24 u0_25 u0_26 u0_27 u0_28 u0_29 u0_30 u0_31 u0_32 u0_33 u0_34 u0_35 u0_36 u0_37 u0_38 u0_39 u0_40, aI cy q1 37 v_now, aJ cy q2 16 v_row, aB cy q3 40 v_rule, aI cy q4 7 y10.2.2.2.2.2.2]) (st' := [.int (J6_bitCount_0f7a4 x18_1)]) (rest := []) E hS slX11_204 (c_J6_bitCount_0f7a4 (l := l) (D := D) (cy := cy) (p0 := x18_1) (r := (J6_bitCount_0f7a4 x18_1)) rfl) [] rfl rfl (fun _ => rfl) (fun _ => rfl) rfl rfl (Nat.le_of_ble_eq_true rfl) hl.1 (by rw [hRf]; exact Nat.le_of_ble_eq_true rfl) (by rw [hRl]; exact Nat.le_of_ble_eq_true rfl) ⟨Nat.zero_le _, Nat.zero_le _⟩ dX11_enough_31 rfl (fun H locs _ hS => ?_)
          refine lv_iload_n hx hb dX11_enough_34 rfl (lv_at hl 2 rfl) ?_
          refine ct_S (ws' := fun _ => [oX11 q0 (.ref q1) (.int v_people) u0_2 u0_3 (.ref q2) (.int v_rowMany) (.int (0 : Int32)) rc2 (.int y10.2.1) (.int y10.2.2.1) (.int y10.2.2.2.1) (.int y10.2.2.2.2.1) u0_12 (.ref q3) u0_14 (.int v_ruleSize) (.int y10.2.2.2.2.2.1) (.ref q4) u0_18 u0_19 u0_20 u0_21 u0_22 u0_23 u0_24 u0_25 u0_26 u0_27 u0_28 u0_29 u0_30 u0_31 u0_32 u0_33 u0_34 u0_35 u0_36 u0_37 u0_38 u0_39 u0_40, aI cy q1 37 v_now, aJ cy q2 16 v_row, aB cy q3 40 v_rule, aI cy q4 7 y10.2.2.2.2.2.2]) (st' := [.int (J6_bitCount_0f7a4 x18_0), .int (J6_bitCount_0f7a4 x18_1)]) (rest := [.int (J6_bitCount_0f7a4 x18_1)]) E hS slX11_204 (c_J6_bitCount_0f7a4 (l := l) (D := D) (cy := cy) (p0 := x18_0) (r := (J6_bitCount_0f7a4 x18_0)) rfl) [] rfl rfl (fun _ => rfl) (fun _ => rfl) rfl rfl (Nat.le_of_ble_eq_true rfl) hl.1 (by rw [hRf]; exact Nat.le_of_ble_eq_true rfl) (by rw [hRl]; exact Nat.le_of_ble_eq_true rfl) ⟨Nat.zero_le _, Nat.zero_le _⟩ dX11_enough_35 rfl (fun H locs _ hS => ?_)
          refine lv_icmp_gt (tgt := 52) hx hb dX11_enough_38 (by decide) (fun c5 => ?_) (fun c5 => ?_)
          · have h := it_pos c5 h
            refine lv_iinc (v := (x18_1 + (-1 : Int32))) (lv' := [(3, .int (x18_1 + (-1 : Int32))), (0, .ref q0), (1, .int y10.1), (2, .int x18_0)]) hx hb dX11_enough_52 hl (k := 3) rfl rfl (by decide) rfl (fun ls hl => ?_)
            refine lv_goto (tgt := 18) hx hb dX11_enough_55 (by decide) ?_
            exact ih18 x18_0 (x18_1 + (-1 : Int32)) y18  H locs ls (hz18a _ (Option.some.inj h).symm) hS (lv_sub hl [1, 2, 3, 0] rfl) hk18_0
          · have h := it_neg c5 h
            refine lv_aload_n hx hb dX11_enough_41 rfl (lv_at hl 0 rfl) ?_
            refine lv_iload_n hx hb dX11_enough_42 rfl (lv_at hl 3 rfl) ?_
            refine lv_iload_n hx hb dX11_enough_43 rfl (lv_at hl 1 rfl) ?_
            obtain ⟨y44, e6, h⟩ := bd_some h
            refine ct_V (ws' := fun _ => [oX11 q0 (.ref q1) (.int v_people) u0_2 u0_3 (.ref q2) (.int v_rowMany) (.int (0 : Int32)) rc2 (.int y10.2.1) (.int y10.2.2.1) (.int y10.2.2.2.1) (.int y10.2.2.2.2.1) u0_12 (.ref q3) u0_14 (.int v_ruleSize) (.int y10.2.2.2.2.2.1) (.ref q4) u0_18 u0_19 u0_20 u0_21 u0_22 u0_23 u0_24 u0_25 u0_26 u0_27 u0_28 u0_29 u0_30 u0_31 u0_32 u0_33 u0_34 u0_35 u0_36 u0_37 u0_38 u0_39 u0_40, aI cy q1 37 v_now, aJ cy q2 16 v_row, aB cy q3 40 v_rule, aI cy q4 7 y10.2.2.2.2.2.2]) (st' := [.int y44]) (rest := []) E hS vlX11_294 (c_X11_areEnough (l := l) (D := D) (cy := cy) (q0 := q0) (q1 := q1) (u0_2 := u0_2) (u0_3 := u0_3) (u0_4 := .ref q2) (u0_5 := .int v_rowMany) (u0_6 := .int (0 : Int32)) (u0_7 := rc2) (u0_8 := .int y10.2.1) (u0_9 := .int y10.2.2.1) (u0_10 := .int y10.2.2.2.1) (u0_11 := .int y10.2.2.2.2.1) (u0_12 := u0_12) (u0_13 := .ref q3) (u0_14 := u0_14) (u0_15 := .int v_ruleSize) (u0_16 := .int y10.2.2.2.2.2.1) (u0_17 := .ref q4) (u0_18 := u0_18) (u0_19 := u0_19) (u0_20 := u0_20) (u0_21 := u0_21) (u0_22 := u0_22) (u0_23 := u0_23) (u0_24 := u0_24) (u0_25 := u0_25) (u0_26 := u0_26) (u0_27 := u0_27) (u0_28 := u0_28) (u0_29 := u0_29) (u0_30 := u0_30) (u0_31 := u0_31) (u0_32 := u0_32) (u0_33 := u0_33) (u0_34 := u0_34) (u0_35 := u0_35) (u0_36 := u0_36) (u0_37 := u0_37) (u0_38 := u0_38) (u0_39 := u0_39) (u0_40 := u0_40) (v_people := v_people) (v_now := v_now) (p1 := x18_1) (p2 := y10.1) (r := y44) e6) [0, 1] rfl rfl (fun _ => rfl) (fun _ => rfl) rfl rfl rfl rfl (Nat.le_of_ble_eq_true rfl) hl.1 (by rw [hRf]; exact Nat.le_of_ble_eq_true rfl) (by rw [hRl]; exact Nat.le_of_ble_eq_true rfl) ⟨Nat.zero_le _, Nat.zero_le _⟩ dX11_enough_44 rfl (fun H locs _ hS => ?_)
            refine lv_if_eq (tgt := 52) hx hb dX11_enough_47 (by decide) (fun c7 => ?_) (fun c7 => ?_)
            · have h := it_pos c7 h
              refine lv_iinc (v := (x18_1 + (-1 : Int32))) (lv' := [(3, .int (x18_1 + (-1 : Int32))), (0, .ref q0), (1, .int y10.1), (2, .int x18_0)]) hx hb dX11_enough_52 hl (k := 3) rfl rfl (by decide) rfl (fun ls hl => ?_)
              refine lv_goto (tgt := 18) hx hb dX11_enough_55 (by decide) ?_
              exact ih18 x18_0 (x18_1 + (-1 : Int32)) y18  H locs ls (hz18a _ (Option.some.inj h).symm) hS (lv_sub hl [1, 2, 3, 0] rfl) hk18_0
            · have h := it_neg c7 h
              refine lv_iload_n hx hb dX11_enough_50 rfl (lv_at hl 3 rfl) ?_
              refine lv_istore_n (lv' := [(2, .int x18_1), (0, .ref q0), (1, .int y10.1), (3, .int x18_1)]) hx hb dX11_enough_51 rfl hl (by decide) rfl (fun ls hl => ?_)
              refine lv_iinc (v := (x18_1 + (-1 : Int32))) (lv' := [(3, .int (x18_1 + (-1 : Int32))), (2, .int x18_1), (0, .ref q0), (1, .int y10.1)]) hx hb dX11_enough_52 hl (k := 3) rfl rfl (by decide) rfl (fun ls hl => ?_)
              refine lv_goto (tgt := 18) hx hb dX11_enough_55 (by decide) ?_
              exact ih18 x18_1 (x18_1 + (-1 : Int32)) y18  H locs ls (hz18a _ (Option.some.inj h).symm) hS (lv_sub hl [2, 3, 1, 0] rfl) hk18_0
  obtain ⟨y18, e18, h⟩ := bd_some h
  refine hL18 1000 y10.1 y10.1 y18  H locs ls e18 hS (lv_sub hl [3, 2, 1, 0] rfl) (fun y18_0 ey18 H locs ls hS hl => ?_)
  subst ey18
  refine lv_aload_n hx hb dX11_enough_58 rfl (lv_at hl 0 rfl) ?_
  refine lv_iconst (v := 0) hx hb dX11_enough_59 (by decide) ?_
  refine r_put (ws' := [oX11 q0 (.ref q1) (.int v_people) u0_2 u0_3 (.ref q2) (.int (0 : Int32)) (.int (0 : Int32)) rc2 (.int y10.2.1) (.int y10.2.2.1) (.int y10.2.2.2.1) (.int y10.2.2.2.2.1) u0_12 (.ref q3) u0_14 (.int v_ruleSize) (.int y10.2.2.2.2.2.1) (.ref q4) u0_18 u0_19 u0_20 u0_21 u0_22 u0_23 u0_24 u0_25 u0_26 u0_27 u0_28 u0_29 u0_30 u0_31 u0_32 u0_33 u0_34 u0_35 u0_36 u0_37 u0_38 u0_39 u0_40, aI cy q1 37 v_now, aJ cy q2 16 v_row, aB cy q3 40 v_rule, aI cy q4 7 y10.2.2.2.2.2.2]) E frX11_89 hS 0 rfl (Nat.le_of_ble_eq_true rfl) rfl rfl rfl rfl dX11_enough_60 (fun H locs hS => ?_)
  refine lv_aload_n hx hb dX11_enough_63 rfl (lv_at hl 0 rfl) ?_
  refine lv_iload_n hx hb dX11_enough_64 rfl (lv_at hl 1 rfl) ?_
  refine lv_i2l (v := (y18_0.toInt64)) hx hb dX11_enough_65 rfl ?_
  obtain ⟨y66, e8, h⟩ := bd_some h
  refine ct_V (ws' := fun _ => [oX11 q0 (.ref q1) (.int v_people) u0_2 u0_3 (.ref q2) (.int y66.1) (.int (0 : Int32)) rc2 (.int y10.2.1) (.int y10.2.2.1) (.int y10.2.2.2.1) (.int y10.2.2.2.2.1) u0_12 (.ref q3) u0_14 (.int v_ruleSize) (.int y10.2.2.2.2.2.1) (.ref q4) u0_18 u0_19 u0_20 u0_21 u0_22 u0_23 u0_24 u0_25 u0_26 u0_27 u0_28 u0_29 u0_30 u0_31 u0_32 u0_33 u0_34 u0_35 u0_36 u0_37 u0_38 u0_39 u0_40, aI cy q1 37 v_now, aJ cy q2 16 y66.2, aB cy q3 40 v_rule, aI cy q4 7 y10.2.2.2.2.2.2]) (st' := []) (rest := []) E hS vlX11_256 (c_X11_tell (l := l) (D := D) (cy := cy) (q0 := q0) (q1 := q2) (u0_0 := .ref q1) (u0_1 := .int v_people) (u0_2 := u0_2) (u0_3 := u0_3) (u0_6 := .int (0 : Int32)) (u0_7 := rc2) (u0_8 := .int y10.2.1) (u0_9 := .int y10.2.2.1) (u0_10 := .int y10.2.2.2.1) (u0_11 := .int y10.2.2.2.2.1) (u0_12 := u0_12) (u0_13 := .ref q3) (u0_14 := u0_14) (u0_15 := .int v_ruleSize) (u0_16 := .int y10.2.2.2.2.2.1) (u0_17 := .ref q4) (u0_18 := u0_18) (u0_19 := u0_19) (u0_20 := u0_20) (u0_21 := u0_21) (u0_22 := u0_22) (u0_23 := u0_23) (u0_24 := u0_24) (u0_25 := u0_25) (u0_26 := u0_26) (u0_27 := u0_27) (u0_28 := u0_28) (u0_29 := u0_29) (u0_30 := u0_30) (u0_31 := u0_31) (u0_32 := u0_32) (u0_33 := u0_33) (u0_34 := u0_34) (u0_35 := u0_35) (u0_36 := u0_36) (u0_37 := u0_37) (u0_38 := u0_38) (u0_39 := u0_39) (u0_40 := u0_40) (v_rowMany := (0 : Int32)) (v_row := v_row) (p1 := (y18_0.toInt64)) (r := y66) e8) [0, 2] rfl rfl (fun _ => rfl) (fun _ => rfl) rfl rfl rfl rfl (Nat.le_of_ble_eq_true rfl) hl.1 (by rw [hRf]; exact Nat.le_of_ble_eq_true rfl) (by rw [hRl]; exact Nat.le_of_ble_eq_true rfl) ⟨Nat.zero_le _, Nat.zero_le _⟩ dX11_enough_66 rfl (fun H locs _ hS => ?_)
  refine lv_iload_n hx hb dX11_enough_69 rfl (lv_at hl 1 rfl) ?_
  refine ct_S (ws' := fun _ => [oX11 q0 (.ref q1) (.int v_people) u0_2 u0_3 (.ref q2) (.int y66.1) (.int (0 : Int32)) rc2 (.int y10.2.1) (.int y10.2.2.1) (.int y10.2.2.2.1) (.int y10.2.2.2.2.1) u0_12 (.ref q3) u0_14 (.int v_ruleSize) (.int y10.2.2.2.2.2.1) (.ref q4) u0_18 u0_19 u0_20 u0_21 u0_22 u0_23 u0_24 u0_25 u0_26 u0_27 u0_28 u0_29 u0_30 u0_31 u0_32 u0_33 u0_34 u0_35 u0_36 u0_37 u0_38 u0_39 u0_40, aI cy q1 37 v_now, aJ cy q2 16 y66.2, aB cy q3 40 v_rule, aI cy q4 7 y10.2.2.2.2.2.2]) (st' := [.int (J6_bitCount_0f7a4 y18_0)]) (rest := []) E hS slX11_204 (c_J6_bitCount_0f7a4 (l := l) (D := D) (cy := cy) (p0 := y18_0) (r := (J6_bitCount_0f7a4 y18_0)) rfl) [] rfl rfl (fun _ => rfl) (fun _ => rfl) rfl rfl (Nat.le_of_ble_eq_true rfl) hl.1 (by rw [hRf]; exact Nat.le_of_ble_eq_true rfl) (by rw [hRl]; exact Nat.le_of_ble_eq_true rfl) ⟨Nat.zero_le _, Nat.zero_le _⟩ dX11_enough_70 rfl (fun H locs _ hS => ?_)
  obtain rfl := Option.some.inj h
  exact rt_i E hQ (rc2) hS dX11_enough_73
set_option maxHeartbeats 4000000 in
set_option maxRecDepth 100000 in
theorem c_X11_isWant {l : Launch} {D : va_G} {cy : Nat → ClassId} (q0 : Nat) (u0_0 : Value) (u0_2 : Value) (u0_3 : Value) (u0_4 : Value) (u0_5 : Value) (u0_6 : Value) (u0_7 : Value) (u0_8 : Value) (u0_9 : Value) (u0_10 : Value) (u0_11 : Value) (u0_12 : Value) (u0_13 : Value) (u0_14 : Value) (u0_15 : Value) (u0_16 : Value) (u0_17 : Value) (u0_18 : Value) (u0_19 : Value) (u0_20 : Value) (u0_21 : Value) (u0_22 : Value) (u0_23 : Value) (u0_24 : Value) (u0_25 : Value) (u0_26 : Value) (u0_27 : Value) (u0_28 : Value) (u0_29 : Value) (u0_30 : Value) (u0_31 : Value) (u0_32 : Value) (u0_33 : Value) (u0_34 : Value) (u0_35 : Value) (u0_36 : Value) (u0_37 : Value) (u0_38 : Value) (u0_39 : Value) (u0_40 : Value) (v_people : Int32) (p1 : Int32) (r : Int32) (h : X11_isWant v_people p1 = some r) : Ct l yX11_isWant cX11_isWant 2 (some .boolean) 3 65 D cy [.ref q0, .int p1] [oX11 q0 u0_0 (.int v_people) u0_2 u0_3 u0_4 u0_5 u0_6 u0_7 u0_8 u0_9 u0_10 u0_11 u0_12 u0_13 u0_14 u0_15 u0_16 u0_17 u0_18 u0_19 u0_20 u0_21 u0_22 u0_23 u0_24 u0_25 u0_26 u0_27 u0_28 u0_29 u0_30 u0_31 u0_32 u0_33 u0_34 u0_35 u0_36 u0_37 u0_38 u0_39 u0_40] (fun _ => [oX11 q0 u0_0 (.int v_people) u0_2 u0_3 u0_4 u0_5 u0_6 u0_7 u0_8 u0_9 u0_10 u0_11 u0_12 u0_13 u0_14 u0_15 u0_16 u0_17 u0_18 u0_19 u0_20 u0_21 u0_22 u0_23 u0_24 u0_25 u0_26 u0_27 u0_28 u0_29 u0_30 u0_31 u0_32 u0_33 u0_34 u0_35 u0_36 u0_37 u0_38 u0_39 u0_40]) (some (.int r)) := by
  refine Ct.mk kX11_isWant (by decide +kernel) (Nat.le_of_ble_eq_true rfl) ?_
  intro p e s m below meth c A ls args R Q hRf hRl hQ E H locs hS hl
  have hx := E.x
  have hb := E.b
  have hl : lv_has ls 2 [(0, .ref q0), (1, .int p1)] := hl
  unfold X11_isWant at h
  refine lv_aload_n hx hb dX11_isWant_0 rfl (lv_at hl 0 rfl) ?_
  refine lv_iload_n hx hb dX11_isWant_1 rfl (lv_at hl 1 rfl) ?_
  refine lv_bipush (v := 7) hx hb dX11_isWant_2 (by decide) ?_
  obtain ⟨g1, h⟩ := gz_some h
  refine lv_idiv hx hb dX11_isWant_4 g1 ?_
  refine lv_iload_n hx hb dX11_isWant_5 rfl (lv_at hl 1 rfl) ?_
  refine lv_bipush (v := 7) hx hb dX11_isWant_6 (by decide) ?_
  obtain ⟨g2, h⟩ := gz_some h
  refine lv_irem hx hb dX11_isWant_8 g2 ?_
  obtain ⟨y9, e3, h⟩ := bd_some h
  refine ct_V (ws' := fun _ => [oX11 q0 u0_0 (.int v_people) u0_2 u0_3 u0_4 u0_5 u0_6 u0_7 u0_8 u0_9 u0_10 u0_11 u0_12 u0_13 u0_14 u0_15 u0_16 u0_17 u0_18 u0_19 u0_20 u0_21 u0_22 u0_23 u0_24 u0_25 u0_26 u0_27 u0_28 u0_29 u0_30 u0_31 u0_32 u0_33 u0_34 u0_35 u0_36 u0_37 u0_38 u0_39 u0_40]) (st' := [.int y9]) (rest := []) E hS vlX11_260 (c_X11_areTwo (l := l) (D := D) (cy := cy) (q0 := q0) (u0_0 := u0_0) (u0_2 := u0_2) (u0_3 := u0_3) (u0_4 := u0_4) (u0_5 := u0_5) (u0_6 := u0_6) (u0_7 := u0_7) (u0_8 := u0_8) (u0_9 := u0_9) (u0_10 := u0_10) (u0_11 := u0_11) (u0_12 := u0_12) (u0_13 := u0_13) (u0_14 := u0_14) (u0_15 := u0_15) (u0_16 := u0_16) (u0_17 := u0_17) (u0_18 := u0_18) (u0_19 := u0_19) (u0_20 := u0_20) (u0_21 := u0_21) (u0_22 := u0_22) (u0_23 := u0_23) (u0_24 := u0_24) (u0_25 := u0_25) (u0_26 := u0_26) (u0_27 := u0_27) (u0_28 := u0_28) (u0_29 := u0_29) (u0_30 := u0_30) (u0_31 := u0_31) (u0_32 := u0_32) (u0_33 := u0_33) (u0_34 := u0_34) (u0_35 := u0_35) (u0_36 := u0_36) (u0_37 := u0_37) (u0_38 := u0_38) (u0_39 := u0_39) (u0_40 := u0_40) (v_people := v_people) (p1 := (p1 / (7 : Int32))) (p2 := (irem p1 (7 : Int32))) (r := y9) e3) [0] rfl rfl (fun _ => rfl) (fun _ => rfl) rfl rfl rfl rfl (Nat.le_of_ble_eq_true rfl) hl.1 (by rw [hRf]; exact Nat.le_of_ble_eq_true rfl) (by rw [hRl]; exact Nat.le_of_ble_eq_true rfl) ⟨Nat.zero_le _, Nat.zero_le _⟩ dX11_isWant_9 rfl (fun H locs _ hS => ?_)
  obtain ⟨g4, h⟩ := gn_some h
  obtain rfl := Option.some.inj h
  exact rt_n E (gn_nar g4) hQ (.null) hS dX11_isWant_12
set_option maxHeartbeats 4000000 in
set_option maxRecDepth 100000 in
theorem c_X11_turn {l : Launch} {D : va_G} {cy : Nat → ClassId} (q0 : Nat) (q1 : Nat) (u0_0 : Value) (u0_1 : Value) (u0_2 : Value) (u0_3 : Value) (u0_4 : Value) (u0_5 : Value) (u0_6 : Value) (u0_7 : Value) (u0_8 : Value) (u0_9 : Value) (u0_10 : Value) (u0_11 : Value) (u0_12 : Value) (u0_13 : Value) (u0_14 : Value) (u0_15 : Value) (u0_16 : Value) (u0_17 : Value) (u0_18 : Value) (u0_19 : Value) (u0_20 : Value) (u0_21 : Value) (u0_22 : Value) (u0_23 : Value) (u0_24 : Value) (u0_25 : Value) (u0_26 : Value) (u0_27 : Value) (u0_28 : Value) (u0_29 : Value) (u0_30 : Value) (u0_31 : Value) (u0_32 : Value) (u0_33 : Value) (u0_34 : Value) (u0_35 : Value) (u0_36 : Value) (u0_37 : Value) (u0_38 : Value) (u0_39 : Value) (u0_40 : Value) (nw1_ : Nat) (w1_ : Nat → Int32) (p2 : Int32) (r : (Nat → Int32)) (h : X11_turn nw1_ w1_ p2 = some r) : Ct l yX11_turn cX11_turn 3 none 0 0 D cy [.ref q0, .ref q1, .int p2] [oX11 q0 u0_0 u0_1 u0_2 u0_3 u0_4 u0_5 u0_6 u0_7 u0_8 u0_9 u0_10 u0_11 u0_12 u0_13 u0_14 u0_15 u0_16 u0_17 u0_18 u0_19 u0_20 u0_21 u0_22 u0_23 u0_24 u0_25 u0_26 u0_27 u0_28 u0_29 u0_30 u0_31 u0_32 u0_33 u0_34 u0_35 u0_36 u0_37 u0_38 u0_39 u0_40, aI cy q1 nw1_ w1_] (fun _ => [oX11 q0 u0_0 u0_1 u0_2 u0_3 u0_4 u0_5 u0_6 u0_7 u0_8 u0_9 u0_10 u0_11 u0_12 u0_13 u0_14 u0_15 u0_16 u0_17 u0_18 u0_19 u0_20 u0_21 u0_22 u0_23 u0_24 u0_25 u0_26 u0_27 u0_28 u0_29 u0_30 u0_31 u0_32 u0_33 u0_34 u0_35 u0_36 u0_37 u0_38 u0_39 u0_40, aI cy q1 nw1_ r]) (none) := by
  refine Ct.mk kX11_turn (by decide +kernel) (Nat.le_of_ble_eq_true rfl) ?_
  intro p e s m below meth c A ls args R Q hRf hRl hQ E H locs hS hl
  have hx := E.x
  have hb := E.b
  have hl : lv_has ls 3 [(0, .ref q0), (1, .ref q1), (2, .int p2)] := hl
  unfold X11_turn at h
  refine lv_aload_n hx hb dX11_turn_0 rfl (lv_at hl 1 rfl) ?_
  refine lv_bipush (v := 28) hx hb dX11_turn_1 (by decide) ?_
  refine lv_iload_n hx hb dX11_turn_3 rfl (lv_at hl 2 rfl) ?_
  refine lv_bipush (v := 7) hx hb dX11_turn_4 (by decide) ?_
  obtain ⟨g1, h⟩ := gz_some h
  refine lv_idiv hx hb dX11_turn_6 g1 ?_
  refine lv_iadd hx hb dX11_turn_7 ?_
  refine lv_dup2_11 hx hb dX11_turn_8 rfl rfl ?_
  obtain ⟨g2, h⟩ := gi_some h
  refine r_iald E hS 1 rfl g2 dX11_turn_9 ?_
  refine lv_iconst (v := 1) hx hb dX11_turn_10 (by decide) ?_
  refine lv_iload_n hx hb dX11_turn_11 rfl (lv_at hl 2 rfl) ?_
  refine lv_bipush (v := 7) hx hb dX11_turn_12 (by decide) ?_
  obtain ⟨g3, h⟩ := gz_some h
  refine lv_irem hx hb dX11_turn_14 g3 ?_
  refine lv_ishl hx hb dX11_turn_15 ?_
  refine lv_ixor hx hb dX11_turn_16 ?_
  obtain ⟨g4, h⟩ := gi_some h
  refine r_iast (ws' := [oX11 q0 u0_0 u0_1 u0_2 u0_3 u0_4 u0_5 u0_6 u0_7 u0_8 u0_9 u0_10 u0_11 u0_12 u0_13 u0_14 u0_15 u0_16 u0_17 u0_18 u0_19 u0_20 u0_21 u0_22 u0_23 u0_24 u0_25 u0_26 u0_27 u0_28 u0_29 u0_30 u0_31 u0_32 u0_33 u0_34 u0_35 u0_36 u0_37 u0_38 u0_39 u0_40, aI cy q1 nw1_ (upd w1_ ((28 : Int32) + (p2 / (7 : Int32))).toNatClampNeg ((w1_ ((28 : Int32) + (p2 / (7 : Int32))).toNatClampNeg) ^^^ ((1 : Int32) <<< ((irem p2 (7 : Int32)) &&& 31))))]) E hS 1 rfl g4 rfl dX11_turn_17 (fun H locs hS => ?_)
  obtain rfl := Option.some.inj h
  exact rt_v E hQ (.null) hS dX11_turn_18

