set_option maxHeartbeats 4000000 in
set_option maxRecDepth 100000 in
theorem c_X11_readRule {l : Launch} {D : va_G} {cy : Nat → ClassId} (q0 : Nat) (q1 : Nat) (q2 : Nat) (u0_0 : Value) (u0_1 : Value) (u0_4 : Value) (u0_5 : Value) (u0_6 : Value) (u0_7 : Value) (u0_12 : Value) (u0_13 : Value) (u0_14 : Value) (u0_15 : Value) (u0_18 : Value) (u0_19 : Value) (u0_20 : Value) (u0_21 : Value) (u0_22 : Value) (u0_23 : Value) (u0_24 : Value) (u0_25 : Value) (u0_26 : Value) (u0_27 : Value) (u0_28 : Value) (u0_29 : Value) (u0_30 : Value) (u0_31 : Value) (u0_32 : Value) (u0_33 : Value) (u0_34 : Value) (u0_35 : Value) (u0_36 : Value) (u0_37 : Value) (u0_38 : Value) (u0_39 : Value) (u0_40 : Value) (v_typed : Int32) (v_length : Int32) (v_top : Int32) (v_at : Int32) (v_wrong : Int32) (v_isAsked : Int32) (v_text : Nat → Int32) (v_asked : Nat → Int32) (r : Int32 × Int32 × Int32 × Int32 × Int32 × Int32 × Int32) (h : X11_readRule v_typed v_text v_asked = some r) : Ct l yX11_readRule cX11_readRule 1 (some .boolean) 105 2508 D cy [.ref q0] [oX11 q0 u0_0 u0_1 (.ref q1) (.int v_typed) u0_4 u0_5 u0_6 u0_7 (.int v_length) (.int v_top) (.int v_at) (.int v_wrong) u0_12 u0_13 u0_14 u0_15 (.int v_isAsked) (.ref q2) u0_18 u0_19 u0_20 u0_21 u0_22 u0_23 u0_24 u0_25 u0_26 u0_27 u0_28 u0_29 u0_30 u0_31 u0_32 u0_33 u0_34 u0_35 u0_36 u0_37 u0_38 u0_39 u0_40, aB cy q1 80 v_text, aI cy q2 7 v_asked] (fun _ => [oX11 q0 u0_0 u0_1 (.ref q1) (.int r.2.1) u0_4 u0_5 u0_6 (.ref q1) (.int r.2.2.1) (.int r.2.2.2.1) (.int r.2.2.2.2.1) (.int r.2.2.2.2.2.1) u0_12 u0_13 u0_14 u0_15 (.int r.2.2.2.2.2.2) (.ref q2) u0_18 u0_19 u0_20 u0_21 u0_22 u0_23 u0_24 u0_25 u0_26 u0_27 u0_28 u0_29 u0_30 u0_31 u0_32 u0_33 u0_34 u0_35 u0_36 u0_37 u0_38 u0_39 u0_40, aB cy q1 80 v_text, aI cy q2 7 v_asked]) (some (.int r.1)) := by
  refine Ct.mk kX11_readRule (by decide +kernel) (Nat.le_of_ble_eq_true rfl) ?_
  intro p e s m below meth c A ls args R Q hRf hRl hQ E H locs hS hl
  have hx := E.x
  have hb := E.b
  have hl : lv_has ls 1 [(0, .ref q0)] := hl
  unfold X11_readRule at h
  refine lv_aload_n hx hb dX11_readRule_0 rfl (lv_at hl 0 rfl) ?_
  refine lv_bipush (v := 40) hx hb dX11_readRule_1 (by decide) ?_
  refine ct_V (ws' := fun _ => [oX11 q0 u0_0 u0_1 (.ref q1) (.int ((X11_beginText v_typed (40 : Int32)).1)) u0_4 u0_5 u0_6 (.ref q1) (.int ((X11_beginText v_typed (40 : Int32)).2.1)) (.int ((X11_beginText v_typed (40 : Int32)).2.2.1)) (.int ((X11_beginText v_typed (40 : Int32)).2.2.2.1)) (.int ((X11_beginText v_typed (40 : Int32)).2.2.2.2)) u0_12 u0_13 u0_14 u0_15 (.int v_isAsked) (.ref q2) u0_18 u0_19 u0_20 u0_21 u0_22 u0_23 u0_24 u0_25 u0_26 u0_27 u0_28 u0_29 u0_30 u0_31 u0_32 u0_33 u0_34 u0_35 u0_36 u0_37 u0_38 u0_39 u0_40, aB cy q1 80 v_text, aI cy q2 7 v_asked]) (st' := []) (rest := []) E hS vlX11_151 (c_X11_beginText (l := l) (D := D) (cy := cy) (q0 := q0) (u0_0 := u0_0) (u0_1 := u0_1) (z0_2 := q1) (u0_4 := u0_4) (u0_5 := u0_5) (u0_6 := u0_6) (u0_7 := u0_7) (u0_12 := u0_12) (u0_13 := u0_13) (u0_14 := u0_14) (u0_15 := u0_15) (u0_16 := .int v_isAsked) (u0_17 := .ref q2) (u0_18 := u0_18) (u0_19 := u0_19) (u0_20 := u0_20) (u0_21 := u0_21) (u0_22 := u0_22) (u0_23 := u0_23) (u0_24 := u0_24) (u0_25 := u0_25) (u0_26 := u0_26) (u0_27 := u0_27) (u0_28 := u0_28) (u0_29 := u0_29) (u0_30 := u0_30) (u0_31 := u0_31) (u0_32 := u0_32) (u0_33 := u0_33) (u0_34 := u0_34) (u0_35 := u0_35) (u0_36 := u0_36) (u0_37 := u0_37) (u0_38 := u0_38) (u0_39 := u0_39) (u0_40 := u0_40) (v_typed := v_typed) (v_length := v_length) (v_top := v_top) (v_at := v_at) (v_wrong := v_wrong) (p1 := (40 : Int32)) (r := (X11_beginText v_typed (40 : Int32))) rfl) [0] rfl rfl (fun _ => rfl) (fun _ => rfl) rfl rfl rfl rfl (Nat.le_of_ble_eq_true rfl) hl.1 (by rw [hRf]; exact Nat.le_of_ble_eq_true rfl) (by rw [hRl]; exact Nat.le_of_ble_eq_true rfl) ⟨Nat.zero_le _, Nat.zero_le _⟩ dX11_readRule_3 rfl (fun H locs _ hS => ?_)
  refine lv_aload_n hx hb dX11_readRule_6 rfl (lv_at hl 0 rfl) ?_
  refine lv_iconst (v := 0) hx hb dX11_readRule_7 (by decide) ?_
  refine r_put (ws' := [oX11 q0 u0_0 u0_1 (.ref q1) (.int ((X11_beginText v_typed (40 : Int32)).1)) u0_4 u0_5 u0_6 (.ref q1) (.int ((X11_beginText v_typed (40 : Int32)).2.1)) (.int ((X11_beginText v_typed (40 : Int32)).2.2.1)) (.int ((X11_beginText v_typed (40 : Int32)).2.2.2.1)) (.int ((X11_beginText v_typed (40 : Int32)).2.2.2.2)) u0_12 u0_13 u0_14 u0_15 (.int (0 : Int32)) (.ref q2) u0_18 u0_19 u0_20 u0_21 u0_22 u0_23 u0_24 u0_25 u0_26 u0_27 u0_28 u0_29 u0_30 u0_31 u0_32 u0_33 u0_34 u0_35 u0_36 u0_37 u0_38 u0_39 u0_40, aB cy q1 80 v_text, aI cy q2 7 v_asked]) E frX11_186 hS 0 rfl (Nat.le_of_ble_eq_true rfl) rfl rfl rfl rfl dX11_readRule_8 (fun H locs hS => ?_)
  refine lv_aload_n hx hb dX11_readRule_11 rfl (lv_at hl 0 rfl) ?_
  refine r_get E frX11_109 hS 0 rfl rfl dX11_readRule_12 ?_
  have hJ24 : ∀ (j24_v_at : Int32) (j24_v_wrong : Int32) (H : Heap) (locs : List Loc) (ls : Array Slot), X11_readRule_k24 v_typed j24_v_at j24_v_wrong = some r → Sv D A s.heap [oX11 q0 u0_0 u0_1 (.ref q1) (.int ((X11_beginText v_typed (40 : Int32)).1)) u0_4 u0_5 u0_6 (.ref q1) (.int ((X11_beginText v_typed (40 : Int32)).2.1)) (.int ((X11_beginText v_typed (40 : Int32)).2.2.1)) (.int j24_v_at) (.int j24_v_wrong) u0_12 u0_13 u0_14 u0_15 (.int (0 : Int32)) (.ref q2) u0_18 u0_19 u0_20 u0_21 u0_22 u0_23 u0_24 u0_25 u0_26 u0_27 u0_28 u0_29 u0_30 u0_31 u0_32 u0_33 u0_34 u0_35 u0_36 u0_37 u0_38 u0_39 u0_40, aB cy q1 80 v_text, aI cy q2 7 v_asked] H locs → lv_has ls 1 [(0, .ref q0)] → W p l e R s m args below meth c H locs 0 0 Q (F0 m 24 ls []) := by
    intro j24_v_at j24_v_wrong H locs ls h hS hl
    unfold X11_readRule_k24 at h
    refine lv_aload_n hx hb dX11_readRule_24 rfl (lv_at hl 0 rfl) ?_
    obtain ⟨y25, e1, h⟩ := bd_some h
    refine ct_V (ws' := fun _ => [oX11 q0 u0_0 u0_1 (.ref q1) (.int ((X11_beginText v_typed (40 : Int32)).1)) u0_4 u0_5 u0_6 (.ref q1) (.int ((X11_beginText v_typed (40 : Int32)).2.1)) (.int ((X11_beginText v_typed (40 : Int32)).2.2.1)) (.int j24_v_at) (.int y25.2) u0_12 u0_13 u0_14 u0_15 (.int (0 : Int32)) (.ref q2) u0_18 u0_19 u0_20 u0_21 u0_22 u0_23 u0_24 u0_25 u0_26 u0_27 u0_28 u0_29 u0_30 u0_31 u0_32 u0_33 u0_34 u0_35 u0_36 u0_37 u0_38 u0_39 u0_40, aB cy q1 80 v_text, aI cy q2 7 v_asked]) (st' := [.int y25.1]) (rest := []) E hS vlX11_154 (c_X11_wasRight (l := l) (D := D) (cy := cy) (q0 := q0) (u0_0 := u0_0) (u0_1 := u0_1) (u0_2 := .ref q1) (u0_3 := .int ((X11_beginText v_typed (40 : Int32)).1)) (u0_4 := u0_4) (u0_5 := u0_5) (u0_6 := u0_6) (u0_7 := .ref q1) (u0_9 := .int ((X11_beginText v_typed (40 : Int32)).2.2.1)) (u0_12 := u0_12) (u0_13 := u0_13) (u0_14 := u0_14) (u0_15 := u0_15) (u0_16 := .int (0 : Int32)) (u0_17 := .ref q2) (u0_18 := u0_18) (u0_19 := u0_19) (u0_20 := u0_20) (u0_21 := u0_21) (u0_22 := u0_22) (u0_23 := u0_23) (u0_24 := u0_24) (u0_25 := u0_25) (u0_26 := u0_26) (u0_27 := u0_27) (u0_28 := u0_28) (u0_29 := u0_29) (u0_30 := u0_30) (u0_31 := u0_31) (u0_32 := u0_32) (u0_33 := u0_33) (u0_34 := u0_34) (u0_35 := u0_35) (u0_36 := u0_36) (u0_37 := u0_37) (u0_38 := u0_38) (u0_39 := u0_39) (u0_40 := u0_40) (v_length := (X11_beginText v_typed (40 : Int32)).2.1) (v_at := j24_v_at) (v_wrong := j24_v_wrong) (r := y25) e1) [0] rfl rfl (fun _ => rfl) (fun _ => rfl) rfl rfl rfl rfl (Nat.le_of_ble_eq_true rfl) hl.1 (by rw [hRf]; exact Nat.le_of_ble_eq_true rfl) (by rw [hRl]; exact Nat.le_of_ble_eq_true rfl) ⟨Nat.zero_le _, Nat.zero_le _⟩ dX11_readRule_25 rfl (fun H locs _ hS => ?_)
    obtain ⟨g2, h⟩ := gn_some h
    obtain rfl := Option.some.inj h
    exact rt_n E (gn_nar g2) hQ (.null) hS dX11_readRule_28
  refine lv_if_le (tgt := 24) hx hb dX11_readRule_15 (by decide) (fun c3 => ?_) (fun c3 => ?_)
  · have h := it_pos c3 h
    exact hJ24 ((X11_beginText v_typed (40 : Int32)).2.2.2.1) ((X11_beginText v_typed (40 : Int32)).2.2.2.2)  H locs ls h hS (lv_sub hl [0] rfl)
  · have h := it_neg c3 h
    refine lv_aload_n hx hb dX11_readRule_18 rfl (lv_at hl 0 rfl) ?_
    refine lv_iconst (v := 0) hx hb dX11_readRule_19 (by decide) ?_
    obtain ⟨y20, e4, h⟩ := bd_some h
    refine ct_V (ws' := fun _ => [oX11 q0 u0_0 u0_1 (.ref q1) (.int ((X11_beginText v_typed (40 : Int32)).1)) u0_4 u0_5 u0_6 (.ref q1) (.int ((X11_beginText v_typed (40 : Int32)).2.1)) (.int ((X11_beginText v_typed (40 : Int32)).2.2.1)) (.int y20.2.1) (.int y20.2.2) u0_12 u0_13 u0_14 u0_15 (.int (0 : Int32)) (.ref q2) u0_18 u0_19 u0_20 u0_21 u0_22 u0_23 u0_24 u0_25 u0_26 u0_27 u0_28 u0_29 u0_30 u0_31 u0_32 u0_33 u0_34 u0_35 u0_36 u0_37 u0_38 u0_39 u0_40, aB cy q1 80 v_text, aI cy q2 7 v_asked]) (st' := [.int y20.1]) (rest := []) E hS vlX11_173 (c_X11_held (l := l) (D := D) (cy := cy) (q0 := q0) (q1 := q1) (q2 := q2) (u0_0 := u0_0) (u0_1 := u0_1) (u0_2 := .ref q1) (u0_3 := .int ((X11_beginText v_typed (40 : Int32)).1)) (u0_4 := u0_4) (u0_5 := u0_5) (u0_6 := u0_6) (u0_12 := u0_12) (u0_13 := u0_13) (u0_14 := u0_14) (u0_15 := u0_15) (u0_18 := u0_18) (u0_19 := u0_19) (u0_20 := u0_20) (u0_21 := u0_21) (u0_22 := u0_22) (u0_23 := u0_23) (u0_24 := u0_24) (u0_25 := u0_25) (u0_26 := u0_26) (u0_27 := u0_27) (u0_28 := u0_28) (u0_29 := u0_29) (u0_30 := u0_30) (u0_31 := u0_31) (u0_32 := u0_32) (u0_33 := u0_33) (u0_34 := u0_34) (u0_35 := u0_35) (u0_36 := u0_36) (u0_37 := u0_37) (u0_38 := u0_38) (u0_39 := u0_39) (u0_40 := u0_40) (v_length := (X11_beginText v_typed (40 : Int32)).2.1) (v_top := (X11_beginText v_typed (40 : Int32)).2.2.1) (v_at := (X11_beginText v_typed (40 : Int32)).2.2.2.1) (v_wrong := (X11_beginText v_typed (40 : Int32)).2.2.2.2) (v_isAsked := (0 : Int32)) (nv_read := 80) (v_read := v_text) (v_asked := v_asked) (p1 := (0 : Int32)) (r := y20) e4) [0, 1, 2] rfl rfl (fun _ => rfl) (fun _ => rfl) rfl rfl rfl rfl (Nat.le_of_ble_eq_true rfl) hl.1 (by rw [hRf]; exact Nat.le_of_ble_eq_true rfl) (by rw [hRl]; exact Nat.le_of_ble_eq_true rfl) ⟨Nat.zero_le _, Nat.zero_le _⟩ dX11_readRule_20 rfl (fun H locs _ hS => ?_)
    refine lv_pop hx hb dX11_readRule_23 rfl ?_
    exact hJ24 y20.2.1 y20.2.2  H locs ls h hS (lv_sub hl [0] rfl)
set_option maxHeartbeats 4000000 in
set_option maxRecDepth 100000 in
theorem c_X11_rule {l : Launch} {D : va_G} {cy : Nat → ClassId} (q0 : Nat) (q1 : Nat) (q2 : Nat) (q3 : Nat) (u0_0 : Value) (u0_1 : Value) (u0_4 : Value) (u0_5 : Value) (u0_7 : Value) (u0_12 : Value) (u0_14 : Value) (u0_18 : Value) (u0_19 : Value) (u0_20 : Value) (u0_21 : Value) (u0_22 : Value) (u0_23 : Value) (u0_24 : Value) (u0_25 : Value) (u0_26 : Value) (u0_27 : Value) (u0_28 : Value) (u0_29 : Value) (u0_30 : Value) (u0_31 : Value) (u0_32 : Value) (u0_33 : Value) (u0_34 : Value) (u0_35 : Value) (u0_36 : Value) (u0_37 : Value) (u0_38 : Value) (u0_39 : Value) (u0_40 : Value) (v_typed : Int32) (v_thrown : Int32) (v_length : Int32) (v_top : Int32) (v_at : Int32) (v_wrong : Int32) (v_ruleSize : Int32) (v_isAsked : Int32) (v_text : Nat → Int32) (v_rule : Nat → Int32) (v_asked : Nat → Int32) (r : Int32 × Int32 × Int32 × Int32 × Int32 × Int32 × Int32 × Int32 × Int32 × (Nat → Int32)) (h : X11_rule v_typed v_ruleSize v_text v_rule v_asked = some r) : Ct l yX11_rule cX11_rule 3 (some .int) 106 2528 D cy [.ref q0] [oX11 q0 u0_0 u0_1 (.ref q1) (.int v_typed) u0_4 u0_5 (.int v_thrown) u0_7 (.int v_length) (.int v_top) (.int v_at) (.int v_wrong) u0_12 (.ref q2) u0_14 (.int v_ruleSize) (.int v_isAsked) (.ref q3) u0_18 u0_19 u0_20 u0_21 u0_22 u0_23 u0_24 u0_25 u0_26 u0_27 u0_28 u0_29 u0_30 u0_31 u0_32 u0_33 u0_34 u0_35 u0_36 u0_37 u0_38 u0_39 u0_40, aB cy q1 80 v_text, aB cy q2 40 v_rule, aI cy q3 7 v_asked] (fun _ => [oX11 q0 u0_0 u0_1 (.ref q1) (.int r.2.1) u0_4 u0_5 (.int r.2.2.1) (.ref q1) (.int r.2.2.2.1) (.int r.2.2.2.2.1) (.int r.2.2.2.2.2.1) (.int r.2.2.2.2.2.2.1) u0_12 (.ref q2) u0_14 (.int r.2.2.2.2.2.2.2.1) (.int r.2.2.2.2.2.2.2.2.1) (.ref q3) u0_18 u0_19 u0_20 u0_21 u0_22 u0_23 u0_24 u0_25 u0_26 u0_27 u0_28 u0_29 u0_30 u0_31 u0_32 u0_33 u0_34 u0_35 u0_36 u0_37 u0_38 u0_39 u0_40, aB cy q1 80 v_text, aB cy q2 40 r.2.2.2.2.2.2.2.2.2, aI cy q3 7 v_asked]) (some (.int r.1)) := by
  refine Ct.mk kX11_rule (by decide +kernel) (Nat.le_of_ble_eq_true rfl) ?_
  intro p e s m below meth c A ls args R Q hRf hRl hQ E H locs hS hl
  have hx := E.x
  have hb := E.b
  have hl : lv_has ls 3 [(0, .ref q0)] := hl
  unfold X11_rule at h
  refine lv_aload_n hx hb dX11_rule_0 rfl (lv_at hl 0 rfl) ?_
  refine lv_iconst (v := 0) hx hb dX11_rule_1 (by decide) ?_
  refine r_put (ws' := [oX11 q0 u0_0 u0_1 (.ref q1) (.int v_typed) u0_4 u0_5 (.int (0 : Int32)) u0_7 (.int v_length) (.int v_top) (.int v_at) (.int v_wrong) u0_12 (.ref q2) u0_14 (.int v_ruleSize) (.int v_isAsked) (.ref q3) u0_18 u0_19 u0_20 u0_21 u0_22 u0_23 u0_24 u0_25 u0_26 u0_27 u0_28 u0_29 u0_30 u0_31 u0_32 u0_33 u0_34 u0_35 u0_36 u0_37 u0_38 u0_39 u0_40, aB cy q1 80 v_text, aB cy q2 40 v_rule, aI cy q3 7 v_asked]) E frX11_85 hS 0 rfl (Nat.le_of_ble_eq_true rfl) rfl rfl rfl rfl dX11_rule_2 (fun H locs hS => ?_)
  refine lv_aload_n hx hb dX11_rule_5 rfl (lv_at hl 0 rfl) ?_
  refine r_get E frX11_103 hS 0 rfl rfl dX11_rule_6 ?_
  refine lv_istore_n (lv' := [(1, .int v_typed), (0, .ref q0)]) hx hb dX11_rule_9 rfl hl (by decide) rfl (fun ls hl => ?_)
  refine lv_aload_n hx hb dX11_rule_10 rfl (lv_at hl 1 rfl) ?_
  obtain ⟨y11, e1, h⟩ := bd_some h
  refine ct_V (ws' := fun _ => [oX11 q0 u0_0 u0_1 (.ref q1) (.int y11.2.1) u0_4 u0_5 (.int (0 : Int32)) (.ref q1) (.int y11.2.2.1) (.int y11.2.2.2.1) (.int y11.2.2.2.2.1) (.int y11.2.2.2.2.2.1) u0_12 (.ref q2) u0_14 (.int v_ruleSize) (.int y11.2.2.2.2.2.2) (.ref q3) u0_18 u0_19 u0_20 u0_21 u0_22 u0_23 u0_24 u0_25 u0_26 u0_27 u0_28 u0_29 u0_30 u0_31 u0_32 u0_33 u0_34 u0_35 u0_36 u0_37 u0_38 u0_39 u0_40, aB cy q1 80 v_text, aB cy q2 40 v_rule, aI cy q3 7 v_asked]) (st' := [.int y11.1]) (rest := []) E hS vlX11_190 (c_X11_readRule (l := l) (D := D) (cy := cy) (q0 := q0) (q1 := q1) (q2 := q3) (u0_0 := u0_0) (u0_1 := u0_1) (u0_4 := u0_4) (u0_5 := u0_5) (u0_6 := .int (0 : Int32)) (u0_7 := u0_7) (u0_12 := u0_12) (u0_13 := .ref q2) (u0_14 := u0_14) (u0_15 := .int v_ruleSize) (u0_18 := u0_18) (u0_19 := u0_19) (u0_20 := u0_20) (u0_21 := u0_21) (u0_22 := u0_22) (u0_23 := u0_23) (u0_24 := u0_24) (u0_25 := u0_25) (u0_26 := u0_26) (u0_27 := u0_27) (u0_28 := u0_28) (u0_29 := u0_29) (u0_30 := u0_30) (u0_31 := u0_31) (u0_32 := u0_32) (u0_33 := u0_33) (u0_34 := u0_34) (u0_35 := u0_35) (u0_36 := u0_36) (u0_37 := u0_37) (u0_38 := u0_38) (u0_39 := u0_39) (u0_40 := u0_40) (v_typed := v_typed) (v_length := v_length) (v_top := v_top) (v_at := v_at) (v_wrong := v_wrong) (v_isAsked := v_isAsked) (v_text := v_text) (v_asked := v_asked) (r := y11) e1) [0, 1, 3] rfl rfl (fun _ => rfl) (fun _ => rfl) rfl rfl rfl rfl (Nat.le_of_ble_eq_true rfl) hl.1 (by rw [hRf]; exact Nat.le_of_ble_eq_true rfl) (by rw [hRl]; exact Nat.le_of_ble_eq_true rfl) ⟨Nat.zero_le _, Nat.zero_le _⟩ dX11_rule_11 rfl (fun H locs _ hS => ?_)
  refine lv_if_ne (tgt := 24) hx hb dX11_rule_14 (by decide) (fun c2 => ?_) (fun c2 => ?_)
  · have h := it_neg c2 h
    refine lv_iconst (v := 0) hx hb dX11_rule_24 (by decide) ?_
    refine lv_istore_n (lv' := [(2, .int (0 : Int32)), (1, .int v_typed), (0, .ref q0)]) hx hb dX11_rule_25 rfl hl (by decide) rfl (fun ls hl => ?_)
    have hL26 : ∀ (n : Nat) (x26_0 : Int32) (x26_1 : Nat → Int32) (y26 : (Nat → Int32)) (H : Heap) (locs : List Loc) (ls : Array Slot), lp (fun x26 => X11_rule_s26 v_typed v_text x26.1 x26.2) n (x26_0, x26_1) = some y26 → Sv D A s.heap [oX11 q0 u0_0 u0_1 (.ref q1) (.int y11.2.1) u0_4 u0_5 (.int (0 : Int32)) (.ref q1) (.int y11.2.2.1) (.int y11.2.2.2.1) (.int y11.2.2.2.2.1) (.int y11.2.2.2.2.2.1) u0_12 (.ref q2) u0_14 (.int v_ruleSize) (.int y11.2.2.2.2.2.2) (.ref q3) u0_18 u0_19 u0_20 u0_21 u0_22 u0_23 u0_24 u0_25 u0_26 u0_27 u0_28 u0_29 u0_30 u0_31 u0_32 u0_33 u0_34 u0_35 u0_36 u0_37 u0_38 u0_39 u0_40, aB cy q1 80 v_text, aB cy q2 40 x26_1, aI cy q3 7 v_asked] H locs → lv_has ls 3 [(0, .ref q0), (1, .int v_typed), (2, .int x26_0)] → ( ∀ (y26_0 : Nat → Int32), y26_0 = y26 → ∀ (H : Heap) (locs : List Loc) (ls : Array Slot), Sv D A s.heap [oX11 q0 u0_0 u0_1 (.ref q1) (.int y11.2.1) u0_4 u0_5 (.int (0 : Int32)) (.ref q1) (.int y11.2.2.1) (.int y11.2.2.2.1) (.int y11.2.2.2.2.1) (.int y11.2.2.2.2.2.1) u0_12 (.ref q2) u0_14 (.int v_ruleSize) (.int y11.2.2.2.2.2.2) (.ref q3) u0_18 u0_19 u0_20 u0_21 u0_22 u0_23 u0_24 u0_25 u0_26 u0_27 u0_28 u0_29 u0_30 u0_31 u0_32 u0_33 u0_34 u0_35 u0_36 u0_37 u0_38 u0_39 u0_40, aB cy q1 80 v_text, aB cy q2 40 y26_0, aI cy q3 7 v_asked] H locs → lv_has ls 3 [(0, .ref q0), (1, .int v_typed)] → W p l e R s m args below meth c H locs 0 0 Q (F0 m 49 ls [])) → W p l e R s m args below meth c H locs 0 0 Q (F0 m 26 ls []) := by
      intro n
      induction n with
      | zero =>
        intro x26_0 x26_1 y26 H locs ls h
        exact lp_zero h
      | succ n ih26 =>
        intro x26_0 x26_1 y26 H locs ls h hS hl hk26_0
        obtain ⟨z26, h, hz26a, hz26b⟩ := lp_succ h
        have h : X11_rule_s26 v_typed v_text x26_0 x26_1 = some z26 := h
        unfold X11_rule_s26 at h
        refine lv_iload_n hx hb dX11_rule_26 rfl (lv_at hl 2 rfl) ?_
        refine lv_iload_n hx hb dX11_rule_27 rfl (lv_at hl 1 rfl) ?_
        refine lv_icmp_ge (tgt := 49) hx hb dX11_rule_28 (by decide) (fun c3 => ?_) (fun c3 => ?_)
        · have h := it_pos c3 h
          exact hk26_0 x26_1 (hz26b _ (Option.some.inj h).symm)  H locs ls hS (lv_sub hl [0, 1] rfl)
        · have h := it_neg c3 h
          refine lv_aload_n hx hb dX11_rule_31 rfl (lv_at hl 0 rfl) ?_
          refine r_get E frX11_24 hS 0 rfl rfl dX11_rule_32 ?_
          refine lv_iload_n hx hb dX11_rule_35 rfl (lv_at hl 2 rfl) ?_
          refine lv_aload_n hx hb dX11_rule_36 rfl (lv_at hl 0 rfl) ?_
          refine r_get E frX11_13 hS 0 rfl rfl dX11_rule_37 ?_
          refine lv_iload_n hx hb dX11_rule_40 rfl (lv_at hl 2 rfl) ?_
          obtain ⟨g4, h⟩ := gi_some h
          refine r_bald E hS 1 rfl g4 dX11_rule_41 ?_
          obtain ⟨g5, h⟩ := gi_some h
          refine r_bast (ws' := [oX11 q0 u0_0 u0_1 (.ref q1) (.int y11.2.1) u0_4 u0_5 (.int (0 : Int32)) (.ref q1) (.int y11.2.2.1) (.int y11.2.2.2.1) (.int y11.2.2.2.2.1) (.int y11.2.2.2.2.2.1) u0_12 (.ref q2) u0_14 (.int v_ruleSize) (.int y11.2.2.2.2.2.2) (.ref q3) u0_18 u0_19 u0_20 u0_21 u0_22 u0_23 u0_24 u0_25 u0_26 u0_27 u0_28 u0_29 u0_30 u0_31 u0_32 u0_33 u0_34 u0_35 u0_36 u0_37 u0_38 u0_39 u0_40, aB cy q1 80 v_text, aB cy q2 40 (upd x26_1 x26_0.toNatClampNeg (vp_nar .byte (v_text x26_0.toNatClampNeg))), aI cy q3 7 v_asked]) E hS 2 rfl g5 rfl dX11_rule_42 (fun H locs hS => ?_)
          refine lv_iinc (v := (x26_0 + (1 : Int32))) (lv' := [(2, .int (x26_0 + (1 : Int32))), (0, .ref q0), (1, .int v_typed)]) hx hb dX11_rule_43 hl (k := 2) rfl rfl (by decide) rfl (fun ls hl => ?_)
          refine lv_goto (tgt := 26) hx hb dX11_rule_46 (by decide) ?_
          exact ih26 (x26_0 + (1 : Int32)) (upd x26_1 x26_0.toNatClampNeg (vp_nar .byte (v_text x26_0.toNatClampNeg))) y26  H locs ls (hz26a _ (Option.some.inj h).symm) hS (lv_sub hl [1, 2, 0] rfl) hk26_0
    obtain ⟨y26, e26, h⟩ := bd_some h
    refine hL26 1000 (0 : Int32) v_rule y26  H locs ls e26 hS (lv_sub hl [2, 1, 0] rfl) (fun y26_0 ey26 H locs ls hS hl => ?_)
    subst ey26
    refine lv_aload_n hx hb dX11_rule_49 rfl (lv_at hl 0 rfl) ?_
    refine lv_iload_n hx hb dX11_rule_50 rfl (lv_at hl 1 rfl) ?_
    refine r_put (ws' := [oX11 q0 u0_0 u0_1 (.ref q1) (.int y11.2.1) u0_4 u0_5 (.int (0 : Int32)) (.ref q1) (.int y11.2.2.1) (.int y11.2.2.2.1) (.int y11.2.2.2.2.1) (.int y11.2.2.2.2.2.1) u0_12 (.ref q2) u0_14 (.int v_typed) (.int y11.2.2.2.2.2.2) (.ref q3) u0_18 u0_19 u0_20 u0_21 u0_22 u0_23 u0_24 u0_25 u0_26 u0_27 u0_28 u0_29 u0_30 u0_31 u0_32 u0_33 u0_34 u0_35 u0_36 u0_37 u0_38 u0_39 u0_40, aB cy q1 80 v_text, aB cy q2 40 y26_0, aI cy q3 7 v_asked]) E frX11_193 hS 0 rfl (Nat.le_of_ble_eq_true rfl) rfl rfl rfl rfl dX11_rule_51 (fun H locs hS => ?_)
    refine lv_iconst (v := 0) hx hb dX11_rule_54 (by decide) ?_
    obtain rfl := Option.some.inj h
    exact rt_i E hQ (.null) hS dX11_rule_55
  · have h := it_pos c2 h
    refine lv_iconst (v := -1) hx hb dX11_rule_17 (by decide) ?_
    refine lv_aload_n hx hb dX11_rule_18 rfl (lv_at hl 1 rfl) ?_
    refine r_get E frX11_118 hS 0 rfl rfl dX11_rule_19 ?_
    refine lv_isub hx hb dX11_rule_22 ?_
    obtain rfl := Option.some.inj h
    exact rt_i E hQ (.null) hS dX11_rule_23
set_option maxHeartbeats 4000000 in
set_option maxRecDepth 100000 in
theorem c_X11_wantedBy {l : Launch} {D : va_G} {cy : Nat → ClassId} (q0 : Nat) (q1 : Nat) (u0_0 : Value) (u0_2 : Value) (u0_3 : Value) (u0_4 : Value) (u0_5 : Value) (u0_6 : Value) (u0_7 : Value) (u0_8 : Value) (u0_9 : Value) (u0_10 : Value) (u0_11 : Value) (u0_12 : Value) (u0_13 : Value) (u0_14 : Value) (u0_15 : Value) (u0_16 : Value) (u0_17 : Value) (u0_18 : Value) (u0_19 : Value) (u0_20 : Value) (u0_21 : Value) (u0_22 : Value) (u0_23 : Value) (u0_24 : Value) (u0_25 : Value) (u0_26 : Value) (u0_27 : Value) (u0_28 : Value) (u0_29 : Value) (u0_30 : Value) (u0_31 : Value) (u0_32 : Value) (u0_33 : Value) (u0_34 : Value) (u0_35 : Value) (u0_36 : Value) (u0_37 : Value) (u0_38 : Value) (u0_39 : Value) (u0_40 : Value) (v_people : Int32) (nw1_ : Nat) (w1_ : Nat → Int32) (p2 : Int32) (r : Int32) (h : X11_wantedBy v_people nw1_ w1_ p2 = some r) : Ct l yX11_wantedBy cX11_wantedBy 5 (some .int) 1 21 D cy [.ref q0, .ref q1, .int p2] [oX11 q0 u0_0 (.int v_people) u0_2 u0_3 u0_4 u0_5 u0_6 u0_7 u0_8 u0_9 u0_10 u0_11 u0_12 u0_13 u0_14 u0_15 u0_16 u0_17 u0_18 u0_19 u0_20 u0_21 u0_22 u0_23 u0_24 u0_25 u0_26 u0_27 u0_28 u0_29 u0_30 u0_31 u0_32 u0_33 u0_34 u0_35 u0_36 u0_37 u0_38 u0_39 u0_40, aI cy q1 nw1_ w1_] (fun _ => [oX11 q0 u0_0 (.int v_people) u0_2 u0_3 u0_4 u0_5 u0_6 u0_7 u0_8 u0_9 u0_10 u0_11 u0_12 u0_13 u0_14 u0_15 u0_16 u0_17 u0_18 u0_19 u0_20 u0_21 u0_22 u0_23 u0_24 u0_25 u0_26 u0_27 u0_28 u0_29 u0_30 u0_31 u0_32 u0_33 u0_34 u0_35 u0_36 u0_37 u0_38 u0_39 u0_40, aI cy q1 nw1_ w1_]) (some (.int r)) := by
  refine Ct.mk kX11_wantedBy (by decide +kernel) (Nat.le_of_ble_eq_true rfl) ?_
  intro p e s m below meth c A ls args R Q hRf hRl hQ E H locs hS hl
  have hx := E.x
  have hb := E.b
  have hl : lv_has ls 5 [(0, .ref q0), (1, .ref q1), (2, .int p2)] := hl
  unfold X11_wantedBy at h
  refine lv_iconst (v := 0) hx hb dX11_wantedBy_0 (by decide) ?_
  refine lv_istore_n (lv' := [(3, .int (0 : Int32)), (0, .ref q0), (1, .ref q1), (2, .int p2)]) hx hb dX11_wantedBy_1 rfl hl (by decide) rfl (fun ls hl => ?_)
  refine lv_iconst (v := 0) hx hb dX11_wantedBy_2 (by decide) ?_
  refine lv_istore (lv' := [(4, .int (0 : Int32)), (3, .int (0 : Int32)), (0, .ref q0), (1, .ref q1), (2, .int p2)]) hx hb dX11_wantedBy_3 hl (by decide) rfl (fun ls hl => ?_)
  have hL5 : ∀ (n : Nat) (x5_0 : Int32) (x5_1 : Int32) (y5 : Int32) (H : Heap) (locs : List Loc) (ls : Array Slot), lp (fun x5 => X11_wantedBy_s5 v_people nw1_ w1_ p2 x5.1 x5.2) n (x5_0, x5_1) = some y5 → Sv D A s.heap [oX11 q0 u0_0 (.int v_people) u0_2 u0_3 u0_4 u0_5 u0_6 u0_7 u0_8 u0_9 u0_10 u0_11 u0_12 u0_13 u0_14 u0_15 u0_16 u0_17 u0_18 u0_19 u0_20 u0_21 u0_22 u0_23 u0_24 u0_25 u0_26 u0_27 u0_28 u0_29 u0_30 u0_31 u0_32 u0_33 u0_34 u0_35 u0_36 u0_37 u0_38 u0_39 u0_40, aI cy q1 nw1_ w1_] H locs → lv_has ls 5 [(0, .ref q0), (1, .ref q1), (2, .int p2), (3, .int x5_0), (4, .int x5_1)] → ( ∀ (y5_0 : Int32), y5_0 = y5 → ∀ (H : Heap) (locs : List Loc) (ls : Array Slot), Sv D A s.heap [oX11 q0 u0_0 (.int v_people) u0_2 u0_3 u0_4 u0_5 u0_6 u0_7 u0_8 u0_9 u0_10 u0_11 u0_12 u0_13 u0_14 u0_15 u0_16 u0_17 u0_18 u0_19 u0_20 u0_21 u0_22 u0_23 u0_24 u0_25 u0_26 u0_27 u0_28 u0_29 u0_30 u0_31 u0_32 u0_33 u0_34 u0_35 u0_36 u0_37 u0_38 u0_39 u0_40, aI cy q1 nw1_ w1_] H locs → lv_has ls 5 [(3, .int y5_0)] → W p l e R s m args below meth c H locs 0 0 Q (F0 m 45 ls [])) → W p l e R s m args below meth c H locs 0 0 Q (F0 m 5 ls []) := by
    intro n
    induction n with
    | zero =>
      intro x5_0 x5_1 y5 H locs ls h
      exact lp_zero h
    | succ n ih5 =>
      intro x5_0 x5_1 y5 H locs ls h hS hl hk5_0
      obtain ⟨z5, h, hz5a, hz5b⟩ := lp_succ h
      have h : X11_wantedBy_s5 v_people nw1_ w1_ p2 x5_0 x5_1 = some z5 := h
      unfold X11_wantedBy_s5 at h
      refine lv_iload hx hb dX11_wantedBy_5 (lv_at hl 4 rfl) ?_
      refine lv_aload_n hx hb dX11_wantedBy_7 rfl (lv_at hl 0 rfl) ?_
      refine r_get E frX11_92 hS 0 rfl rfl dX11_wantedBy_8 ?_
      refine lv_icmp_ge (tgt := 45) hx hb dX11_wantedBy_11 (by decide) (fun c1 => ?_) (fun c1 => ?_)
      · have h := it_pos c1 h
        exact hk5_0 x5_0 (hz5b _ (Option.some.inj h).symm)  H locs ls hS (lv_sub hl [3] rfl)
      · have h := it_neg c1 h
        refine lv_iload_n hx hb dX11_wantedBy_14 rfl (lv_at hl 3 rfl) ?_
        refine lv_aload_n hx hb dX11_wantedBy_15 rfl (lv_at hl 1 rfl) ?_
        refine lv_bipush (v := 28) hx hb dX11_wantedBy_16 (by decide) ?_
        refine lv_iload hx hb dX11_wantedBy_18 (lv_at hl 4 rfl) ?_
        refine lv_iadd hx hb dX11_wantedBy_20 ?_
        obtain ⟨g2, h⟩ := gi_some h
        refine r_iald E hS 1 rfl g2 dX11_wantedBy_21 ?_
        refine lv_iload_n hx hb dX11_wantedBy_22 rfl (lv_at hl 2 rfl) ?_
        refine ct_S (ws' := fun _ => [oX11 q0 u0_0 (.int v_people) u0_2 u0_3 u0_4 u0_5 u0_6 u0_7 u0_8 u0_9 u0_10 u0_11 u0_12 u0_13 u0_14 u0_15 u0_16 u0_17 u0_18 u0_19 u0_20 u0_21 u0_22 u0_23 u0_24 u0_25 u0_26 u0_27 u0_28 u0_29 u0_30 u0_31 u0_32 u0_33 u0_34 u0_35 u0_36 u0_37 u0_38 u0_39 u0_40, aI cy q1 nw1_ w1_]) (st' := [.int (X11_has (w1_ ((28 : Int32) + x5_1).toNatClampNeg) p2), .int x5_0]) (rest := [.int x5_0]) E hS slX11_196 (c_X11_has (l := l) (D := D) (cy := cy) (p0 := (w1_ ((28 : Int32) + x5_1).toNatClampNeg)) (p1 := p2) (r := (X11_has (w1_ ((28 : Int32) + x5_1).toNatClampNeg) p2)) rfl) [] rfl rfl (fun _ => rfl) (fun _ => rfl) rfl rfl (Nat.le_of_ble_eq_true rfl) hl.1 (by rw [hRf]; exact Nat.le_of_ble_eq_true rfl) (by rw [hRl]; exact Nat.le_of_ble_eq_true rfl) ⟨Nat.zero_le _, Nat.zero_le _⟩ dX11_wantedBy_23 rfl (fun H locs _ hS => ?_)
        have hJ37 : ∀ (s37_1 : Int32) (ls : Array Slot), s37_1 = (if (X11_has (w1_ ((28 : Int32) + x5_1).toNatClampNeg) p2) = 0 then (0 : Int32) else ((1 : Int32) <<< (x5_1 &&& 31))) → lv_has ls 5 [(0, .ref q0), (1, .ref q1), (2, .int p2), (4, .int x5_1)] → W p l e R s m args below meth c H locs 0 0 Q (F0 m 37 ls [.int s37_1, .int x5_0]) := by
          intro s37_1 ls es37_1 hl
          subst es37_1
          refine lv_ior hx hb dX11_wantedBy_37 ?_
          refine lv_istore_n (lv' := [(3, .int (x5_0 ||| (if (X11_has (w1_ ((28 : Int32) + x5_1).toNatClampNeg) p2) = 0 then (0 : Int32) else ((1 : Int32) <<< (x5_1 &&& 31))))), (0, .ref q0), (1, .ref q1), (2, .int p2), (4, .int x5_1)]) hx hb dX11_wantedBy_38 rfl hl (by decide) rfl (fun ls hl => ?_)
          refine lv_iinc (v := (x5_1 + (1 : Int32))) (lv' := [(4, .int (x5_1 + (1 : Int32))), (3, .int (x5_0 ||| (if (X11_has (w1_ ((28 : Int32) + x5_1).toNatClampNeg) p2) = 0 then (0 : Int32) else ((1 : Int32) <<< (x5_1 &&& 31))))), (0, .ref q0), (1, .ref q1), (2, .int p2)]) hx hb dX11_wantedBy_39 hl (k := 4) rfl rfl (by decide) rfl (fun ls hl => ?_)
          refine lv_goto (tgt := 5) hx hb dX11_wantedBy_42 (by decide) ?_
          exact ih5 (x5_0 ||| (if (X11_has (w1_ ((28 : Int32) + x5_1).toNatClampNeg) p2) = 0 then (0 : Int32) else ((1 : Int32) <<< (x5_1 &&& 31)))) (x5_1 + (1 : Int32)) y5  H locs ls (hz5a _ (Option.some.inj h).symm) hS (lv_sub hl [2, 3, 4, 1, 0] rfl) hk5_0
        refine lv_if_eq (tgt := 36) hx hb dX11_wantedBy_26 (by decide) (fun c3 => ?_) (fun c3 => ?_)
        · refine lv_iconst (v := 0) hx hb dX11_wantedBy_36 (by decide) ?_
          exact hJ37 _ ls ((if_pos c3)).symm (lv_sub hl [0, 1, 2, 4] rfl)
        · refine lv_iconst (v := 1) hx hb dX11_wantedBy_29 (by decide) ?_
          refine lv_iload hx hb dX11_wantedBy_30 (lv_at hl 4 rfl) ?_
          refine lv_ishl hx hb dX11_wantedBy_32 ?_
          refine lv_goto (tgt := 37) hx hb dX11_wantedBy_33 (by decide) ?_
          exact hJ37 _ ls ((if_neg c3)).symm (lv_sub hl [0, 1, 2, 4] rfl)
  obtain ⟨y5, e5, h⟩ := bd_some h
  refine hL5 1000 (0 : Int32) (0 : Int32) y5  H locs ls e5 hS (lv_sub hl [2, 3, 4, 1, 0] rfl) (fun y5_0 ey5 H locs ls hS hl => ?_)
  subst ey5
  refine lv_iload_n hx hb dX11_wantedBy_45 rfl (lv_at hl 0 rfl) ?_
  obtain rfl := Option.some.inj h
  exact rt_i E hQ (.null) hS dX11_wantedBy_46
set_option maxHeartbeats 4000000 in
set_option maxRecDepth 100000 in
theorem c_X11_needs {l : Launch} {D : va_G} {cy : Nat → ClassId} (q0 : Nat) (q1 : Nat) (q2 : Nat) (q3 : Nat) (u0_0 : Value) (u0_2 : Value) (u0_3 : Value) (u0_4 : Value) (u0_5 : Value) (u0_6 : Value) (u0_7 : Value) (u0_12 : Value) (u0_14 : Value) (u0_18 : Value) (u0_19 : Value) (u0_20 : Value) (u0_21 : Value) (u0_22 : Value) (u0_23 : Value) (u0_24 : Value) (u0_25 : Value) (u0_26 : Value) (u0_27 : Value) (u0_28 : Value) (u0_29 : Value) (u0_30 : Value) (u0_31 : Value) (u0_32 : Value) (u0_33 : Value) (u0_34 : Value) (u0_35 : Value) (u0_36 : Value) (u0_37 : Value) (u0_38 : Value) (u0_39 : Value) (u0_40 : Value) (v_people : Int32) (v_length : Int32) (v_top : Int32) (v_at : Int32) (v_wrong : Int32) (v_ruleSize : Int32) (v_isAsked : Int32) (v_rule : Nat → Int32) (v_asked : Nat → Int32) (nw1_ : Nat) (w1_ : Nat → Int32) (p2 : Int32) (p3 : Int32) (r : Int32 × Int32 × Int32 × Int32 × Int32 × Int32 × (Nat → Int32)) (h : X11_needs v_people v_length v_top v_at v_wrong v_ruleSize v_isAsked v_rule v_asked nw1_ w1_ p2 p3 = some r) : Ct l yX11_needs cX11_needs 6 (some .boolean) 105 2508 D cy [.ref q0, .ref q3, .int p2, .int p3] [oX11 q0 u0_0 (.int v_people) u0_2 u0_3 u0_4 u0_5 u0_6 u0_7 (.int v_length) (.int v_top) (.int v_at) (.int v_wrong) u0_12 (.ref q1) u0_14 (.int v_ruleSize) (.int v_isAsked) (.ref q2) u0_18 u0_19 u0_20 u0_21 u0_22 u0_23 u0_24 u0_25 u0_26 u0_27 u0_28 u0_29 u0_30 u0_31 u0_32 u0_33 u0_34 u0_35 u0_36 u0_37 u0_38 u0_39 u0_40, aB cy q1 40 v_rule, aI cy q2 7 v_asked, aI cy q3 nw1_ w1_] (fun rv => [oX11 q0 u0_0 (.int v_people) u0_2 u0_3 u0_4 u0_5 u0_6 rv (.int r.2.1) (.int r.2.2.1) (.int r.2.2.2.1) (.int r.2.2.2.2.1) u0_12 (.ref q1) u0_14 (.int v_ruleSize) (.int r.2.2.2.2.2.1) (.ref q2) u0_18 u0_19 u0_20 u0_21 u0_22 u0_23 u0_24 u0_25 u0_26 u0_27 u0_28 u0_29 u0_30 u0_31 u0_32 u0_33 u0_34 u0_35 u0_36 u0_37 u0_38 u0_39 u0_40, aB cy q1 40 v_rule, aI cy q2 7 r.2.2.2.2.2.2, aI cy q3 nw1_ w1_]) (some (.int r.1)) := by
  refine Ct.mk kX11_needs (by decide +kernel) (Nat.le_of_ble_eq_true rfl) ?_
  intro p e s m below meth c A ls args R Q hRf hRl hQ E H locs hS hl
  have hx := E.x
  have hb := E.b
  have hl : lv_has ls 6 [(0, .ref q0), (1, .ref q3), (2, .int p2), (3, .int p3)] := hl
  unfold X11_needs at h
  refine lv_aload_n hx hb dX11_needs_0 rfl (lv_at hl 0 rfl) ?_
  refine lv_aload_n hx hb dX11_needs_1 rfl (lv_at hl 1 rfl) ?_
  refine lv_iload_n hx hb dX11_needs_2 rfl (lv_at hl 3 rfl) ?_
  obtain ⟨y3, e1, h⟩ := bd_some h
  refine ct_V (ws' := fun _ => [oX11 q0 u0_0 (.int v_people) u0_2 u0_3 u0_4 u0_5 u0_6 u0_7 (.int v_length) (.int v_top) (.int v_at) (.int v_wrong) u0_12 (.ref q1) u0_14 (.int v_ruleSize) (.int v_isAsked) (.ref q2) u0_18 u0_19 u0_20 u0_21 u0_22 u0_23 u0_24 u0_25 u0_26 u0_27 u0_28 u0_29 u0_30 u0_31 u0_32 u0_33 u0_34 u0_35 u0_36 u0_37 u0_38 u0_39 u0_40, aB cy q1 40 v_rule, aI cy q2 7 v_asked, aI cy q3 nw1_ w1_]) (st' := [.int y3]) (rest := []) E hS vlX11_200 (c_X11_wantedBy (l := l) (D := D) (cy := cy) (q0 := q0) (q1 := q3) (u0_0 := u0_0) (u0_2 := u0_2) (u0_3 := u0_3) (u0_4 := u0_4) (u0_5 := u0_5) (u0_6 := u0_6) (u0_7 := u0_7) (u0_8 := .int v_length) (u0_9 := .int v_top) (u0_10 := .int v_at) (u0_11 := .int v_wrong) (u0_12 := u0_12) (u0_13 := .ref q1) (u0_14 := u0_14) (u0_15 := .int v_ruleSize) (u0_16 := .int v_isAsked) (u0_17 := .ref q2) (u0_18 := u0_18) (u0_19 := u0_19) (u0_20 := u0_20) (u0_21 := u0_21) (u0_22 := u0_22) (u0_23 := u0_23) (u0_24 := u0_24) (u0_25 := u0_25) (u0_26 := u0_26) (u0_27 := u0_27) (u0_28 := u0_28) (u0_29 := u0_29) (u0_30 := u0_30) (u0_31 := u0_31) (u0_32 := u0_32) (u0_33 := u0_33) (u0_34 := u0_34) (u0_35 := u0_35) (u0_36 := u0_36) (u0_37 := u0_37) (u0_38 := u0_38) (u0_39 := u0_39) (u0_40 := u0_40) (v_people := v_people) (nw1_ := nw1_) (w1_ := w1_) (p2 := p3) (r := y3) e1) [0, 3] rfl rfl (fun _ => rfl) (fun _ => rfl) rfl rfl rfl rfl (Nat.le_of_ble_eq_true rfl) hl.1 (by rw [hRf]; exact Nat.le_of_ble_eq_true rfl) (by rw [hRl]; exact Nat.le_of_ble_eq_true rfl) ⟨Nat.zero_le _, Nat.zero_le _⟩ dX11_needs_3 rfl (fun H locs _ hS => ?_)
  refine ct_S (ws' := fun _ => [oX11 q0 u0_0 (.int v_people) u0_2 u0_3 u0_4 u0_5 u0_6 u0_7 (.int v_length) (.int v_top) (.int v_at) (.int v_wrong) u0_12 (.ref q1) u0_14 (.int v_ruleSize) (.int v_isAsked) (.ref q2) u0_18 u0_19 u0_20 u0_21 u0_22 u0_23 u0_24 u0_25 u0_26 u0_27 u0_28 u0_29 u0_30 u0_31 u0_32 u0_33 u0_34 u0_35 u0_36 u0_37 u0_38 u0_39 u0_40, aB cy q1 40 v_rule, aI cy q2 7 v_asked, aI cy q3 nw1_ w1_]) (st' := [.int (J6_bitCount_0f7a4 y3)]) (rest := []) E hS slX11_204 (c_J6_bitCount_0f7a4 (l := l) (D := D) (cy := cy) (p0 := y3) (r := (J6_bitCount_0f7a4 y3)) rfl) [] rfl rfl (fun _ => rfl) (fun _ => rfl) rfl rfl (Nat.le_of_ble_eq_true rfl) hl.1 (by rw [hRf]; exact Nat.le_of_ble_eq_true rfl) (by rw [hRl]; exact Nat.le_of_ble_eq_true rfl) ⟨Nat.zero_le _, Nat.zero_le _⟩ dX11_needs_6 rfl (fun H locs _ hS => ?_)
  refine lv_istore (lv' := [(4, .int (J6_bitCount_0f7a4 y3)), (0, .ref q0), (1, .ref q3), (2, .int p2), (3, .int p3)]) hx hb dX11_needs_9 hl (by decide) rfl (fun ls hl => ?_)
  refine lv_aload_n hx hb dX11_needs_11 rfl (lv_at hl 1 rfl) ?_
  refine r_get E frX11_193 hS 0 rfl rfl dX11_needs_12 ?_
  refine lv_if_ne (tgt := 35) hx hb dX11_needs_15 (by decide) (fun c2 => ?_) (fun c2 => ?_)
  · have h := it_neg c2 h
    refine lv_aload_n hx hb dX11_needs_35 rfl (lv_at hl 1 rfl) ?_
    refine r_get E frX11_30 hS 0 rfl rfl dX11_needs_36 ?_
    refine lv_iconst (v := 0) hx hb dX11_needs_39 (by decide) ?_
    refine lv_aload_n hx hb dX11_needs_40 rfl (lv_at hl 2 rfl) ?_
    refine lv_iload_n hx hb dX11_needs_41 rfl (lv_at hl 4 rfl) ?_
    obtain ⟨g3, h⟩ := gi_some h
    refine r_iald E hS 3 rfl g3 dX11_needs_42 ?_
    obtain ⟨g4, h⟩ := gi_some h
    refine r_iast (ws' := [oX11 q0 u0_0 (.int v_people) u0_2 u0_3 u0_4 u0_5 u0_6 u0_7 (.int v_length) (.int v_top) (.int v_at) (.int v_wrong) u0_12 (.ref q1) u0_14 (.int v_ruleSize) (.int v_isAsked) (.ref q2) u0_18 u0_19 u0_20 u0_21 u0_22 u0_23 u0_24 u0_25 u0_26 u0_27 u0_28 u0_29 u0_30 u0_31 u0_32 u0_33 u0_34 u0_35 u0_36 u0_37 u0_38 u0_39 u0_40, aB cy q1 40 v_rule, aI cy q2 7 (upd v_asked (0 : Int32).toNatClampNeg (w1_ p3.toNatClampNeg)), aI cy q3 nw1_ w1_]) E hS 2 rfl g4 rfl dX11_needs_43 (fun H locs hS => ?_)
    refine lv_aload_n hx hb dX11_needs_44 rfl (lv_at hl 1 rfl) ?_
    refine r_get E frX11_30 hS 0 rfl rfl dX11_needs_45 ?_
    refine lv_iconst (v := 1) hx hb dX11_needs_48 (by decide) ?_
    refine lv_aload_n hx hb dX11_needs_49 rfl (lv_at hl 2 rfl) ?_
    refine lv_iload_n hx hb dX11_needs_50 rfl (lv_at hl 3 rfl) ?_
    obtain ⟨g5, h⟩ := gi_some h
    refine r_iald E hS 3 rfl g5 dX11_needs_51 ?_
    obtain ⟨g6, h⟩ := gi_some h
    refine r_iast (ws' := [oX11 q0 u0_0 (.int v_people) u0_2 u0_3 u0_4 u0_5 u0_6 u0_7 (.int v_length) (.int v_top) (.int v_at) (.int v_wrong) u0_12 (.ref q1) u0_14 (.int v_ruleSize) (.int v_isAsked) (.ref q2) u0_18 u0_19 u0_20 u0_21 u0_22 u0_23 u0_24 u0_25 u0_26 u0_27 u0_28 u0_29 u0_30 u0_31 u0_32 u0_33 u0_34 u0_35 u0_36 u0_37 u0_38 u0_39 u0_40, aB cy q1 40 v_rule, aI cy q2 7 (upd (upd v_asked (0 : Int32).toNatClampNeg (w1_ p3.toNatClampNeg)) (1 : Int32).toNatClampNeg (w1_ p2.toNatClampNeg)), aI cy q3 nw1_ w1_]) E hS 2 rfl g6 rfl dX11_needs_52 (fun H locs hS => ?_)
    refine lv_aload_n hx hb dX11_needs_53 rfl (lv_at hl 1 rfl) ?_
    refine r_get E frX11_30 hS 0 rfl rfl dX11_needs_54 ?_
    refine lv_iconst (v := 2) hx hb dX11_needs_57 (by decide) ?_
    refine lv_iload hx hb dX11_needs_58 (lv_at hl 0 rfl) ?_
    obtain ⟨g7, h⟩ := gi_some h
    refine r_iast (ws' := [oX11 q0 u0_0 (.int v_people) u0_2 u0_3 u0_4 u0_5 u0_6 u0_7 (.int v_length) (.int v_top) (.int v_at) (.int v_wrong) u0_12 (.ref q1) u0_14 (.int v_ruleSize) (.int v_isAsked) (.ref q2) u0_18 u0_19 u0_20 u0_21 u0_22 u0_23 u0_24 u0_25 u0_26 u0_27 u0_28 u0_29 u0_30 u0_31 u0_32 u0_33 u0_34 u0_35 u0_36 u0_37 u0_38 u0_39 u0_40, aB cy q1 40 v_rule, aI cy q2 7 (upd (upd (upd v_asked (0 : Int32).toNatClampNeg (w1_ p3.toNatClampNeg)) (1 : Int32).toNatClampNeg (w1_ p2.toNatClampNeg)) (2 : Int32).toNatClampNeg (J6_bitCount_0f7a4 y3)), aI cy q3 nw1_ w1_]) E hS 2 rfl g7 rfl dX11_needs_60 (fun H locs hS => ?_)
    refine lv_aload_n hx hb dX11_needs_61 rfl (lv_at hl 1 rfl) ?_
    refine r_get E frX11_30 hS 0 rfl rfl dX11_needs_62 ?_
    refine lv_iconst (v := 3) hx hb dX11_needs_65 (by decide) ?_
    refine lv_aload_n hx hb dX11_needs_66 rfl (lv_at hl 2 rfl) ?_
    refine lv_bipush (v := 28) hx hb dX11_needs_67 (by decide) ?_
    refine lv_iload_n hx hb dX11_needs_69 rfl (lv_at hl 3 rfl) ?_
    refine lv_iadd hx hb dX11_needs_70 ?_
    obtain ⟨g8, h⟩ := gi_some h
    refine r_iald E hS 3 rfl g8 dX11_needs_71 ?_
    refine ct_S (ws' := fun _ => [oX11 q0 u0_0 (.int v_people) u0_2 u0_3 u0_4 u0_5 u0_6 u0_7 (.int v_length) (.int v_top) (.int v_at) (.int v_wrong) u0_12 (.ref q1) u0_14 (.int v_ruleSize) (.int v_isAsked) (.ref q2) u0_18 u0_19 u0_20 u0_21 u0_22 u0_23 u0_24 u0_25 u0_26 u0_27 u0_28 u0_29 u0_30 u0_31 u0_32 u0_33 u0_34 u0_35 u0_36 u0_37 u0_38 u0_39 u0_40, aB cy q1 40 v_rule, aI cy q2 7 (upd (upd (upd v_asked (0 : Int32).toNatClampNeg (w1_ p3.toNatClampNeg)) (1 : Int32).toNatClampNeg (w1_ p2.toNatClampNeg)) (2 : Int32).toNatClampNeg (J6_bitCount_0f7a4 y3)), aI cy q3 nw1_ w1_]) (st' := [.int (J6_bitCount_0f7a4 (w1_ ((28 : Int32) + p2).toNatClampNeg)), .int (3 : Int32), .ref q2]) (rest := [.int (3 : Int32), .ref q2]) E hS slX11_204 (c_J6_bitCount_0f7a4 (l := l) (D := D) (cy := cy) (p0 := (w1_ ((28 : Int32) + p2).toNatClampNeg)) (r := (J6_bitCount_0f7a4 (w1_ ((28 : Int32) + p2).toNatClampNeg))) rfl) [] rfl rfl (fun _ => rfl) (fun _ => rfl) rfl rfl (Nat.le_of_ble_eq_true rfl) hl.1 (by rw [hRf]; exact Nat.le_of_ble_eq_true rfl) (by rw [hRl]; exact Nat.le_of_ble_eq_true rfl) ⟨Nat.zero_le _, Nat.zero_le _⟩ dX11_needs_72 rfl (fun H locs _ hS => ?_)
    obtain ⟨g9, h⟩ := gi_some h
    refine r_iast (ws' := [oX11 q0 u0_0 (.int v_people) u0_2 u0_3 u0_4 u0_5 u0_6 u0_7 (.int v_length) (.int v_top) (.int v_at) (.int v_wrong) u0_12 (.ref q1) u0_14 (.int v_ruleSize) (.int v_isAsked) (.ref q2) u0_18 u0_19 u0_20 u0_21 u0_22 u0_23 u0_24 u0_25 u0_26 u0_27 u0_28 u0_29 u0_30 u0_31 u0_32 u0_33 u0_34 u0_35 u0_36 u0_37 u0_38 u0_39 u0_40, aB cy q1 40 v_rule, aI cy q2 7 (upd (upd (upd (upd v_asked (0 : Int32).toNatClampNeg (w1_ p3.toNatClampNeg)) (1 : Int32).toNatClampNeg (w1_ p2.toNatClampNeg)) (2 : Int32).toNatClampNeg (J6_bitCount_0f7a4 y3)) (3 : Int32).toNatClampNeg (J6_bitCount_0f7a4 (w1_ ((28 : Int32) + p2).toNatClampNeg))), aI cy q3 nw1_ w1_]) E hS 2 rfl g9 rfl dX11_needs_75 (fun H locs hS => ?_)
    refine lv_aload_n hx hb dX11_needs_76 rfl (lv_at hl 1 rfl) ?_
    refine r_get E frX11_30 hS 0 rfl rfl dX11_needs_77 ?_
    refine lv_iconst (v := 4) hx hb dX11_needs_80 (by decide) ?_
    refine lv_aload_n hx hb dX11_needs_81 rfl (lv_at hl 2 rfl) ?_
    refine lv_bipush (v := 14) hx hb dX11_needs_82 (by decide) ?_
    refine lv_iload_n hx hb dX11_needs_84 rfl (lv_at hl 4 rfl) ?_
    refine lv_iadd hx hb dX11_needs_85 ?_
    obtain ⟨g10, h⟩ := gi_some h
    refine r_iald E hS 3 rfl g10 dX11_needs_86 ?_
    obtain ⟨g11, h⟩ := gi_some h
    refine r_iast (ws' := [oX11 q0 u0_0 (.int v_people) u0_2 u0_3 u0_4 u0_5 u0_6 u0_7 (.int v_length) (.int v_top) (.int v_at) (.int v_wrong) u0_12 (.ref q1) u0_14 (.int v_ruleSize) (.int v_isAsked) (.ref q2) u0_18 u0_19 u0_20 u0_21 u0_22 u0_23 u0_24 u0_25 u0_26 u0_27 u0_28 u0_29 u0_30 u0_31 u0_32 u0_33 u0_34 u0_35 u0_36 u0_37 u0_38 u0_39 u0_40, aB cy q1 40 v_rule, aI cy q2 7 (upd (upd (upd (upd (upd v_asked (0 : Int32).toNatClampNeg (w1_ p3.toNatClampNeg)) (1 : Int32).toNatClampNeg (w1_ p2.toNatClampNeg)) (2 : Int32).toNatClampNeg (J6_bitCount_0f7a4 y3)) (3 : Int32).toNatClampNeg (J6_bitCount_0f7a4 (w1_ ((28 : Int32) + p2).toNatClampNeg))) (4 : Int32).toNatClampNeg (w1_ ((14 : Int32) + p3).toNatClampNeg)), aI cy q3 nw1_ w1_]) E hS 2 rfl g11 rfl dX11_needs_87 (fun H locs hS => ?_)
    refine lv_aload_n hx hb dX11_needs_88 rfl (lv_at hl 1 rfl) ?_
    refine r_get E frX11_30 hS 0 rfl rfl dX11_needs_89 ?_
    refine lv_iconst (v := 5) hx hb dX11_needs_92 (by decide) ?_
    refine lv_aload_n hx hb dX11_needs_93 rfl (lv_at hl 2 rfl) ?_
    refine lv_bipush (v := 28) hx hb dX11_needs_94 (by decide) ?_
    refine lv_iload_n hx hb dX11_needs_96 rfl (lv_at hl 4 rfl) ?_
    refine lv_iadd hx hb dX11_needs_97 ?_
    obtain ⟨g12, h⟩ := gi_some h
    refine r_iald E hS 3 rfl g12 dX11_needs_98 ?_
    refine lv_iload_n hx hb dX11_needs_99 rfl (lv_at hl 3 rfl) ?_
    refine lv_ishr hx hb dX11_needs_100 ?_
    refine lv_iconst (v := 1) hx hb dX11_needs_101 (by decide) ?_
    refine lv_iand hx hb dX11_needs_102 ?_
    obtain ⟨g13, h⟩ := gi_some h
    refine r_iast (ws' := [oX11 q0 u0_0 (.int v_people) u0_2 u0_3 u0_4 u0_5 u0_6 u0_7 (.int v_length) (.int v_top) (.int v_at) (.int v_wrong) u0_12 (.ref q1) u0_14 (.int v_ruleSize) (.int v_isAsked) (.ref q2) u0_18 u0_19 u0_20 u0_21 u0_22 u0_23 u0_24 u0_25 u0_26 u0_27 u0_28 u0_29 u0_30 u0_31 u0_32 u0_33 u0_34 u0_35 u0_36 u0_37 u0_38 u0_39 u0_40, aB cy q1 40 v_rule, aI cy q2 7 (upd (upd (upd (upd (upd (upd v_asked (0 : Int32).toNatClampNeg (w1_ p3.toNatClampNeg)) (1 : Int32).toNatClampNeg (w1_ p2.toNatClampNeg)) (2 : Int32).toNatClampNeg (J6_bitCount_0f7a4 y3)) (3 : Int32).toNatClampNeg (J6_bitCount_0f7a4 (w1_ ((28 : Int32) + p2).toNatClampNeg))) (4 : Int32).toNatClampNeg (w1_ ((14 : Int32) + p3).toNatClampNeg)) (5 : Int32).toNatClampNeg (((w1_ ((28 : Int32) + p3).toNatClampNeg) >>> (p2 &&& 31)) &&& (1 : Int32))), aI cy q3 nw1_ w1_]) E hS 2 rfl g13 rfl dX11_needs_103 (fun H locs hS => ?_)
    refine lv_aload_n hx hb dX11_needs_104 rfl (lv_at hl 1 rfl) ?_
    refine r_get E frX11_30 hS 0 rfl rfl dX11_needs_105 ?_
    refine lv_bipush (v := 6) hx hb dX11_needs_108 (by decide) ?_
    refine lv_aload_n hx hb dX11_needs_110 rfl (lv_at hl 2 rfl) ?_
    refine lv_bipush (v := 35) hx hb dX11_needs_111 (by decide) ?_
    obtain ⟨g14, h⟩ := gi_some h
    refine r_iald E hS 3 rfl g14 dX11_needs_113 ?_
    refine lv_bipush (v := 7) hx hb dX11_needs_114 (by decide) ?_
    obtain ⟨g15, h⟩ := gz_some h
    refine lv_irem hx hb dX11_needs_116 g15 ?_
    obtain ⟨g16, h⟩ := gi_some h
    refine r_iast (ws' := [oX11 q0 u0_0 (.int v_people) u0_2 u0_3 u0_4 u0_5 u0_6 u0_7 (.int v_length) (.int v_top) (.int v_at) (.int v_wrong) u0_12 (.ref q1) u0_14 (.int v_ruleSize) (.int v_isAsked) (.ref q2) u0_18 u0_19 u0_20 u0_21 u0_22 u0_23 u0_24 u0_25 u0_26 u0_27 u0_28 u0_29 u0_30 u0_31 u0_32 u0_33 u0_34 u0_35 u0_36 u0_37 u0_38 u0_39 u0_40, aB cy q1 40 v_rule, aI cy q2 7 (upd (upd (upd (upd (upd (upd (upd v_asked (0 : Int32).toNatClampNeg (w1_ p3.toNatClampNeg)) (1 : Int32).toNatClampNeg (w1_ p2.toNatClampNeg)) (2 : Int32).toNatClampNeg (J6_bitCount_0f7a4 y3)) (3 : Int32).toNatClampNeg (J6_bitCount_0f7a4 (w1_ ((28 : Int32) + p2).toNatClampNeg))) (4 : Int32).toNatClampNeg (w1_ ((14 : Int32) + p3).toNatClampNeg)) (5 : Int32).toNatClampNeg (((w1_ ((28 : Int32) + p3).toNatClampNeg) >>> (p2 &&& 31)) &&& (1 : Int32))) (6 : Int32).toNatClampNeg (irem (w1_ (35 : Int32).toNatClampNeg) (7 : Int32))), aI cy q3 nw1_ w1_]) E hS 2 rfl g16 rfl dX11_needs_117 (fun H locs hS => ?_)
    refine lv_aload_n hx hb dX11_needs_118 rfl (lv_at hl 1 rfl) ?_
    refine lv_aload_n hx hb dX11_needs_119 rfl (lv_at hl 1 rfl) ?_
    refine r_get E frX11_24 hS 0 rfl rfl dX11_needs_120 ?_
    refine lv_aload_n hx hb dX11_needs_123 rfl (lv_at hl 1 rfl) ?_
    refine r_get E frX11_193 hS 0 rfl rfl dX11_needs_124 ?_
    refine lv_bipush (v := 40) hx hb dX11_needs_127 (by decide) ?_
    refine ct_V (ws' := fun _ => [oX11 q0 u0_0 (.int v_people) u0_2 u0_3 u0_4 u0_5 u0_6 (.ref q1) (.int ((X11_begin v_ruleSize (40 : Int32)).1)) (.int ((X11_begin v_ruleSize (40 : Int32)).2.1)) (.int ((X11_begin v_ruleSize (40 : Int32)).2.2.1)) (.int ((X11_begin v_ruleSize (40 : Int32)).2.2.2)) u0_12 (.ref q1) u0_14 (.int v_ruleSize) (.int v_isAsked) (.ref q2) u0_18 u0_19 u0_20 u0_21 u0_22 u0_23 u0_24 u0_25 u0_26 u0_27 u0_28 u0_29 u0_30 u0_31 u0_32 u0_33 u0_34 u0_35 u0_36 u0_37 u0_38 u0_39 u0_40, aB cy q1 40 v_rule, aI cy q2 7 (upd (upd (upd (upd (upd (upd (upd v_asked (0 : Int32).toNatClampNeg (w1_ p3.toNatClampNeg)) (1 : Int32).toNatClampNeg (w1_ p2.toNatClampNeg)) (2 : Int32).toNatClampNeg (J6_bitCount_0f7a4 y3)) (3 : Int32).toNatClampNeg (J6_bitCount_0f7a4 (w1_ ((28 : Int32) + p2).toNatClampNeg))) (4 : Int32).toNatClampNeg (w1_ ((14 : Int32) + p3).toNatClampNeg)) (5 : Int32).toNatClampNeg (((w1_ ((28 : Int32) + p3).toNatClampNeg) >>> (p2 &&& 31)) &&& (1 : Int32))) (6 : Int32).toNatClampNeg (irem (w1_ (35 : Int32).toNatClampNeg) (7 : Int32))), aI cy q3 nw1_ w1_]) (st' := []) (rest := []) E hS vlX11_121 (c_X11_begin (l := l) (D := D) (cy := cy) (q0 := q0) (u0_0 := u0_0) (u0_1 := .int v_people) (u0_2 := u0_2) (u0_3 := u0_3) (u0_4 := u0_4) (u0_5 := u0_5) (u0_6 := u0_6) (u0_7 := u0_7) (u0_12 := u0_12) (u0_13 := .ref q1) (u0_14 := u0_14) (u0_15 := .int v_ruleSize) (u0_16 := .int v_isAsked) (u0_17 := .ref q2) (u0_18 := u0_18) (u0_19 := u0_19) (u0_20 := u0_20) (u0_21 := u0_21) (u0_22 := u0_22) (u0_23 := u0_23) (u0_24 := u0_24) (u0_25 := u0_25) (u0_26 := u0_26) (u0_27 := u0_27) (u0_28 := u0_28) (u0_29 := u0_29) (u0_30 := u0_30) (u0_31 := u0_31) (u0_32 := u0_32) (u0_33 := u0_33) (u0_34 := u0_34) (u0_35 := u0_35) (u0_36 := u0_36) (u0_37 := u0_37) (u0_38 := u0_38) (u0_39 := u0_39) (u0_40 := u0_40) (z_a1 := q1) (v_length := v_length) (v_top := v_top) (v_at := v_at) (v_wrong := v_wrong) (p2 := v_ruleSize) (p3 := (40 : Int32)) (r := (X11_begin v_ruleSize (40 : Int32))) rfl) [0] rfl rfl (fun _ => rfl) (fun _ => rfl) rfl rfl rfl rfl (Nat.le_of_ble_eq_true rfl) hl.1 (by rw [hRf]; exact Nat.le_of_ble_eq_true rfl) (by rw [hRl]; exact Nat.le_of_ble_eq_true rfl) ⟨Nat.zero_le _, Nat.zero_le _⟩ dX11_needs_129 rfl (fun H locs _ hS => ?_)
    refine lv_aload_n hx hb dX11_needs_132 rfl (lv_at hl 1 rfl) ?_
    refine lv_iconst (v := 1) hx hb dX11_needs_133 (by decide) ?_
    refine r_put (ws' := [oX11 q0 u0_0 (.int v_people) u0_2 u0_3 u0_4 u0_5 u0_6 (.ref q1) (.int ((X11_begin v_ruleSize (40 : Int32)).1)) (.int ((X11_begin v_ruleSize (40 : Int32)).2.1)) (.int ((X11_begin v_ruleSize (40 : Int32)).2.2.1)) (.int ((X11_begin v_ruleSize (40 : Int32)).2.2.2)) u0_12 (.ref q1) u0_14 (.int v_ruleSize) (.int (1 : Int32)) (.ref q2) u0_18 u0_19 u0_20 u0_21 u0_22 u0_23 u0_24 u0_25 u0_26 u0_27 u0_28 u0_29 u0_30 u0_31 u0_32 u0_33 u0_34 u0_35 u0_36 u0_37 u0_38 u0_39 u0_40, aB cy q1 40 v_rule, aI cy q2 7 (upd (upd (upd (upd (upd (upd (upd v_asked (0 : Int32).toNatClampNeg (w1_ p3.toNatClampNeg)) (1 : Int32).toNatClampNeg (w1_ p2.toNatClampNeg)) (2 : Int32).toNatClampNeg (J6_bitCount_0f7a4 y3)) (3 : Int32).toNatClampNeg (J6_bitCount_0f7a4 (w1_ ((28 : Int32) + p2).toNatClampNeg))) (4 : Int32).toNatClampNeg (w1_ ((14 : Int32) + p3).toNatClampNeg)) (5 : Int32).toNatClampNeg (((w1_ ((28 : Int32) + p3).toNatClampNeg) >>> (p2 &&& 31)) &&& (1 : Int32))) (6 : Int32).toNatClampNeg (irem (w1_ (35 : Int32).toNatClampNeg) (7 : Int32))), aI cy q3 nw1_ w1_]) E frX11_186 hS 0 rfl (Nat.le_of_ble_eq_true rfl) rfl rfl rfl rfl dX11_needs_134 (fun H locs hS => ?_)
    refine lv_aload_n hx hb dX11_needs_137 rfl (lv_at hl 1 rfl) ?_
    refine lv_iconst (v := 0) hx hb dX11_needs_138 (by decide) ?_
    obtain ⟨y139, e17, h⟩ := bd_some h
    refine ct_V (ws' := fun _ => [oX11 q0 u0_0 (.int v_people) u0_2 u0_3 u0_4 u0_5 u0_6 (.ref q1) (.int ((X11_begin v_ruleSize (40 : Int32)).1)) (.int ((X11_begin v_ruleSize (40 : Int32)).2.1)) (.int y139.2.1) (.int y139.2.2) u0_12 (.ref q1) u0_14 (.int v_ruleSize) (.int (1 : Int32)) (.ref q2) u0_18 u0_19 u0_20 u0_21 u0_22 u0_23 u0_24 u0_25 u0_26 u0_27 u0_28 u0_29 u0_30 u0_31 u0_32 u0_33 u0_34 u0_35 u0_36 u0_37 u0_38 u0_39 u0_40, aB cy q1 40 v_rule, aI cy q2 7 (upd (upd (upd (upd (upd (upd (upd v_asked (0 : Int32).toNatClampNeg (w1_ p3.toNatClampNeg)) (1 : Int32).toNatClampNeg (w1_ p2.toNatClampNeg)) (2 : Int32).toNatClampNeg (J6_bitCount_0f7a4 y3)) (3 : Int32).toNatClampNeg (J6_bitCount_0f7a4 (w1_ ((28 : Int32) + p2).toNatClampNeg))) (4 : Int32).toNatClampNeg (w1_ ((14 : Int32) + p3).toNatClampNeg)) (5 : Int32).toNatClampNeg (((w1_ ((28 : Int32) + p3).toNatClampNeg) >>> (p2 &&& 31)) &&& (1 : Int32))) (6 : Int32).toNatClampNeg (irem (w1_ (35 : Int32).toNatClampNeg) (7 : Int32))), aI cy q3 nw1_ w1_]) (st' := [.int y139.1]) (rest := []) E hS vlX11_173 (c_X11_held (l := l) (D := D) (cy := cy) (q0 := q0) (q1 := q1) (q2 := q2) (u0_0 := u0_0) (u0_1 := .int v_people) (u0_2 := u0_2) (u0_3 := u0_3) (u0_4 := u0_4) (u0_5 := u0_5) (u0_6 := u0_6) (u0_12 := u0_12) (u0_13 := .ref q1) (u0_14 := u0_14) (u0_15 := .int v_ruleSize) (u0_18 := u0_18) (u0_19 := u0_19) (u0_20 := u0_20) (u0_21 := u0_21) (u0_22 := u0_22) (u0_23 := u0_23) (u0_24 := u0_24) (u0_25 := u0_25) (u0_26 := u0_26) (u0_27 := u0_27) (u0_28 := u0_28) (u0_29 := u0_29) (u0_30 := u0_30) (u0_31 := u0_31) (u0_32 := u0_32) (u0_33 := u0_33) (u0_34 := u0_34) (u0_35 := u0_35) (u0_36 := u0_36) (u0_37 := u0_37) (u0_38 := u0_38) (u0_39 := u0_39) (u0_40 := u0_40) (v_length := (X11_begin v_ruleSize (40 : Int32)).1) (v_top := (X11_begin v_ruleSize (40 : Int32)).2.1) (v_at := (X11_begin v_ruleSize (40 : Int32)).2.2.1) (v_wrong := (X11_begin v_ruleSize (40 : Int32)).2.2.2) (v_isAsked := (1 : Int32)) (nv_read := 40) (v_read := v_rule) (v_asked := (upd (upd (upd (upd (upd (upd (upd v_asked (0 : Int32).toNatClampNeg (w1_ p3.toNatClampNeg)) (1 : Int32).toNatClampNeg (w1_ p2.toNatClampNeg)) (2 : Int32).toNatClampNeg (J6_bitCount_0f7a4 y3)) (3 : Int32).toNatClampNeg (J6_bitCount_0f7a4 (w1_ ((28 : Int32) + p2).toNatClampNeg))) (4 : Int32).toNatClampNeg (w1_ ((14 : Int32) + p3).toNatClampNeg)) (5 : Int32).toNatClampNeg (((w1_ ((28 : Int32) + p3).toNatClampNeg) >>> (p2 &&& 31)) &&& (1 : Int32))) (6 : Int32).toNatClampNeg (irem (w1_ (35 : Int32).toNatClampNeg) (7 : Int32)))) (p1 := (0 : Int32)) (r := y139) e17) [0, 1, 2] rfl rfl (fun _ => rfl) (fun _ => rfl) rfl rfl rfl rfl (Nat.le_of_ble_eq_true rfl) hl.1 (by rw [hRf]; exact Nat.le_of_ble_eq_true rfl) (by rw [hRl]; exact Nat.le_of_ble_eq_true rfl) ⟨Nat.zero_le _, Nat.zero_le _⟩ dX11_needs_139 rfl (fun H locs _ hS => ?_)
    refine lv_istore (lv' := [(5, .int y139.1), (4, .int (J6_bitCount_0f7a4 y3)), (0, .ref q0), (1, .ref q3), (2, .int p2), (3, .int p3)]) hx hb dX11_needs_142 hl (by decide) rfl (fun ls hl => ?_)
    refine lv_aload_n hx hb dX11_needs_144 rfl (lv_at hl 2 rfl) ?_
    refine lv_iconst (v := 0) hx hb dX11_needs_145 (by decide) ?_
    refine r_put (ws' := [oX11 q0 u0_0 (.int v_people) u0_2 u0_3 u0_4 u0_5 u0_6 (.ref q1) (.int ((X11_begin v_ruleSize (40 : Int32)).1)) (.int ((X11_begin v_ruleSize (40 : Int32)).2.1)) (.int y139.2.1) (.int y139.2.2) u0_12 (.ref q1) u0_14 (.int v_ruleSize) (.int (0 : Int32)) (.ref q2) u0_18 u0_19 u0_20 u0_21 u0_22 u0_23 u0_24 u0_25 u0_26 u0_27 u0_28 u0_29 u0_30 u0_31 u0_32 u0_33 u0_34 u0_35 u0_36 u0_37 u0_38 u0_39 u0_40, aB cy q1 40 v_rule, aI cy q2 7 (upd (upd (upd (upd (upd (upd (upd v_asked (0 : Int32).toNatClampNeg (w1_ p3.toNatClampNeg)) (1 : Int32).toNatClampNeg (w1_ p2.toNatClampNeg)) (2 : Int32).toNatClampNeg (J6_bitCount_0f7a4 y3)) (3 : Int32).toNatClampNeg (J6_bitCount_0f7a4 (w1_ ((28 : Int32) + p2).toNatClampNeg))) (4 : Int32).toNatClampNeg (w1_ ((14 : Int32) + p3).toNatClampNeg)) (5 : Int32).toNatClampNeg (((w1_ ((28 : Int32) + p3).toNatClampNeg) >>> (p2 &&& 31)) &&& (1 : Int32))) (6 : Int32).toNatClampNeg (irem (w1_ (35 : Int32).toNatClampNeg) (7 : Int32))), aI cy q3 nw1_ w1_]) E frX11_186 hS 0 rfl (Nat.le_of_ble_eq_true rfl) rfl rfl rfl rfl dX11_needs_146 (fun H locs hS => ?_)
    refine lv_iload hx hb dX11_needs_149 (lv_at hl 0 rfl) ?_
    have hJ159 : ∀ (s159_0 : Int32) (ls : Array Slot), s159_0 = (if y139.1 ≤ 0 then (0 : Int32) else (1 : Int32)) → lv_has ls 6 [] → W p l e R s m args below meth c H locs 0 0 Q (F0 m 159 ls [.int s159_0]) := by
      intro s159_0 ls es159_0 hl
      subst es159_0
      obtain rfl := Option.some.inj h
      exact rt_n E (by repeat' (first | rfl | split)) hQ (.ref q1) hS dX11_needs_159
    refine lv_if_le (tgt := 158) hx hb dX11_needs_151 (by decide) (fun c18 => ?_) (fun c18 => ?_)
    · refine lv_iconst (v := 0) hx hb dX11_needs_158 (by decide) ?_
      exact hJ159 _ ls ((if_pos c18)).symm (lv_sub hl [] rfl)
    · refine lv_iconst (v := 1) hx hb dX11_needs_154 (by decide) ?_
      refine lv_goto (tgt := 159) hx hb dX11_needs_155 (by decide) ?_
      exact hJ159 _ ls ((if_neg c18)).symm (lv_sub hl [] rfl)
  · have h := it_pos c2 h
    refine lv_aload_n hx hb dX11_needs_18 rfl (lv_at hl 2 rfl) ?_
    refine lv_iload_n hx hb dX11_needs_19 rfl (lv_at hl 4 rfl) ?_
    obtain ⟨g19, h⟩ := gi_some h
    refine r_iald E hS 3 rfl g19 dX11_needs_20 ?_
    refine lv_iconst (v := 4) hx hb dX11_needs_21 (by decide) ?_
    refine lv_isub hx hb dX11_needs_22 ?_
    refine lv_iload hx hb dX11_needs_23 (lv_at hl 0 rfl) ?_
    refine lv_iadd hx hb dX11_needs_25 ?_
    have hJ34 : ∀ (s34_0 : Int32) (ls : Array Slot), s34_0 = (if (((w1_ p3.toNatClampNeg) - (4 : Int32)) + (J6_bitCount_0f7a4 y3)) ≤ 0 then (0 : Int32) else (1 : Int32)) → lv_has ls 6 [] → W p l e R s m args below meth c H locs 0 0 Q (F0 m 34 ls [.int s34_0]) := by
      intro s34_0 ls es34_0 hl
      subst es34_0
      obtain rfl := Option.some.inj h
      exact rt_n E (by repeat' (first | rfl | split)) hQ (u0_7) hS dX11_needs_34
    refine lv_if_le (tgt := 33) hx hb dX11_needs_26 (by decide) (fun c20 => ?_) (fun c20 => ?_)
    · refine lv_iconst (v := 0) hx hb dX11_needs_33 (by decide) ?_
      exact hJ34 _ ls ((if_pos c20)).symm (lv_sub hl [] rfl)
    · refine lv_iconst (v := 1) hx hb dX11_needs_29 (by decide) ?_
      refine lv_goto (tgt := 34) hx hb dX11_needs_30 (by decide) ?_
      exact hJ34 _ ls ((if_neg c20)).symm (lv_sub hl [] rfl)
set_option maxHeartbeats 4000000 in
set_option maxRecDepth 100000 in
theorem c_X11_neededBy {l : Launch} {D : va_G} {cy : Nat → ClassId} (q0 : Nat) (q1 : Nat) (q2 : Nat) (q3 : Nat) (u0_0 : Value) (u0_2 : Value) (u0_3 : Value) (u0_4 : Value) (u0_5 : Value) (u0_6 : Value) (u0_7 : Value) (u0_12 : Value) (u0_14 : Value) (u0_18 : Value) (u0_19 : Value) (u0_20 : Value) (u0_21 : Value) (u0_22 : Value) (u0_23 : Value) (u0_24 : Value) (u0_25 : Value) (u0_26 : Value) (u0_27 : Value) (u0_28 : Value) (u0_29 : Value) (u0_30 : Value) (u0_31 : Value) (u0_32 : Value) (u0_33 : Value) (u0_34 : Value) (u0_35 : Value) (u0_36 : Value) (u0_37 : Value) (u0_38 : Value) (u0_39 : Value) (u0_40 : Value) (v_people : Int32) (v_length : Int32) (v_top : Int32) (v_at : Int32) (v_wrong : Int32) (v_ruleSize : Int32) (v_isAsked : Int32) (v_rule : Nat → Int32) (v_asked : Nat → Int32) (nw1_ : Nat) (w1_ : Nat → Int32) (p2 : Int32) (r : Int32 × Int32 × Int32 × Int32 × Int32 × Int32 × (Nat → Int32)) (h : X11_neededBy v_people v_length v_top v_at v_wrong v_ruleSize v_isAsked v_rule v_asked nw1_ w1_ p2 = some r) : Ct l yX11_neededBy cX11_neededBy 6 (some .int) 106 2533 D cy [.ref q0, .ref q3, .int p2] [oX11 q0 u0_0 (.int v_people) u0_2 u0_3 u0_4 u0_5 u0_6 u0_7 (.int v_length) (.int v_top) (.int v_at) (.int v_wrong) u0_12 (.ref q1) u0_14 (.int v_ruleSize) (.int v_isAsked) (.ref q2) u0_18 u0_19 u0_20 u0_21 u0_22 u0_23 u0_24 u0_25 u0_26 u0_27 u0_28 u0_29 u0_30 u0_31 u0_32 u0_33 u0_34 u0_35 u0_36 u0_37 u0_38 u0_39 u0_40, aB cy q1 40 v_rule, aI cy q2 7 v_asked, aI cy q3 nw1_ w1_] (fun rv => [oX11 q0 u0_0 (.int v_people) u0_2 u0_3 u0_4 u0_5 u0_6 rv (.int r.2.1) (.int r.2.2.1) (.int r.2.2.2.1) (.int r.2.2.2.2.1) u0_12 (.ref q1) u0_14 (.int v_ruleSize) (.int r.2.2.2.2.2.1) (.ref q2) u0_18 u0_19 u0_20 u0_21 u0_22 u0_23 u0_24 u0_25 u0_26 u0_27 u0_28 u0_29 u0_30 u0_31 u0_32 u0_33 u0_34 u0_35 u0_36 u0_37 u0_38 u0_39 u0_40, aB cy q1 40 v_rule, aI cy q2 7 r.2.2.2.2.2.2, aI cy q3 nw1_ w1_]) (some (.int r.1)) := by
  refine Ct.mk kX11_neededBy (by decide +kernel) (Nat.le_of_ble_eq_true rfl) ?_
  intro p e s m below meth c A ls args R Q hRf hRl hQ E H locs hS hl
  have hx := E.x
  have hb := E.b
  have hl : lv_has ls 6 [(0, .ref q0), (1, .ref q3), (2, .int p2)] := hl
  unfold X11_neededBy at h
  refine lv_aload_n hx hb dX11_neededBy_0 rfl (lv_at hl 0 rfl) ?_
  refine lv_aload_n hx hb dX11_neededBy_1 rfl (lv_at hl 1 rfl) ?_
  refine lv_iload_n hx hb dX11_neededBy_2 rfl (lv_at hl 2 rfl) ?_
  obtain ⟨y3, e1, h⟩ := bd_some h
  refine ct_V (ws' := fun _ => [oX11 q0 u0_0 (.int v_people) u0_2 u0_3 u0_4 u0_5 u0_6 u0_7 (.int v_length) (.int v_top) (.int v_at) (.int v_wrong) u0_12 (.ref q1) u0_14 (.int v_ruleSize) (.int v_isAsked) (.ref q2) u0_18 u0_19 u0_20 u0_21 u0_22 u0_23 u0_24 u0_25 u0_26 u0_27 u0_28 u0_29 u0_30 u0_31 u0_32 u0_33 u0_34 u0_35 u0_36 u0_37 u0_38 u0_39 u0_40, aB cy q1 40 v_rule, aI cy q2 7 v_asked, aI cy q3 nw1_ w1_]) (st' := [.int y3]) (rest := []) E hS vlX11_200 (c_X11_wantedBy (l := l) (D := D) (cy := cy) (q0 := q0) (q1 := q3) (u0_0 := u0_0) (u0_2 := u0_2) (u0_3 := u0_3) (u0_4 := u0_4) (u0_5 := u0_5) (u0_6 := u0_6) (u0_7 := u0_7) (u0_8 := .int v_length) (u0_9 := .int v_top) (u0_10 := .int v_at) (u0_11 := .int v_wrong) (u0_12 := u0_12) (u0_13 := .ref q1) (u0_14 := u0_14) (u0_15 := .int v_ruleSize) (u0_16 := .int v_isAsked) (u0_17 := .ref q2) (u0_18 := u0_18) (u0_19 := u0_19) (u0_20 := u0_20) (u0_21 := u0_21) (u0_22 := u0_22) (u0_23 := u0_23) (u0_24 := u0_24) (u0_25 := u0_25) (u0_26 := u0_26) (u0_27 := u0_27) (u0_28 := u0_28) (u0_29 := u0_29) (u0_30 := u0_30) (u0_31 := u0_31) (u0_32 := u0_32) (u0_33 := u0_33) (u0_34 := u0_34) (u0_35 := u0_35) (u0_36 := u0_36) (u0_37 := u0_37) (u0_38 := u0_38) (u0_39 := u0_39) (u0_40 := u0_40) (v_people := v_people) (nw1_ := nw1_) (w1_ := w1_) (p2 := p2) (r := y3) e1) [0, 3] rfl rfl (fun _ => rfl) (fun _ => rfl) rfl rfl rfl rfl (Nat.le_of_ble_eq_true rfl) hl.1 (by rw [hRf]; exact Nat.le_of_ble_eq_true rfl) (by rw [hRl]; exact Nat.le_of_ble_eq_true rfl) ⟨Nat.zero_le _, Nat.zero_le _⟩ dX11_neededBy_3 rfl (fun H locs _ hS => ?_)
  refine lv_istore_n (lv' := [(3, .int y3), (0, .ref q0), (1, .ref q3), (2, .int p2)]) hx hb dX11_neededBy_6 rfl hl (by decide) rfl (fun ls hl => ?_)
  refine lv_iconst (v := 0) hx hb dX11_neededBy_7 (by decide) ?_
  refine lv_istore (lv' := [(4, .int (0 : Int32)), (3, .int y3), (0, .ref q0), (1, .ref q3), (2, .int p2)]) hx hb dX11_neededBy_8 hl (by decide) rfl (fun ls hl => ?_)
  refine lv_iconst (v := 0) hx hb dX11_neededBy_10 (by decide) ?_
  refine lv_istore (lv' := [(5, .int (0 : Int32)), (4, .int (0 : Int32)), (3, .int y3), (0, .ref q0), (1, .ref q3), (2, .int p2)]) hx hb dX11_neededBy_11 hl (by decide) rfl (fun ls hl => ?_)
  have hL13 : ∀ (n : Nat) (x13_0 : Int32) (x13_1 : Int32) (x13_2 : Int32) (x13_3 : Int32) (x13_4 : Int32) (x13_5 : Int32) (x13_6 : Int32) (x13_7 : Nat → Int32) (y13 : Int32 × Int32 × Int32 × Int32 × Int32 × Int32 × (Nat → Int32)) (rv13_0 : Value) (H : Heap) (locs : List Loc) (ls : Array Slot), lp (fun x13 => X11_neededBy_s13 v_people v_ruleSize v_rule nw1_ w1_ p2 y3 x13.1 x13.2.1 x13.2.2.1 x13.2.2.2.1 x13.2.2.2.2.1 x13.2.2.2.2.2.1 x13.2.2.2.2.2.2.1 x13.2.2.2.2.2.2.2) n (x13_0, x13_1, x13_2, x13_3, x13_4, x13_5, x13_6, x13_7) = some y13 → Sv D A s.heap [oX11 q0 u0_0 (.int v_people) u0_2 u0_3 u0_4 u0_5 u0_6 rv13_0 (.int x13_2) (.int x13_3) (.int x13_4) (.int x13_5) u0_12 (.ref q1) u0_14 (.int v_ruleSize) (.int x13_6) (.ref q2) u0_18 u0_19 u0_20 u0_21 u0_22 u0_23 u0_24 u0_25 u0_26 u0_27 u0_28 u0_29 u0_30 u0_31 u0_32 u0_33 u0_34 u0_35 u0_36 u0_37 u0_38 u0_39 u0_40, aB cy q1 40 v_rule, aI cy q2 7 x13_7, aI cy q3 nw1_ w1_] H locs → lv_has ls 6 [(0, .ref q0), (1, .ref q3), (2, .int p2), (3, .int y3), (4, .int x13_0), (5, .int x13_1)] → ( ∀ (y13_0 : Int32) (y13_1 : Int32) (y13_2 : Int32) (y13_3 : Int32) (y13_4 : Int32) (y13_5 : Int32) (y13_6 : Nat → Int32), (y13_0, y13_1, y13_2, y13_3, y13_4, y13_5, y13_6) = y13 → ∀ (rv13_0 : Value), ∀ (H : Heap) (locs : List Loc) (ls : Array Slot), Sv D A s.heap [oX11 q0 u0_0 (.int v_people) u0_2 u0_3 u0_4 u0_5 u0_6 rv13_0 (.int y13_1) (.int y13_2) (.int y13_3) (.int y13_4) u0_12 (.ref q1) u0_14 (.int v_ruleSize) (.int y13_5) (.ref q2) u0_18 u0_19 u0_20 u0_21 u0_22 u0_23 u0_24 u0_25 u0_26 u0_27 u0_28 u0_29 u0_30 u0_31 u0_32 u0_33 u0_34 u0_35 u0_36 u0_37 u0_38 u0_39 u0_40, aB cy q1 40 v_rule, aI cy q2 7 y13_6, aI cy q3 nw1_ w1_] H locs → lv_has ls 6 [(4, .int y13_0)] → W p l e R s m args below meth c H locs 0 0 Q (F0 m 61 ls [])) → W p l e R s m args below meth c H locs 0 0 Q (F0 m 13 ls []) := by
    intro n
    induction n with
    | zero =>
      intro x13_0 x13_1 x13_2 x13_3 x13_4 x13_5 x13_6 x13_7 y13 rv13_0 H locs ls h
      exact lp_zero h
    | succ n ih13 =>
      intro x13_0 x13_1 x13_2 x13_3 x13_4 x13_5 x13_6 x13_7 y13 rv13_0 H locs ls h hS hl hk13_0
      obtain ⟨z13, h, hz13a, hz13b⟩ := lp_succ h
      have h : X11_neededBy_s13 v_people v_ruleSize v_rule nw1_ w1_ p2 y3 x13_0 x13_1 x13_2 x13_3 x13_4 x13_5 x13_6 x13_7 = some z13 := h
      unfold X11_neededBy_s13 at h
      refine lv_iload hx hb dX11_neededBy_13 (lv_at hl 5 rfl) ?_
      refine lv_aload_n hx hb dX11_neededBy_15 rfl (lv_at hl 0 rfl) ?_
      refine r_get E frX11_92 hS 0 rfl rfl dX11_neededBy_16 ?_
      refine lv_icmp_ge (tgt := 61) hx hb dX11_neededBy_19 (by decide) (fun c2 => ?_) (fun c2 => ?_)
      · have h := it_pos c2 h
        exact hk13_0 x13_0 x13_2 x13_3 x13_4 x13_5 x13_6 x13_7 (hz13b _ (Option.some.inj h).symm) rv13_0 H locs ls hS (lv_sub hl [4] rfl)
      · have h := it_neg c2 h
        refine lv_iload hx hb dX11_neededBy_22 (lv_at hl 4 rfl) ?_
        refine lv_iload_n hx hb dX11_neededBy_24 rfl (lv_at hl 3 rfl) ?_
        refine lv_iload hx hb dX11_neededBy_25 (lv_at hl 5 rfl) ?_
        refine ct_S (ws' := fun _ => [oX11 q0 u0_0 (.int v_people) u0_2 u0_3 u0_4 u0_5 u0_6 rv13_0 (.int x13_2) (.int x13_3) (.int x13_4) (.int x13_5) u0_12 (.ref q1) u0_14 (.int v_ruleSize) (.int x13_6) (.ref q2) u0_18 u0_19 u0_20 u0_21 u0_22 u0_23 u0_24 u0_25 u0_26 u0_27 u0_28 u0_29 u0_30 u0_31 u0_32 u0_33 u0_34 u0_35 u0_36 u0_37 u0_38 u0_39 u0_40, aB cy q1 40 v_rule, aI cy q2 7 x13_7, aI cy q3 nw1_ w1_]) (st' := [.int (X11_has y3 x13_1), .int x13_0]) (rest := [.int x13_0]) E hS slX11_196 (c_X11_has (l := l) (D := D) (cy := cy) (p0 := y3) (p1 := x13_1) (r := (X11_has y3 x13_1)) rfl) [] rfl rfl (fun _ => rfl) (fun _ => rfl) rfl rfl (Nat.le_of_ble_eq_true rfl) hl.1 (by rw [hRf]; exact Nat.le_of_ble_eq_true rfl) (by rw [hRl]; exact Nat.le_of_ble_eq_true rfl) ⟨Nat.zero_le _, Nat.zero_le _⟩ dX11_neededBy_27 rfl (fun H locs _ hS => ?_)
        refine lv_if_eq (tgt := 51) hx hb dX11_neededBy_30 (by decide) (fun c3 => ?_) (fun c3 => ?_)
        · have h := it_pos c3 h
          refine lv_iconst (v := 0) hx hb dX11_neededBy_51 (by decide) ?_
          refine lv_ior hx hb dX11_neededBy_52 ?_
          refine lv_istore (lv' := [(4, .int (x13_0 ||| (0 : Int32))), (0, .ref q0), (1, .ref q3), (2, .int p2), (3, .int y3), (5, .int x13_1)]) hx hb dX11_neededBy_53 hl (by decide) rfl (fun ls hl => ?_)
          refine lv_iinc (v := (x13_1 + (1 : Int32))) (lv' := [(5, .int (x13_1 + (1 : Int32))), (4, .int (x13_0 ||| (0 : Int32))), (0, .ref q0), (1, .ref q3), (2, .int p2), (3, .int y3)]) hx hb dX11_neededBy_55 hl (k := 5) rfl rfl (by decide) rfl (fun ls hl => ?_)
          refine lv_goto (tgt := 13) hx hb dX11_neededBy_58 (by decide) ?_
          exact ih13 (x13_0 ||| (0 : Int32)) (x13_1 + (1 : Int32)) x13_2 x13_3 x13_4 x13_5 x13_6 x13_7 y13 rv13_0 H locs ls (hz13a _ (Option.some.inj h).symm) hS (lv_sub hl [2, 3, 4, 5, 1, 0] rfl) hk13_0
        · have h := it_neg c3 h
          refine lv_aload_n hx hb dX11_neededBy_33 rfl (lv_at hl 0 rfl) ?_
          refine lv_aload_n hx hb dX11_neededBy_34 rfl (lv_at hl 1 rfl) ?_
          refine lv_iload hx hb dX11_neededBy_35 (lv_at hl 5 rfl) ?_
          refine lv_iload_n hx hb dX11_neededBy_37 rfl (lv_at hl 2 rfl) ?_
          obtain ⟨y38, e4, h⟩ := bd_some h
          refine ct_V (ws' := fun rc5 => [oX11 q0 u0_0 (.int v_people) u0_2 u0_3 u0_4 u0_5 u0_6 rc5 (.int y38.2.1) (.int y38.2.2.1) (.int y38.2.2.2.1) (.int y38.2.2.2.2.1) u0_12 (.ref q1) u0_14 (.int v_ruleSize) (.int y38.2.2.2.2.2.1) (.ref q2) u0_18 u0_19 u0_20 u0_21 u0_22 u0_23 u0_24 u0_25 u0_26 u0_27 u0_28 u0_29 u0_30 u0_31 u0_32 u0_33 u0_34 u0_35 u0_36 u0_37 u0_38 u0_39 u0_40, aB cy q1 40 v_rule, aI cy q2 7 y38.2.2.2.2.2.2, aI cy q3 nw1_ w1_]) (st' := [.int y38.1, .int x13_0]) (rest := [.int x13_0]) E hS vlX11_209 (c_X11_needs (l := l) (D := D) (cy := cy) (q0 := q0) (q1 := q1) (q2 := q2) (q3 := q3) (u0_0 := u0_0) (u0_2 := u0_2) (u0_3 := u0_3) (u0_4 := u0_4) (u0_5 := u0_5) (u0_6 := u0_6) (u0_7 := rv13_0) (u0_12 := u0_12) (u0_14 := u0_14) (u0_18 := u0_18) (u0_19 := u0_19) (u0_20 := u0_20) (u0_21 := u0_21) (u0_22 := u0_22) (u0_23 := u0_23) (u0_24 := u0_24) (u0_25 := u0_25) (u0_26 := u0_26) (u0_27 := u0_27) (u0_28 := u0_28) (u0_29 := u0_29) (u0_30 := u0_30) (u0_31 := u0_31) (u0_32 := u0_32) (u0_33 := u0_33) (u0_34 := u0_34) (u0_35 := u0_35) (u0_36 := u0_36) (u0_37 := u0_37) (u0_38 := u0_38) (u0_39 := u0_39) (u0_40 := u0_40) (v_people := v_people) (v_length := x13_2) (v_top := x13_3) (v_at := x13_4) (v_wrong := x13_5) (v_ruleSize := v_ruleSize) (v_isAsked := x13_6) (v_rule := v_rule) (v_asked := x13_7) (nw1_ := nw1_) (w1_ := w1_) (p2 := x13_1) (p3 := p2) (r := y38) e4) [0, 1, 2, 3] rfl rfl (fun _ => rfl) (fun _ => rfl) rfl rfl rfl rfl (Nat.le_of_ble_eq_true rfl) hl.1 (by rw [hRf]; exact Nat.le_of_ble_eq_true rfl) (by rw [hRl]; exact Nat.le_of_ble_eq_true rfl) ⟨Nat.zero_le _, Nat.zero_le _⟩ dX11_neededBy_38 rfl (fun H locs rc5 hS => ?_)
          refine lv_if_eq (tgt := 51) hx hb dX11_neededBy_41 (by decide) (fun c6 => ?_) (fun c6 => ?_)
          · have h := it_pos c6 h
            refine lv_iconst (v := 0) hx hb dX11_neededBy_51 (by decide) ?_
            refine lv_ior hx hb dX11_neededBy_52 ?_
            refine lv_istore (lv' := [(4, .int (x13_0 ||| (0 : Int32))), (0, .ref q0), (1, .ref q3), (2, .int p2), (3, .int y3), (5, .int x13_1)]) hx hb dX11_neededBy_53 hl (by decide) rfl (fun ls hl => ?_)
            refine lv_iinc (v := (x13_1 + (1 : Int32))) (lv' := [(5, .int (x13_1 + (1 : Int32))), (4, .int (x13_0 ||| (0 : Int32))), (0, .ref q0), (1, .ref q3), (2, .int p2), (3, .int y3)]) hx hb dX11_neededBy_55 hl (k := 5) rfl rfl (by decide) rfl (fun ls hl => ?_)
            refine lv_goto (tgt := 13) hx hb dX11_neededBy_58 (by decide) ?_
            exact ih13 (x13_0 ||| (0 : Int32)) (x13_1 + (1 : Int32)) y38.2.1 y38.2.2.1 y38.2.2.2.1 y38.2.2.2.2.1 y38.2.2.2.2.2.1 y38.2.2.2.2.2.2 y13 rc5 H locs ls (hz13a _ (Option.some.inj h).symm) hS (lv_sub hl [2, 3, 4, 5, 1, 0] rfl) hk13_0
          · have h := it_neg c6 h
            refine lv_iconst (v := 1) hx hb dX11_neededBy_44 (by decide) ?_
            refine lv_iload hx hb dX11_neededBy_45 (lv_at hl 5 rfl) ?_
            refine lv_ishl hx hb dX11_neededBy_47 ?_
            refine lv_goto (tgt := 52) hx hb dX11_neededBy_48 (by decide) ?_
            refine lv_ior hx hb dX11_neededBy_52 ?_
            refine lv_istore (lv' := [(4, .int (x13_0 ||| ((1 : Int32) <<< (x13_1 &&& 31)))), (0, .ref q0), (1, .ref q3), (2, .int p2), (3, .int y3), (5, .int x13_1)]) hx hb dX11_neededBy_53 hl (by decide) rfl (fun ls hl => ?_)
            refine lv_iinc (v := (x13_1 + (1 : Int32))) (lv' := [(5, .int (x13_1 + (1 : Int32))), (4, .int (x13_0 ||| ((1 : Int32) <<< (x13_1 &&& 31)))), (0, .ref q0), (1, .ref q3), (2, .int p2), (3, .int y3)]) hx hb dX11_neededBy_55 hl (k := 5) rfl rfl (by decide) rfl (fun ls hl => ?_)
            refine lv_goto (tgt := 13) hx hb dX11_neededBy_58 (by decide) ?_
            exact ih13 (x13_0 ||| ((1 : Int32) <<< (x13_1 &&& 31))) (x13_1 + (1 : Int32)) y38.2.1 y38.2.2.1 y38.2.2.2.1 y38.2.2.2.2.1 y38.2.2.2.2.2.1 y38.2.2.2.2.2.2 y13 rc5 H locs ls (hz13a _ (Option.some.inj h).symm) hS (lv_sub hl [2, 3, 4, 5, 1, 0] rfl) hk13_0
  obtain ⟨y13, e13, h⟩ := bd_some h
  refine hL13 1000 (0 : Int32) (0 : Int32) v_length v_top v_at v_wrong v_isAsked v_asked y13 u0_7 H locs ls e13 hS (lv_sub hl [3, 4, 5, 2, 1, 0] rfl) (fun y13_0 y13_1 y13_2 y13_3 y13_4 y13_5 y13_6 ey13 rw13_0 H locs ls hS hl => ?_)
  subst ey13
  have h := un_r h
  have h := un_r h
  have h := un_r h
  have h := un_r h
  have h := un_r h
  have h := un_r h
  refine lv_iload hx hb dX11_neededBy_61 (lv_at hl 0 rfl) ?_
  obtain rfl := Option.some.inj h
  exact rt_i E hQ (rw13_0) hS dX11_neededBy_63
set_option maxHeartbeats 4000000 in
set_option maxRecDepth 100000 in
theorem c_X11_isAwake {l : Launch} {D : va_G} {cy : Nat → ClassId} (q0 : Nat) (q1 : Nat) (q2 : Nat) (q3 : Nat) (u0_0 : Value) (u0_2 : Value) (u0_3 : Value) (u0_4 : Value) (u0_5 : Value) (u0_6 : Value) (u0_7 : Value) (u0_12 : Value) (u0_14 : Value) (u0_18 : Value) (u0_19 : Value) (u0_20 : Value) (u0_21 : Value) (u0_22 : Value) (u0_23 : Value) (u0_24 : Value) (u0_25 : Value) (u0_26 : Value) (u0_27 : Value) (u0_28 : Value) (u0_29 : Value) (u0_30 : Value) (u0_31 : Value) (u0_32 : Value) (u0_33 : Value) (u0_34 : Value) (u0_35 : Value) (u0_36 : Value) (u0_37 : Value) (u0_38 : Value) (u0_39 : Value) (u0_40 : Value) (v_people : Int32) (v_length : Int32) (v_top : Int32) (v_at : Int32) (v_wrong : Int32) (v_ruleSize : Int32) (v_isAsked : Int32) (v_rule : Nat → Int32) (v_asked : Nat → Int32) (nw1_ : Nat) (w1_ : Nat → Int32) (p2 : Int32) (r : Int32 × Int32 × Int32 × Int32 × Int32 × Int32 × (Nat → Int32)) (h : X11_isAwake v_people v_length v_top v_at v_wrong v_ruleSize v_isAsked v_rule v_asked nw1_ w1_ p2 = some r) : Ct l yX11_isAwake cX11_isAwake 3 (some .boolean) 107 2558 D cy [.ref q0, .ref q3, .int p2] [oX11 q0 u0_0 (.int v_people) u0_2 u0_3 u0_4 u0_5 u0_6 u0_7 (.int v_length) (.int v_top) (.int v_at) (.int v_wrong) u0_12 (.ref q1) u0_14 (.int v_ruleSize) (.int v_isAsked) (.ref q2) u0_18 u0_19 u0_20 u0_21 u0_22 u0_23 u0_24 u0_25 u0_26 u0_27 u0_28 u0_29 u0_30 u0_31 u0_32 u0_33 u0_34 u0_35 u0_36 u0_37 u0_38 u0_39 u0_40, aB cy q1 40 v_rule, aI cy q2 7 v_asked, aI cy q3 nw1_ w1_] (fun rv => [oX11 q0 u0_0 (.int v_people) u0_2 u0_3 u0_4 u0_5 u0_6 rv (.int r.2.1) (.int r.2.2.1) (.int r.2.2.2.1) (.int r.2.2.2.2.1) u0_12 (.ref q1) u0_14 (.int v_ruleSize) (.int r.2.2.2.2.2.1) (.ref q2) u0_18 u0_19 u0_20 u0_21 u0_22 u0_23 u0_24 u0_25 u0_26 u0_27 u0_28 u0_29 u0_30 u0_31 u0_32 u0_33 u0_34 u0_35 u0_36 u0_37 u0_38 u0_39 u0_40, aB cy q1 40 v_rule, aI cy q2 7 r.2.2.2.2.2.2, aI cy q3 nw1_ w1_]) (some (.int r.1)) := by
  refine Ct.mk kX11_isAwake (by decide +kernel) (Nat.le_of_ble_eq_true rfl) ?_
  intro p e s m below meth c A ls args R Q hRf hRl hQ E H locs hS hl
  have hx := E.x
  have hb := E.b
  have hl : lv_has ls 3 [(0, .ref q0), (1, .ref q3), (2, .int p2)] := hl
  unfold X11_isAwake at h
  refine lv_aload_n hx hb dX11_isAwake_0 rfl (lv_at hl 1 rfl) ?_
  refine lv_bipush (v := 7) hx hb dX11_isAwake_1 (by decide) ?_
  refine lv_iload_n hx hb dX11_isAwake_3 rfl (lv_at hl 2 rfl) ?_
  refine lv_iadd hx hb dX11_isAwake_4 ?_
  obtain ⟨g1, h⟩ := gi_some h
  refine r_iald E hS 3 rfl g1 dX11_isAwake_5 ?_
  refine lv_if_ne (tgt := 22) hx hb dX11_isAwake_6 (by decide) (fun c2 => ?_) (fun c2 => ?_)
  · have h := it_neg c2 h
    refine lv_iconst (v := 0) hx hb dX11_isAwake_22 (by decide) ?_
    obtain rfl := Option.some.inj h
    exact rt_n E rfl hQ (u0_7) hS dX11_isAwake_23
  · have h := it_pos c2 h
    refine lv_aload_n hx hb dX11_isAwake_9 rfl (lv_at hl 0 rfl) ?_
    refine lv_aload_n hx hb dX11_isAwake_10 rfl (lv_at hl 1 rfl) ?_
    refine lv_iload_n hx hb dX11_isAwake_11 rfl (lv_at hl 2 rfl) ?_
    obtain ⟨y12, e3, h⟩ := bd_some h
    refine ct_V (ws' := fun rc4 => [oX11 q0 u0_0 (.int v_people) u0_2 u0_3 u0_4 u0_5 u0_6 rc4 (.int y12.2.1) (.int y12.2.2.1) (.int y12.2.2.2.1) (.int y12.2.2.2.2.1) u0_12 (.ref q1) u0_14 (.int v_ruleSize) (.int y12.2.2.2.2.2.1) (.ref q2) u0_18 u0_19 u0_20 u0_21 u0_22 u0_23 u0_24 u0_25 u0_26 u0_27 u0_28 u0_29 u0_30 u0_31 u0_32 u0_33 u0_34 u0_35 u0_36 u0_37 u0_38 u0_39 u0_40, aB cy q1 40 v_rule, aI cy q2 7 y12.2.2.2.2.2.2, aI cy q3 nw1_ w1_]) (st' := [.int y12.1]) (rest := []) E hS vlX11_213 (c_X11_neededBy (l := l) (D := D) (cy := cy) (q0 := q0) (q1 := q1) (q2 := q2) (q3 := q3) (u0_0 := u0_0) (u0_2 := u0_2) (u0_3 := u0_3) (u0_4 := u0_4) (u0_5 := u0_5) (u0_6 := u0_6) (u0_7 := u0_7) (u0_12 := u0_12) (u0_14 := u0_14) (u0_18 := u0_18) (u0_19 := u0_19) (u0_20 := u0_20) (u0_21 := u0_21) (u0_22 := u0_22) (u0_23 := u0_23) (u0_24 := u0_24) (u0_25 := u0_25) (u0_26 := u0_26) (u0_27 := u0_27) (u0_28 := u0_28) (u0_29 := u0_29) (u0_30 := u0_30) (u0_31 := u0_31) (u0_32 := u0_32) (u0_33 := u0_33) (u0_34 := u0_34) (u0_35 := u0_35) (u0_36 := u0_36) (u0_37 := u0_37) (u0_38 := u0_38) (u0_39 := u0_39) (u0_40 := u0_40) (v_people := v_people) (v_length := v_length) (v_top := v_top) (v_at := v_at) (v_wrong := v_wrong) (v_ruleSize := v_ruleSize) (v_isAsked := v_isAsked) (v_rule := v_rule) (v_asked := v_asked) (nw1_ := nw1_) (w1_ := w1_) (p2 := p2) (r := y12) e3) [0, 1, 2, 3] rfl rfl (fun _ => rfl) (fun _ => rfl) rfl rfl rfl rfl (Nat.le_of_ble_eq_true rfl) hl.1 (by rw [hRf]; exact Nat.le_of_ble_eq_true rfl) (by rw [hRl]; exact Nat.le_of_ble_eq_true rfl) ⟨Nat.zero_le _, Nat.zero_le _⟩ dX11_isAwake_12 rfl (fun H locs rc4 hS => ?_)
    refine lv_if_eq (tgt := 22) hx hb dX11_isAwake_15 (by decide) (fun c5 => ?_) (fun c5 => ?_)
    · have h := it_pos c5 h
      refine lv_iconst (v := 0) hx hb dX11_isAwake_22 (by decide) ?_
      obtain rfl := Option.some.inj h
      exact rt_n E rfl hQ (rc4) hS dX11_isAwake_23
    · have h := it_neg c5 h
      refine lv_iconst (v := 1) hx hb dX11_isAwake_18 (by decide) ?_
      refine lv_goto (tgt := 23) hx hb dX11_isAwake_19 (by decide) ?_
      obtain rfl := Option.some.inj h
      exact rt_n E rfl hQ (rc4) hS dX11_isAwake_23
set_option maxHeartbeats 4000000 in
set_option maxRecDepth 100000 in
theorem c_X11_awake {l : Launch} {D : va_G} {cy : Nat → ClassId} (q0 : Nat) (q1 : Nat) (q2 : Nat) (q3 : Nat) (u0_0 : Value) (u0_2 : Value) (u0_3 : Value) (u0_4 : Value) (u0_5 : Value) (u0_6 : Value) (u0_7 : Value) (u0_12 : Value) (u0_14 : Value) (u0_18 : Value) (u0_19 : Value) (u0_20 : Value) (u0_21 : Value) (u0_22 : Value) (u0_23 : Value) (u0_24 : Value) (u0_25 : Value) (u0_26 : Value) (u0_27 : Value) (u0_28 : Value) (u0_29 : Value) (u0_30 : Value) (u0_31 : Value) (u0_32 : Value) (u0_33 : Value) (u0_34 : Value) (u0_35 : Value) (u0_36 : Value) (u0_37 : Value) (u0_38 : Value) (u0_39 : Value) (u0_40 : Value) (v_people : Int32) (v_length : Int32) (v_top : Int32) (v_at : Int32) (v_wrong : Int32) (v_ruleSize : Int32) (v_isAsked : Int32) (v_rule : Nat → Int32) (v_asked : Nat → Int32) (nw1_ : Nat) (w1_ : Nat → Int32) (r : Int32 × Int32 × Int32 × Int32 × Int32 × Int32 × (Nat → Int32)) (h : X11_awake v_people v_length v_top v_at v_wrong v_ruleSize v_isAsked v_rule v_asked nw1_ w1_ = some r) : Ct l yX11_awake cX11_awake 4 (some .int) 108 2580 D cy [.ref q0, .ref q3] [oX11 q0 u0_0 (.int v_people) u0_2 u0_3 u0_4 u0_5 u0_6 u0_7 (.int v_length) (.int v_top) (.int v_at) (.int v_wrong) u0_12 (.ref q1) u0_14 (.int v_ruleSize) (.int v_isAsked) (.ref q2) u0_18 u0_19 u0_20 u0_21 u0_22 u0_23 u0_24 u0_25 u0_26 u0_27 u0_28 u0_29 u0_30 u0_31 u0_32 u0_33 u0_34 u0_35 u0_36 u0_37 u0_38 u0_39 u0_40, aB cy q1 40 v_rule, aI cy q2 7 v_asked, aI cy q3 nw1_ w1_] (fun rv => [oX11 q0 u0_0 (.int v_people) u0_2 u0_3 u0_4 u0_5 u0_6 rv (.int r.2.1) (.int r.2.2.1) (.int r.2.2.2.1) (.int r.2.2.2.2.1) u0_12 (.ref q1) u0_14 (.int v_ruleSize) (.int r.2.2.2.2.2.1) (.ref q2) u0_18 u0_19 u0_20 u0_21 u0_22 u0_23 u0_24 u0_25 u0_26 u0_27 u0_28 u0_29 u0_30 u0_31 u0_32 u0_33 u0_34 u0_35 u0_36 u0_37 u0_38 u0_39 u0_40, aB cy q1 40 v_rule, aI cy q2 7 r.2.2.2.2.2.2, aI cy q3 nw1_ w1_]) (some (.int r.1)) := by
  refine Ct.mk kX11_awake (by decide +kernel) (Nat.le_of_ble_eq_true rfl) ?_
  intro p e s m below meth c A ls args R Q hRf hRl hQ E H locs hS hl
  have hx := E.x
  have hb := E.b
  have hl : lv_has ls 4 [(0, .ref q0), (1, .ref q3)] := hl
  unfold X11_awake at h
  refine lv_iconst (v := 0) hx hb dX11_awake_0 (by decide) ?_
  refine lv_istore_n (lv' := [(2, .int (0 : Int32)), (0, .ref q0), (1, .ref q3)]) hx hb dX11_awake_1 rfl hl (by decide) rfl (fun ls hl => ?_)
  refine lv_iconst (v := 0) hx hb dX11_awake_2 (by decide) ?_
  refine lv_istore_n (lv' := [(3, .int (0 : Int32)), (2, .int (0 : Int32)), (0, .ref q0), (1, .ref q3)]) hx hb dX11_awake_3 rfl hl (by decide) rfl (fun ls hl => ?_)
  have hL4 : ∀ (n : Nat) (x4_0 : Int32) (x4_1 : Int32) (x4_2 : Int32) (x4_3 : Int32) (x4_4 : Int32) (x4_5 : Int32) (x4_6 : Int32) (x4_7 : Nat → Int32) (y4 : Int32 × Int32 × Int32 × Int32 × Int32 × Int32 × (Nat → Int32)) (rv4_0 : Value) (H : Heap) (locs : List Loc) (ls : Array Slot), lp (fun x4 => X11_awake_s4 v_people v_ruleSize v_rule nw1_ w1_ x4.1 x4.2.1 x4.2.2.1 x4.2.2.2.1 x4.2.2.2.2.1 x4.2.2.2.2.2.1 x4.2.2.2.2.2.2.1 x4.2.2.2.2.2.2.2) n (x4_0, x4_1, x4_2, x4_3, x4_4, x4_5, x4_6, x4_7) = some y4 → Sv D A s.heap [oX11 q0 u0_0 (.int v_people) u0_2 u0_3 u0_4 u0_5 u0_6 rv4_0 (.int x4_2) (.int x4_3) (.int x4_4) (.int x4_5) u0_12 (.ref q1) u0_14 (.int v_ruleSize) (.int x4_6) (.ref q2) u0_18 u0_19 u0_20 u0_21 u0_22 u0_23 u0_24 u0_25 u0_26 u0_27 u0_28 u0_29 u0_30 u0_31 u0_32 u0_33 u0_34 u0_35 u0_36 u0_37 u0_38 u0_39 u0_40, aB cy q1 40 v_rule, aI cy q2 7 x4_7, aI cy q3 nw1_ w1_] H locs → lv_has ls 4 [(0, .ref q0), (1, .ref q3), (2, .int x4_0), (3, .int x4_1)] → ( ∀ (y4_0 : Int32) (y4_1 : Int32) (y4_2 : Int32) (y4_3 : Int32) (y4_4 : Int32) (y4_5 : Int32) (y4_6 : Nat → Int32), (y4_0, y4_1, y4_2, y4_3, y4_4, y4_5, y4_6) = y4 → ∀ (rv4_0 : Value), ∀ (H : Heap) (locs : List Loc) (ls : Array Slot), Sv D A s.heap [oX11 q0 u0_0 (.int v_people) u0_2 u0_3 u0_4 u0_5 u0_6 rv4_0 (.int y4_1) (.int y4_2) (.int y4_3) (.int y4_4) u0_12 (.ref q1) u0_14 (.int v_ruleSize) (.int y4_5) (.ref q2) u0_18 u0_19 u0_20 u0_21 u0_22 u0_23 u0_24 u0_25 u0_26 u0_27 u0_28 u0_29 u0_30 u0_31 u0_32 u0_33 u0_34 u0_35 u0_36 u0_37 u0_38 u0_39 u0_40, aB cy q1 40 v_rule, aI cy q2 7 y4_6, aI cy q3 nw1_ w1_] H locs → lv_has ls 4 [(2, .int y4_0)] → W p l e R s m args below meth c H locs 0 0 Q (F0 m 37 ls [])) → W p l e R s m args below meth c H locs 0 0 Q (F0 m 4 ls []) := by
    intro n
    induction n with
    | zero =>
      intro x4_0 x4_1 x4_2 x4_3 x4_4 x4_5 x4_6 x4_7 y4 rv4_0 H locs ls h
      exact lp_zero h
    | succ n ih4 =>
      intro x4_0 x4_1 x4_2 x4_3 x4_4 x4_5 x4_6 x4_7 y4 rv4_0 H locs ls h hS hl hk4_0
      obtain ⟨z4, h, hz4a, hz4b⟩ := lp_succ h
      have h : X11_awake_s4 v_people v_ruleSize v_rule nw1_ w1_ x4_0 x4_1 x4_2 x4_3 x4_4 x4_5 x4_6 x4_7 = some z4 := h
      unfold X11_awake_s4 at h
      refine lv_iload_n hx hb dX11_awake_4 rfl (lv_at hl 3 rfl) ?_
      refine lv_aload_n hx hb dX11_awake_5 rfl (lv_at hl 0 rfl) ?_
      refine r_get E frX11_92 hS 0 rfl rfl dX11_awake_6 ?_
      refine lv_icmp_ge (tgt := 37) hx hb dX11_awake_9 (by decide) (fun c1 => ?_) (fun c1 => ?_)
      · have h := it_pos c1 h
        exact hk4_0 x4_0 x4_2 x4_3 x4_4 x4_5 x4_6 x4_7 (hz4b _ (Option.some.inj h).symm) rv4_0 H locs ls hS (lv_sub hl [2] rfl)
      · have h := it_neg c1 h
        refine lv_iload_n hx hb dX11_awake_12 rfl (lv_at hl 2 rfl) ?_
        refine lv_aload_n hx hb dX11_awake_13 rfl (lv_at hl 0 rfl) ?_
        refine lv_aload_n hx hb dX11_awake_14 rfl (lv_at hl 1 rfl) ?_
        refine lv_iload_n hx hb dX11_awake_15 rfl (lv_at hl 3 rfl) ?_
        obtain ⟨y16, e2, h⟩ := bd_some h
        refine ct_V (ws' := fun rc3 => [oX11 q0 u0_0 (.int v_people) u0_2 u0_3 u0_4 u0_5 u0_6 rc3 (.int y16.2.1) (.int y16.2.2.1) (.int y16.2.2.2.1) (.int y16.2.2.2.2.1) u0_12 (.ref q1) u0_14 (.int v_ruleSize) (.int y16.2.2.2.2.2.1) (.ref q2) u0_18 u0_19 u0_20 u0_21 u0_22 u0_23 u0_24 u0_25 u0_26 u0_27 u0_28 u0_29 u0_30 u0_31 u0_32 u0_33 u0_34 u0_35 u0_36 u0_37 u0_38 u0_39 u0_40, aB cy q1 40 v_rule, aI cy q2 7 y16.2.2.2.2.2.2, aI cy q3 nw1_ w1_]) (st' := [.int y16.1, .int x4_0]) (rest := [.int x4_0]) E hS vlX11_216 (c_X11_isAwake (l := l) (D := D) (cy := cy) (q0 := q0) (q1 := q1) (q2 := q2) (q3 := q3) (u0_0 := u0_0) (u0_2 := u0_2) (u0_3 := u0_3) (u0_4 := u0_4) (u0_5 := u0_5) (u0_6 := u0_6) (u0_7 := rv4_0) (u0_12 := u0_12) (u0_14 := u0_14) (u0_18 := u0_18) (u0_19 := u0_19) (u0_20 := u0_20) (u0_21 := u0_21) (u0_22 := u0_22) (u0_23 := u0_23) (u0_24 := u0_24) (u0_25 := u0_25) (u0_26 := u0_26) (u0_27 := u0_27) (u0_28 := u0_28) (u0_29 := u0_29) (u0_30 := u0_30) (u0_31 := u0_31) (u0_32 := u0_32) (u0_33 := u0_33) (u0_34 := u0_34) (u0_35 := u0_35) (u0_36 := u0_36) (u0_37 := u0_37) (u0_38 := u0_38) (u0_39 := u0_39) (u0_40 := u0_40) (v_people := v_people) (v_length := x4_2) (v_top := x4_3) (v_at := x4_4) (v_wrong := x4_5) (v_ruleSize := v_ruleSize) (v_isAsked := x4_6) (v_rule := v_rule) (v_asked := x4_7) (nw1_ := nw1_) (w1_ := w1_) (p2 := x4_1) (r := y16) e2) [0, 1, 2, 3] rfl rfl (fun _ => rfl) (fun _ => rfl) rfl rfl rfl rfl (Nat.le_of_ble_eq_true rfl) hl.1 (by rw [hRf]; exact Nat.le_of_ble_eq_true rfl) (by rw [hRl]; exact Nat.le_of_ble_eq_true rfl) ⟨Nat.zero_le _, Nat.zero_le _⟩ dX11_awake_16 rfl (fun H locs rc3 hS => ?_)
        have hJ29 : ∀ (s29_1 : Int32) (ls : Array Slot), s29_1 = (if y16.1 = 0 then (0 : Int32) else ((1 : Int32) <<< (x4_1 &&& 31))) → lv_has ls 4 [(0, .ref q0), (1, .ref q3), (3, .int x4_1)] → W p l e R s m args below meth c H locs 0 0 Q (F0 m 29 ls [.int s29_1, .int x4_0]) := by
          intro s29_1 ls es29_1 hl
          subst es29_1
          refine lv_ior hx hb dX11_awake_29 ?_
          refine lv_istore_n (lv' := [(2, .int (x4_0 ||| (if y16.1 = 0 then (0 : Int32) else ((1 : Int32) <<< (x4_1 &&& 31))))), (0, .ref q0), (1, .ref q3), (3, .int x4_1)]) hx hb dX11_awake_30 rfl hl (by decide) rfl (fun ls hl => ?_)
          refine lv_iinc (v := (x4_1 + (1 : Int32))) (lv' := [(3, .int (x4_1 + (1 : Int32))), (2, .int (x4_0 ||| (if y16.1 = 0 then (0 : Int32) else ((1 : Int32) <<< (x4_1 &&& 31))))), (0, .ref q0), (1, .ref q3)]) hx hb dX11_awake_31 hl (k := 3) rfl rfl (by decide) rfl (fun ls hl => ?_)
          refine lv_goto (tgt := 4) hx hb dX11_awake_34 (by decide) ?_
          exact ih4 (x4_0 ||| (if y16.1 = 0 then (0 : Int32) else ((1 : Int32) <<< (x4_1 &&& 31)))) (x4_1 + (1 : Int32)) y16.2.1 y16.2.2.1 y16.2.2.2.1 y16.2.2.2.2.1 y16.2.2.2.2.2.1 y16.2.2.2.2.2.2 y4 rc3 H locs ls (hz4a _ (Option.some.inj h).symm) hS (lv_sub hl [2, 3, 1, 0] rfl) hk4_0
        refine lv_if_eq (tgt := 28) hx hb dX11_awake_19 (by decide) (fun c4 => ?_) (fun c4 => ?_)
        · refine lv_iconst (v := 0) hx hb dX11_awake_28 (by decide) ?_
          exact hJ29 _ ls ((if_pos c4)).symm (lv_sub hl [0, 1, 3] rfl)
        · refine lv_iconst (v := 1) hx hb dX11_awake_22 (by decide) ?_
          refine lv_iload_n hx hb dX11_awake_23 rfl (lv_at hl 3 rfl) ?_
          refine lv_ishl hx hb dX11_awake_24 ?_
          refine lv_goto (tgt := 29) hx hb dX11_awake_25 (by decide) ?_
          exact hJ29 _ ls ((if_neg c4)).symm (lv_sub hl [0, 1, 3] rfl)
  obtain ⟨y4, e4, h⟩ := bd_some h
  refine hL4 1000 (0 : Int32) (0 : Int32) v_length v_top v_at v_wrong v_isAsked v_asked y4 u0_7 H locs ls e4 hS (lv_sub hl [2, 3, 1, 0] rfl) (fun y4_0 y4_1 y4_2 y4_3 y4_4 y4_5 y4_6 ey4 rw4_0 H locs ls hS hl => ?_)
  subst ey4
  have h := un_r h
  have h := un_r h
  have h := un_r h
  have h := un_r h
  have h := un_r h
  have h := un_r h
  refine lv_iload_n hx hb dX11_awake_37 rfl (lv_at hl 0 rfl) ?_
  obtain rfl := Option.some.inj h
  exact rt_i E hQ (rw4_0) hS dX11_awake_38
set_option maxHeartbeats 4000000 in
set_option maxRecDepth 100000 in
theorem c_X11_unmet {l : Launch} {D : va_G} {cy : Nat → ClassId} (q0 : Nat) (q1 : Nat) (u0_0 : Value) (u0_2 : Value) (u0_3 : Value) (u0_4 : Value) (u0_5 : Value) (u0_6 : Value) (u0_7 : Value) (u0_8 : Value) (u0_9 : Value) (u0_10 : Value) (u0_11 : Value) (u0_12 : Value) (u0_13 : Value) (u0_14 : Value) (u0_15 : Value) (u0_16 : Value) (u0_17 : Value) (u0_18 : Value) (u0_19 : Value) (u0_20 : Value) (u0_21 : Value) (u0_22 : Value) (u0_23 : Value) (u0_24 : Value) (u0_25 : Value) (u0_26 : Value) (u0_27 : Value) (u0_28 : Value) (u0_29 : Value) (u0_30 : Value) (u0_31 : Value) (u0_32 : Value) (u0_33 : Value) (u0_34 : Value) (u0_35 : Value) (u0_36 : Value) (u0_37 : Value) (u0_38 : Value) (u0_39 : Value) (u0_40 : Value) (v_people : Int32) (nw1_ : Nat) (w1_ : Nat → Int32) (p2 : Int32) (r : Int32) (h : X11_unmet v_people nw1_ w1_ p2 = some r) : Ct l yX11_unmet cX11_unmet 5 (some .int) 0 0 D cy [.ref q0, .ref q1, .int p2] [oX11 q0 u0_0 (.int v_people) u0_2 u0_3 u0_4 u0_5 u0_6 u0_7 u0_8 u0_9 u0_10 u0_11 u0_12 u0_13 u0_14 u0_15 u0_16 u0_17 u0_18 u0_19 u0_20 u0_21 u0_22 u0_23 u0_24 u0_25 u0_26 u0_27 u0_28 u0_29 u0_30 u0_31 u0_32 u0_33 u0_34 u0_35 u0_36 u0_37 u0_38 u0_39 u0_40, aI cy q1 nw1_ w1_] (fun _ => [oX11 q0 u0_0 (.int v_people) u0_2 u0_3 u0_4 u0_5 u0_6 u0_7 u0_8 u0_9 u0_10 u0_11 u0_12 u0_13 u0_14 u0_15 u0_16 u0_17 u0_18 u0_19 u0_20 u0_21 u0_22 u0_23 u0_24 u0_25 u0_26 u0_27 u0_28 u0_29 u0_30 u0_31 u0_32 u0_33 u0_34 u0_35 u0_36 u0_37 u0_38 u0_39 u0_40, aI cy q1 nw1_ w1_]) (some (.int r)) := by
  refine Ct.mk kX11_unmet (by decide +kernel) (Nat.le_of_ble_eq_true rfl) ?_
  intro p e s m below meth c A ls args R Q hRf hRl hQ E H locs hS hl
  have hx := E.x
  have hb := E.b
  have hl : lv_has ls 5 [(0, .ref q0), (1, .ref q1), (2, .int p2)] := hl
  unfold X11_unmet at h
  refine lv_iconst (v := 0) hx hb dX11_unmet_0 (by decide) ?_
  refine lv_istore_n (lv' := [(3, .int (0 : Int32)), (0, .ref q0), (1, .ref q1), (2, .int p2)]) hx hb dX11_unmet_1 rfl hl (by decide) rfl (fun ls hl => ?_)
  refine lv_iconst (v := 0) hx hb dX11_unmet_2 (by decide) ?_
  refine lv_istore (lv' := [(4, .int (0 : Int32)), (3, .int (0 : Int32)), (0, .ref q0), (1, .ref q1), (2, .int p2)]) hx hb dX11_unmet_3 hl (by decide) rfl (fun ls hl => ?_)
  have hL5 : ∀ (n : Nat) (x5_0 : Int32) (x5_1 : Int32) (y5 : Int32) (H : Heap) (locs : List Loc) (ls : Array Slot), lp (fun x5 => X11_unmet_s5 v_people nw1_ w1_ p2 x5.1 x5.2) n (x5_0, x5_1) = some y5 → Sv D A s.heap [oX11 q0 u0_0 (.int v_people) u0_2 u0_3 u0_4 u0_5 u0_6 u0_7 u0_8 u0_9 u0_10 u0_11 u0_12 u0_13 u0_14 u0_15 u0_16 u0_17 u0_18 u0_19 u0_20 u0_21 u0_22 u0_23 u0_24 u0_25 u0_26 u0_27 u0_28 u0_29 u0_30 u0_31 u0_32 u0_33 u0_34 u0_35 u0_36 u0_37 u0_38 u0_39 u0_40, aI cy q1 nw1_ w1_] H locs → lv_has ls 5 [(0, .ref q0), (1, .ref q1), (2, .int p2), (3, .int x5_0), (4, .int x5_1)] → ( ∀ (y5_0 : Int32), y5_0 = y5 → ∀ (H : Heap) (locs : List Loc) (ls : Array Slot), Sv D A s.heap [oX11 q0 u0_0 (.int v_people) u0_2 u0_3 u0_4 u0_5 u0_6 u0_7 u0_8 u0_9 u0_10 u0_11 u0_12 u0_13 u0_14 u0_15 u0_16 u0_17 u0_18 u0_19 u0_20 u0_21 u0_22 u0_23 u0_24 u0_25 u0_26 u0_27 u0_28 u0_29 u0_30 u0_31 u0_32 u0_33 u0_34 u0_35 u0_36 u0_37 u0_38 u0_39 u0_40, aI cy q1 nw1_ w1_] H locs → lv_has ls 5 [(3, .int y5_0)] → W p l e R s m args below meth c H locs 0 0 Q (F0 m 50 ls [])) → W p l e R s m args below meth c H locs 0 0 Q (F0 m 5 ls []) := by
    intro n
    induction n with
    | zero =>
      intro x5_0 x5_1 y5 H locs ls h
      exact lp_zero h
    | succ n ih5 =>
      intro x5_0 x5_1 y5 H locs ls h hS hl hk5_0
      obtain ⟨z5, h, hz5a, hz5b⟩ := lp_succ h
      have h : X11_unmet_s5 v_people nw1_ w1_ p2 x5_0 x5_1 = some z5 := h
      unfold X11_unmet_s5 at h
      refine lv_iload hx hb dX11_unmet_5 (lv_at hl 4 rfl) ?_
      refine lv_aload_n hx hb dX11_unmet_7 rfl (lv_at hl 0 rfl) ?_
      refine r_get E frX11_92 hS 0 rfl rfl dX11_unmet_8 ?_
      refine lv_icmp_ge (tgt := 50) hx hb dX11_unmet_11 (by decide) (fun c1 => ?_) (fun c1 => ?_)
      · have h := it_pos c1 h
        exact hk5_0 x5_0 (hz5b _ (Option.some.inj h).symm)  H locs ls hS (lv_sub hl [3] rfl)
      · have h := it_neg c1 h
        refine lv_iload_n hx hb dX11_unmet_14 rfl (lv_at hl 3 rfl) ?_
        refine lv_aload_n hx hb dX11_unmet_15 rfl (lv_at hl 1 rfl) ?_
        refine lv_bipush (v := 28) hx hb dX11_unmet_16 (by decide) ?_
        refine lv_iload hx hb dX11_unmet_18 (lv_at hl 4 rfl) ?_
        refine lv_iadd hx hb dX11_unmet_20 ?_
        obtain ⟨g2, h⟩ := gi_some h
        refine r_iald E hS 1 rfl g2 dX11_unmet_21 ?_
        refine lv_if_eq (tgt := 41) hx hb dX11_unmet_22 (by decide) (fun c3 => ?_) (fun c3 => ?_)
        · have h := it_pos c3 h
          refine lv_iconst (v := 0) hx hb dX11_unmet_41 (by decide) ?_
          refine lv_iadd hx hb dX11_unmet_42 ?_
          refine lv_istore_n (lv' := [(3, .int (x5_0 + (0 : Int32))), (0, .ref q0), (1, .ref q1), (2, .int p2), (4, .int x5_1)]) hx hb dX11_unmet_43 rfl hl (by decide) rfl (fun ls hl => ?_)
          refine lv_iinc (v := (x5_1 + (1 : Int32))) (lv' := [(4, .int (x5_1 + (1 : Int32))), (3, .int (x5_0 + (0 : Int32))), (0, .ref q0), (1, .ref q1), (2, .int p2)]) hx hb dX11_unmet_44 hl (k := 4) rfl rfl (by decide) rfl (fun ls hl => ?_)
          refine lv_goto (tgt := 5) hx hb dX11_unmet_47 (by decide) ?_
          exact ih5 (x5_0 + (0 : Int32)) (x5_1 + (1 : Int32)) y5  H locs ls (hz5a _ (Option.some.inj h).symm) hS (lv_sub hl [2, 3, 4, 1, 0] rfl) hk5_0
        · have h := it_neg c3 h
          refine lv_aload_n hx hb dX11_unmet_25 rfl (lv_at hl 1 rfl) ?_
          refine lv_bipush (v := 28) hx hb dX11_unmet_26 (by decide) ?_
          refine lv_iload hx hb dX11_unmet_28 (lv_at hl 4 rfl) ?_
          refine lv_iadd hx hb dX11_unmet_30 ?_
          obtain ⟨g4, h⟩ := gi_some h
          refine r_iald E hS 1 rfl g4 dX11_unmet_31 ?_
          refine lv_iload_n hx hb dX11_unmet_32 rfl (lv_at hl 2 rfl) ?_
          refine lv_iand hx hb dX11_unmet_33 ?_
          refine lv_if_ne (tgt := 41) hx hb dX11_unmet_34 (by decide) (fun c5 => ?_) (fun c5 => ?_)
          · have h := it_neg c5 h
            refine lv_iconst (v := 0) hx hb dX11_unmet_41 (by decide) ?_
            refine lv_iadd hx hb dX11_unmet_42 ?_
            refine lv_istore_n (lv' := [(3, .int (x5_0 + (0 : Int32))), (0, .ref q0), (1, .ref q1), (2, .int p2), (4, .int x5_1)]) hx hb dX11_unmet_43 rfl hl (by decide) rfl (fun ls hl => ?_)
            refine lv_iinc (v := (x5_1 + (1 : Int32))) (lv' := [(4, .int (x5_1 + (1 : Int32))), (3, .int (x5_0 + (0 : Int32))), (0, .ref q0), (1, .ref q1), (2, .int p2)]) hx hb dX11_unmet_44 hl (k := 4) rfl rfl (by decide) rfl (fun ls hl => ?_)
            refine lv_goto (tgt := 5) hx hb dX11_unmet_47 (by decide) ?_
            exact ih5 (x5_0 + (0 : Int32)) (x5_1 + (1 : Int32)) y5  H locs ls (hz5a _ (Option.some.inj h).symm) hS (lv_sub hl [2, 3, 4, 1, 0] rfl) hk5_0
          · have h := it_pos c5 h
            refine lv_iconst (v := 1) hx hb dX11_unmet_37 (by decide) ?_
            refine lv_goto (tgt := 42) hx hb dX11_unmet_38 (by decide) ?_
            refine lv_iadd hx hb dX11_unmet_42 ?_
            refine lv_istore_n (lv' := [(3, .int (x5_0 + (1 : Int32))), (0, .ref q0), (1, .ref q1), (2, .int p2), (4, .int x5_1)]) hx hb dX11_unmet_43 rfl hl (by decide) rfl (fun ls hl => ?_)
            refine lv_iinc (v := (x5_1 + (1 : Int32))) (lv' := [(4, .int (x5_1 + (1 : Int32))), (3, .int (x5_0 + (1 : Int32))), (0, .ref q0), (1, .ref q1), (2, .int p2)]) hx hb dX11_unmet_44 hl (k := 4) rfl rfl (by decide) rfl (fun ls hl => ?_)
            refine lv_goto (tgt := 5) hx hb dX11_unmet_47 (by decide) ?_
            exact ih5 (x5_0 + (1 : Int32)) (x5_1 + (1 : Int32)) y5  H locs ls (hz5a _ (Option.some.inj h).symm) hS (lv_sub hl [2, 3, 4, 1, 0] rfl) hk5_0
  obtain ⟨y5, e5, h⟩ := bd_some h
  refine hL5 1000 (0 : Int32) (0 : Int32) y5  H locs ls e5 hS (lv_sub hl [2, 3, 4, 1, 0] rfl) (fun y5_0 ey5 H locs ls hS hl => ?_)
  subst ey5
  refine lv_iload_n hx hb dX11_unmet_50 rfl (lv_at hl 0 rfl) ?_
  obtain rfl := Option.some.inj h
  exact rt_i E hQ (.null) hS dX11_unmet_51
set_option maxHeartbeats 4000000 in
set_option maxRecDepth 100000 in
theorem c_X11_one {l : Launch} {D : va_G} {cy : Nat → ClassId} (q0 : Nat) (q1 : Nat) (q2 : Nat) (q3 : Nat) (u0_2 : Value) (u0_3 : Value) (u0_4 : Value) (u0_5 : Value) (u0_7 : Value) (u0_12 : Value) (u0_14 : Value) (u0_18 : Value) (u0_19 : Value) (u0_20 : Value) (u0_21 : Value) (u0_22 : Value) (u0_23 : Value) (u0_24 : Value) (u0_25 : Value) (u0_26 : Value) (u0_27 : Value) (u0_28 : Value) (u0_29 : Value) (u0_30 : Value) (u0_31 : Value) (u0_32 : Value) (u0_33 : Value) (u0_34 : Value) (u0_35 : Value) (u0_36 : Value) (u0_37 : Value) (u0_38 : Value) (u0_39 : Value) (u0_40 : Value) (v_people : Int32) (v_thrown : Int32) (v_length : Int32) (v_top : Int32) (v_at : Int32) (v_wrong : Int32) (v_ruleSize : Int32) (v_isAsked : Int32) (v_now : Nat → Int32) (v_rule : Nat → Int32) (v_asked : Nat → Int32) (p1 : Int32) (p2 : Int32) (r : Int32 × Int32 × Int32 × Int32 × Int32 × Int32 × Int32 × (Nat → Int32)) (h : X11_one v_people v_length v_top v_at v_wrong v_ruleSize v_isAsked v_now v_rule v_asked p1 p2 = some r) : Ct l yX11_one cX11_one 3 (some .int) 107 2558 D cy [.ref q0, .int p1, .int p2] [oX11 q0 (.ref q1) (.int v_people) u0_2 u0_3 u0_4 u0_5 (.int v_thrown) u0_7 (.int v_length) (.int v_top) (.int v_at) (.int v_wrong) u0_12 (.ref q2) u0_14 (.int v_ruleSize) (.int v_isAsked) (.ref q3) u0_18 u0_19 u0_20 u0_21 u0_22 u0_23 u0_24 u0_25 u0_26 u0_27 u0_28 u0_29 u0_30 u0_31 u0_32 u0_33 u0_34 u0_35 u0_36 u0_37 u0_38 u0_39 u0_40, aI cy q1 37 v_now, aB cy q2 40 v_rule, aI cy q3 7 v_asked] (fun rv => [oX11 q0 (.ref q1) (.int v_people) u0_2 u0_3 u0_4 u0_5 (.int r.2.1) rv (.int r.2.2.1) (.int r.2.2.2.1) (.int r.2.2.2.2.1) (.int r.2.2.2.2.2.1) u0_12 (.ref q2) u0_14 (.int v_ruleSize) (.int r.2.2.2.2.2.2.1) (.ref q3) u0_18 u0_19 u0_20 u0_21 u0_22 u0_23 u0_24 u0_25 u0_26 u0_27 u0_28 u0_29 u0_30 u0_31 u0_32 u0_33 u0_34 u0_35 u0_36 u0_37 u0_38 u0_39 u0_40, aI cy q1 37 v_now, aB cy q2 40 v_rule, aI cy q3 7 r.2.2.2.2.2.2.2]) (some (.int r.1)) := by
  refine Ct.mk kX11_one (by decide +kernel) (Nat.le_of_ble_eq_true rfl) ?_
  intro p e s m below meth c A ls args R Q hRf hRl hQ E H locs hS hl
  have hx := E.x
  have hb := E.b
  have hl : lv_has ls 3 [(0, .ref q0), (1, .int p1), (2, .int p2)] := hl
  unfold X11_one at h
  refine lv_aload_n hx hb dX11_one_0 rfl (lv_at hl 0 rfl) ?_
  refine lv_iconst (v := 0) hx hb dX11_one_1 (by decide) ?_
  refine r_put (ws' := [oX11 q0 (.ref q1) (.int v_people) u0_2 u0_3 u0_4 u0_5 (.int (0 : Int32)) u0_7 (.int v_length) (.int v_top) (.int v_at) (.int v_wrong) u0_12 (.ref q2) u0_14 (.int v_ruleSize) (.int v_isAsked) (.ref q3) u0_18 u0_19 u0_20 u0_21 u0_22 u0_23 u0_24 u0_25 u0_26 u0_27 u0_28 u0_29 u0_30 u0_31 u0_32 u0_33 u0_34 u0_35 u0_36 u0_37 u0_38 u0_39 u0_40, aI cy q1 37 v_now, aB cy q2 40 v_rule, aI cy q3 7 v_asked]) E frX11_85 hS 0 rfl (Nat.le_of_ble_eq_true rfl) rfl rfl rfl rfl dX11_one_2 (fun H locs hS => ?_)
  refine lv_aload_n hx hb dX11_one_5 rfl (lv_at hl 0 rfl) ?_
  refine lv_iload_n hx hb dX11_one_6 rfl (lv_at hl 1 rfl) ?_
  obtain ⟨y7, e1, h⟩ := bd_some h
  refine ct_V (ws' := fun _ => [oX11 q0 (.ref q1) (.int v_people) u0_2 u0_3 u0_4 u0_5 (.int (0 : Int32)) u0_7 (.int v_length) (.int v_top) (.int v_at) (.int v_wrong) u0_12 (.ref q2) u0_14 (.int v_ruleSize) (.int v_isAsked) (.ref q3) u0_18 u0_19 u0_20 u0_21 u0_22 u0_23 u0_24 u0_25 u0_26 u0_27 u0_28 u0_29 u0_30 u0_31 u0_32 u0_33 u0_34 u0_35 u0_36 u0_37 u0_38 u0_39 u0_40, aI cy q1 37 v_now, aB cy q2 40 v_rule, aI cy q3 7 v_asked]) (st' := [.int y7]) (rest := []) E hS vlX11_99 (c_X11_isOne (l := l) (D := D) (cy := cy) (q0 := q0) (u0_0 := .ref q1) (u0_2 := u0_2) (u0_3 := u0_3) (u0_4 := u0_4) (u0_5 := u0_5) (u0_6 := .int (0 : Int32)) (u0_7 := u0_7) (u0_8 := .int v_length) (u0_9 := .int v_top) (u0_10 := .int v_at) (u0_11 := .int v_wrong) (u0_12 := u0_12) (u0_13 := .ref q2) (u0_14 := u0_14) (u0_15 := .int v_ruleSize) (u0_16 := .int v_isAsked) (u0_17 := .ref q3) (u0_18 := u0_18) (u0_19 := u0_19) (u0_20 := u0_20) (u0_21 := u0_21) (u0_22 := u0_22) (u0_23 := u0_23) (u0_24 := u0_24) (u0_25 := u0_25) (u0_26 := u0_26) (u0_27 := u0_27) (u0_28 := u0_28) (u0_29 := u0_29) (u0_30 := u0_30) (u0_31 := u0_31) (u0_32 := u0_32) (u0_33 := u0_33) (u0_34 := u0_34) (u0_35 := u0_35) (u0_36 := u0_36) (u0_37 := u0_37) (u0_38 := u0_38) (u0_39 := u0_39) (u0_40 := u0_40) (v_people := v_people) (p1 := p1) (r := y7) e1) [0] rfl rfl (fun _ => rfl) (fun _ => rfl) rfl rfl rfl rfl (Nat.le_of_ble_eq_true rfl) hl.1 (by rw [hRf]; exact Nat.le_of_ble_eq_true rfl) (by rw [hRl]; exact Nat.le_of_ble_eq_true rfl) ⟨Nat.zero_le _, Nat.zero_le _⟩ dX11_one_7 rfl (fun H locs _ hS => ?_)
  have hJ23 : ∀ (H : Heap) (locs : List Loc) (ls : Array Slot), X11_one_k23 v_length v_top v_at v_wrong v_isAsked v_asked = some r → Sv D A s.heap [oX11 q0 (.ref q1) (.int v_people) u0_2 u0_3 u0_4 u0_5 (.int (0 : Int32)) u0_7 (.int v_length) (.int v_top) (.int v_at) (.int v_wrong) u0_12 (.ref q2) u0_14 (.int v_ruleSize) (.int v_isAsked) (.ref q3) u0_18 u0_19 u0_20 u0_21 u0_22 u0_23 u0_24 u0_25 u0_26 u0_27 u0_28 u0_29 u0_30 u0_31 u0_32 u0_33 u0_34 u0_35 u0_36 u0_37 u0_38 u0_39 u0_40, aI cy q1 37 v_now, aB cy q2 40 v_rule, aI cy q3 7 v_asked] H locs → lv_has ls 3 [(0, .ref q0)] → W p l e R s m args below meth c H locs 0 0 Q (F0 m 23 ls []) := by
    intro H locs ls h hS hl
    unfold X11_one_k23 at h
    refine lv_aload_n hx hb dX11_one_23 rfl (lv_at hl 0 rfl) ?_
    refine ct_V (ws' := fun _ => [oX11 q0 (.ref q1) (.int v_people) u0_2 u0_3 u0_4 u0_5 (.int X11_lost.2) u0_7 (.int v_length) (.int v_top) (.int v_at) (.int v_wrong) u0_12 (.ref q2) u0_14 (.int v_ruleSize) (.int v_isAsked) (.ref q3) u0_18 u0_19 u0_20 u0_21 u0_22 u0_23 u0_24 u0_25 u0_26 u0_27 u0_28 u0_29 u0_30 u0_31 u0_32 u0_33 u0_34 u0_35 u0_36 u0_37 u0_38 u0_39 u0_40, aI cy q1 37 v_now, aB cy q2 40 v_rule, aI cy q3 7 v_asked]) (st' := [.int X11_lost.1]) (rest := []) E hS vlX11_220 (c_X11_lost (l := l) (D := D) (cy := cy) (q0 := q0) (u0_0 := .ref q1) (u0_1 := .int v_people) (u0_2 := u0_2) (u0_3 := u0_3) (u0_4 := u0_4) (u0_5 := u0_5) (u0_7 := u0_7) (u0_8 := .int v_length) (u0_9 := .int v_top) (u0_10 := .int v_at) (u0_11 := .int v_wrong) (u0_12 := u0_12) (u0_13 := .ref q2) (u0_14 := u0_14) (u0_15 := .int v_ruleSize) (u0_16 := .int v_isAsked) (u0_17 := .ref q3) (u0_18 := u0_18) (u0_19 := u0_19) (u0_20 := u0_20) (u0_21 := u0_21) (u0_22 := u0_22) (u0_23 := u0_23) (u0_24 := u0_24) (u0_25 := u0_25) (u0_26 := u0_26) (u0_27 := u0_27) (u0_28 := u0_28) (u0_29 := u0_29) (u0_30 := u0_30) (u0_31 := u0_31) (u0_32 := u0_32) (u0_33 := u0_33) (u0_34 := u0_34) (u0_35 := u0_35) (u0_36 := u0_36) (u0_37 := u0_37) (u0_38 := u0_38) (u0_39 := u0_39) (u0_40 := u0_40) (v_thrown := (0 : Int32)) (r := X11_lost) rfl) [0] rfl rfl (fun _ => rfl) (fun _ => rfl) rfl rfl rfl rfl (Nat.le_of_ble_eq_true rfl) hl.1 (by rw [hRf]; exact Nat.le_of_ble_eq_true rfl) (by rw [hRl]; exact Nat.le_of_ble_eq_true rfl) ⟨Nat.zero_le _, Nat.zero_le _⟩ dX11_one_24 rfl (fun H locs _ hS => ?_)
    obtain rfl := Option.some.inj h
    exact rt_i E hQ (u0_7) hS dX11_one_27
  refine lv_if_eq (tgt := 23) hx hb dX11_one_10 (by decide) (fun c2 => ?_) (fun c2 => ?_)
  · have h := it_pos c2 h
    exact hJ23   H locs ls h hS (lv_sub hl [0] rfl)
  · have h := it_neg c2 h
    refine lv_iload_n hx hb dX11_one_13 rfl (lv_at hl 2 rfl) ?_
    refine lv_iconst (v := 0) hx hb dX11_one_14 (by decide) ?_
    refine lv_bipush (v := 6) hx hb dX11_one_15 (by decide) ?_
    refine ct_S (ws' := fun _ => [oX11 q0 (.ref q1) (.int v_people) u0_2 u0_3 u0_4 u0_5 (.int (0 : Int32)) u0_7 (.int v_length) (.int v_top) (.int v_at) (.int v_wrong) u0_12 (.ref q2) u0_14 (.int v_ruleSize) (.int v_isAsked) (.ref q3) u0_18 u0_19 u0_20 u0_21 u0_22 u0_23 u0_24 u0_25 u0_26 u0_27 u0_28 u0_29 u0_30 u0_31 u0_32 u0_33 u0_34 u0_35 u0_36 u0_37 u0_38 u0_39 u0_40, aI cy q1 37 v_now, aB cy q2 40 v_rule, aI cy q3 7 v_asked]) (st' := [.int (X11_in p2 (0 : Int32) (6 : Int32))]) (rest := []) E hS slX11_95 (c_X11_in (l := l) (D := D) (cy := cy) (p0 := p2) (p1 := (0 : Int32)) (p2 := (6 : Int32)) (r := (X11_in p2 (0 : Int32) (6 : Int32))) rfl) [] rfl rfl (fun _ => rfl) (fun _ => rfl) rfl rfl (Nat.le_of_ble_eq_true rfl) hl.1 (by rw [hRf]; exact Nat.le_of_ble_eq_true rfl) (by rw [hRl]; exact Nat.le_of_ble_eq_true rfl) ⟨Nat.zero_le _, Nat.zero_le _⟩ dX11_one_17 rfl (fun H locs _ hS => ?_)
    refine lv_if_ne (tgt := 28) hx hb dX11_one_20 (by decide) (fun c3 => ?_) (fun c3 => ?_)
    · have h := it_neg c3 h
      refine lv_iload_n hx hb dX11_one_28 rfl (lv_at hl 2 rfl) ?_
      refine lv_iconst (v := 5) hx hb dX11_one_29 (by decide) ?_
      refine lv_icmp_ge (tgt := 47) hx hb dX11_one_30 (by decide) (fun c4 => ?_) (fun c4 => ?_)
      · have h := it_pos c4 h
        refine lv_iload_n hx hb dX11_one_47 rfl (lv_at hl 2 rfl) ?_
        refine lv_iconst (v := 5) hx hb dX11_one_48 (by decide) ?_
        refine lv_icmp_ne (tgt := 64) hx hb dX11_one_49 (by decide) (fun c5 => ?_) (fun c5 => ?_)
        · have h := it_neg c5 h
          refine lv_aload_n hx hb dX11_one_64 rfl (lv_at hl 0 rfl) ?_
          refine lv_aload_n hx hb dX11_one_65 rfl (lv_at hl 0 rfl) ?_
          refine r_get E frX11_9 hS 0 rfl rfl dX11_one_66 ?_
          refine lv_iload_n hx hb dX11_one_69 rfl (lv_at hl 1 rfl) ?_
          obtain ⟨y70, e6, h⟩ := bd_some h
          refine ct_V (ws' := fun rc7 => [oX11 q0 (.ref q1) (.int v_people) u0_2 u0_3 u0_4 u0_5 (.int (0 : Int32)) rc7 (.int y70.2.1) (.int y70.2.2.1) (.int y70.2.2.2.1) (.int y70.2.2.2.2.1) u0_12 (.ref q2) u0_14 (.int v_ruleSize) (.int y70.2.2.2.2.2.1) (.ref q3) u0_18 u0_19 u0_20 u0_21 u0_22 u0_23 u0_24 u0_25 u0_26 u0_27 u0_28 u0_29 u0_30 u0_31 u0_32 u0_33 u0_34 u0_35 u0_36 u0_37 u0_38 u0_39 u0_40, aI cy q1 37 v_now, aB cy q2 40 v_rule, aI cy q3 7 y70.2.2.2.2.2.2]) (st' := [.int y70.1]) (rest := []) E hS vlX11_213 (c_X11_neededBy (l := l) (D := D) (cy := cy) (q0 := q0) (q1 := q2) (q2 := q3) (q3 := q1) (u0_0 := .ref q1) (u0_2 := u0_2) (u0_3 := u0_3) (u0_4 := u0_4) (u0_5 := u0_5) (u0_6 := .int (0 : Int32)) (u0_7 := u0_7) (u0_12 := u0_12) (u0_14 := u0_14) (u0_18 := u0_18) (u0_19 := u0_19) (u0_20 := u0_20) (u0_21 := u0_21) (u0_22 := u0_22) (u0_23 := u0_23) (u0_24 := u0_24) (u0_25 := u0_25) (u0_26 := u0_26) (u0_27 := u0_27) (u0_28 := u0_28) (u0_29 := u0_29) (u0_30 := u0_30) (u0_31 := u0_31) (u0_32 := u0_32) (u0_33 := u0_33) (u0_34 := u0_34) (u0_35 := u0_35) (u0_36 := u0_36) (u0_37 := u0_37) (u0_38 := u0_38) (u0_39 := u0_39) (u0_40 := u0_40) (v_people := v_people) (v_length := v_length) (v_top := v_top) (v_at := v_at) (v_wrong := v_wrong) (v_ruleSize := v_ruleSize) (v_isAsked := v_isAsked) (v_rule := v_rule) (v_asked := v_asked) (nw1_ := 37) (w1_ := v_now) (p2 := p1) (r := y70) e6) [0, 2, 3, 1] rfl rfl (fun _ => rfl) (fun _ => rfl) rfl rfl rfl rfl (Nat.le_of_ble_eq_true rfl) hl.1 (by rw [hRf]; exact Nat.le_of_ble_eq_true rfl) (by rw [hRl]; exact Nat.le_of_ble_eq_true rfl) ⟨Nat.zero_le _, Nat.zero_le _⟩ dX11_one_70 rfl (fun H locs rc7 hS => ?_)
          obtain rfl := Option.some.inj h
          exact rt_i E hQ (rc7) hS dX11_one_73
        · have h := it_pos c5 h
          refine lv_aload_n hx hb dX11_one_52 rfl (lv_at hl 0 rfl) ?_
          refine lv_aload_n hx hb dX11_one_53 rfl (lv_at hl 0 rfl) ?_
          refine r_get E frX11_9 hS 0 rfl rfl dX11_one_54 ?_
          refine lv_iload_n hx hb dX11_one_57 rfl (lv_at hl 1 rfl) ?_
          obtain ⟨y58, e8, h⟩ := bd_some h
          refine ct_V (ws' := fun _ => [oX11 q0 (.ref q1) (.int v_people) u0_2 u0_3 u0_4 u0_5 (.int (0 : Int32)) u0_7 (.int v_length) (.int v_top) (.int v_at) (.int v_wrong) u0_12 (.ref q2) u0_14 (.int v_ruleSize) (.int v_isAsked) (.ref q3) u0_18 u0_19 u0_20 u0_21 u0_22 u0_23 u0_24 u0_25 u0_26 u0_27 u0_28 u0_29 u0_30 u0_31 u0_32 u0_33 u0_34 u0_35 u0_36 u0_37 u0_38 u0_39 u0_40, aI cy q1 37 v_now, aB cy q2 40 v_rule, aI cy q3 7 v_asked]) (st' := [.int y58]) (rest := []) E hS vlX11_200 (c_X11_wantedBy (l := l) (D := D) (cy := cy) (q0 := q0) (q1 := q1) (u0_0 := .ref q1) (u0_2 := u0_2) (u0_3 := u0_3) (u0_4 := u0_4) (u0_5 := u0_5) (u0_6 := .int (0 : Int32)) (u0_7 := u0_7) (u0_8 := .int v_length) (u0_9 := .int v_top) (u0_10 := .int v_at) (u0_11 := .int v_wrong) (u0_12 := u0_12) (u0_13 := .ref q2) (u0_14 := u0_14) (u0_15 := .int v_ruleSize) (u0_16 := .int v_isAsked) (u0_17 := .ref q3) (u0_18 := u0_18) (u0_19 := u0_19) (u0_20 := u0_20) (u0_21 := u0_21) (u0_22 := u0_22) (u0_23 := u0_23) (u0_24 := u0_24) (u0_25 := u0_25) (u0_26 := u0_26) (u0_27 := u0_27) (u0_28 := u0_28) (u0_29 := u0_29) (u0_30 := u0_30) (u0_31 := u0_31) (u0_32 := u0_32) (u0_33 := u0_33) (u0_34 := u0_34) (u0_35 := u0_35) (u0_36 := u0_36) (u0_37 := u0_37) (u0_38 := u0_38) (u0_39 := u0_39) (u0_40 := u0_40) (v_people := v_people) (nw1_ := 37) (w1_ := v_now) (p2 := p1) (r := y58) e8) [0, 1] rfl rfl (fun _ => rfl) (fun _ => rfl) rfl rfl rfl rfl (Nat.le_of_ble_eq_true rfl) hl.1 (by rw [hRf]; exact Nat.le_of_ble_eq_true rfl) (by rw [hRl]; exact Nat.le_of_ble_eq_true rfl) ⟨Nat.zero_le _, Nat.zero_le _⟩ dX11_one_58 rfl (fun H locs _ hS => ?_)
          refine lv_goto (tgt := 73) hx hb dX11_one_61 (by decide) ?_
          obtain rfl := Option.some.inj h
          exact rt_i E hQ (u0_7) hS dX11_one_73
      · have h := it_neg c4 h
        refine lv_aload_n hx hb dX11_one_33 rfl (lv_at hl 0 rfl) ?_
        refine r_get E frX11_9 hS 0 rfl rfl dX11_one_34 ?_
        refine lv_bipush (v := 7) hx hb dX11_one_37 (by decide) ?_
        refine lv_iload_n hx hb dX11_one_39 rfl (lv_at hl 2 rfl) ?_
        refine lv_imul hx hb dX11_one_40 ?_
        refine lv_iload_n hx hb dX11_one_41 rfl (lv_at hl 1 rfl) ?_
        refine lv_iadd hx hb dX11_one_42 ?_
        obtain ⟨g9, h⟩ := gi_some h
        refine r_iald E hS 1 rfl g9 dX11_one_43 ?_
        refine lv_goto (tgt := 73) hx hb dX11_one_44 (by decide) ?_
        obtain rfl := Option.some.inj h
        exact rt_i E hQ (u0_7) hS dX11_one_73
    · have h := it_pos c3 h
      exact hJ23   H locs ls h hS (lv_sub hl [0] rfl)
set_option maxHeartbeats 4000000 in
set_option maxRecDepth 100000 in
theorem c_X11_sumOf {l : Launch} {D : va_G} {cy : Nat → ClassId} (q0 : Nat) (q1 : Nat) (u0_0 : Value) (u0_2 : Value) (u0_3 : Value) (u0_4 : Value) (u0_5 : Value) (u0_6 : Value) (u0_7 : Value) (u0_8 : Value) (u0_9 : Value) (u0_10 : Value) (u0_11 : Value) (u0_12 : Value) (u0_13 : Value) (u0_14 : Value) (u0_15 : Value) (u0_16 : Value) (u0_17 : Value) (u0_18 : Value) (u0_19 : Value) (u0_20 : Value) (u0_21 : Value) (u0_22 : Value) (u0_23 : Value) (u0_24 : Value) (u0_25 : Value) (u0_26 : Value) (u0_27 : Value) (u0_28 : Value) (u0_29 : Value) (u0_30 : Value) (u0_31 : Value) (u0_32 : Value) (u0_33 : Value) (u0_34 : Value) (u0_35 : Value) (u0_36 : Value) (u0_37 : Value) (u0_38 : Value) (u0_39 : Value) (u0_40 : Value) (v_people : Int32) (nw1_ : Nat) (w1_ : Nat → Int32) (p2 : Int32) (r : Int32) (h : X11_sumOf v_people nw1_ w1_ p2 = some r) : Ct l yX11_sumOf cX11_sumOf 5 (some .int) 0 0 D cy [.ref q0, .ref q1, .int p2] [oX11 q0 u0_0 (.int v_people) u0_2 u0_3 u0_4 u0_5 u0_6 u0_7 u0_8 u0_9 u0_10 u0_11 u0_12 u0_13 u0_14 u0_15 u0_16 u0_17 u0_18 u0_19 u0_20 u0_21 u0_22 u0_23 u0_24 u0_25 u0_26 u0_27 u0_28 u0_29 u0_30 u0_31 u0_32 u0_33 u0_34 u0_35 u0_36 u0_37 u0_38 u0_39 u0_40, aI cy q1 nw1_ w1_] (fun _ => [oX11 q0 u0_0 (.int v_people) u0_2 u0_3 u0_4 u0_5 u0_6 u0_7 u0_8 u0_9 u0_10 u0_11 u0_12 u0_13 u0_14 u0_15 u0_16 u0_17 u0_18 u0_19 u0_20 u0_21 u0_22 u0_23 u0_24 u0_25 u0_26 u0_27 u0_28 u0_29 u0_30 u0_31 u0_32 u0_33 u0_34 u0_35 u0_36 u0_37 u0_38 u0_39 u0_40, aI cy q1 nw1_ w1_]) (some (.int r)) := by
  refine Ct.mk kX11_sumOf (by decide +kernel) (Nat.le_of_ble_eq_true rfl) ?_
  intro p e s m below meth c A ls args R Q hRf hRl hQ E H locs hS hl
  have hx := E.x
  have hb := E.b
  have hl : lv_has ls 5 [(0, .ref q0), (1, .ref q1), (2, .int p2)] := hl
  unfold X11_sumOf at h
  refine lv_iconst (v := 0) hx hb dX11_sumOf_0 (by decide) ?_
  refine lv_istore_n (lv' := [(3, .int (0 : Int32)), (0, .ref q0), (1, .ref q1), (2, .int p2)]) hx hb dX11_sumOf_1 rfl hl (by decide) rfl (fun ls hl => ?_)
  refine lv_iconst (v := 0) hx hb dX11_sumOf_2 (by decide) ?_
  refine lv_istore (lv' := [(4, .int (0 : Int32)), (3, .int (0 : Int32)), (0, .ref q0), (1, .ref q1), (2, .int p2)]) hx hb dX11_sumOf_3 hl (by decide) rfl (fun ls hl => ?_)
  have hL5 : ∀ (n : Nat) (x5_0 : Int32) (x5_1 : Int32) (y5 : Int32) (H : Heap) (locs : List Loc) (ls : Array Slot), lp (fun x5 => X11_sumOf_s5 v_people nw1_ w1_ p2 x5.1 x5.2) n (x5_0, x5_1) = some y5 → Sv D A s.heap [oX11 q0 u0_0 (.int v_people) u0_2 u0_3 u0_4 u0_5 u0_6 u0_7 u0_8 u0_9 u0_10 u0_11 u0_12 u0_13 u0_14 u0_15 u0_16 u0_17 u0_18 u0_19 u0_20 u0_21 u0_22 u0_23 u0_24 u0_25 u0_26 u0_27 u0_28 u0_29 u0_30 u0_31 u0_32 u0_33 u0_34 u0_35 u0_36 u0_37 u0_38 u0_39 u0_40, aI cy q1 nw1_ w1_] H locs → lv_has ls 5 [(0, .ref q0), (1, .ref q1), (2, .int p2), (3, .int x5_0), (4, .int x5_1)] → ( ∀ (y5_0 : Int32), y5_0 = y5 → ∀ (H : Heap) (locs : List Loc) (ls : Array Slot), Sv D A s.heap [oX11 q0 u0_0 (.int v_people) u0_2 u0_3 u0_4 u0_5 u0_6 u0_7 u0_8 u0_9 u0_10 u0_11 u0_12 u0_13 u0_14 u0_15 u0_16 u0_17 u0_18 u0_19 u0_20 u0_21 u0_22 u0_23 u0_24 u0_25 u0_26 u0_27 u0_28 u0_29 u0_30 u0_31 u0_32 u0_33 u0_34 u0_35 u0_36 u0_37 u0_38 u0_39 u0_40, aI cy q1 nw1_ w1_] H locs → lv_has ls 5 [(3, .int y5_0)] → W p l e R s m args below meth c H locs 0 0 Q (F0 m 29 ls [])) → W p l e R s m args below meth c H locs 0 0 Q (F0 m 5 ls []) := by
    intro n
    induction n with
    | zero =>
      intro x5_0 x5_1 y5 H locs ls h
      exact lp_zero h
    | succ n ih5 =>
      intro x5_0 x5_1 y5 H locs ls h hS hl hk5_0
      obtain ⟨z5, h, hz5a, hz5b⟩ := lp_succ h
      have h : X11_sumOf_s5 v_people nw1_ w1_ p2 x5_0 x5_1 = some z5 := h
      unfold X11_sumOf_s5 at h
      refine lv_iload hx hb dX11_sumOf_5 (lv_at hl 4 rfl) ?_
      refine lv_aload_n hx hb dX11_sumOf_7 rfl (lv_at hl 0 rfl) ?_
      refine r_get E frX11_92 hS 0 rfl rfl dX11_sumOf_8 ?_
      refine lv_icmp_ge (tgt := 29) hx hb dX11_sumOf_11 (by decide) (fun c1 => ?_) (fun c1 => ?_)
      · have h := it_pos c1 h
        exact hk5_0 x5_0 (hz5b _ (Option.some.inj h).symm)  H locs ls hS (lv_sub hl [3] rfl)
      · have h := it_neg c1 h
        refine lv_iload_n hx hb dX11_sumOf_14 rfl (lv_at hl 3 rfl) ?_
        refine lv_aload_n hx hb dX11_sumOf_15 rfl (lv_at hl 1 rfl) ?_
        refine lv_iload_n hx hb dX11_sumOf_16 rfl (lv_at hl 2 rfl) ?_
        refine lv_iload hx hb dX11_sumOf_17 (lv_at hl 4 rfl) ?_
        refine lv_iadd hx hb dX11_sumOf_19 ?_
        obtain ⟨g2, h⟩ := gi_some h
        refine r_iald E hS 1 rfl g2 dX11_sumOf_20 ?_
        refine lv_iadd hx hb dX11_sumOf_21 ?_
        refine lv_istore_n (lv' := [(3, .int (x5_0 + (w1_ (p2 + x5_1).toNatClampNeg))), (0, .ref q0), (1, .ref q1), (2, .int p2), (4, .int x5_1)]) hx hb dX11_sumOf_22 rfl hl (by decide) rfl (fun ls hl => ?_)
        refine lv_iinc (v := (x5_1 + (1 : Int32))) (lv' := [(4, .int (x5_1 + (1 : Int32))), (3, .int (x5_0 + (w1_ (p2 + x5_1).toNatClampNeg))), (0, .ref q0), (1, .ref q1), (2, .int p2)]) hx hb dX11_sumOf_23 hl (k := 4) rfl rfl (by decide) rfl (fun ls hl => ?_)
        refine lv_goto (tgt := 5) hx hb dX11_sumOf_26 (by decide) ?_
        exact ih5 (x5_0 + (w1_ (p2 + x5_1).toNatClampNeg)) (x5_1 + (1 : Int32)) y5  H locs ls (hz5a _ (Option.some.inj h).symm) hS (lv_sub hl [2, 3, 4, 1, 0] rfl) hk5_0
  obtain ⟨y5, e5, h⟩ := bd_some h
  refine hL5 1000 (0 : Int32) (0 : Int32) y5  H locs ls e5 hS (lv_sub hl [2, 3, 4, 1, 0] rfl) (fun y5_0 ey5 H locs ls hS hl => ?_)
  subst ey5
  refine lv_iload_n hx hb dX11_sumOf_29 rfl (lv_at hl 0 rfl) ?_
  obtain rfl := Option.some.inj h
  exact rt_i E hQ (.null) hS dX11_sumOf_30
set_option maxHeartbeats 4000000 in
set_option maxRecDepth 100000 in
theorem c_X11_sheet {l : Launch} {D : va_G} {cy : Nat → ClassId} (q0 : Nat) (q1 : Nat) (u0_2 : Value) (u0_3 : Value) (u0_4 : Value) (u0_5 : Value) (u0_7 : Value) (u0_8 : Value) (u0_9 : Value) (u0_10 : Value) (u0_11 : Value) (u0_12 : Value) (u0_13 : Value) (u0_14 : Value) (u0_15 : Value) (u0_16 : Value) (u0_17 : Value) (u0_18 : Value) (u0_19 : Value) (u0_20 : Value) (u0_21 : Value) (u0_22 : Value) (u0_23 : Value) (u0_24 : Value) (u0_25 : Value) (u0_26 : Value) (u0_27 : Value) (u0_28 : Value) (u0_29 : Value) (u0_30 : Value) (u0_31 : Value) (u0_32 : Value) (u0_33 : Value) (u0_34 : Value) (u0_35 : Value) (u0_36 : Value) (u0_37 : Value) (u0_38 : Value) (u0_39 : Value) (u0_40 : Value) (v_people : Int32) (v_thrown : Int32) (v_now : Nat → Int32) (p1 : Int32) (p2 : Int32) (p3 : Int32) (p4 : Int32) (r : Int32 × Int32 × (Nat → Int32)) (h : X11_sheet v_people v_now p1 p2 p3 p4 = some r) : Ct l yX11_sheet cX11_sheet 8 (some .int) 1 24 D cy [.ref q0, .int p1, .int p2, .int p3, .int p4] [oX11 q0 (.ref q1) (.int v_people) u0_2 u0_3 u0_4 u0_5 (.int v_thrown) u0_7 u0_8 u0_9 u0_10 u0_11 u0_12 u0_13 u0_14 u0_15 u0_16 u0_17 u0_18 u0_19 u0_20 u0_21 u0_22 u0_23 u0_24 u0_25 u0_26 u0_27 u0_28 u0_29 u0_30 u0_31 u0_32 u0_33 u0_34 u0_35 u0_36 u0_37 u0_38 u0_39 u0_40, aI cy q1 37 v_now] (fun _ => [oX11 q0 (.ref q1) (.int v_people) u0_2 u0_3 u0_4 u0_5 (.int r.2.1) u0_7 u0_8 u0_9 u0_10 u0_11 u0_12 u0_13 u0_14 u0_15 u0_16 u0_17 u0_18 u0_19 u0_20 u0_21 u0_22 u0_23 u0_24 u0_25 u0_26 u0_27 u0_28 u0_29 u0_30 u0_31 u0_32 u0_33 u0_34 u0_35 u0_36 u0_37 u0_38 u0_39 u0_40, aI cy q1 37 r.2.2]) (some (.int r.1)) := by
  refine Ct.mk kX11_sheet (by decide +kernel) (Nat.le_of_ble_eq_true rfl) ?_
  intro p e s m below meth c A ls args R Q hRf hRl hQ E H locs hS hl
  have hx := E.x
  have hb := E.b
  have hl : lv_has ls 8 [(0, .ref q0), (1, .int p1), (2, .int p2), (3, .int p3), (4, .int p4)] := hl
  unfold X11_sheet at h
  refine lv_aload_n hx hb dX11_sheet_0 rfl (lv_at hl 0 rfl) ?_
  refine lv_iconst (v := 0) hx hb dX11_sheet_1 (by decide) ?_
  refine r_put (ws' := [oX11 q0 (.ref q1) (.int v_people) u0_2 u0_3 u0_4 u0_5 (.int (0 : Int32)) u0_7 u0_8 u0_9 u0_10 u0_11 u0_12 u0_13 u0_14 u0_15 u0_16 u0_17 u0_18 u0_19 u0_20 u0_21 u0_22 u0_23 u0_24 u0_25 u0_26 u0_27 u0_28 u0_29 u0_30 u0_31 u0_32 u0_33 u0_34 u0_35 u0_36 u0_37 u0_38 u0_39 u0_40, aI cy q1 37 v_now]) E frX11_85 hS 0 rfl (Nat.le_of_ble_eq_true rfl) rfl rfl rfl rfl dX11_sheet_2 (fun H locs hS => ?_)
  refine lv_iload_n hx hb dX11_sheet_5 rfl (lv_at hl 1 rfl) ?_
  refine lv_iconst (v := 0) hx hb dX11_sheet_6 (by decide) ?_
  refine lv_iconst (v := 3) hx hb dX11_sheet_7 (by decide) ?_
  refine ct_S (ws' := fun _ => [oX11 q0 (.ref q1) (.int v_people) u0_2 u0_3 u0_4 u0_5 (.int (0 : Int32)) u0_7 u0_8 u0_9 u0_10 u0_11 u0_12 u0_13 u0_14 u0_15 u0_16 u0_17 u0_18 u0_19 u0_20 u0_21 u0_22 u0_23 u0_24 u0_25 u0_26 u0_27 u0_28 u0_29 u0_30 u0_31 u0_32 u0_33 u0_34 u0_35 u0_36 u0_37 u0_38 u0_39 u0_40, aI cy q1 37 v_now]) (st' := [.int (X11_in p1 (0 : Int32) (3 : Int32))]) (rest := []) E hS slX11_95 (c_X11_in (l := l) (D := D) (cy := cy) (p0 := p1) (p1 := (0 : Int32)) (p2 := (3 : Int32)) (r := (X11_in p1 (0 : Int32) (3 : Int32))) rfl) [] rfl rfl (fun _ => rfl) (fun _ => rfl) rfl rfl (Nat.le_of_ble_eq_true rfl) hl.1 (by rw [hRf]; exact Nat.le_of_ble_eq_true rfl) (by rw [hRl]; exact Nat.le_of_ble_eq_true rfl) ⟨Nat.zero_le _, Nat.zero_le _⟩ dX11_sheet_8 rfl (fun H locs _ hS => ?_)
  refine lv_if_eq (tgt := 20) hx hb dX11_sheet_11 (by decide) (fun c1 => ?_) (fun c1 => ?_)
  · have h := it_pos c1 h
    refine lv_iconst (v := -1) hx hb dX11_sheet_20 (by decide) ?_
    obtain rfl := Option.some.inj h
    exact rt_i E hQ (.null) hS dX11_sheet_21
  · have h := it_neg c1 h
    refine lv_iload_n hx hb dX11_sheet_14 rfl (lv_at hl 2 rfl) ?_
    refine lv_bipush (v := 7) hx hb dX11_sheet_15 (by decide) ?_
    refine lv_icmp_le (tgt := 22) hx hb dX11_sheet_17 (by decide) (fun c2 => ?_) (fun c2 => ?_)
    · have h := it_pos c2 h
      refine lv_iload_n hx hb dX11_sheet_22 rfl (lv_at hl 1 rfl) ?_
      refine lv_iconst (v := 3) hx hb dX11_sheet_23 (by decide) ?_
      have hJ34 : ∀ (H : Heap) (locs : List Loc) (ls : Array Slot), X11_sheet_k34 v_people v_now p1 p2 p3 p4 = some r → Sv D A s.heap [oX11 q0 (.ref q1) (.int v_people) u0_2 u0_3 u0_4 u0_5 (.int (0 : Int32)) u0_7 u0_8 u0_9 u0_10 u0_11 u0_12 u0_13 u0_14 u0_15 u0_16 u0_17 u0_18 u0_19 u0_20 u0_21 u0_22 u0_23 u0_24 u0_25 u0_26 u0_27 u0_28 u0_29 u0_30 u0_31 u0_32 u0_33 u0_34 u0_35 u0_36 u0_37 u0_38 u0_39 u0_40, aI cy q1 37 v_now] H locs → lv_has ls 8 [(0, .ref q0), (1, .int p1), (2, .int p2), (3, .int p3), (4, .int p4)] → W p l e R s m args below meth c H locs 0 0 Q (F0 m 34 ls []) := by
        intro H locs ls h hS hl
        unfold X11_sheet_k34 at h
        refine lv_iload_n hx hb dX11_sheet_34 rfl (lv_at hl 3 rfl) ?_
        refine lv_istore (lv' := [(5, .int p3), (0, .ref q0), (1, .int p1), (2, .int p2), (3, .int p3), (4, .int p4)]) hx hb dX11_sheet_35 hl (by decide) rfl (fun ls hl => ?_)
        refine lv_iconst (v := 0) hx hb dX11_sheet_37 (by decide) ?_
        refine lv_istore (lv' := [(6, .int (0 : Int32)), (5, .int p3), (0, .ref q0), (1, .int p1), (2, .int p2), (3, .int p3), (4, .int p4)]) hx hb dX11_sheet_38 hl (by decide) rfl (fun ls hl => ?_)
        have hL40 : ∀ (n : Nat) (x40_0 : Int32) (x40_1 : Int32) (x40_2 : Nat → Int32) (y40 : (Nat → Int32)) (H : Heap) (locs : List Loc) (ls : Array Slot), lp (fun x40 => X11_sheet_s40 v_people p1 p2 p4 x40.1 x40.2.1 x40.2.2) n (x40_0, x40_1, x40_2) = some y40 → Sv D A s.heap [oX11 q0 (.ref q1) (.int v_people) u0_2 u0_3 u0_4 u0_5 (.int (0 : Int32)) u0_7 u0_8 u0_9 u0_10 u0_11 u0_12 u0_13 u0_14 u0_15 u0_16 u0_17 u0_18 u0_19 u0_20 u0_21 u0_22 u0_23 u0_24 u0_25 u0_26 u0_27 u0_28 u0_29 u0_30 u0_31 u0_32 u0_33 u0_34 u0_35 u0_36 u0_37 u0_38 u0_39 u0_40, aI cy q1 37 x40_2] H locs → lv_has ls 8 [(0, .ref q0), (1, .int p1), (2, .int p2), (4, .int p4), (5, .int x40_0), (6, .int x40_1)] → ( ∀ (y40_0 : Nat → Int32), y40_0 = y40 → ∀ (H : Heap) (locs : List Loc) (ls : Array Slot), Sv D A s.heap [oX11 q0 (.ref q1) (.int v_people) u0_2 u0_3 u0_4 u0_5 (.int (0 : Int32)) u0_7 u0_8 u0_9 u0_10 u0_11 u0_12 u0_13 u0_14 u0_15 u0_16 u0_17 u0_18 u0_19 u0_20 u0_21 u0_22 u0_23 u0_24 u0_25 u0_26 u0_27 u0_28 u0_29 u0_30 u0_31 u0_32 u0_33 u0_34 u0_35 u0_36 u0_37 u0_38 u0_39 u0_40, aI cy q1 37 y40_0] H locs → lv_has ls 8 [(0, .ref q0), (1, .int p1)] → W p l e R s m args below meth c H locs 0 0 Q (F0 m 120 ls [])) → W p l e R s m args below meth c H locs 0 0 Q (F0 m 40 ls []) := by
          intro n
          induction n with
          | zero =>
            intro x40_0 x40_1 x40_2 y40 H locs ls h
            exact lp_zero h
          | succ n ih40 =>
            intro x40_0 x40_1 x40_2 y40 H locs ls h hS hl hk40_0
            obtain ⟨z40, h, hz40a, hz40b⟩ := lp_succ h
            have h : X11_sheet_s40 v_people p1 p2 p4 x40_0 x40_1 x40_2 = some z40 := h
            unfold X11_sheet_s40 at h
            refine lv_iload hx hb dX11_sheet_40 (lv_at hl 5 rfl) ?_
            refine lv_aload_n hx hb dX11_sheet_42 rfl (lv_at hl 0 rfl) ?_
            refine r_get E frX11_92 hS 0 rfl rfl dX11_sheet_43 ?_
            refine lv_icmp_ge (tgt := 120) hx hb dX11_sheet_46 (by decide) (fun c3 => ?_) (fun c3 => ?_)
            · have h := it_pos c3 h
              exact hk40_0 x40_2 (hz40b _ (Option.some.inj h).symm)  H locs ls hS (lv_sub hl [0, 1] rfl)
            · have h := it_neg c3 h
              refine lv_iload_n hx hb dX11_sheet_49 rfl (lv_at hl 1 rfl) ?_
              have hJ72 : ∀ (s72_0 : Int32) (ls : Array Slot), s72_0 = (if p1 = 0 then (x40_0.toInt8.toInt32) else (if p1 = (1 : Int32) then (x40_0.toInt16.toInt32) else x40_0)) → lv_has ls 8 [(0, .ref q0), (1, .int p1), (2, .int p2), (4, .int p4), (5, .int x40_0), (6, .int x40_1)] → W p l e R s m args below meth c H locs 0 0 Q (F0 m 72 ls [.int s72_0]) := by
                intro s72_0 ls es72_0 hl
                subst es72_0
                refine lv_istore (lv' := [(7, .int (if p1 = 0 then (x40_0.toInt8.toInt32) else (if p1 = (1 : Int32) then (x40_0.toInt16.toInt32) else x40_0))), (0, .ref q0), (1, .int p1), (2, .int p2), (4, .int p4), (5, .int x40_0), (6, .int x40_1)]) hx hb dX11_sheet_72 hl (by decide) rfl (fun ls hl => ?_)
                refine lv_aload_n hx hb dX11_sheet_74 rfl (lv_at hl 1 rfl) ?_
                refine r_get E frX11_9 hS 0 rfl rfl dX11_sheet_75 ?_
                refine lv_iload hx hb dX11_sheet_78 (lv_at hl 6 rfl) ?_
                refine lv_iload_n hx hb dX11_sheet_80 rfl (lv_at hl 2 rfl) ?_
                refine lv_iconst (v := 3) hx hb dX11_sheet_81 (by decide) ?_
                refine lv_icmp_eq (tgt := 91) hx hb dX11_sheet_82 (by decide) (fun c4 => ?_) (fun c4 => ?_)
                · have h := it_pos c4 h
                  refine lv_iconst (v := 0) hx hb dX11_sheet_91 (by decide) ?_
                  refine lv_goto (tgt := 106) hx hb dX11_sheet_92 (by decide) ?_
                  obtain ⟨g5, h⟩ := gi_some h
                  refine r_iast (ws' := [oX11 q0 (.ref q1) (.int v_people) u0_2 u0_3 u0_4 u0_5 (.int (0 : Int32)) u0_7 u0_8 u0_9 u0_10 u0_11 u0_12 u0_13 u0_14 u0_15 u0_16 u0_17 u0_18 u0_19 u0_20 u0_21 u0_22 u0_23 u0_24 u0_25 u0_26 u0_27 u0_28 u0_29 u0_30 u0_31 u0_32 u0_33 u0_34 u0_35 u0_36 u0_37 u0_38 u0_39 u0_40, aI cy q1 37 (upd x40_2 x40_1.toNatClampNeg (0 : Int32))]) E hS 1 rfl g5 rfl dX11_sheet_106 (fun H locs hS => ?_)
                  refine lv_iload hx hb dX11_sheet_107 (lv_at hl 5 rfl) ?_
                  refine lv_iload hx hb dX11_sheet_109 (lv_at hl 4 rfl) ?_
                  refine lv_iadd hx hb dX11_sheet_111 ?_
                  refine lv_istore (lv' := [(5, .int (x40_0 + p4)), (7, .int (if p1 = 0 then (x40_0.toInt8.toInt32) else (if p1 = (1 : Int32) then (x40_0.toInt16.toInt32) else x40_0))), (0, .ref q0), (1, .int p1), (2, .int p2), (4, .int p4), (6, .int x40_1)]) hx hb dX11_sheet_112 hl (by decide) rfl (fun ls hl => ?_)
                  refine lv_iinc (v := (x40_1 + (1 : Int32))) (lv' := [(6, .int (x40_1 + (1 : Int32))), (5, .int (x40_0 + p4)), (7, .int (if p1 = 0 then (x40_0.toInt8.toInt32) else (if p1 = (1 : Int32) then (x40_0.toInt16.toInt32) else x40_0))), (0, .ref q0), (1, .int p1), (2, .int p2), (4, .int p4)]) hx hb dX11_sheet_114 hl (k := 6) rfl rfl (by decide) rfl (fun ls hl => ?_)
                  refine lv_goto (tgt := 40) hx hb dX11_sheet_117 (by decide) ?_
                  exact ih40 (x40_0 + p4) (x40_1 + (1 : Int32)) (upd x40_2 x40_1.toNatClampNeg (0 : Int32)) y40  H locs ls (hz40a _ (Option.some.inj h).symm) hS (lv_sub hl [3, 4, 5, 6, 1, 0] rfl) hk40_0
                · have h := it_neg c4 h
                  refine lv_iload hx hb dX11_sheet_85 (lv_at hl 6 rfl) ?_
                  refine lv_iload_n hx hb dX11_sheet_87 rfl (lv_at hl 3 rfl) ?_
                  refine lv_icmp_lt (tgt := 95) hx hb dX11_sheet_88 (by decide) (fun c6 => ?_) (fun c6 => ?_)
                  · have h := it_pos c6 h
                    refine lv_iconst (v := 0) hx hb dX11_sheet_95 (by decide) ?_
                    refine lv_bipush (v := 9) hx hb dX11_sheet_96 (by decide) ?_
                    refine lv_iload hx hb dX11_sheet_98 (lv_at hl 0 rfl) ?_
                    refine ct_S (ws' := fun _ => [oX11 q0 (.ref q1) (.int v_people) u0_2 u0_3 u0_4 u0_5 (.int (0 : Int32)) u0_7 u0_8 u0_9 u0_10 u0_11 u0_12 u0_13 u0_14 u0_15 u0_16 u0_17 u0_18 u0_19 u0_20 u0_21 u0_22 u0_23 u0_24 u0_25 u0_26 u0_27 u0_28 u0_29 u0_30 u0_31 u0_32 u0_33 u0_34 u0_35 u0_36 u0_37 u0_38 u0_39 u0_40, aI cy q1 37 x40_2]) (st' := [.int (J9_min_7cf53 (9 : Int32) (if p1 = 0 then (x40_0.toInt8.toInt32) else (if p1 = (1 : Int32) then (x40_0.toInt16.toInt32) else x40_0))), .int (0 : Int32), .int x40_1, .ref q1]) (rest := [.int (0 : Int32), .int x40_1, .ref q1]) E hS slX11_223 (c_J9_min_7cf53 (l := l) (D := D) (cy := cy) (p0 := (9 : Int32)) (p1 := (if p1 = 0 then (x40_0.toInt8.toInt32) else (if p1 = (1 : Int32) then (x40_0.toInt16.toInt32) else x40_0))) (r := (J9_min_7cf53 (9 : Int32) (if p1 = 0 then (x40_0.toInt8.toInt32) else (if p1 = (1 : Int32) then (x40_0.toInt16.toInt32) else x40_0)))) rfl) [] rfl rfl (fun _ => rfl) (fun _ => rfl) rfl rfl (Nat.le_of_ble_eq_true rfl) hl.1 (by rw [hRf]; exact Nat.le_of_ble_eq_true rfl) (by rw [hRl]; exact Nat.le_of_ble_eq_true rfl) ⟨Nat.zero_le _, Nat.zero_le _⟩ dX11_sheet_100 rfl (fun H locs _ hS => ?_)
                    refine ct_S (ws' := fun _ => [oX11 q0 (.ref q1) (.int v_people) u0_2 u0_3 u0_4 u0_5 (.int (0 : Int32)) u0_7 u0_8 u0_9 u0_10 u0_11 u0_12 u0_13 u0_14 u0_15 u0_16 u0_17 u0_18 u0_19 u0_20 u0_21 u0_22 u0_23 u0_24 u0_25 u0_26 u0_27 u0_28 u0_29 u0_30 u0_31 u0_32 u0_33 u0_34 u0_35 u0_36 u0_37 u0_38 u0_39 u0_40, aI cy q1 37 x40_2]) (st' := [.int (J9_max_7cf53 (0 : Int32) (J9_min_7cf53 (9 : Int32) (if p1 = 0 then (x40_0.toInt8.toInt32) else (if p1 = (1 : Int32) then (x40_0.toInt16.toInt32) else x40_0)))), .int x40_1, .ref q1]) (rest := [.int x40_1, .ref q1]) E hS slX11_229 (c_J9_max_7cf53 (l := l) (D := D) (cy := cy) (p0 := (0 : Int32)) (p1 := (J9_min_7cf53 (9 : Int32) (if p1 = 0 then (x40_0.toInt8.toInt32) else (if p1 = (1 : Int32) then (x40_0.toInt16.toInt32) else x40_0)))) (r := (J9_max_7cf53 (0 : Int32) (J9_min_7cf53 (9 : Int32) (if p1 = 0 then (x40_0.toInt8.toInt32) else (if p1 = (1 : Int32) then (x40_0.toInt16.toInt32) else x40_0))))) rfl) [] rfl rfl (fun _ => rfl) (fun _ => rfl) rfl rfl (Nat.le_of_ble_eq_true rfl) hl.1 (by rw [hRf]; exact Nat.le_of_ble_eq_true rfl) (by rw [hRl]; exact Nat.le_of_ble_eq_true rfl) ⟨Nat.zero_le _, Nat.zero_le _⟩ dX11_sheet_103 rfl (fun H locs _ hS => ?_)
                    obtain ⟨g7, h⟩ := gi_some h
                    refine r_iast (ws' := [oX11 q0 (.ref q1) (.int v_people) u0_2 u0_3 u0_4 u0_5 (.int (0 : Int32)) u0_7 u0_8 u0_9 u0_10 u0_11 u0_12 u0_13 u0_14 u0_15 u0_16 u0_17 u0_18 u0_19 u0_20 u0_21 u0_22 u0_23 u0_24 u0_25 u0_26 u0_27 u0_28 u0_29 u0_30 u0_31 u0_32 u0_33 u0_34 u0_35 u0_36 u0_37 u0_38 u0_39 u0_40, aI cy q1 37 (upd x40_2 x40_1.toNatClampNeg (J9_max_7cf53 (0 : Int32) (J9_min_7cf53 (9 : Int32) (if p1 = 0 then (x40_0.toInt8.toInt32) else (if p1 = (1 : Int32) then (x40_0.toInt16.toInt32) else x40_0)))))]) E hS 1 rfl g7 rfl dX11_sheet_106 (fun H locs hS => ?_)
                    refine lv_iload hx hb dX11_sheet_107 (lv_at hl 5 rfl) ?_
                    refine lv_iload hx hb dX11_sheet_109 (lv_at hl 4 rfl) ?_
                    refine lv_iadd hx hb dX11_sheet_111 ?_
                    refine lv_istore (lv' := [(5, .int (x40_0 + p4)), (7, .int (if p1 = 0 then (x40_0.toInt8.toInt32) else (if p1 = (1 : Int32) then (x40_0.toInt16.toInt32) else x40_0))), (0, .ref q0), (1, .int p1), (2, .int p2), (4, .int p4), (6, .int x40_1)]) hx hb dX11_sheet_112 hl (by decide) rfl (fun ls hl => ?_)
                    refine lv_iinc (v := (x40_1 + (1 : Int32))) (lv' := [(6, .int (x40_1 + (1 : Int32))), (5, .int (x40_0 + p4)), (7, .int (if p1 = 0 then (x40_0.toInt8.toInt32) else (if p1 = (1 : Int32) then (x40_0.toInt16.toInt32) else x40_0))), (0, .ref q0), (1, .int p1), (2, .int p2), (4, .int p4)]) hx hb dX11_sheet_114 hl (k := 6) rfl rfl (by decide) rfl (fun ls hl => ?_)
                    refine lv_goto (tgt := 40) hx hb dX11_sheet_117 (by decide) ?_
                    exact ih40 (x40_0 + p4) (x40_1 + (1 : Int32)) (upd x40_2 x40_1.toNatClampNeg (J9_max_7cf53 (0 : Int32) (J9_min_7cf53 (9 : Int32) (if p1 = 0 then (x40_0.toInt8.toInt32) else (if p1 = (1 : Int32) then (x40_0.toInt16.toInt32) else x40_0))))) y40  H locs ls (hz40a _ (Option.some.inj h).symm) hS (lv_sub hl [3, 4, 5, 6, 1, 0] rfl) hk40_0
                  · have h := it_neg c6 h
                    refine lv_iconst (v := 0) hx hb dX11_sheet_91 (by decide) ?_
                    refine lv_goto (tgt := 106) hx hb dX11_sheet_92 (by decide) ?_
                    obtain ⟨g8, h⟩ := gi_some h
                    refine r_iast (ws' := [oX11 q0 (.ref q1) (.int v_people) u0_2 u0_3 u0_4 u0_5 (.int (0 : Int32)) u0_7 u0_8 u0_9 u0_10 u0_11 u0_12 u0_13 u0_14 u0_15 u0_16 u0_17 u0_18 u0_19 u0_20 u0_21 u0_22 u0_23 u0_24 u0_25 u0_26 u0_27 u0_28 u0_29 u0_30 u0_31 u0_32 u0_33 u0_34 u0_35 u0_36 u0_37 u0_38 u0_39 u0_40, aI cy q1 37 (upd x40_2 x40_1.toNatClampNeg (0 : Int32))]) E hS 1 rfl g8 rfl dX11_sheet_106 (fun H locs hS => ?_)
                    refine lv_iload hx hb dX11_sheet_107 (lv_at hl 5 rfl) ?_
                    refine lv_iload hx hb dX11_sheet_109 (lv_at hl 4 rfl) ?_
                    refine lv_iadd hx hb dX11_sheet_111 ?_
                    refine lv_istore (lv' := [(5, .int (x40_0 + p4)), (7, .int (if p1 = 0 then (x40_0.toInt8.toInt32) else (if p1 = (1 : Int32) then (x40_0.toInt16.toInt32) else x40_0))), (0, .ref q0), (1, .int p1), (2, .int p2), (4, .int p4), (6, .int x40_1)]) hx hb dX11_sheet_112 hl (by decide) rfl (fun ls hl => ?_)
                    refine lv_iinc (v := (x40_1 + (1 : Int32))) (lv' := [(6, .int (x40_1 + (1 : Int32))), (5, .int (x40_0 + p4)), (7, .int (if p1 = 0 then (x40_0.toInt8.toInt32) else (if p1 = (1 : Int32) then (x40_0.toInt16.toInt32) else x40_0))), (0, .ref q0), (1, .int p1), (2, .int p2), (4, .int p4)]) hx hb dX11_sheet_114 hl (k := 6) rfl rfl (by decide) rfl (fun ls hl => ?_)
                    refine lv_goto (tgt := 40) hx hb dX11_sheet_117 (by decide) ?_
                    exact ih40 (x40_0 + p4) (x40_1 + (1 : Int32)) (upd x40_2 x40_1.toNatClampNeg (0 : Int32)) y40  H locs ls (hz40a _ (Option.some.inj h).symm) hS (lv_sub hl [3, 4, 5, 6, 1, 0] rfl) hk40_0
              refine lv_if_ne (tgt := 59) hx hb dX11_sheet_50 (by decide) (fun c9 => ?_) (fun c9 => ?_)
              · refine lv_iload_n hx hb dX11_sheet_59 rfl (lv_at hl 1 rfl) ?_
                refine lv_iconst (v := 1) hx hb dX11_sheet_60 (by decide) ?_
                refine lv_icmp_ne (tgt := 70) hx hb dX11_sheet_61 (by decide) (fun c10 => ?_) (fun c10 => ?_)
                · refine lv_iload hx hb dX11_sheet_70 (lv_at hl 4 rfl) ?_
                  exact hJ72 _ ls (((if_neg c9).trans (if_neg c10))).symm (lv_sub hl [0, 1, 2, 3, 4, 5] rfl)
                · refine lv_iload hx hb dX11_sheet_64 (lv_at hl 4 rfl) ?_
                  refine lv_i2s (v := (x40_0.toInt16.toInt32)) hx hb dX11_sheet_66 rfl ?_
                  refine lv_goto (tgt := 72) hx hb dX11_sheet_67 (by decide) ?_
                  exact hJ72 _ ls (((if_neg c9).trans (if_pos c10))).symm (lv_sub hl [0, 1, 2, 3, 4, 5] rfl)
              · refine lv_iload hx hb dX11_sheet_53 (lv_at hl 4 rfl) ?_
                refine lv_i2b (v := (x40_0.toInt8.toInt32)) hx hb dX11_sheet_55 rfl ?_
                refine lv_goto (tgt := 72) hx hb dX11_sheet_56 (by decide) ?_
                exact hJ72 _ ls ((if_pos c9)).symm (lv_sub hl [0, 1, 2, 3, 4, 5] rfl)
        obtain ⟨y40, e40, h⟩ := bd_some h
        refine hL40 1000 p3 (0 : Int32) v_now y40  H locs ls e40 hS (lv_sub hl [2, 3, 4, 6, 1, 0] rfl) (fun y40_0 ey40 H locs ls hS hl => ?_)
        subst ey40
        refine lv_iload_n hx hb dX11_sheet_120 rfl (lv_at hl 1 rfl) ?_
        refine lv_iconst (v := 3) hx hb dX11_sheet_121 (by decide) ?_
        refine lv_icmp_ne (tgt := 130) hx hb dX11_sheet_122 (by decide) (fun c11 => ?_) (fun c11 => ?_)
        · have h := it_neg c11 h
          refine lv_aload_n hx hb dX11_sheet_130 rfl (lv_at hl 0 rfl) ?_
          refine lv_aload_n hx hb dX11_sheet_131 rfl (lv_at hl 0 rfl) ?_
          refine r_get E frX11_9 hS 0 rfl rfl dX11_sheet_132 ?_
          refine lv_iconst (v := 0) hx hb dX11_sheet_135 (by decide) ?_
          obtain ⟨y136, e12, h⟩ := bd_some h
          refine ct_V (ws' := fun _ => [oX11 q0 (.ref q1) (.int v_people) u0_2 u0_3 u0_4 u0_5 (.int (0 : Int32)) u0_7 u0_8 u0_9 u0_10 u0_11 u0_12 u0_13 u0_14 u0_15 u0_16 u0_17 u0_18 u0_19 u0_20 u0_21 u0_22 u0_23 u0_24 u0_25 u0_26 u0_27 u0_28 u0_29 u0_30 u0_31 u0_32 u0_33 u0_34 u0_35 u0_36 u0_37 u0_38 u0_39 u0_40, aI cy q1 37 y40_0]) (st' := [.int y136]) (rest := []) E hS vlX11_232 (c_X11_sumOf (l := l) (D := D) (cy := cy) (q0 := q0) (q1 := q1) (u0_0 := .ref q1) (u0_2 := u0_2) (u0_3 := u0_3) (u0_4 := u0_4) (u0_5 := u0_5) (u0_6 := .int (0 : Int32)) (u0_7 := u0_7) (u0_8 := u0_8) (u0_9 := u0_9) (u0_10 := u0_10) (u0_11 := u0_11) (u0_12 := u0_12) (u0_13 := u0_13) (u0_14 := u0_14) (u0_15 := u0_15) (u0_16 := u0_16) (u0_17 := u0_17) (u0_18 := u0_18) (u0_19 := u0_19) (u0_20 := u0_20) (u0_21 := u0_21) (u0_22 := u0_22) (u0_23 := u0_23) (u0_24 := u0_24) (u0_25 := u0_25) (u0_26 := u0_26) (u0_27 := u0_27) (u0_28 := u0_28) (u0_29 := u0_29) (u0_30 := u0_30) (u0_31 := u0_31) (u0_32 := u0_32) (u0_33 := u0_33) (u0_34 := u0_34) (u0_35 := u0_35) (u0_36 := u0_36) (u0_37 := u0_37) (u0_38 := u0_38) (u0_39 := u0_39) (u0_40 := u0_40) (v_people := v_people) (nw1_ := 37) (w1_ := y40_0) (p2 := (0 : Int32)) (r := y136) e12) [0, 1] rfl rfl (fun _ => rfl) (fun _ => rfl) rfl rfl rfl rfl (Nat.le_of_ble_eq_true rfl) hl.1 (by rw [hRf]; exact Nat.le_of_ble_eq_true rfl) (by rw [hRl]; exact Nat.le_of_ble_eq_true rfl) ⟨Nat.zero_le _, Nat.zero_le _⟩ dX11_sheet_136 rfl (fun H locs _ hS => ?_)
          obtain rfl := Option.some.inj h
          exact rt_i E hQ (.null) hS dX11_sheet_139
        · have h := it_pos c11 h
          refine lv_bipush (v := -3) hx hb dX11_sheet_125 (by decide) ?_
          refine lv_goto (tgt := 139) hx hb dX11_sheet_127 (by decide) ?_
          obtain rfl := Option.some.inj h
          exact rt_i E hQ (.null) hS dX11_sheet_139
      refine lv_icmp_ge (tgt := 34) hx hb dX11_sheet_24 (by decide) (fun c13 => ?_) (fun c13 => ?_)
      · have h := it_pos c13 h
        exact hJ34   H locs ls h hS (lv_sub hl [0, 1, 2, 3, 4] rfl)
      · have h := it_neg c13 h
        refine lv_iload_n hx hb dX11_sheet_27 rfl (lv_at hl 2 rfl) ?_
        refine lv_if_ge (tgt := 34) hx hb dX11_sheet_28 (by decide) (fun c14 => ?_) (fun c14 => ?_)
        · have h := it_pos c14 h
          exact hJ34   H locs ls h hS (lv_sub hl [0, 1, 2, 3, 4] rfl)
        · have h := it_neg c14 h
          refine lv_bipush (v := -2) hx hb dX11_sheet_31 (by decide) ?_
          obtain rfl := Option.some.inj h
          exact rt_i E hQ (.null) hS dX11_sheet_33
    · have h := it_neg c2 h
      refine lv_iconst (v := -1) hx hb dX11_sheet_20 (by decide) ?_
      obtain rfl := Option.some.inj h
      exact rt_i E hQ (.null) hS dX11_sheet_21
set_option maxHeartbeats 4000000 in
set_option maxRecDepth 100000 in
theorem c_X11_lay {l : Launch} {D : va_G} {cy : Nat → ClassId} (q0 : Nat) (q1 : Nat) (nw1_ : Nat) (w1_ : Nat → Int32) (nw2_ : Nat) (w2_ : Nat → Int32) (p2 : Int32) (r : (Nat → Int32)) (h : X11_lay nw1_ w1_ nw2_ w2_ p2 = some r) : Ct l yX11_lay cX11_lay 4 none 0 0 D cy [.ref q0, .ref q1, .int p2] [aI cy q0 nw1_ w1_, aI cy q1 nw2_ w2_] (fun _ => [aI cy q0 nw1_ w1_, aI cy q1 nw2_ r]) (none) := by
  refine Ct.mk kX11_lay (by decide +kernel) (Nat.le_of_ble_eq_true rfl) ?_
  intro p e s m below meth c A ls args R Q hRf hRl hQ E H locs hS hl
  have hx := E.x
  have hb := E.b
  have hl : lv_has ls 4 [(0, .ref q0), (1, .ref q1), (2, .int p2)] := hl
  unfold X11_lay at h
  refine lv_iconst (v := 0) hx hb dX11_lay_0 (by decide) ?_
  refine lv_istore_n (lv' := [(3, .int (0 : Int32)), (0, .ref q0), (1, .ref q1), (2, .int p2)]) hx hb dX11_lay_1 rfl hl (by decide) rfl (fun ls hl => ?_)
  have hL2 : ∀ (n : Nat) (x2_0 : Int32) (x2_1 : Nat → Int32) (y2 : (Nat → Int32)) (H : Heap) (locs : List Loc) (ls : Array Slot), lp (fun x2 => X11_lay_s2 nw1_ w1_ nw2_ p2 x2.1 x2.2) n (x2_0, x2_1) = some y2 → Sv D A s.heap [aI cy q0 nw1_ w1_, aI cy q1 nw2_ x2_1] H locs → lv_has ls 4 [(0, .ref q0), (1, .ref q1), (2, .int p2), (3, .int x2_0)] → ( ∀ (y2_0 : Nat → Int32), y2_0 = y2 → ∀ (H : Heap) (locs : List Loc) (ls : Array Slot), Sv D A s.heap [aI cy q0 nw1_ w1_, aI cy q1 nw2_ y2_0] H locs → lv_has ls 4 [] → W p l e R s m args below meth c H locs 0 0 Q (F0 m 22 ls [])) → W p l e R s m args below meth c H locs 0 0 Q (F0 m 2 ls []) := by
    intro n
    induction n with
    | zero =>
      intro x2_0 x2_1 y2 H locs ls h
      exact lp_zero h
    | succ n ih2 =>
      intro x2_0 x2_1 y2 H locs ls h hS hl hk2_0
      obtain ⟨z2, h, hz2a, hz2b⟩ := lp_succ h
      have h : X11_lay_s2 nw1_ w1_ nw2_ p2 x2_0 x2_1 = some z2 := h
      unfold X11_lay_s2 at h
      refine lv_iload_n hx hb dX11_lay_2 rfl (lv_at hl 3 rfl) ?_
      refine lv_bipush (v := 37) hx hb dX11_lay_3 (by decide) ?_
      refine lv_icmp_ge (tgt := 22) hx hb dX11_lay_5 (by decide) (fun c1 => ?_) (fun c1 => ?_)
      · have h := it_pos c1 h
        exact hk2_0 x2_1 (hz2b _ (Option.some.inj h).symm)  H locs ls hS (lv_sub hl [] rfl)
      · have h := it_neg c1 h
        refine lv_aload_n hx hb dX11_lay_8 rfl (lv_at hl 1 rfl) ?_
        refine lv_iload_n hx hb dX11_lay_9 rfl (lv_at hl 2 rfl) ?_
        refine lv_iload_n hx hb dX11_lay_10 rfl (lv_at hl 3 rfl) ?_
        refine lv_iadd hx hb dX11_lay_11 ?_
        refine lv_aload_n hx hb dX11_lay_12 rfl (lv_at hl 0 rfl) ?_
        refine lv_iload_n hx hb dX11_lay_13 rfl (lv_at hl 3 rfl) ?_
        obtain ⟨g2, h⟩ := gi_some h
        refine r_iald E hS 0 rfl g2 dX11_lay_14 ?_
        obtain ⟨g3, h⟩ := gi_some h
        refine r_iast (ws' := [aI cy q0 nw1_ w1_, aI cy q1 nw2_ (upd x2_1 (p2 + x2_0).toNatClampNeg (w1_ x2_0.toNatClampNeg))]) E hS 1 rfl g3 rfl dX11_lay_15 (fun H locs hS => ?_)
        refine lv_iinc (v := (x2_0 + (1 : Int32))) (lv' := [(3, .int (x2_0 + (1 : Int32))), (0, .ref q0), (1, .ref q1), (2, .int p2)]) hx hb dX11_lay_16 hl (k := 3) rfl rfl (by decide) rfl (fun ls hl => ?_)
        refine lv_goto (tgt := 2) hx hb dX11_lay_19 (by decide) ?_
        exact ih2 (x2_0 + (1 : Int32)) (upd x2_1 (p2 + x2_0).toNatClampNeg (w1_ x2_0.toNatClampNeg)) y2  H locs ls (hz2a _ (Option.some.inj h).symm) hS (lv_sub hl [1, 2, 3, 0] rfl) hk2_0
  obtain ⟨y2, e2, h⟩ := bd_some h
  refine hL2 1000 (0 : Int32) w2_ y2  H locs ls e2 hS (lv_sub hl [1, 2, 3, 0] rfl) (fun y2_0 ey2 H locs ls hS hl => ?_)
  subst ey2
  obtain rfl := Option.some.inj h
  exact rt_v E hQ (.null) hS dX11_lay_22
set_option maxHeartbeats 4000000 in
set_option maxRecDepth 100000 in
theorem c_X11_remember {l : Launch} {D : va_G} {cy : Nat → ClassId} (q0 : Nat) (q1 : Nat) (q2 : Nat) (u0_0 : Value) (u0_1 : Value) (u0_2 : Value) (u0_3 : Value) (u0_4 : Value) (u0_5 : Value) (u0_6 : Value) (u0_7 : Value) (u0_8 : Value) (u0_9 : Value) (u0_10 : Value) (u0_11 : Value) (u0_12 : Value) (u0_13 : Value) (u0_14 : Value) (u0_15 : Value) (u0_16 : Value) (u0_17 : Value) (u0_20 : Value) (u0_21 : Value) (u0_22 : Value) (u0_23 : Value) (u0_24 : Value) (u0_25 : Value) (u0_26 : Value) (u0_27 : Value) (u0_28 : Value) (u0_29 : Value) (u0_30 : Value) (u0_31 : Value) (u0_32 : Value) (u0_33 : Value) (u0_34 : Value) (u0_35 : Value) (u0_36 : Value) (u0_37 : Value) (u0_38 : Value) (u0_39 : Value) (u0_40 : Value) (v_undoMany : Int32) (v_undos : Nat → Int32) (nw1_ : Nat) (w1_ : Nat → Int32) (r : Int32 × (Nat → Int32)) (h : X11_remember v_undoMany v_undos nw1_ w1_ = some r) : Ct l yX11_remember cX11_remember 3 none 1 23 D cy [.ref q0, .ref q2] [oX11 q0 u0_0 u0_1 u0_2 u0_3 u0_4 u0_5 u0_6 u0_7 u0_8 u0_9 u0_10 u0_11 u0_12 u0_13 u0_14 u0_15 u0_16 u0_17 (.ref q1) (.int v_undoMany) u0_20 u0_21 u0_22 u0_23 u0_24 u0_25 u0_26 u0_27 u0_28 u0_29 u0_30 u0_31 u0_32 u0_33 u0_34 u0_35 u0_36 u0_37 u0_38 u0_39 u0_40, aI cy q1 444 v_undos, aI cy q2 nw1_ w1_] (fun _ => [oX11 q0 u0_0 u0_1 u0_2 u0_3 u0_4 u0_5 u0_6 u0_7 u0_8 u0_9 u0_10 u0_11 u0_12 u0_13 u0_14 u0_15 u0_16 u0_17 (.ref q1) (.int r.1) u0_20 u0_21 u0_22 u0_23 u0_24 u0_25 u0_26 u0_27 u0_28 u0_29 u0_30 u0_31 u0_32 u0_33 u0_34 u0_35 u0_36 u0_37 u0_38 u0_39 u0_40, aI cy q1 444 r.2, aI cy q2 nw1_ w1_]) (none) := by
  refine Ct.mk kX11_remember (by decide +kernel) (Nat.le_of_ble_eq_true rfl) ?_
  intro p e s m below meth c A ls args R Q hRf hRl hQ E H locs hS hl
  have hx := E.x
  have hb := E.b
  have hl : lv_has ls 3 [(0, .ref q0), (1, .ref q2)] := hl
  unfold X11_remember at h
  refine lv_aload_n hx hb dX11_remember_0 rfl (lv_at hl 0 rfl) ?_
  refine r_get E frX11_145 hS 0 rfl rfl dX11_remember_1 ?_
  refine lv_bipush (v := 12) hx hb dX11_remember_4 (by decide) ?_
  have hJ49 : ∀ (j49_v_undoMany : Int32) (j49_v_undos : Nat → Int32) (H : Heap) (locs : List Loc) (ls : Array Slot), X11_remember_k49 nw1_ w1_ j49_v_undoMany j49_v_undos = some r → Sv D A s.heap [oX11 q0 u0_0 u0_1 u0_2 u0_3 u0_4 u0_5 u0_6 u0_7 u0_8 u0_9 u0_10 u0_11 u0_12 u0_13 u0_14 u0_15 u0_16 u0_17 (.ref q1) (.int j49_v_undoMany) u0_20 u0_21 u0_22 u0_23 u0_24 u0_25 u0_26 u0_27 u0_28 u0_29 u0_30 u0_31 u0_32 u0_33 u0_34 u0_35 u0_36 u0_37 u0_38 u0_39 u0_40, aI cy q1 444 j49_v_undos, aI cy q2 nw1_ w1_] H locs → lv_has ls 3 [(0, .ref q0), (1, .ref q2)] → W p l e R s m args below meth c H locs 0 0 Q (F0 m 49 ls []) := by
    intro j49_v_undoMany j49_v_undos H locs ls h hS hl
    unfold X11_remember_k49 at h
    refine lv_aload_n hx hb dX11_remember_49 rfl (lv_at hl 1 rfl) ?_
    refine lv_aload_n hx hb dX11_remember_50 rfl (lv_at hl 0 rfl) ?_
    refine r_get E frX11_33 hS 0 rfl rfl dX11_remember_51 ?_
    refine lv_bipush (v := 37) hx hb dX11_remember_54 (by decide) ?_
    refine lv_aload_n hx hb dX11_remember_56 rfl (lv_at hl 0 rfl) ?_
    refine r_get E frX11_145 hS 0 rfl rfl dX11_remember_57 ?_
    refine lv_imul hx hb dX11_remember_60 ?_
    obtain ⟨y61, e1, h⟩ := bd_some h
    refine ct_S (ws' := fun _ => [oX11 q0 u0_0 u0_1 u0_2 u0_3 u0_4 u0_5 u0_6 u0_7 u0_8 u0_9 u0_10 u0_11 u0_12 u0_13 u0_14 u0_15 u0_16 u0_17 (.ref q1) (.int j49_v_undoMany) u0_20 u0_21 u0_22 u0_23 u0_24 u0_25 u0_26 u0_27 u0_28 u0_29 u0_30 u0_31 u0_32 u0_33 u0_34 u0_35 u0_36 u0_37 u0_38 u0_39 u0_40, aI cy q1 444 y61, aI cy q2 nw1_ w1_]) (st' := []) (rest := []) E hS slX11_235 (c_X11_lay (l := l) (D := D) (cy := cy) (q0 := q2) (q1 := q1) (nw1_ := nw1_) (w1_ := w1_) (nw2_ := 444) (w2_ := j49_v_undos) (p2 := ((37 : Int32) * j49_v_undoMany)) (r := y61) e1) [2, 1] rfl rfl (fun _ => rfl) (fun _ => rfl) rfl rfl (Nat.le_of_ble_eq_true rfl) hl.1 (by rw [hRf]; exact Nat.le_of_ble_eq_true rfl) (by rw [hRl]; exact Nat.le_of_ble_eq_true rfl) ⟨Nat.zero_le _, Nat.zero_le _⟩ dX11_remember_61 rfl (fun H locs _ hS => ?_)
    refine lv_aload_n hx hb dX11_remember_64 rfl (lv_at hl 0 rfl) ?_
    refine lv_dup hx hb dX11_remember_65 rfl ?_
    refine r_get E frX11_145 hS 0 rfl rfl dX11_remember_66 ?_
    refine lv_iconst (v := 1) hx hb dX11_remember_69 (by decide) ?_
    refine lv_iadd hx hb dX11_remember_70 ?_
    refine r_put (ws' := [oX11 q0 u0_0 u0_1 u0_2 u0_3 u0_4 u0_5 u0_6 u0_7 u0_8 u0_9 u0_10 u0_11 u0_12 u0_13 u0_14 u0_15 u0_16 u0_17 (.ref q1) (.int (j49_v_undoMany + (1 : Int32))) u0_20 u0_21 u0_22 u0_23 u0_24 u0_25 u0_26 u0_27 u0_28 u0_29 u0_30 u0_31 u0_32 u0_33 u0_34 u0_35 u0_36 u0_37 u0_38 u0_39 u0_40, aI cy q1 444 y61, aI cy q2 nw1_ w1_]) E frX11_145 hS 0 rfl (Nat.le_of_ble_eq_true rfl) rfl rfl rfl rfl dX11_remember_71 (fun H locs hS => ?_)
    obtain rfl := Option.some.inj h
    exact rt_v E hQ (.null) hS dX11_remember_74
  refine lv_icmp_ne (tgt := 49) hx hb dX11_remember_6 (by decide) (fun c2 => ?_) (fun c2 => ?_)
  · have h := it_neg c2 h
    exact hJ49 v_undoMany v_undos  H locs ls h hS (lv_sub hl [0, 1] rfl)
  · have h := it_pos c2 h
    refine lv_iconst (v := 0) hx hb dX11_remember_9 (by decide) ?_
    refine lv_istore_n (lv' := [(2, .int (0 : Int32)), (0, .ref q0), (1, .ref q2)]) hx hb dX11_remember_10 rfl hl (by decide) rfl (fun ls hl => ?_)
    have hL11 : ∀ (n : Nat) (x11_0 : Int32) (x11_1 : Nat → Int32) (y11 : (Nat → Int32)) (H : Heap) (locs : List Loc) (ls : Array Slot), lp (fun x11 => X11_remember_s11 x11.1 x11.2) n (x11_0, x11_1) = some y11 → Sv D A s.heap [oX11 q0 u0_0 u0_1 u0_2 u0_3 u0_4 u0_5 u0_6 u0_7 u0_8 u0_9 u0_10 u0_11 u0_12 u0_13 u0_14 u0_15 u0_16 u0_17 (.ref q1) (.int v_undoMany) u0_20 u0_21 u0_22 u0_23 u0_24 u0_25 u0_26 u0_27 u0_28 u0_29 u0_30 u0_31 u0_32 u0_33 u0_34 u0_35 u0_36 u0_37 u0_38 u0_39 u0_40, aI cy q1 444 x11_1, aI cy q2 nw1_ w1_] H locs → lv_has ls 3 [(0, .ref q0), (1, .ref q2), (2, .int x11_0)] → ( ∀ (y11_0 : Nat → Int32), y11_0 = y11 → ∀ (H : Heap) (locs : List Loc) (ls : Array Slot), Sv D A s.heap [oX11 q0 u0_0 u0_1 u0_2 u0_3 u0_4 u0_5 u0_6 u0_7 u0_8 u0_9 u0_10 u0_11 u0_12 u0_13 u0_14 u0_15 u0_16 u0_17 (.ref q1) (.int v_undoMany) u0_20 u0_21 u0_22 u0_23 u0_24 u0_25 u0_26 u0_27 u0_28 u0_29 u0_30 u0_31 u0_32 u0_33 u0_34 u0_35 u0_36 u0_37 u0_38 u0_39 u0_40, aI cy q1 444 y11_0, aI cy q2 nw1_ w1_] H locs → lv_has ls 3 [(0, .ref q0), (1, .ref q2)] → W p l e R s m args below meth c H locs 0 0 Q (F0 m 39 ls [])) → W p l e R s m args below meth c H locs 0 0 Q (F0 m 11 ls []) := by
      intro n
      induction n with
      | zero =>
        intro x11_0 x11_1 y11 H locs ls h
        exact lp_zero h
      | succ n ih11 =>
        intro x11_0 x11_1 y11 H locs ls h hS hl hk11_0
        obtain ⟨z11, h, hz11a, hz11b⟩ := lp_succ h
        have h : X11_remember_s11 x11_0 x11_1 = some z11 := h
        unfold X11_remember_s11 at h
        refine lv_iload_n hx hb dX11_remember_11 rfl (lv_at hl 2 rfl) ?_
        refine lv_sipush (v := 407) hx hb dX11_remember_12 (by decide) ?_
        refine lv_icmp_ge (tgt := 39) hx hb dX11_remember_15 (by decide) (fun c3 => ?_) (fun c3 => ?_)
        · have h := it_pos c3 h
          exact hk11_0 x11_1 (hz11b _ (Option.some.inj h).symm)  H locs ls hS (lv_sub hl [0, 1] rfl)
        · have h := it_neg c3 h
          refine lv_aload_n hx hb dX11_remember_18 rfl (lv_at hl 0 rfl) ?_
          refine r_get E frX11_33 hS 0 rfl rfl dX11_remember_19 ?_
          refine lv_iload_n hx hb dX11_remember_22 rfl (lv_at hl 2 rfl) ?_
          refine lv_aload_n hx hb dX11_remember_23 rfl (lv_at hl 0 rfl) ?_
          refine r_get E frX11_33 hS 0 rfl rfl dX11_remember_24 ?_
          refine lv_iload_n hx hb dX11_remember_27 rfl (lv_at hl 2 rfl) ?_
          refine lv_bipush (v := 37) hx hb dX11_remember_28 (by decide) ?_
          refine lv_iadd hx hb dX11_remember_30 ?_
          obtain ⟨g4, h⟩ := gi_some h
          refine r_iald E hS 1 rfl g4 dX11_remember_31 ?_
          obtain ⟨g5, h⟩ := gi_some h
          refine r_iast (ws' := [oX11 q0 u0_0 u0_1 u0_2 u0_3 u0_4 u0_5 u0_6 u0_7 u0_8 u0_9 u0_10 u0_11 u0_12 u0_13 u0_14 u0_15 u0_16 u0_17 (.ref q1) (.int v_undoMany) u0_20 u0_21 u0_22 u0_23 u0_24 u0_25 u0_26 u0_27 u0_28 u0_29 u0_30 u0_31 u0_32 u0_33 u0_34 u0_35 u0_36 u0_37 u0_38 u0_39 u0_40, aI cy q1 444 (upd x11_1 x11_0.toNatClampNeg (x11_1 (x11_0 + (37 : Int32)).toNatClampNeg)), aI cy q2 nw1_ w1_]) E hS 1 rfl g5 rfl dX11_remember_32 (fun H locs hS => ?_)
          refine lv_iinc (v := (x11_0 + (1 : Int32))) (lv' := [(2, .int (x11_0 + (1 : Int32))), (0, .ref q0), (1, .ref q2)]) hx hb dX11_remember_33 hl (k := 2) rfl rfl (by decide) rfl (fun ls hl => ?_)
          refine lv_goto (tgt := 11) hx hb dX11_remember_36 (by decide) ?_
          exact ih11 (x11_0 + (1 : Int32)) (upd x11_1 x11_0.toNatClampNeg (x11_1 (x11_0 + (37 : Int32)).toNatClampNeg)) y11  H locs ls (hz11a _ (Option.some.inj h).symm) hS (lv_sub hl [1, 2, 0] rfl) hk11_0
    obtain ⟨y11, e11, h⟩ := bd_some h
    refine hL11 1000 (0 : Int32) v_undos y11  H locs ls e11 hS (lv_sub hl [1, 2, 0] rfl) (fun y11_0 ey11 H locs ls hS hl => ?_)
    subst ey11
    refine lv_aload_n hx hb dX11_remember_39 rfl (lv_at hl 0 rfl) ?_
    refine lv_dup hx hb dX11_remember_40 rfl ?_
    refine r_get E frX11_145 hS 0 rfl rfl dX11_remember_41 ?_
    refine lv_iconst (v := 1) hx hb dX11_remember_44 (by decide) ?_
    refine lv_isub hx hb dX11_remember_45 ?_
    refine r_put (ws' := [oX11 q0 u0_0 u0_1 u0_2 u0_3 u0_4 u0_5 u0_6 u0_7 u0_8 u0_9 u0_10 u0_11 u0_12 u0_13 u0_14 u0_15 u0_16 u0_17 (.ref q1) (.int (v_undoMany - (1 : Int32))) u0_20 u0_21 u0_22 u0_23 u0_24 u0_25 u0_26 u0_27 u0_28 u0_29 u0_30 u0_31 u0_32 u0_33 u0_34 u0_35 u0_36 u0_37 u0_38 u0_39 u0_40, aI cy q1 444 y11_0, aI cy q2 nw1_ w1_]) E frX11_145 hS 0 rfl (Nat.le_of_ble_eq_true rfl) rfl rfl rfl rfl dX11_remember_46 (fun H locs hS => ?_)
    exact hJ49 (v_undoMany - (1 : Int32)) y11_0  H locs ls h hS (lv_sub hl [0, 1] rfl)
set_option maxHeartbeats 4000000 in
set_option maxRecDepth 100000 in
theorem c_X11_goMorning {l : Launch} {D : va_G} {cy : Nat → ClassId} (q0 : Nat) (q1 : Nat) (q2 : Nat) (q3 : Nat) (u0_0 : Value) (u0_2 : Value) (u0_3 : Value) (u0_4 : Value) (u0_5 : Value) (u0_6 : Value) (u0_7 : Value) (u0_12 : Value) (u0_14 : Value) (u0_18 : Value) (u0_19 : Value) (u0_20 : Value) (u0_21 : Value) (u0_22 : Value) (u0_23 : Value) (u0_24 : Value) (u0_25 : Value) (u0_26 : Value) (u0_27 : Value) (u0_28 : Value) (u0_29 : Value) (u0_30 : Value) (u0_31 : Value) (u0_32 : Value) (u0_33 : Value) (u0_34 : Value) (u0_35 : Value) (u0_36 : Value) (u0_37 : Value) (u0_38 : Value) (u0_39 : Value) (u0_40 : Value) (v_people : Int32) (v_length : Int32) (v_top : Int32) (v_at : Int32) (v_wrong : Int32) (v_ruleSize : Int32) (v_isAsked : Int32) (v_rule : Nat → Int32) (v_asked : Nat → Int32) (nw1_ : Nat) (w1_ : Nat → Int32) (r : Int32 × Int32 × Int32 × Int32 × Int32 × Int32 × (Nat → Int32) × (Nat → Int32)) (h : X11_goMorning v_people v_length v_top v_at v_wrong v_ruleSize v_isAsked v_rule v_asked nw1_ w1_ = some r) : Ct l yX11_goMorning cX11_goMorning 4 (some .int) 109 2603 D cy [.ref q0, .ref q3] [oX11 q0 u0_0 (.int v_people) u0_2 u0_3 u0_4 u0_5 u0_6 u0_7 (.int v_length) (.int v_top) (.int v_at) (.int v_wrong) u0_12 (.ref q1) u0_14 (.int v_ruleSize) (.int v_isAsked) (.ref q2) u0_18 u0_19 u0_20 u0_21 u0_22 u0_23 u0_24 u0_25 u0_26 u0_27 u0_28 u0_29 u0_30 u0_31 u0_32 u0_33 u0_34 u0_35 u0_36 u0_37 u0_38 u0_39 u0_40, aB cy q1 40 v_rule, aI cy q2 7 v_asked, aI cy q3 nw1_ w1_] (fun rv => [oX11 q0 u0_0 (.int v_people) u0_2 u0_3 u0_4 u0_5 u0_6 rv (.int r.2.1) (.int r.2.2.1) (.int r.2.2.2.1) (.int r.2.2.2.2.1) u0_12 (.ref q1) u0_14 (.int v_ruleSize) (.int r.2.2.2.2.2.1) (.ref q2) u0_18 u0_19 u0_20 u0_21 u0_22 u0_23 u0_24 u0_25 u0_26 u0_27 u0_28 u0_29 u0_30 u0_31 u0_32 u0_33 u0_34 u0_35 u0_36 u0_37 u0_38 u0_39 u0_40, aB cy q1 40 v_rule, aI cy q2 7 r.2.2.2.2.2.2.1, aI cy q3 nw1_ r.2.2.2.2.2.2.2]) (some (.int r.1)) := by
  refine Ct.mk kX11_goMorning (by decide +kernel) (Nat.le_of_ble_eq_true rfl) ?_
  intro p e s m below meth c A ls args R Q hRf hRl hQ E H locs hS hl
  have hx := E.x
  have hb := E.b
  have hl : lv_has ls 4 [(0, .ref q0), (1, .ref q3)] := hl
  unfold X11_goMorning at h
  refine lv_aload_n hx hb dX11_goMorning_0 rfl (lv_at hl 0 rfl) ?_
  refine lv_aload_n hx hb dX11_goMorning_1 rfl (lv_at hl 1 rfl) ?_
  obtain ⟨y2, e1, h⟩ := bd_some h
  refine ct_V (ws' := fun rc2 => [oX11 q0 u0_0 (.int v_people) u0_2 u0_3 u0_4 u0_5 u0_6 rc2 (.int y2.2.1) (.int y2.2.2.1) (.int y2.2.2.2.1) (.int y2.2.2.2.2.1) u0_12 (.ref q1) u0_14 (.int v_ruleSize) (.int y2.2.2.2.2.2.1) (.ref q2) u0_18 u0_19 u0_20 u0_21 u0_22 u0_23 u0_24 u0_25 u0_26 u0_27 u0_28 u0_29 u0_30 u0_31 u0_32 u0_33 u0_34 u0_35 u0_36 u0_37 u0_38 u0_39 u0_40, aB cy q1 40 v_rule, aI cy q2 7 y2.2.2.2.2.2.2, aI cy q3 nw1_ w1_]) (st' := [.int y2.1]) (rest := []) E hS vlX11_239 (c_X11_awake (l := l) (D := D) (cy := cy) (q0 := q0) (q1 := q1) (q2 := q2) (q3 := q3) (u0_0 := u0_0) (u0_2 := u0_2) (u0_3 := u0_3) (u0_4 := u0_4) (u0_5 := u0_5) (u0_6 := u0_6) (u0_7 := u0_7) (u0_12 := u0_12) (u0_14 := u0_14) (u0_18 := u0_18) (u0_19 := u0_19) (u0_20 := u0_20) (u0_21 := u0_21) (u0_22 := u0_22) (u0_23 := u0_23) (u0_24 := u0_24) (u0_25 := u0_25) (u0_26 := u0_26) (u0_27 := u0_27) (u0_28 := u0_28) (u0_29 := u0_29) (u0_30 := u0_30) (u0_31 := u0_31) (u0_32 := u0_32) (u0_33 := u0_33) (u0_34 := u0_34) (u0_35 := u0_35) (u0_36 := u0_36) (u0_37 := u0_37) (u0_38 := u0_38) (u0_39 := u0_39) (u0_40 := u0_40) (v_people := v_people) (v_length := v_length) (v_top := v_top) (v_at := v_at) (v_wrong := v_wrong) (v_ruleSize := v_ruleSize) (v_isAsked := v_isAsked) (v_rule := v_rule) (v_asked := v_asked) (nw1_ := nw1_) (w1_ := w1_) (r := y2) e1) [0, 1, 2, 3] rfl rfl (fun _ => rfl) (fun _ => rfl) rfl rfl rfl rfl (Nat.le_of_ble_eq_true rfl) hl.1 (by rw [hRf]; exact Nat.le_of_ble_eq_true rfl) (by rw [hRl]; exact Nat.le_of_ble_eq_true rfl) ⟨Nat.zero_le _, Nat.zero_le _⟩ dX11_goMorning_2 rfl (fun H locs rc2 hS => ?_)
  refine lv_istore_n (lv' := [(2, .int y2.1), (0, .ref q0), (1, .ref q3)]) hx hb dX11_goMorning_5 rfl hl (by decide) rfl (fun ls hl => ?_)
  refine lv_aload_n hx hb dX11_goMorning_6 rfl (lv_at hl 2 rfl) ?_
  refine lv_bipush (v := 36) hx hb dX11_goMorning_7 (by decide) ?_
  refine lv_sipush (v := 9999) hx hb dX11_goMorning_9 (by decide) ?_
  refine lv_aload_n hx hb dX11_goMorning_12 rfl (lv_at hl 2 rfl) ?_
  refine lv_bipush (v := 36) hx hb dX11_goMorning_13 (by decide) ?_
  obtain ⟨g3, h⟩ := gi_some h
  refine r_iald E hS 3 rfl g3 dX11_goMorning_15 ?_
  refine lv_aload_n hx hb dX11_goMorning_16 rfl (lv_at hl 1 rfl) ?_
  refine lv_aload_n hx hb dX11_goMorning_17 rfl (lv_at hl 2 rfl) ?_
  refine lv_iload_n hx hb dX11_goMorning_18 rfl (lv_at hl 0 rfl) ?_
  obtain ⟨y19, e4, h⟩ := bd_some h
  refine ct_V (ws' := fun _ => [oX11 q0 u0_0 (.int v_people) u0_2 u0_3 u0_4 u0_5 u0_6 rc2 (.int y2.2.1) (.int y2.2.2.1) (.int y2.2.2.2.1) (.int y2.2.2.2.2.1) u0_12 (.ref q1) u0_14 (.int v_ruleSize) (.int y2.2.2.2.2.2.1) (.ref q2) u0_18 u0_19 u0_20 u0_21 u0_22 u0_23 u0_24 u0_25 u0_26 u0_27 u0_28 u0_29 u0_30 u0_31 u0_32 u0_33 u0_34 u0_35 u0_36 u0_37 u0_38 u0_39 u0_40, aB cy q1 40 v_rule, aI cy q2 7 y2.2.2.2.2.2.2, aI cy q3 nw1_ w1_]) (st' := [.int y19, .int (w1_ (36 : Int32).toNatClampNeg), .int (9999 : Int32), .int (36 : Int32), .ref q3]) (rest := [.int (w1_ (36 : Int32).toNatClampNeg), .int (9999 : Int32), .int (36 : Int32), .ref q3]) E hS vlX11_243 (c_X11_unmet (l := l) (D := D) (cy := cy) (q0 := q0) (q1 := q3) (u0_0 := u0_0) (u0_2 := u0_2) (u0_3 := u0_3) (u0_4 := u0_4) (u0_5 := u0_5) (u0_6 := u0_6) (u0_7 := rc2) (u0_8 := .int y2.2.1) (u0_9 := .int y2.2.2.1) (u0_10 := .int y2.2.2.2.1) (u0_11 := .int y2.2.2.2.2.1) (u0_12 := u0_12) (u0_13 := .ref q1) (u0_14 := u0_14) (u0_15 := .int v_ruleSize) (u0_16 := .int y2.2.2.2.2.2.1) (u0_17 := .ref q2) (u0_18 := u0_18) (u0_19 := u0_19) (u0_20 := u0_20) (u0_21 := u0_21) (u0_22 := u0_22) (u0_23 := u0_23) (u0_24 := u0_24) (u0_25 := u0_25) (u0_26 := u0_26) (u0_27 := u0_27) (u0_28 := u0_28) (u0_29 := u0_29) (u0_30 := u0_30) (u0_31 := u0_31) (u0_32 := u0_32) (u0_33 := u0_33) (u0_34 := u0_34) (u0_35 := u0_35) (u0_36 := u0_36) (u0_37 := u0_37) (u0_38 := u0_38) (u0_39 := u0_39) (u0_40 := u0_40) (v_people := v_people) (nw1_ := nw1_) (w1_ := w1_) (p2 := y2.1) (r := y19) e4) [0, 3] rfl rfl (fun _ => rfl) (fun _ => rfl) rfl rfl rfl rfl (Nat.le_of_ble_eq_true rfl) hl.1 (by rw [hRf]; exact Nat.le_of_ble_eq_true rfl) (by rw [hRl]; exact Nat.le_of_ble_eq_true rfl) ⟨Nat.zero_le _, Nat.zero_le _⟩ dX11_goMorning_19 rfl (fun H locs _ hS => ?_)
  refine lv_iadd hx hb dX11_goMorning_22 ?_
  refine ct_S (ws' := fun _ => [oX11 q0 u0_0 (.int v_people) u0_2 u0_3 u0_4 u0_5 u0_6 rc2 (.int y2.2.1) (.int y2.2.2.1) (.int y2.2.2.2.1) (.int y2.2.2.2.2.1) u0_12 (.ref q1) u0_14 (.int v_ruleSize) (.int y2.2.2.2.2.2.1) (.ref q2) u0_18 u0_19 u0_20 u0_21 u0_22 u0_23 u0_24 u0_25 u0_26 u0_27 u0_28 u0_29 u0_30 u0_31 u0_32 u0_33 u0_34 u0_35 u0_36 u0_37 u0_38 u0_39 u0_40, aB cy q1 40 v_rule, aI cy q2 7 y2.2.2.2.2.2.2, aI cy q3 nw1_ w1_]) (st' := [.int (J9_min_7cf53 (9999 : Int32) ((w1_ (36 : Int32).toNatClampNeg) + y19)), .int (36 : Int32), .ref q3]) (rest := [.int (36 : Int32), .ref q3]) E hS slX11_223 (c_J9_min_7cf53 (l := l) (D := D) (cy := cy) (p0 := (9999 : Int32)) (p1 := ((w1_ (36 : Int32).toNatClampNeg) + y19)) (r := (J9_min_7cf53 (9999 : Int32) ((w1_ (36 : Int32).toNatClampNeg) + y19))) rfl) [] rfl rfl (fun _ => rfl) (fun _ => rfl) rfl rfl (Nat.le_of_ble_eq_true rfl) hl.1 (by rw [hRf]; exact Nat.le_of_ble_eq_true rfl) (by rw [hRl]; exact Nat.le_of_ble_eq_true rfl) ⟨Nat.zero_le _, Nat.zero_le _⟩ dX11_goMorning_23 rfl (fun H locs _ hS => ?_)
  obtain ⟨g5, h⟩ := gi_some h
  refine r_iast (ws' := [oX11 q0 u0_0 (.int v_people) u0_2 u0_3 u0_4 u0_5 u0_6 rc2 (.int y2.2.1) (.int y2.2.2.1) (.int y2.2.2.2.1) (.int y2.2.2.2.2.1) u0_12 (.ref q1) u0_14 (.int v_ruleSize) (.int y2.2.2.2.2.2.1) (.ref q2) u0_18 u0_19 u0_20 u0_21 u0_22 u0_23 u0_24 u0_25 u0_26 u0_27 u0_28 u0_29 u0_30 u0_31 u0_32 u0_33 u0_34 u0_35 u0_36 u0_37 u0_38 u0_39 u0_40, aB cy q1 40 v_rule, aI cy q2 7 y2.2.2.2.2.2.2, aI cy q3 nw1_ (upd w1_ (36 : Int32).toNatClampNeg (J9_min_7cf53 (9999 : Int32) ((w1_ (36 : Int32).toNatClampNeg) + y19)))]) E hS 3 rfl g5 rfl dX11_goMorning_26 (fun H locs hS => ?_)
  refine lv_iconst (v := 0) hx hb dX11_goMorning_27 (by decide) ?_
  refine lv_istore_n (lv' := [(3, .int (0 : Int32)), (2, .int y2.1), (0, .ref q0), (1, .ref q3)]) hx hb dX11_goMorning_28 rfl hl (by decide) rfl (fun ls hl => ?_)
  have hL29 : ∀ (n : Nat) (x29_0 : Int32) (x29_1 : Nat → Int32) (y29 : (Nat → Int32)) (H : Heap) (locs : List Loc) (ls : Array Slot), lp (fun x29 => X11_goMorning_s29 v_people nw1_ y2 x29.1 x29.2) n (x29_0, x29_1) = some y29 → Sv D A s.heap [oX11 q0 u0_0 (.int v_people) u0_2 u0_3 u0_4 u0_5 u0_6 rc2 (.int y2.2.1) (.int y2.2.2.1) (.int y2.2.2.2.1) (.int y2.2.2.2.2.1) u0_12 (.ref q1) u0_14 (.int v_ruleSize) (.int y2.2.2.2.2.2.1) (.ref q2) u0_18 u0_19 u0_20 u0_21 u0_22 u0_23 u0_24 u0_25 u0_26 u0_27 u0_28 u0_29 u0_30 u0_31 u0_32 u0_33 u0_34 u0_35 u0_36 u0_37 u0_38 u0_39 u0_40, aB cy q1 40 v_rule, aI cy q2 7 y2.2.2.2.2.2.2, aI cy q3 nw1_ x29_1] H locs → lv_has ls 4 [(0, .ref q0), (1, .ref q3), (2, .int y2.1), (3, .int x29_0)] → ( ∀ (y29_0 : Nat → Int32), y29_0 = y29 → ∀ (H : Heap) (locs : List Loc) (ls : Array Slot), Sv D A s.heap [oX11 q0 u0_0 (.int v_people) u0_2 u0_3 u0_4 u0_5 u0_6 rc2 (.int y2.2.1) (.int y2.2.2.1) (.int y2.2.2.2.1) (.int y2.2.2.2.2.1) u0_12 (.ref q1) u0_14 (.int v_ruleSize) (.int y2.2.2.2.2.2.1) (.ref q2) u0_18 u0_19 u0_20 u0_21 u0_22 u0_23 u0_24 u0_25 u0_26 u0_27 u0_28 u0_29 u0_30 u0_31 u0_32 u0_33 u0_34 u0_35 u0_36 u0_37 u0_38 u0_39 u0_40, aB cy q1 40 v_rule, aI cy q2 7 y2.2.2.2.2.2.2, aI cy q3 nw1_ y29_0] H locs → lv_has ls 4 [(1, .ref q3), (2, .int y2.1)] → W p l e R s m args below meth c H locs 0 0 Q (F0 m 120 ls [])) → W p l e R s m args below meth c H locs 0 0 Q (F0 m 29 ls []) := by
    intro n
    induction n with
    | zero =>
      intro x29_0 x29_1 y29 H locs ls h
      exact lp_zero h
    | succ n ih29 =>
      intro x29_0 x29_1 y29 H locs ls h hS hl hk29_0
      obtain ⟨z29, h, hz29a, hz29b⟩ := lp_succ h
      have h : X11_goMorning_s29 v_people nw1_ y2 x29_0 x29_1 = some z29 := h
      unfold X11_goMorning_s29 at h
      refine lv_iload_n hx hb dX11_goMorning_29 rfl (lv_at hl 3 rfl) ?_
      refine lv_aload_n hx hb dX11_goMorning_30 rfl (lv_at hl 0 rfl) ?_
      refine r_get E frX11_92 hS 0 rfl rfl dX11_goMorning_31 ?_
      refine lv_icmp_ge (tgt := 120) hx hb dX11_goMorning_34 (by decide) (fun c6 => ?_) (fun c6 => ?_)
      · have h := it_pos c6 h
        exact hk29_0 x29_1 (hz29b _ (Option.some.inj h).symm)  H locs ls hS (lv_sub hl [1, 2] rfl)
      · have h := it_neg c6 h
        refine lv_iload_n hx hb dX11_goMorning_37 rfl (lv_at hl 2 rfl) ?_
        refine lv_iload_n hx hb dX11_goMorning_38 rfl (lv_at hl 3 rfl) ?_
        refine ct_S (ws' := fun _ => [oX11 q0 u0_0 (.int v_people) u0_2 u0_3 u0_4 u0_5 u0_6 rc2 (.int y2.2.1) (.int y2.2.2.1) (.int y2.2.2.2.1) (.int y2.2.2.2.2.1) u0_12 (.ref q1) u0_14 (.int v_ruleSize) (.int y2.2.2.2.2.2.1) (.ref q2) u0_18 u0_19 u0_20 u0_21 u0_22 u0_23 u0_24 u0_25 u0_26 u0_27 u0_28 u0_29 u0_30 u0_31 u0_32 u0_33 u0_34 u0_35 u0_36 u0_37 u0_38 u0_39 u0_40, aB cy q1 40 v_rule, aI cy q2 7 y2.2.2.2.2.2.2, aI cy q3 nw1_ x29_1]) (st' := [.int (X11_has y2.1 x29_0)]) (rest := []) E hS slX11_196 (c_X11_has (l := l) (D := D) (cy := cy) (p0 := y2.1) (p1 := x29_0) (r := (X11_has y2.1 x29_0)) rfl) [] rfl rfl (fun _ => rfl) (fun _ => rfl) rfl rfl (Nat.le_of_ble_eq_true rfl) hl.1 (by rw [hRf]; exact Nat.le_of_ble_eq_true rfl) (by rw [hRl]; exact Nat.le_of_ble_eq_true rfl) ⟨Nat.zero_le _, Nat.zero_le _⟩ dX11_goMorning_39 rfl (fun H locs _ hS => ?_)
        have hJ65 : ∀ (j65_w1_ : Nat → Int32) (H : Heap) (locs : List Loc) (ls : Array Slot), X11_goMorning_k65 nw1_ y2 x29_0 j65_w1_ = some z29 → Sv D A s.heap [oX11 q0 u0_0 (.int v_people) u0_2 u0_3 u0_4 u0_5 u0_6 rc2 (.int y2.2.1) (.int y2.2.2.1) (.int y2.2.2.2.1) (.int y2.2.2.2.2.1) u0_12 (.ref q1) u0_14 (.int v_ruleSize) (.int y2.2.2.2.2.2.1) (.ref q2) u0_18 u0_19 u0_20 u0_21 u0_22 u0_23 u0_24 u0_25 u0_26 u0_27 u0_28 u0_29 u0_30 u0_31 u0_32 u0_33 u0_34 u0_35 u0_36 u0_37 u0_38 u0_39 u0_40, aB cy q1 40 v_rule, aI cy q2 7 y2.2.2.2.2.2.2, aI cy q3 nw1_ j65_w1_] H locs → lv_has ls 4 [(0, .ref q0), (1, .ref q3), (2, .int y2.1), (3, .int x29_0)] → W p l e R s m args below meth c H locs 0 0 Q (F0 m 65 ls []) := by
          intro j65_w1_ H locs ls h hS hl
          unfold X11_goMorning_k65 at h
          refine lv_aload_n hx hb dX11_goMorning_65 rfl (lv_at hl 1 rfl) ?_
          refine lv_bipush (v := 14) hx hb dX11_goMorning_66 (by decide) ?_
          refine lv_iload_n hx hb dX11_goMorning_68 rfl (lv_at hl 3 rfl) ?_
          refine lv_iadd hx hb dX11_goMorning_69 ?_
          refine lv_iload_n hx hb dX11_goMorning_70 rfl (lv_at hl 2 rfl) ?_
          refine lv_iload_n hx hb dX11_goMorning_71 rfl (lv_at hl 3 rfl) ?_
          refine ct_S (ws' := fun _ => [oX11 q0 u0_0 (.int v_people) u0_2 u0_3 u0_4 u0_5 u0_6 rc2 (.int y2.2.1) (.int y2.2.2.1) (.int y2.2.2.2.1) (.int y2.2.2.2.2.1) u0_12 (.ref q1) u0_14 (.int v_ruleSize) (.int y2.2.2.2.2.2.1) (.ref q2) u0_18 u0_19 u0_20 u0_21 u0_22 u0_23 u0_24 u0_25 u0_26 u0_27 u0_28 u0_29 u0_30 u0_31 u0_32 u0_33 u0_34 u0_35 u0_36 u0_37 u0_38 u0_39 u0_40, aB cy q1 40 v_rule, aI cy q2 7 y2.2.2.2.2.2.2, aI cy q3 nw1_ j65_w1_]) (st' := [.int (X11_has y2.1 x29_0), .int ((14 : Int32) + x29_0), .ref q3]) (rest := [.int ((14 : Int32) + x29_0), .ref q3]) E hS slX11_196 (c_X11_has (l := l) (D := D) (cy := cy) (p0 := y2.1) (p1 := x29_0) (r := (X11_has y2.1 x29_0)) rfl) [] rfl rfl (fun _ => rfl) (fun _ => rfl) rfl rfl (Nat.le_of_ble_eq_true rfl) hl.1 (by rw [hRf]; exact Nat.le_of_ble_eq_true rfl) (by rw [hRl]; exact Nat.le_of_ble_eq_true rfl) ⟨Nat.zero_le _, Nat.zero_le _⟩ dX11_goMorning_72 rfl (fun H locs _ hS => ?_)
          have hJ95 : ∀ (j95_t2 : Int32) (H : Heap) (locs : List Loc) (ls : Array Slot), X11_goMorning_k95 nw1_ x29_0 j65_w1_ j95_t2 = some z29 → Sv D A s.heap [oX11 q0 u0_0 (.int v_people) u0_2 u0_3 u0_4 u0_5 u0_6 rc2 (.int y2.2.1) (.int y2.2.2.1) (.int y2.2.2.2.1) (.int y2.2.2.2.2.1) u0_12 (.ref q1) u0_14 (.int v_ruleSize) (.int y2.2.2.2.2.2.1) (.ref q2) u0_18 u0_19 u0_20 u0_21 u0_22 u0_23 u0_24 u0_25 u0_26 u0_27 u0_28 u0_29 u0_30 u0_31 u0_32 u0_33 u0_34 u0_35 u0_36 u0_37 u0_38 u0_39 u0_40, aB cy q1 40 v_rule, aI cy q2 7 y2.2.2.2.2.2.2, aI cy q3 nw1_ j65_w1_] H locs → lv_has ls 4 [(0, .ref q0), (1, .ref q3), (2, .int y2.1), (3, .int x29_0)] → W p l e R s m args below meth c H locs 0 0 Q (F0 m 95 ls [.int j95_t2, .int ((14 : Int32) + x29_0), .ref q3]) := by
            intro j95_t2 H locs ls h hS hl
            unfold X11_goMorning_k95 at h
            obtain ⟨g7, h⟩ := gi_some h
            refine r_iast (ws' := [oX11 q0 u0_0 (.int v_people) u0_2 u0_3 u0_4 u0_5 u0_6 rc2 (.int y2.2.1) (.int y2.2.2.1) (.int y2.2.2.2.1) (.int y2.2.2.2.2.1) u0_12 (.ref q1) u0_14 (.int v_ruleSize) (.int y2.2.2.2.2.2.1) (.ref q2) u0_18 u0_19 u0_20 u0_21 u0_22 u0_23 u0_24 u0_25 u0_26 u0_27 u0_28 u0_29 u0_30 u0_31 u0_32 u0_33 u0_34 u0_35 u0_36 u0_37 u0_38 u0_39 u0_40, aB cy q1 40 v_rule, aI cy q2 7 y2.2.2.2.2.2.2, aI cy q3 nw1_ (upd j65_w1_ ((14 : Int32) + x29_0).toNatClampNeg j95_t2)]) E hS 3 rfl g7 rfl dX11_goMorning_95 (fun H locs hS => ?_)
            refine lv_aload_n hx hb dX11_goMorning_96 rfl (lv_at hl 1 rfl) ?_
            refine lv_bipush (v := 7) hx hb dX11_goMorning_97 (by decide) ?_
            refine lv_iload_n hx hb dX11_goMorning_99 rfl (lv_at hl 3 rfl) ?_
            refine lv_iadd hx hb dX11_goMorning_100 ?_
            refine lv_iconst (v := 0) hx hb dX11_goMorning_101 (by decide) ?_
            refine lv_aload_n hx hb dX11_goMorning_102 rfl (lv_at hl 1 rfl) ?_
            refine lv_bipush (v := 7) hx hb dX11_goMorning_103 (by decide) ?_
            refine lv_iload_n hx hb dX11_goMorning_105 rfl (lv_at hl 3 rfl) ?_
            refine lv_iadd hx hb dX11_goMorning_106 ?_
            obtain ⟨g8, h⟩ := gi_some h
            refine r_iald E hS 3 rfl g8 dX11_goMorning_107 ?_
            refine lv_iconst (v := 1) hx hb dX11_goMorning_108 (by decide) ?_
            refine lv_isub hx hb dX11_goMorning_109 ?_
            refine ct_S (ws' := fun _ => [oX11 q0 u0_0 (.int v_people) u0_2 u0_3 u0_4 u0_5 u0_6 rc2 (.int y2.2.1) (.int y2.2.2.1) (.int y2.2.2.2.1) (.int y2.2.2.2.2.1) u0_12 (.ref q1) u0_14 (.int v_ruleSize) (.int y2.2.2.2.2.2.1) (.ref q2) u0_18 u0_19 u0_20 u0_21 u0_22 u0_23 u0_24 u0_25 u0_26 u0_27 u0_28 u0_29 u0_30 u0_31 u0_32 u0_33 u0_34 u0_35 u0_36 u0_37 u0_38 u0_39 u0_40, aB cy q1 40 v_rule, aI cy q2 7 y2.2.2.2.2.2.2, aI cy q3 nw1_ (upd j65_w1_ ((14 : Int32) + x29_0).toNatClampNeg j95_t2)]) (st' := [.int (J9_max_7cf53 (0 : Int32) (((upd j65_w1_ ((14 : Int32) + x29_0).toNatClampNeg j95_t2) ((7 : Int32) + x29_0).toNatClampNeg) - (1 : Int32))), .int ((7 : Int32) + x29_0), .ref q3]) (rest := [.int ((7 : Int32) + x29_0), .ref q3]) E hS slX11_229 (c_J9_max_7cf53 (l := l) (D := D) (cy := cy) (p0 := (0 : Int32)) (p1 := (((upd j65_w1_ ((14 : Int32) + x29_0).toNatClampNeg j95_t2) ((7 : Int32) + x29_0).toNatClampNeg) - (1 : Int32))) (r := (J9_max_7cf53 (0 : Int32) (((upd j65_w1_ ((14 : Int32) + x29_0).toNatClampNeg j95_t2) ((7 : Int32) + x29_0).toNatClampNeg) - (1 : Int32)))) rfl) [] rfl rfl (fun _ => rfl) (fun _ => rfl) rfl rfl (Nat.le_of_ble_eq_true rfl) hl.1 (by rw [hRf]; exact Nat.le_of_ble_eq_true rfl) (by rw [hRl]; exact Nat.le_of_ble_eq_true rfl) ⟨Nat.zero_le _, Nat.zero_le _⟩ dX11_goMorning_110 rfl (fun H locs _ hS => ?_)
            obtain ⟨g9, h⟩ := gi_some h
            refine r_iast (ws' := [oX11 q0 u0_0 (.int v_people) u0_2 u0_3 u0_4 u0_5 u0_6 rc2 (.int y2.2.1) (.int y2.2.2.1) (.int y2.2.2.2.1) (.int y2.2.2.2.2.1) u0_12 (.ref q1) u0_14 (.int v_ruleSize) (.int y2.2.2.2.2.2.1) (.ref q2) u0_18 u0_19 u0_20 u0_21 u0_22 u0_23 u0_24 u0_25 u0_26 u0_27 u0_28 u0_29 u0_30 u0_31 u0_32 u0_33 u0_34 u0_35 u0_36 u0_37 u0_38 u0_39 u0_40, aB cy q1 40 v_rule, aI cy q2 7 y2.2.2.2.2.2.2, aI cy q3 nw1_ (upd (upd j65_w1_ ((14 : Int32) + x29_0).toNatClampNeg j95_t2) ((7 : Int32) + x29_0).toNatClampNeg (J9_max_7cf53 (0 : Int32) (((upd j65_w1_ ((14 : Int32) + x29_0).toNatClampNeg j95_t2) ((7 : Int32) + x29_0).toNatClampNeg) - (1 : Int32))))]) E hS 3 rfl g9 rfl dX11_goMorning_113 (fun H locs hS => ?_)
            refine lv_iinc (v := (x29_0 + (1 : Int32))) (lv' := [(3, .int (x29_0 + (1 : Int32))), (0, .ref q0), (1, .ref q3), (2, .int y2.1)]) hx hb dX11_goMorning_114 hl (k := 3) rfl rfl (by decide) rfl (fun ls hl => ?_)
            refine lv_goto (tgt := 29) hx hb dX11_goMorning_117 (by decide) ?_
            exact ih29 (x29_0 + (1 : Int32)) (upd (upd j65_w1_ ((14 : Int32) + x29_0).toNatClampNeg j95_t2) ((7 : Int32) + x29_0).toNatClampNeg (J9_max_7cf53 (0 : Int32) (((upd j65_w1_ ((14 : Int32) + x29_0).toNatClampNeg j95_t2) ((7 : Int32) + x29_0).toNatClampNeg) - (1 : Int32)))) y29  H locs ls (hz29a _ (Option.some.inj h).symm) hS (lv_sub hl [1, 2, 3, 0] rfl) hk29_0
          refine lv_if_eq (tgt := 82) hx hb dX11_goMorning_75 (by decide) (fun c10 => ?_) (fun c10 => ?_)
          · have h := it_pos c10 h
            refine lv_bipush (v := 99) hx hb dX11_goMorning_82 (by decide) ?_
            refine lv_aload_n hx hb dX11_goMorning_84 rfl (lv_at hl 1 rfl) ?_
            refine lv_bipush (v := 14) hx hb dX11_goMorning_85 (by decide) ?_
            refine lv_iload_n hx hb dX11_goMorning_87 rfl (lv_at hl 3 rfl) ?_
            refine lv_iadd hx hb dX11_goMorning_88 ?_
            obtain ⟨g11, h⟩ := gi_some h
            refine r_iald E hS 3 rfl g11 dX11_goMorning_89 ?_
            refine lv_iconst (v := 1) hx hb dX11_goMorning_90 (by decide) ?_
            refine lv_iadd hx hb dX11_goMorning_91 ?_
            refine ct_S (ws' := fun _ => [oX11 q0 u0_0 (.int v_people) u0_2 u0_3 u0_4 u0_5 u0_6 rc2 (.int y2.2.1) (.int y2.2.2.1) (.int y2.2.2.2.1) (.int y2.2.2.2.2.1) u0_12 (.ref q1) u0_14 (.int v_ruleSize) (.int y2.2.2.2.2.2.1) (.ref q2) u0_18 u0_19 u0_20 u0_21 u0_22 u0_23 u0_24 u0_25 u0_26 u0_27 u0_28 u0_29 u0_30 u0_31 u0_32 u0_33 u0_34 u0_35 u0_36 u0_37 u0_38 u0_39 u0_40, aB cy q1 40 v_rule, aI cy q2 7 y2.2.2.2.2.2.2, aI cy q3 nw1_ j65_w1_]) (st' := [.int (J9_min_7cf53 (99 : Int32) ((j65_w1_ ((14 : Int32) + x29_0).toNatClampNeg) + (1 : Int32))), .int ((14 : Int32) + x29_0), .ref q3]) (rest := [.int ((14 : Int32) + x29_0), .ref q3]) E hS slX11_223 (c_J9_min_7cf53 (l := l) (D := D) (cy := cy) (p0 := (99 : Int32)) (p1 := ((j65_w1_ ((14 : Int32) + x29_0).toNatClampNeg) + (1 : Int32))) (r := (J9_min_7cf53 (99 : Int32) ((j65_w1_ ((14 : Int32) + x29_0).toNatClampNeg) + (1 : Int32)))) rfl) [] rfl rfl (fun _ => rfl) (fun _ => rfl) rfl rfl (Nat.le_of_ble_eq_true rfl) hl.1 (by rw [hRf]; exact Nat.le_of_ble_eq_true rfl) (by rw [hRl]; exact Nat.le_of_ble_eq_true rfl) ⟨Nat.zero_le _, Nat.zero_le _⟩ dX11_goMorning_92 rfl (fun H locs _ hS => ?_)
            exact hJ95 (J9_min_7cf53 (99 : Int32) ((j65_w1_ ((14 : Int32) + x29_0).toNatClampNeg) + (1 : Int32)))  H locs ls h hS (lv_sub hl [0, 1, 2, 3] rfl)
          · have h := it_neg c10 h
            refine lv_iconst (v := 0) hx hb dX11_goMorning_78 (by decide) ?_
            refine lv_goto (tgt := 95) hx hb dX11_goMorning_79 (by decide) ?_
            exact hJ95 (0 : Int32)  H locs ls h hS (lv_sub hl [0, 1, 2, 3] rfl)
        refine lv_if_eq (tgt := 65) hx hb dX11_goMorning_42 (by decide) (fun c12 => ?_) (fun c12 => ?_)
        · have h := it_pos c12 h
          exact hJ65 x29_1  H locs ls h hS (lv_sub hl [0, 1, 2, 3] rfl)
        · have h := it_neg c12 h
          refine lv_aload_n hx hb dX11_goMorning_45 rfl (lv_at hl 1 rfl) ?_
          refine lv_bipush (v := 21) hx hb dX11_goMorning_46 (by decide) ?_
          refine lv_iload_n hx hb dX11_goMorning_48 rfl (lv_at hl 3 rfl) ?_
          refine lv_iadd hx hb dX11_goMorning_49 ?_
          refine lv_sipush (v := 999) hx hb dX11_goMorning_50 (by decide) ?_
          refine lv_aload_n hx hb dX11_goMorning_53 rfl (lv_at hl 1 rfl) ?_
          refine lv_bipush (v := 21) hx hb dX11_goMorning_54 (by decide) ?_
          refine lv_iload_n hx hb dX11_goMorning_56 rfl (lv_at hl 3 rfl) ?_
          refine lv_iadd hx hb dX11_goMorning_57 ?_
          obtain ⟨g13, h⟩ := gi_some h
          refine r_iald E hS 3 rfl g13 dX11_goMorning_58 ?_
          refine lv_iconst (v := 1) hx hb dX11_goMorning_59 (by decide) ?_
          refine lv_iadd hx hb dX11_goMorning_60 ?_
          refine ct_S (ws' := fun _ => [oX11 q0 u0_0 (.int v_people) u0_2 u0_3 u0_4 u0_5 u0_6 rc2 (.int y2.2.1) (.int y2.2.2.1) (.int y2.2.2.2.1) (.int y2.2.2.2.2.1) u0_12 (.ref q1) u0_14 (.int v_ruleSize) (.int y2.2.2.2.2.2.1) (.ref q2) u0_18 u0_19 u0_20 u0_21 u0_22 u0_23 u0_24 u0_25 u0_26 u0_27 u0_28 u0_29 u0_30 u0_31 u0_32 u0_33 u0_34 u0_35 u0_36 u0_37 u0_38 u0_39 u0_40, aB cy q1 40 v_rule, aI cy q2 7 y2.2.2.2.2.2.2, aI cy q3 nw1_ x29_1]) (st' := [.int (J9_min_7cf53 (999 : Int32) ((x29_1 ((21 : Int32) + x29_0).toNatClampNeg) + (1 : Int32))), .int ((21 : Int32) + x29_0), .ref q3]) (rest := [.int ((21 : Int32) + x29_0), .ref q3]) E hS slX11_223 (c_J9_min_7cf53 (l := l) (D := D) (cy := cy) (p0 := (999 : Int32)) (p1 := ((x29_1 ((21 : Int32) + x29_0).toNatClampNeg) + (1 : Int32))) (r := (J9_min_7cf53 (999 : Int32) ((x29_1 ((21 : Int32) + x29_0).toNatClampNeg) + (1 : Int32)))) rfl) [] rfl rfl (fun _ => rfl) (fun _ => rfl) rfl rfl (Nat.le_of_ble_eq_true rfl) hl.1 (by rw [hRf]; exact Nat.le_of_ble_eq_true rfl) (by rw [hRl]; exact Nat.le_of_ble_eq_true rfl) ⟨Nat.zero_le _, Nat.zero_le _⟩ dX11_goMorning_61 rfl (fun H locs _ hS => ?_)
          obtain ⟨g14, h⟩ := gi_some h
          refine r_iast (ws' := [oX11 q0 u0_0 (.int v_people) u0_2 u0_3 u0_4 u0_5 u0_6 rc2 (.int y2.2.1) (.int y2.2.2.1) (.int y2.2.2.2.1) (.int y2.2.2.2.2.1) u0_12 (.ref q1) u0_14 (.int v_ruleSize) (.int y2.2.2.2.2.2.1) (.ref q2) u0_18 u0_19 u0_20 u0_21 u0_22 u0_23 u0_24 u0_25 u0_26 u0_27 u0_28 u0_29 u0_30 u0_31 u0_32 u0_33 u0_34 u0_35 u0_36 u0_37 u0_38 u0_39 u0_40, aB cy q1 40 v_rule, aI cy q2 7 y2.2.2.2.2.2.2, aI cy q3 nw1_ (upd x29_1 ((21 : Int32) + x29_0).toNatClampNeg (J9_min_7cf53 (999 : Int32) ((x29_1 ((21 : Int32) + x29_0).toNatClampNeg) + (1 : Int32))))]) E hS 3 rfl g14 rfl dX11_goMorning_64 (fun H locs hS => ?_)
          exact hJ65 (upd x29_1 ((21 : Int32) + x29_0).toNatClampNeg (J9_min_7cf53 (999 : Int32) ((x29_1 ((21 : Int32) + x29_0).toNatClampNeg) + (1 : Int32))))  H locs ls h hS (lv_sub hl [0, 1, 2, 3] rfl)
  obtain ⟨y29, e29, h⟩ := bd_some h
  refine hL29 1000 (0 : Int32) (upd w1_ (36 : Int32).toNatClampNeg (J9_min_7cf53 (9999 : Int32) ((w1_ (36 : Int32).toNatClampNeg) + y19))) y29  H locs ls e29 hS (lv_sub hl [2, 3, 1, 0] rfl) (fun y29_0 ey29 H locs ls hS hl => ?_)
  subst ey29
  refine lv_aload_n hx hb dX11_goMorning_120 rfl (lv_at hl 0 rfl) ?_
  refine lv_bipush (v := 35) hx hb dX11_goMorning_121 (by decide) ?_
  refine lv_dup2_11 hx hb dX11_goMorning_123 rfl rfl ?_
  obtain ⟨g15, h⟩ := gi_some h
  refine r_iald E hS 3 rfl g15 dX11_goMorning_124 ?_
  refine lv_iconst (v := 1) hx hb dX11_goMorning_125 (by decide) ?_
  refine lv_iadd hx hb dX11_goMorning_126 ?_
  obtain ⟨g16, h⟩ := gi_some h
  refine r_iast (ws' := [oX11 q0 u0_0 (.int v_people) u0_2 u0_3 u0_4 u0_5 u0_6 rc2 (.int y2.2.1) (.int y2.2.2.1) (.int y2.2.2.2.1) (.int y2.2.2.2.2.1) u0_12 (.ref q1) u0_14 (.int v_ruleSize) (.int y2.2.2.2.2.2.1) (.ref q2) u0_18 u0_19 u0_20 u0_21 u0_22 u0_23 u0_24 u0_25 u0_26 u0_27 u0_28 u0_29 u0_30 u0_31 u0_32 u0_33 u0_34 u0_35 u0_36 u0_37 u0_38 u0_39 u0_40, aB cy q1 40 v_rule, aI cy q2 7 y2.2.2.2.2.2.2, aI cy q3 nw1_ (upd y29_0 (35 : Int32).toNatClampNeg ((y29_0 (35 : Int32).toNatClampNeg) + (1 : Int32)))]) E hS 3 rfl g16 rfl dX11_goMorning_127 (fun H locs hS => ?_)
  refine lv_iload_n hx hb dX11_goMorning_128 rfl (lv_at hl 1 rfl) ?_
  obtain rfl := Option.some.inj h
  exact rt_i E hQ (rc2) hS dX11_goMorning_129
set_option maxHeartbeats 4000000 in
set_option maxRecDepth 100000 in
theorem c_X11_goMornings {l : Launch} {D : va_G} {cy : Nat → ClassId} (q0 : Nat) (q1 : Nat) (q2 : Nat) (q3 : Nat) (u0_0 : Value) (u0_2 : Value) (u0_3 : Value) (u0_4 : Value) (u0_5 : Value) (u0_6 : Value) (u0_7 : Value) (u0_12 : Value) (u0_14 : Value) (u0_18 : Value) (u0_19 : Value) (u0_20 : Value) (u0_21 : Value) (u0_22 : Value) (u0_23 : Value) (u0_24 : Value) (u0_25 : Value) (u0_26 : Value) (u0_27 : Value) (u0_28 : Value) (u0_29 : Value) (u0_30 : Value) (u0_31 : Value) (u0_32 : Value) (u0_33 : Value) (u0_34 : Value) (u0_35 : Value) (u0_36 : Value) (u0_37 : Value) (u0_38 : Value) (u0_39 : Value) (u0_40 : Value) (v_people : Int32) (v_length : Int32) (v_top : Int32) (v_at : Int32) (v_wrong : Int32) (v_ruleSize : Int32) (v_isAsked : Int32) (v_rule : Nat → Int32) (v_asked : Nat → Int32) (nw1_ : Nat) (w1_ : Nat → Int32) (p2 : Int32) (r : Int32 × Int32 × Int32 × Int32 × Int32 × Int32 × (Nat → Int32) × (Nat → Int32)) (h : X11_goMornings v_people v_length v_top v_at v_wrong v_ruleSize v_isAsked v_rule v_asked nw1_ w1_ p2 = some r) : Ct l yX11_goMornings cX11_goMornings 5 (some .int) 110 2626 D cy [.ref q0, .ref q3, .int p2] [oX11 q0 u0_0 (.int v_people) u0_2 u0_3 u0_4 u0_5 u0_6 u0_7 (.int v_length) (.int v_top) (.int v_at) (.int v_wrong) u0_12 (.ref q1) u0_14 (.int v_ruleSize) (.int v_isAsked) (.ref q2) u0_18 u0_19 u0_20 u0_21 u0_22 u0_23 u0_24 u0_25 u0_26 u0_27 u0_28 u0_29 u0_30 u0_31 u0_32 u0_33 u0_34 u0_35 u0_36 u0_37 u0_38 u0_39 u0_40, aB cy q1 40 v_rule, aI cy q2 7 v_asked, aI cy q3 nw1_ w1_] (fun rv => [oX11 q0 u0_0 (.int v_people) u0_2 u0_3 u0_4 u0_5 u0_6 rv (.int r.2.1) (.int r.2.2.1) (.int r.2.2.2.1) (.int r.2.2.2.2.1) u0_12 (.ref q1) u0_14 (.int v_ruleSize) (.int r.2.2.2.2.2.1) (.ref q2) u0_18 u0_19 u0_20 u0_21 u0_22 u0_23 u0_24 u0_25 u0_26 u0_27 u0_28 u0_29 u0_30 u0_31 u0_32 u0_33 u0_34 u0_35 u0_36 u0_37 u0_38 u0_39 u0_40, aB cy q1 40 v_rule, aI cy q2 7 r.2.2.2.2.2.2.1, aI cy q3 nw1_ r.2.2.2.2.2.2.2]) (some (.int r.1)) := by
  refine Ct.mk kX11_goMornings (by decide +kernel) (Nat.le_of_ble_eq_true rfl) ?_
  intro p e s m below meth c A ls args R Q hRf hRl hQ E H locs hS hl
  have hx := E.x
  have hb := E.b
  have hl : lv_has ls 5 [(0, .ref q0), (1, .ref q3), (2, .int p2)] := hl
  unfold X11_goMornings at h
  refine lv_iconst (v := 0) hx hb dX11_goMornings_0 (by decide) ?_
  refine lv_istore_n (lv' := [(3, .int (0 : Int32)), (0, .ref q0), (1, .ref q3), (2, .int p2)]) hx hb dX11_goMornings_1 rfl hl (by decide) rfl (fun ls hl => ?_)
  refine lv_iconst (v := 0) hx hb dX11_goMornings_2 (by decide) ?_
  refine lv_istore (lv' := [(4, .int (0 : Int32)), (3, .int (0 : Int32)), (0, .ref q0), (1, .ref q3), (2, .int p2)]) hx hb dX11_goMornings_3 hl (by decide) rfl (fun ls hl => ?_)
  have hL5 : ∀ (n : Nat) (x5_0 : Int32) (x5_1 : Int32) (x5_2 : Int32) (x5_3 : Int32) (x5_4 : Int32) (x5_5 : Int32) (x5_6 : Int32) (x5_7 : Nat → Int32) (x5_8 : Nat → Int32) (y5 : Int32 × Int32 × Int32 × Int32 × Int32 × Int32 × (Nat → Int32) × (Nat → Int32)) (rv5_0 : Value) (H : Heap) (locs : List Loc) (ls : Array Slot), lp (fun x5 => X11_goMornings_s5 v_people v_ruleSize v_rule nw1_ p2 x5.1 x5.2.1 x5.2.2.1 x5.2.2.2.1 x5.2.2.2.2.1 x5.2.2.2.2.2.1 x5.2.2.2.2.2.2.1 x5.2.2.2.2.2.2.2.1 x5.2.2.2.2.2.2.2.2) n (x5_0, x5_1, x5_2, x5_3, x5_4, x5_5, x5_6, x5_7, x5_8) = some y5 → Sv D A s.heap [oX11 q0 u0_0 (.int v_people) u0_2 u0_3 u0_4 u0_5 u0_6 rv5_0 (.int x5_2) (.int x5_3) (.int x5_4) (.int x5_5) u0_12 (.ref q1) u0_14 (.int v_ruleSize) (.int x5_6) (.ref q2) u0_18 u0_19 u0_20 u0_21 u0_22 u0_23 u0_24 u0_25 u0_26 u0_27 u0_28 u0_29 u0_30 u0_31 u0_32 u0_33 u0_34 u0_35 u0_36 u0_37 u0_38 u0_39 u0_40, aB cy q1 40 v_rule, aI cy q2 7 x5_7, aI cy q3 nw1_ x5_8] H locs → lv_has ls 5 [(0, .ref q0), (1, .ref q3), (2, .int p2), (3, .int x5_0), (4, .int x5_1)] → ( ∀ (y5_0 : Int32) (y5_1 : Int32) (y5_2 : Int32) (y5_3 : Int32) (y5_4 : Int32) (y5_5 : Int32) (y5_6 : Nat → Int32) (y5_7 : Nat → Int32), (y5_0, y5_1, y5_2, y5_3, y5_4, y5_5, y5_6, y5_7) = y5 → ∀ (rv5_0 : Value), ∀ (H : Heap) (locs : List Loc) (ls : Array Slot), Sv D A s.heap [oX11 q0 u0_0 (.int v_people) u0_2 u0_3 u0_4 u0_5 u0_6 rv5_0 (.int y5_1) (.int y5_2) (.int y5_3) (.int y5_4) u0_12 (.ref q1) u0_14 (.int v_ruleSize) (.int y5_5) (.ref q2) u0_18 u0_19 u0_20 u0_21 u0_22 u0_23 u0_24 u0_25 u0_26 u0_27 u0_28 u0_29 u0_30 u0_31 u0_32 u0_33 u0_34 u0_35 u0_36 u0_37 u0_38 u0_39 u0_40, aB cy q1 40 v_rule, aI cy q2 7 y5_6, aI cy q3 nw1_ y5_7] H locs → lv_has ls 5 [(3, .int y5_0)] → W p l e R s m args below meth c H locs 0 0 Q (F0 m 23 ls [])) → W p l e R s m args below meth c H locs 0 0 Q (F0 m 5 ls []) := by
    intro n
    induction n with
    | zero =>
      intro x5_0 x5_1 x5_2 x5_3 x5_4 x5_5 x5_6 x5_7 x5_8 y5 rv5_0 H locs ls h
      exact lp_zero h
    | succ n ih5 =>
      intro x5_0 x5_1 x5_2 x5_3 x5_4 x5_5 x5_6 x5_7 x5_8 y5 rv5_0 H locs ls h hS hl hk5_0
      obtain ⟨z5, h, hz5a, hz5b⟩ := lp_succ h
      have h : X11_goMornings_s5 v_people v_ruleSize v_rule nw1_ p2 x5_0 x5_1 x5_2 x5_3 x5_4 x5_5 x5_6 x5_7 x5_8 = some z5 := h
      unfold X11_goMornings_s5 at h
      refine lv_iload hx hb dX11_goMornings_5 (lv_at hl 4 rfl) ?_
      refine lv_iload_n hx hb dX11_goMornings_7 rfl (lv_at hl 2 rfl) ?_
      refine lv_icmp_ge (tgt := 23) hx hb dX11_goMornings_8 (by decide) (fun c1 => ?_) (fun c1 => ?_)
      · have h := it_pos c1 h
        exact hk5_0 x5_0 x5_2 x5_3 x5_4 x5_5 x5_6 x5_7 x5_8 (hz5b _ (Option.some.inj h).symm) rv5_0 H locs ls hS (lv_sub hl [3] rfl)
      · have h := it_neg c1 h
        refine lv_aload_n hx hb dX11_goMornings_11 rfl (lv_at hl 0 rfl) ?_
        refine lv_aload_n hx hb dX11_goMornings_12 rfl (lv_at hl 1 rfl) ?_
        obtain ⟨y13, e2, h⟩ := bd_some h
        refine ct_V (ws' := fun rc3 => [oX11 q0 u0_0 (.int v_people) u0_2 u0_3 u0_4 u0_5 u0_6 rc3 (.int y13.2.1) (.int y13.2.2.1) (.int y13.2.2.2.1) (.int y13.2.2.2.2.1) u0_12 (.ref q1) u0_14 (.int v_ruleSize) (.int y13.2.2.2.2.2.1) (.ref q2) u0_18 u0_19 u0_20 u0_21 u0_22 u0_23 u0_24 u0_25 u0_26 u0_27 u0_28 u0_29 u0_30 u0_31 u0_32 u0_33 u0_34 u0_35 u0_36 u0_37 u0_38 u0_39 u0_40, aB cy q1 40 v_rule, aI cy q2 7 y13.2.2.2.2.2.2.1, aI cy q3 nw1_ y13.2.2.2.2.2.2.2]) (st' := [.int y13.1]) (rest := []) E hS vlX11_246 (c_X11_goMorning (l := l) (D := D) (cy := cy) (q0 := q0) (q1 := q1) (q2 := q2) (q3 := q3) (u0_0 := u0_0) (u0_2 := u0_2) (u0_3 := u0_3) (u0_4 := u0_4) (u0_5 := u0_5) (u0_6 := u0_6) (u0_7 := rv5_0) (u0_12 := u0_12) (u0_14 := u0_14) (u0_18 := u0_18) (u0_19 := u0_19) (u0_20 := u0_20) (u0_21 := u0_21) (u0_22 := u0_22) (u0_23 := u0_23) (u0_24 := u0_24) (u0_25 := u0_25) (u0_26 := u0_26) (u0_27 := u0_27) (u0_28 := u0_28) (u0_29 := u0_29) (u0_30 := u0_30) (u0_31 := u0_31) (u0_32 := u0_32) (u0_33 := u0_33) (u0_34 := u0_34) (u0_35 := u0_35) (u0_36 := u0_36) (u0_37 := u0_37) (u0_38 := u0_38) (u0_39 := u0_39) (u0_40 := u0_40) (v_people := v_people) (v_length := x5_2) (v_top := x5_3) (v_at := x5_4) (v_wrong := x5_5) (v_ruleSize := v_ruleSize) (v_isAsked := x5_6) (v_rule := v_rule) (v_asked := x5_7) (nw1_ := nw1_) (w1_ := x5_8) (r := y13) e2) [0, 1, 2, 3] rfl rfl (fun _ => rfl) (fun _ => rfl) rfl rfl rfl rfl (Nat.le_of_ble_eq_true rfl) hl.1 (by rw [hRf]; exact Nat.le_of_ble_eq_true rfl) (by rw [hRl]; exact Nat.le_of_ble_eq_true rfl) ⟨Nat.zero_le _, Nat.zero_le _⟩ dX11_goMornings_13 rfl (fun H locs rc3 hS => ?_)
        refine lv_istore_n (lv' := [(3, .int y13.1), (0, .ref q0), (1, .ref q3), (2, .int p2), (4, .int x5_1)]) hx hb dX11_goMornings_16 rfl hl (by decide) rfl (fun ls hl => ?_)
        refine lv_iinc (v := (x5_1 + (1 : Int32))) (lv' := [(4, .int (x5_1 + (1 : Int32))), (3, .int y13.1), (0, .ref q0), (1, .ref q3), (2, .int p2)]) hx hb dX11_goMornings_17 hl (k := 4) rfl rfl (by decide) rfl (fun ls hl => ?_)
        refine lv_goto (tgt := 5) hx hb dX11_goMornings_20 (by decide) ?_
        exact ih5 y13.1 (x5_1 + (1 : Int32)) y13.2.1 y13.2.2.1 y13.2.2.2.1 y13.2.2.2.2.1 y13.2.2.2.2.2.1 y13.2.2.2.2.2.2.1 y13.2.2.2.2.2.2.2 y5 rc3 H locs ls (hz5a _ (Option.some.inj h).symm) hS (lv_sub hl [2, 3, 4, 1, 0] rfl) hk5_0
  obtain ⟨y5, e5, h⟩ := bd_some h
  refine hL5 1000 (0 : Int32) (0 : Int32) v_length v_top v_at v_wrong v_isAsked v_asked w1_ y5 u0_7 H locs ls e5 hS (lv_sub hl [2, 3, 4, 1, 0] rfl) (fun y5_0 y5_1 y5_2 y5_3 y5_4 y5_5 y5_6 y5_7 ey5 rw5_0 H locs ls hS hl => ?_)
  subst ey5
  have h := un_r h
  have h := un_r h
  have h := un_r h
  have h := un_r h
  have h := un_r h
  have h := un_r h
  have h := un_r h
  refine lv_iload_n hx hb dX11_goMornings_23 rfl (lv_at hl 0 rfl) ?_
  obtain rfl := Option.some.inj h
  exact rt_i E hQ (rw5_0) hS dX11_goMornings_24
set_option maxHeartbeats 4000000 in
set_option maxRecDepth 100000 in
theorem c_X11_mornings {l : Launch} {D : va_G} {cy : Nat → ClassId} (q0 : Nat) (q1 : Nat) (q2 : Nat) (q3 : Nat) (q4 : Nat) (q5 : Nat) (u0_2 : Value) (u0_3 : Value) (u0_7 : Value) (u0_12 : Value) (u0_14 : Value) (u0_20 : Value) (u0_21 : Value) (u0_22 : Value) (u0_23 : Value) (u0_24 : Value) (u0_25 : Value) (u0_26 : Value) (u0_27 : Value) (u0_28 : Value) (u0_29 : Value) (u0_30 : Value) (u0_31 : Value) (u0_32 : Value) (u0_33 : Value) (u0_34 : Value) (u0_35 : Value) (u0_36 : Value) (u0_37 : Value) (u0_38 : Value) (u0_39 : Value) (u0_40 : Value) (v_people : Int32) (v_rowMany : Int32) (v_thrown : Int32) (v_length : Int32) (v_top : Int32) (v_at : Int32) (v_wrong : Int32) (v_ruleSize : Int32) (v_isAsked : Int32) (v_undoMany : Int32) (v_now : Nat → Int32) (v_row : Nat → Int64) (v_rule : Nat → Int32) (v_asked : Nat → Int32) (v_undos : Nat → Int32) (p1 : Int32) (r : Int32 × Int32 × Int32 × Int32 × Int32 × Int32 × Int32 × Int32 × Int32 × (Nat → Int32) × (Nat → Int64) × (Nat → Int32) × (Nat → Int32)) (h : X11_mornings v_people v_rowMany v_length v_top v_at v_wrong v_ruleSize v_isAsked v_undoMany v_now v_row v_rule v_asked v_undos p1 = some r) : Ct l yX11_mornings cX11_mornings 4 (some .int) 111 2650 D cy [.ref q0, .int p1] [oX11 q0 (.ref q1) (.int v_people) u0_2 u0_3 (.ref q2) (.int v_rowMany) (.int v_thrown) u0_7 (.int v_length) (.int v_top) (.int v_at) (.int v_wrong) u0_12 (.ref q3) u0_14 (.int v_ruleSize) (.int v_isAsked) (.ref q4) (.ref q5) (.int v_undoMany) u0_20 u0_21 u0_22 u0_23 u0_24 u0_25 u0_26 u0_27 u0_28 u0_29 u0_30 u0_31 u0_32 u0_33 u0_34 u0_35 u0_36 u0_37 u0_38 u0_39 u0_40, aI cy q1 37 v_now, aJ cy q2 16 v_row, aB cy q3 40 v_rule, aI cy q4 7 v_asked, aI cy q5 444 v_undos] (fun rv => [oX11 q0 (.ref q1) (.int v_people) u0_2 u0_3 (.ref q2) (.int r.2.1) (.int r.2.2.1) rv (.int r.2.2.2.1) (.int r.2.2.2.2.1) (.int r.2.2.2.2.2.1) (.int r.2.2.2.2.2.2.1) u0_12 (.ref q3) u0_14 (.int v_ruleSize) (.int r.2.2.2.2.2.2.2.1) (.ref q4) (.ref q5) (.int r.2.2.2.2.2.2.2.2.1) u0_20 u0_21 u0_22 u0_23 u0_24 u0_25 u0_26 u0_27 u0_28 u0_29 u0_30 u0_31 u0_32 u0_33 u0_34 u0_35 u0_36 u0_37 u0_38 u0_39 u0_40, aI cy q1 37 r.2.2.2.2.2.2.2.2.2.1, aJ cy q2 16 r.2.2.2.2.2.2.2.2.2.2.1, aB cy q3 40 v_rule, aI cy q4 7 r.2.2.2.2.2.2.2.2.2.2.2.1, aI cy q5 444 r.2.2.2.2.2.2.2.2.2.2.2.2]) (some (.int r.1)) := by
  refine Ct.mk kX11_mornings (by decide +kernel) (Nat.le_of_ble_eq_true rfl) ?_
  intro p e s m below meth c A ls args R Q hRf hRl hQ E H locs hS hl
  have hx := E.x
  have hb := E.b
  have hl : lv_has ls 4 [(0, .ref q0), (1, .int p1)] := hl
  unfold X11_mornings at h
  refine lv_aload_n hx hb dX11_mornings_0 rfl (lv_at hl 0 rfl) ?_
  refine lv_iconst (v := 0) hx hb dX11_mornings_1 (by decide) ?_
  refine r_put (ws' := [oX11 q0 (.ref q1) (.int v_people) u0_2 u0_3 (.ref q2) (.int v_rowMany) (.int (0 : Int32)) u0_7 (.int v_length) (.int v_top) (.int v_at) (.int v_wrong) u0_12 (.ref q3) u0_14 (.int v_ruleSize) (.int v_isAsked) (.ref q4) (.ref q5) (.int v_undoMany) u0_20 u0_21 u0_22 u0_23 u0_24 u0_25 u0_26 u0_27 u0_28 u0_29 u0_30 u0_31 u0_32 u0_33 u0_34 u0_35 u0_36 u0_37 u0_38 u0_39 u0_40, aI cy q1 37 v_now, aJ cy q2 16 v_row, aB cy q3 40 v_rule, aI cy q4 7 v_asked, aI cy q5 444 v_undos]) E frX11_85 hS 0 rfl (Nat.le_of_ble_eq_true rfl) rfl rfl rfl rfl dX11_mornings_2 (fun H locs hS => ?_)
  refine lv_iload_n hx hb dX11_mornings_5 rfl (lv_at hl 1 rfl) ?_
  refine lv_iconst (v := 0) hx hb dX11_mornings_6 (by decide) ?_
  refine lv_bipush (v := 60) hx hb dX11_mornings_7 (by decide) ?_
  refine ct_S (ws' := fun _ => [oX11 q0 (.ref q1) (.int v_people) u0_2 u0_3 (.ref q2) (.int v_rowMany) (.int (0 : Int32)) u0_7 (.int v_length) (.int v_top) (.int v_at) (.int v_wrong) u0_12 (.ref q3) u0_14 (.int v_ruleSize) (.int v_isAsked) (.ref q4) (.ref q5) (.int v_undoMany) u0_20 u0_21 u0_22 u0_23 u0_24 u0_25 u0_26 u0_27 u0_28 u0_29 u0_30 u0_31 u0_32 u0_33 u0_34 u0_35 u0_36 u0_37 u0_38 u0_39 u0_40, aI cy q1 37 v_now, aJ cy q2 16 v_row, aB cy q3 40 v_rule, aI cy q4 7 v_asked, aI cy q5 444 v_undos]) (st' := [.int (X11_in p1 (0 : Int32) (60 : Int32))]) (rest := []) E hS slX11_95 (c_X11_in (l := l) (D := D) (cy := cy) (p0 := p1) (p1 := (0 : Int32)) (p2 := (60 : Int32)) (r := (X11_in p1 (0 : Int32) (60 : Int32))) rfl) [] rfl rfl (fun _ => rfl) (fun _ => rfl) rfl rfl (Nat.le_of_ble_eq_true rfl) hl.1 (by rw [hRf]; exact Nat.le_of_ble_eq_true rfl) (by rw [hRl]; exact Nat.le_of_ble_eq_true rfl) ⟨Nat.zero_le _, Nat.zero_le _⟩ dX11_mornings_9 rfl (fun H locs _ hS => ?_)
  refine lv_if_ne (tgt := 17) hx hb dX11_mornings_12 (by decide) (fun c1 => ?_) (fun c1 => ?_)
  · have h := it_neg c1 h
    refine lv_iload_n hx hb dX11_mornings_17 rfl (lv_at hl 1 rfl) ?_
    have hJ29 : ∀ (j29_v_undoMany : Int32) (j29_v_undos : Nat → Int32) (H : Heap) (locs : List Loc) (ls : Array Slot), X11_mornings_k29 v_people v_length v_top v_at v_wrong v_ruleSize v_isAsked v_now v_row v_rule v_asked p1 j29_v_undoMany j29_v_undos = some r → Sv D A s.heap [oX11 q0 (.ref q1) (.int v_people) u0_2 u0_3 (.ref q2) (.int v_rowMany) (.int (0 : Int32)) u0_7 (.int v_length) (.int v_top) (.int v_at) (.int v_wrong) u0_12 (.ref q3) u0_14 (.int v_ruleSize) (.int v_isAsked) (.ref q4) (.ref q5) (.int j29_v_undoMany) u0_20 u0_21 u0_22 u0_23 u0_24 u0_25 u0_26 u0_27 u0_28 u0_29 u0_30 u0_31 u0_32 u0_33 u0_34 u0_35 u0_36 u0_37 u0_38 u0_39 u0_40, aI cy q1 37 v_now, aJ cy q2 16 v_row, aB cy q3 40 v_rule, aI cy q4 7 v_asked, aI cy q5 444 j29_v_undos] H locs → lv_has ls 4 [(0, .ref q0), (1, .int p1)] → W p l e R s m args below meth c H locs 0 0 Q (F0 m 29 ls []) := by
      intro j29_v_undoMany j29_v_undos H locs ls h hS hl
      unfold X11_mornings_k29 at h
      refine lv_aload_n hx hb dX11_mornings_29 rfl (lv_at hl 0 rfl) ?_
      refine r_get E frX11_9 hS 0 rfl rfl dX11_mornings_30 ?_
      refine lv_bipush (v := 36) hx hb dX11_mornings_33 (by decide) ?_
      obtain ⟨g2, h⟩ := gi_some h
      refine r_iald E hS 1 rfl g2 dX11_mornings_35 ?_
      refine lv_istore_n (lv' := [(2, .int (v_now (36 : Int32).toNatClampNeg)), (0, .ref q0), (1, .int p1)]) hx hb dX11_mornings_36 rfl hl (by decide) rfl (fun ls hl => ?_)
      refine lv_aload_n hx hb dX11_mornings_37 rfl (lv_at hl 1 rfl) ?_
      refine lv_aload_n hx hb dX11_mornings_38 rfl (lv_at hl 1 rfl) ?_
      refine r_get E frX11_9 hS 0 rfl rfl dX11_mornings_39 ?_
      refine lv_iload_n hx hb dX11_mornings_42 rfl (lv_at hl 2 rfl) ?_
      obtain ⟨y43, e3, h⟩ := bd_some h
      refine ct_V (ws' := fun rc4 => [oX11 q0 (.ref q1) (.int v_people) u0_2 u0_3 (.ref q2) (.int v_rowMany) (.int (0 : Int32)) rc4 (.int y43.2.1) (.int y43.2.2.1) (.int y43.2.2.2.1) (.int y43.2.2.2.2.1) u0_12 (.ref q3) u0_14 (.int v_ruleSize) (.int y43.2.2.2.2.2.1) (.ref q4) (.ref q5) (.int j29_v_undoMany) u0_20 u0_21 u0_22 u0_23 u0_24 u0_25 u0_26 u0_27 u0_28 u0_29 u0_30 u0_31 u0_32 u0_33 u0_34 u0_35 u0_36 u0_37 u0_38 u0_39 u0_40, aI cy q1 37 y43.2.2.2.2.2.2.2, aJ cy q2 16 v_row, aB cy q3 40 v_rule, aI cy q4 7 y43.2.2.2.2.2.2.1, aI cy q5 444 j29_v_undos]) (st' := [.int y43.1]) (rest := []) E hS vlX11_253 (c_X11_goMornings (l := l) (D := D) (cy := cy) (q0 := q0) (q1 := q3) (q2 := q4) (q3 := q1) (u0_0 := .ref q1) (u0_2 := u0_2) (u0_3 := u0_3) (u0_4 := .ref q2) (u0_5 := .int v_rowMany) (u0_6 := .int (0 : Int32)) (u0_7 := u0_7) (u0_12 := u0_12) (u0_14 := u0_14) (u0_18 := .ref q5) (u0_19 := .int j29_v_undoMany) (u0_20 := u0_20) (u0_21 := u0_21) (u0_22 := u0_22) (u0_23 := u0_23) (u0_24 := u0_24) (u0_25 := u0_25) (u0_26 := u0_26) (u0_27 := u0_27) (u0_28 := u0_28) (u0_29 := u0_29) (u0_30 := u0_30) (u0_31 := u0_31) (u0_32 := u0_32) (u0_33 := u0_33) (u0_34 := u0_34) (u0_35 := u0_35) (u0_36 := u0_36) (u0_37 := u0_37) (u0_38 := u0_38) (u0_39 := u0_39) (u0_40 := u0_40) (v_people := v_people) (v_length := v_length) (v_top := v_top) (v_at := v_at) (v_wrong := v_wrong) (v_ruleSize := v_ruleSize) (v_isAsked := v_isAsked) (v_rule := v_rule) (v_asked := v_asked) (nw1_ := 37) (w1_ := v_now) (p2 := p1) (r := y43) e3) [0, 3, 4, 1] rfl rfl (fun _ => rfl) (fun _ => rfl) rfl rfl rfl rfl (Nat.le_of_ble_eq_true rfl) hl.1 (by rw [hRf]; exact Nat.le_of_ble_eq_true rfl) (by rw [hRl]; exact Nat.le_of_ble_eq_true rfl) ⟨Nat.zero_le _, Nat.zero_le _⟩ dX11_mornings_43 rfl (fun H locs rc4 hS => ?_)
      refine lv_istore_n (lv' := [(3, .int y43.1), (2, .int (v_now (36 : Int32).toNatClampNeg)), (0, .ref q0), (1, .int p1)]) hx hb dX11_mornings_46 rfl hl (by decide) rfl (fun ls hl => ?_)
      refine lv_aload_n hx hb dX11_mornings_47 rfl (lv_at hl 2 rfl) ?_
      refine lv_iconst (v := 0) hx hb dX11_mornings_48 (by decide) ?_
      refine r_put (ws' := [oX11 q0 (.ref q1) (.int v_people) u0_2 u0_3 (.ref q2) (.int (0 : Int32)) (.int (0 : Int32)) rc4 (.int y43.2.1) (.int y43.2.2.1) (.int y43.2.2.2.1) (.int y43.2.2.2.2.1) u0_12 (.ref q3) u0_14 (.int v_ruleSize) (.int y43.2.2.2.2.2.1) (.ref q4) (.ref q5) (.int j29_v_undoMany) u0_20 u0_21 u0_22 u0_23 u0_24 u0_25 u0_26 u0_27 u0_28 u0_29 u0_30 u0_31 u0_32 u0_33 u0_34 u0_35 u0_36 u0_37 u0_38 u0_39 u0_40, aI cy q1 37 y43.2.2.2.2.2.2.2, aJ cy q2 16 v_row, aB cy q3 40 v_rule, aI cy q4 7 y43.2.2.2.2.2.2.1, aI cy q5 444 j29_v_undos]) E frX11_89 hS 0 rfl (Nat.le_of_ble_eq_true rfl) rfl rfl rfl rfl dX11_mornings_49 (fun H locs hS => ?_)
      refine lv_aload_n hx hb dX11_mornings_52 rfl (lv_at hl 2 rfl) ?_
      refine lv_aload_n hx hb dX11_mornings_53 rfl (lv_at hl 2 rfl) ?_
      refine r_get E frX11_9 hS 0 rfl rfl dX11_mornings_54 ?_
      refine lv_bipush (v := 36) hx hb dX11_mornings_57 (by decide) ?_
      obtain ⟨g5, h⟩ := gi_some h
      refine r_iald E hS 1 rfl g5 dX11_mornings_59 ?_
      refine lv_iload_n hx hb dX11_mornings_60 rfl (lv_at hl 1 rfl) ?_
      refine lv_isub hx hb dX11_mornings_61 ?_
      refine lv_i2l (v := (((y43.2.2.2.2.2.2.2 (36 : Int32).toNatClampNeg) - (v_now (36 : Int32).toNatClampNeg)).toInt64)) hx hb dX11_mornings_62 rfl ?_
      obtain ⟨y63, e6, h⟩ := bd_some h
      refine ct_V (ws' := fun _ => [oX11 q0 (.ref q1) (.int v_people) u0_2 u0_3 (.ref q2) (.int y63.1) (.int (0 : Int32)) rc4 (.int y43.2.1) (.int y43.2.2.1) (.int y43.2.2.2.1) (.int y43.2.2.2.2.1) u0_12 (.ref q3) u0_14 (.int v_ruleSize) (.int y43.2.2.2.2.2.1) (.ref q4) (.ref q5) (.int j29_v_undoMany) u0_20 u0_21 u0_22 u0_23 u0_24 u0_25 u0_26 u0_27 u0_28 u0_29 u0_30 u0_31 u0_32 u0_33 u0_34 u0_35 u0_36 u0_37 u0_38 u0_39 u0_40, aI cy q1 37 y43.2.2.2.2.2.2.2, aJ cy q2 16 y63.2, aB cy q3 40 v_rule, aI cy q4 7 y43.2.2.2.2.2.2.1, aI cy q5 444 j29_v_undos]) (st' := []) (rest := []) E hS vlX11_256 (c_X11_tell (l := l) (D := D) (cy := cy) (q0 := q0) (q1 := q2) (u0_0 := .ref q1) (u0_1 := .int v_people) (u0_2 := u0_2) (u0_3 := u0_3) (u0_6 := .int (0 : Int32)) (u0_7 := rc4) (u0_8 := .int y43.2.1) (u0_9 := .int y43.2.2.1) (u0_10 := .int y43.2.2.2.1) (u0_11 := .int y43.2.2.2.2.1) (u0_12 := u0_12) (u0_13 := .ref q3) (u0_14 := u0_14) (u0_15 := .int v_ruleSize) (u0_16 := .int y43.2.2.2.2.2.1) (u0_17 := .ref q4) (u0_18 := .ref q5) (u0_19 := .int j29_v_undoMany) (u0_20 := u0_20) (u0_21 := u0_21) (u0_22 := u0_22) (u0_23 := u0_23) (u0_24 := u0_24) (u0_25 := u0_25) (u0_26 := u0_26) (u0_27 := u0_27) (u0_28 := u0_28) (u0_29 := u0_29) (u0_30 := u0_30) (u0_31 := u0_31) (u0_32 := u0_32) (u0_33 := u0_33) (u0_34 := u0_34) (u0_35 := u0_35) (u0_36 := u0_36) (u0_37 := u0_37) (u0_38 := u0_38) (u0_39 := u0_39) (u0_40 := u0_40) (v_rowMany := (0 : Int32)) (v_row := v_row) (p1 := (((y43.2.2.2.2.2.2.2 (36 : Int32).toNatClampNeg) - (v_now (36 : Int32).toNatClampNeg)).toInt64)) (r := y63) e6) [0, 2] rfl rfl (fun _ => rfl) (fun _ => rfl) rfl rfl rfl rfl (Nat.le_of_ble_eq_true rfl) hl.1 (by rw [hRf]; exact Nat.le_of_ble_eq_true rfl) (by rw [hRl]; exact Nat.le_of_ble_eq_true rfl) ⟨Nat.zero_le _, Nat.zero_le _⟩ dX11_mornings_63 rfl (fun H locs _ hS => ?_)
      refine lv_aload_n hx hb dX11_mornings_66 rfl (lv_at hl 2 rfl) ?_
      refine lv_aload_n hx hb dX11_mornings_67 rfl (lv_at hl 2 rfl) ?_
      refine lv_aload_n hx hb dX11_mornings_68 rfl (lv_at hl 2 rfl) ?_
      refine r_get E frX11_9 hS 0 rfl rfl dX11_mornings_69 ?_
      refine lv_bipush (v := 21) hx hb dX11_mornings_72 (by decide) ?_
      obtain ⟨y74, e7, h⟩ := bd_some h
      refine ct_V (ws' := fun _ => [oX11 q0 (.ref q1) (.int v_people) u0_2 u0_3 (.ref q2) (.int y63.1) (.int (0 : Int32)) rc4 (.int y43.2.1) (.int y43.2.2.1) (.int y43.2.2.2.1) (.int y43.2.2.2.2.1) u0_12 (.ref q3) u0_14 (.int v_ruleSize) (.int y43.2.2.2.2.2.1) (.ref q4) (.ref q5) (.int j29_v_undoMany) u0_20 u0_21 u0_22 u0_23 u0_24 u0_25 u0_26 u0_27 u0_28 u0_29 u0_30 u0_31 u0_32 u0_33 u0_34 u0_35 u0_36 u0_37 u0_38 u0_39 u0_40, aI cy q1 37 y43.2.2.2.2.2.2.2, aJ cy q2 16 y63.2, aB cy q3 40 v_rule, aI cy q4 7 y43.2.2.2.2.2.2.1, aI cy q5 444 j29_v_undos]) (st' := [.int y74, .ref q0]) (rest := [.ref q0]) E hS vlX11_232 (c_X11_sumOf (l := l) (D := D) (cy := cy) (q0 := q0) (q1 := q1) (u0_0 := .ref q1) (u0_2 := u0_2) (u0_3 := u0_3) (u0_4 := .ref q2) (u0_5 := .int y63.1) (u0_6 := .int (0 : Int32)) (u0_7 := rc4) (u0_8 := .int y43.2.1) (u0_9 := .int y43.2.2.1) (u0_10 := .int y43.2.2.2.1) (u0_11 := .int y43.2.2.2.2.1) (u0_12 := u0_12) (u0_13 := .ref q3) (u0_14 := u0_14) (u0_15 := .int v_ruleSize) (u0_16 := .int y43.2.2.2.2.2.1) (u0_17 := .ref q4) (u0_18 := .ref q5) (u0_19 := .int j29_v_undoMany) (u0_20 := u0_20) (u0_21 := u0_21) (u0_22 := u0_22) (u0_23 := u0_23) (u0_24 := u0_24) (u0_25 := u0_25) (u0_26 := u0_26) (u0_27 := u0_27) (u0_28 := u0_28) (u0_29 := u0_29) (u0_30 := u0_30) (u0_31 := u0_31) (u0_32 := u0_32) (u0_33 := u0_33) (u0_34 := u0_34) (u0_35 := u0_35) (u0_36 := u0_36) (u0_37 := u0_37) (u0_38 := u0_38) (u0_39 := u0_39) (u0_40 := u0_40) (v_people := v_people) (nw1_ := 37) (w1_ := y43.2.2.2.2.2.2.2) (p2 := (21 : Int32)) (r := y74) e7) [0, 1] rfl rfl (fun _ => rfl) (fun _ => rfl) rfl rfl rfl rfl (Nat.le_of_ble_eq_true rfl) hl.1 (by rw [hRf]; exact Nat.le_of_ble_eq_true rfl) (by rw [hRl]; exact Nat.le_of_ble_eq_true rfl) ⟨Nat.zero_le _, Nat.zero_le _⟩ dX11_mornings_74 rfl (fun H locs _ hS => ?_)
      refine lv_i2l (v := (y74.toInt64)) hx hb dX11_mornings_77 rfl ?_
      obtain ⟨y78, e8, h⟩ := bd_some h
      refine ct_V (ws' := fun _ => [oX11 q0 (.ref q1) (.int v_people) u0_2 u0_3 (.ref q2) (.int y78.1) (.int (0 : Int32)) rc4 (.int y43.2.1) (.int y43.2.2.1) (.int y43.2.2.2.1) (.int y43.2.2.2.2.1) u0_12 (.ref q3) u0_14 (.int v_ruleSize) (.int y43.2.2.2.2.2.1) (.ref q4) (.ref q5) (.int j29_v_undoMany) u0_20 u0_21 u0_22 u0_23 u0_24 u0_25 u0_26 u0_27 u0_28 u0_29 u0_30 u0_31 u0_32 u0_33 u0_34 u0_35 u0_36 u0_37 u0_38 u0_39 u0_40, aI cy q1 37 y43.2.2.2.2.2.2.2, aJ cy q2 16 y78.2, aB cy q3 40 v_rule, aI cy q4 7 y43.2.2.2.2.2.2.1, aI cy q5 444 j29_v_undos]) (st' := []) (rest := []) E hS vlX11_256 (c_X11_tell (l := l) (D := D) (cy := cy) (q0 := q0) (q1 := q2) (u0_0 := .ref q1) (u0_1 := .int v_people) (u0_2 := u0_2) (u0_3 := u0_3) (u0_6 := .int (0 : Int32)) (u0_7 := rc4) (u0_8 := .int y43.2.1) (u0_9 := .int y43.2.2.1) (u0_10 := .int y43.2.2.2.1) (u0_11 := .int y43.2.2.2.2.1) (u0_12 := u0_12) (u0_13 := .ref q3) (u0_14 := u0_14) (u0_15 := .int v_ruleSize) (u0_16 := .int y43.2.2.2.2.2.1) (u0_17 := .ref q4) (u0_18 := .ref q5) (u0_19 := .int j29_v_undoMany) (u0_20 := u0_20) (u0_21 := u0_21) (u0_22 := u0_22) (u0_23 := u0_23) (u0_24 := u0_24) (u0_25 := u0_25) (u0_26 := u0_26) (u0_27 := u0_27) (u0_28 := u0_28) (u0_29 := u0_29) (u0_30 := u0_30) (u0_31 := u0_31) (u0_32 := u0_32) (u0_33 := u0_33) (u0_34 := u0_34) (u0_35 := u0_35) (u0_36 := u0_36) (u0_37 := u0_37) (u0_38 := u0_38) (u0_39 := u0_39) (u0_40 := u0_40) (v_rowMany := y63.1) (v_row := y63.2) (p1 := (y74.toInt64)) (r := y78) e8) [0, 2] rfl rfl (fun _ => rfl) (fun _ => rfl) rfl rfl rfl rfl (Nat.le_of_ble_eq_true rfl) hl.1 (by rw [hRf]; exact Nat.le_of_ble_eq_true rfl) (by rw [hRl]; exact Nat.le_of_ble_eq_true rfl) ⟨Nat.zero_le _, Nat.zero_le _⟩ dX11_mornings_78 rfl (fun H locs _ hS => ?_)
      refine lv_iload_n hx hb dX11_mornings_81 rfl (lv_at hl 0 rfl) ?_
      obtain rfl := Option.some.inj h
      exact rt_i E hQ (rc4) hS dX11_mornings_82
    refine lv_if_le (tgt := 29) hx hb dX11_mornings_18 (by decide) (fun c9 => ?_) (fun c9 => ?_)
    · have h := it_pos c9 h
      exact hJ29 v_undoMany v_undos  H locs ls h hS (lv_sub hl [0, 1] rfl)
    · have h := it_neg c9 h
      refine lv_aload_n hx hb dX11_mornings_21 rfl (lv_at hl 0 rfl) ?_
      refine lv_aload_n hx hb dX11_mornings_22 rfl (lv_at hl 0 rfl) ?_
      refine r_get E frX11_9 hS 0 rfl rfl dX11_mornings_23 ?_
      obtain ⟨y26, e10, h⟩ := bd_some h
      refine ct_V (ws' := fun _ => [oX11 q0 (.ref q1) (.int v_people) u0_2 u0_3 (.ref q2) (.int v_rowMany) (.int (0 : Int32)) u0_7 (.int v_length) (.int v_top) (.int v_at) (.int v_wrong) u0_12 (.ref q3) u0_14 (.int v_ruleSize) (.int v_isAsked) (.ref q4) (.ref q5) (.int y26.1) u0_20 u0_21 u0_22 u0_23 u0_24 u0_25 u0_26 u0_27 u0_28 u0_29 u0_30 u0_31 u0_32 u0_33 u0_34 u0_35 u0_36 u0_37 u0_38 u0_39 u0_40, aI cy q1 37 v_now, aJ cy q2 16 v_row, aB cy q3 40 v_rule, aI cy q4 7 v_asked, aI cy q5 444 y26.2]) (st' := []) (rest := []) E hS vlX11_249 (c_X11_remember (l := l) (D := D) (cy := cy) (q0 := q0) (q1 := q5) (q2 := q1) (u0_0 := .ref q1) (u0_1 := .int v_people) (u0_2 := u0_2) (u0_3 := u0_3) (u0_4 := .ref q2) (u0_5 := .int v_rowMany) (u0_6 := .int (0 : Int32)) (u0_7 := u0_7) (u0_8 := .int v_length) (u0_9 := .int v_top) (u0_10 := .int v_at) (u0_11 := .int v_wrong) (u0_12 := u0_12) (u0_13 := .ref q3) (u0_14 := u0_14) (u0_15 := .int v_ruleSize) (u0_16 := .int v_isAsked) (u0_17 := .ref q4) (u0_20 := u0_20) (u0_21 := u0_21) (u0_22 := u0_22) (u0_23 := u0_23) (u0_24 := u0_24) (u0_25 := u0_25) (u0_26 := u0_26) (u0_27 := u0_27) (u0_28 := u0_28) (u0_29 := u0_29) (u0_30 := u0_30) (u0_31 := u0_31) (u0_32 := u0_32) (u0_33 := u0_33) (u0_34 := u0_34) (u0_35 := u0_35) (u0_36 := u0_36) (u0_37 := u0_37) (u0_38 := u0_38) (u0_39 := u0_39) (u0_40 := u0_40) (v_undoMany := v_undoMany) (v_undos := v_undos) (nw1_ := 37) (w1_ := v_now) (r := y26) e10) [0, 5, 1] rfl rfl (fun _ => rfl) (fun _ => rfl) rfl rfl rfl rfl (Nat.le_of_ble_eq_true rfl) hl.1 (by rw [hRf]; exact Nat.le_of_ble_eq_true rfl) (by rw [hRl]; exact Nat.le_of_ble_eq_true rfl) ⟨Nat.zero_le _, Nat.zero_le _⟩ dX11_mornings_26 rfl (fun H locs _ hS => ?_)
      exact hJ29 y26.1 y26.2  H locs ls h hS (lv_sub hl [0, 1] rfl)
  · have h := it_pos c1 h
    refine lv_iconst (v := -1) hx hb dX11_mornings_15 (by decide) ?_
    obtain rfl := Option.some.inj h
    exact rt_i E hQ (u0_7) hS dX11_mornings_16
set_option maxHeartbeats 4000000 in
set_option maxRecDepth 100000 in
theorem c_X11_wishes {l : Launch} {D : va_G} {cy : Nat → ClassId} (q0 : Nat) (q1 : Nat) (q2 : Nat) (u0_2 : Value) (u0_3 : Value) (u0_4 : Value) (u0_5 : Value) (u0_7 : Value) (u0_8 : Value) (u0_9 : Value) (u0_10 : Value) (u0_11 : Value) (u0_12 : Value) (u0_13 : Value) (u0_14 : Value) (u0_15 : Value) (u0_16 : Value) (u0_17 : Value) (u0_20 : Value) (u0_21 : Value) (u0_22 : Value) (u0_23 : Value) (u0_24 : Value) (u0_25 : Value) (u0_26 : Value) (u0_27 : Value) (u0_28 : Value) (u0_29 : Value) (u0_30 : Value) (u0_31 : Value) (u0_32 : Value) (u0_33 : Value) (u0_34 : Value) (u0_35 : Value) (u0_36 : Value) (u0_37 : Value) (u0_38 : Value) (u0_39 : Value) (u0_40 : Value) (v_people : Int32) (v_thrown : Int32) (v_undoMany : Int32) (v_now : Nat → Int32) (v_undos : Nat → Int32) (p1 : Int32) (p2 : Int32) (r : Int32 × Int32 × Int32 × (Nat → Int32) × (Nat → Int32)) (h : X11_wishes v_people v_undoMany v_now v_undos p1 p2 = some r) : Ct l yX11_wishes cX11_wishes 3 (some .int) 3 65 D cy [.ref q0, .int p1, .int p2] [oX11 q0 (.ref q1) (.int v_people) u0_2 u0_3 u0_4 u0_5 (.int v_thrown) u0_7 u0_8 u0_9 u0_10 u0_11 u0_12 u0_13 u0_14 u0_15 u0_16 u0_17 (.ref q2) (.int v_undoMany) u0_20 u0_21 u0_22 u0_23 u0_24 u0_25 u0_26 u0_27 u0_28 u0_29 u0_30 u0_31 u0_32 u0_33 u0_34 u0_35 u0_36 u0_37 u0_38 u0_39 u0_40, aI cy q1 37 v_now, aI cy q2 444 v_undos] (fun _ => [oX11 q0 (.ref q1) (.int v_people) u0_2 u0_3 u0_4 u0_5 (.int r.2.1) u0_7 u0_8 u0_9 u0_10 u0_11 u0_12 u0_13 u0_14 u0_15 u0_16 u0_17 (.ref q2) (.int r.2.2.1) u0_20 u0_21 u0_22 u0_23 u0_24 u0_25 u0_26 u0_27 u0_28 u0_29 u0_30 u0_31 u0_32 u0_33 u0_34 u0_35 u0_36 u0_37 u0_38 u0_39 u0_40, aI cy q1 37 r.2.2.2.1, aI cy q2 444 r.2.2.2.2]) (some (.int r.1)) := by
  refine Ct.mk kX11_wishes (by decide +kernel) (Nat.le_of_ble_eq_true rfl) ?_
  intro p e s m below meth c A ls args R Q hRf hRl hQ E H locs hS hl
  have hx := E.x
  have hb := E.b
  have hl : lv_has ls 3 [(0, .ref q0), (1, .int p1), (2, .int p2)] := hl
  unfold X11_wishes at h
  refine lv_aload_n hx hb dX11_wishes_0 rfl (lv_at hl 0 rfl) ?_
  refine lv_iconst (v := 0) hx hb dX11_wishes_1 (by decide) ?_
  refine r_put (ws' := [oX11 q0 (.ref q1) (.int v_people) u0_2 u0_3 u0_4 u0_5 (.int (0 : Int32)) u0_7 u0_8 u0_9 u0_10 u0_11 u0_12 u0_13 u0_14 u0_15 u0_16 u0_17 (.ref q2) (.int v_undoMany) u0_20 u0_21 u0_22 u0_23 u0_24 u0_25 u0_26 u0_27 u0_28 u0_29 u0_30 u0_31 u0_32 u0_33 u0_34 u0_35 u0_36 u0_37 u0_38 u0_39 u0_40, aI cy q1 37 v_now, aI cy q2 444 v_undos]) E frX11_85 hS 0 rfl (Nat.le_of_ble_eq_true rfl) rfl rfl rfl rfl dX11_wishes_2 (fun H locs hS => ?_)
  refine lv_aload_n hx hb dX11_wishes_5 rfl (lv_at hl 0 rfl) ?_
  refine lv_iload_n hx hb dX11_wishes_6 rfl (lv_at hl 1 rfl) ?_
  refine lv_iload_n hx hb dX11_wishes_7 rfl (lv_at hl 2 rfl) ?_
  obtain ⟨y8, e1, h⟩ := bd_some h
  refine ct_V (ws' := fun _ => [oX11 q0 (.ref q1) (.int v_people) u0_2 u0_3 u0_4 u0_5 (.int (0 : Int32)) u0_7 u0_8 u0_9 u0_10 u0_11 u0_12 u0_13 u0_14 u0_15 u0_16 u0_17 (.ref q2) (.int v_undoMany) u0_20 u0_21 u0_22 u0_23 u0_24 u0_25 u0_26 u0_27 u0_28 u0_29 u0_30 u0_31 u0_32 u0_33 u0_34 u0_35 u0_36 u0_37 u0_38 u0_39 u0_40, aI cy q1 37 v_now, aI cy q2 444 v_undos]) (st' := [.int y8]) (rest := []) E hS vlX11_260 (c_X11_areTwo (l := l) (D := D) (cy := cy) (q0 := q0) (u0_0 := .ref q1) (u0_2 := u0_2) (u0_3 := u0_3) (u0_4 := u0_4) (u0_5 := u0_5) (u0_6 := .int (0 : Int32)) (u0_7 := u0_7) (u0_8 := u0_8) (u0_9 := u0_9) (u0_10 := u0_10) (u0_11 := u0_11) (u0_12 := u0_12) (u0_13 := u0_13) (u0_14 := u0_14) (u0_15 := u0_15) (u0_16 := u0_16) (u0_17 := u0_17) (u0_18 := .ref q2) (u0_19 := .int v_undoMany) (u0_20 := u0_20) (u0_21 := u0_21) (u0_22 := u0_22) (u0_23 := u0_23) (u0_24 := u0_24) (u0_25 := u0_25) (u0_26 := u0_26) (u0_27 := u0_27) (u0_28 := u0_28) (u0_29 := u0_29) (u0_30 := u0_30) (u0_31 := u0_31) (u0_32 := u0_32) (u0_33 := u0_33) (u0_34 := u0_34) (u0_35 := u0_35) (u0_36 := u0_36) (u0_37 := u0_37) (u0_38 := u0_38) (u0_39 := u0_39) (u0_40 := u0_40) (v_people := v_people) (p1 := p1) (p2 := p2) (r := y8) e1) [0] rfl rfl (fun _ => rfl) (fun _ => rfl) rfl rfl rfl rfl (Nat.le_of_ble_eq_true rfl) hl.1 (by rw [hRf]; exact Nat.le_of_ble_eq_true rfl) (by rw [hRl]; exact Nat.le_of_ble_eq_true rfl) ⟨Nat.zero_le _, Nat.zero_le _⟩ dX11_wishes_8 rfl (fun H locs _ hS => ?_)
  refine lv_if_ne (tgt := 16) hx hb dX11_wishes_11 (by decide) (fun c2 => ?_) (fun c2 => ?_)
  · have h := it_neg c2 h
    refine lv_aload_n hx hb dX11_wishes_16 rfl (lv_at hl 0 rfl) ?_
    refine lv_aload_n hx hb dX11_wishes_17 rfl (lv_at hl 0 rfl) ?_
    refine r_get E frX11_9 hS 0 rfl rfl dX11_wishes_18 ?_
    obtain ⟨y21, e3, h⟩ := bd_some h
    refine ct_V (ws' := fun _ => [oX11 q0 (.ref q1) (.int v_people) u0_2 u0_3 u0_4 u0_5 (.int (0 : Int32)) u0_7 u0_8 u0_9 u0_10 u0_11 u0_12 u0_13 u0_14 u0_15 u0_16 u0_17 (.ref q2) (.int y21.1) u0_20 u0_21 u0_22 u0_23 u0_24 u0_25 u0_26 u0_27 u0_28 u0_29 u0_30 u0_31 u0_32 u0_33 u0_34 u0_35 u0_36 u0_37 u0_38 u0_39 u0_40, aI cy q1 37 v_now, aI cy q2 444 y21.2]) (st' := []) (rest := []) E hS vlX11_249 (c_X11_remember (l := l) (D := D) (cy := cy) (q0 := q0) (q1 := q2) (q2 := q1) (u0_0 := .ref q1) (u0_1 := .int v_people) (u0_2 := u0_2) (u0_3 := u0_3) (u0_4 := u0_4) (u0_5 := u0_5) (u0_6 := .int (0 : Int32)) (u0_7 := u0_7) (u0_8 := u0_8) (u0_9 := u0_9) (u0_10 := u0_10) (u0_11 := u0_11) (u0_12 := u0_12) (u0_13 := u0_13) (u0_14 := u0_14) (u0_15 := u0_15) (u0_16 := u0_16) (u0_17 := u0_17) (u0_20 := u0_20) (u0_21 := u0_21) (u0_22 := u0_22) (u0_23 := u0_23) (u0_24 := u0_24) (u0_25 := u0_25) (u0_26 := u0_26) (u0_27 := u0_27) (u0_28 := u0_28) (u0_29 := u0_29) (u0_30 := u0_30) (u0_31 := u0_31) (u0_32 := u0_32) (u0_33 := u0_33) (u0_34 := u0_34) (u0_35 := u0_35) (u0_36 := u0_36) (u0_37 := u0_37) (u0_38 := u0_38) (u0_39 := u0_39) (u0_40 := u0_40) (v_undoMany := v_undoMany) (v_undos := v_undos) (nw1_ := 37) (w1_ := v_now) (r := y21) e3) [0, 2, 1] rfl rfl (fun _ => rfl) (fun _ => rfl) rfl rfl rfl rfl (Nat.le_of_ble_eq_true rfl) hl.1 (by rw [hRf]; exact Nat.le_of_ble_eq_true rfl) (by rw [hRl]; exact Nat.le_of_ble_eq_true rfl) ⟨Nat.zero_le _, Nat.zero_le _⟩ dX11_wishes_21 rfl (fun H locs _ hS => ?_)
    refine lv_aload_n hx hb dX11_wishes_24 rfl (lv_at hl 0 rfl) ?_
    refine r_get E frX11_9 hS 0 rfl rfl dX11_wishes_25 ?_
    refine lv_bipush (v := 28) hx hb dX11_wishes_28 (by decide) ?_
    refine lv_iload_n hx hb dX11_wishes_30 rfl (lv_at hl 1 rfl) ?_
    refine lv_iadd hx hb dX11_wishes_31 ?_
    refine lv_dup2_11 hx hb dX11_wishes_32 rfl rfl ?_
    obtain ⟨g4, h⟩ := gi_some h
    refine r_iald E hS 1 rfl g4 dX11_wishes_33 ?_
    refine lv_iconst (v := 1) hx hb dX11_wishes_34 (by decide) ?_
    refine lv_iload_n hx hb dX11_wishes_35 rfl (lv_at hl 2 rfl) ?_
    refine lv_ishl hx hb dX11_wishes_36 ?_
    refine lv_ixor hx hb dX11_wishes_37 ?_
    obtain ⟨g5, h⟩ := gi_some h
    refine r_iast (ws' := [oX11 q0 (.ref q1) (.int v_people) u0_2 u0_3 u0_4 u0_5 (.int (0 : Int32)) u0_7 u0_8 u0_9 u0_10 u0_11 u0_12 u0_13 u0_14 u0_15 u0_16 u0_17 (.ref q2) (.int y21.1) u0_20 u0_21 u0_22 u0_23 u0_24 u0_25 u0_26 u0_27 u0_28 u0_29 u0_30 u0_31 u0_32 u0_33 u0_34 u0_35 u0_36 u0_37 u0_38 u0_39 u0_40, aI cy q1 37 (upd v_now ((28 : Int32) + p1).toNatClampNeg ((v_now ((28 : Int32) + p1).toNatClampNeg) ^^^ ((1 : Int32) <<< (p2 &&& 31)))), aI cy q2 444 y21.2]) E hS 1 rfl g5 rfl dX11_wishes_38 (fun H locs hS => ?_)
    refine lv_aload_n hx hb dX11_wishes_39 rfl (lv_at hl 0 rfl) ?_
    refine r_get E frX11_9 hS 0 rfl rfl dX11_wishes_40 ?_
    refine lv_bipush (v := 28) hx hb dX11_wishes_43 (by decide) ?_
    refine lv_iload_n hx hb dX11_wishes_45 rfl (lv_at hl 1 rfl) ?_
    refine lv_iadd hx hb dX11_wishes_46 ?_
    obtain ⟨g6, h⟩ := gi_some h
    refine r_iald E hS 1 rfl g6 dX11_wishes_47 ?_
    obtain rfl := Option.some.inj h
    exact rt_i E hQ (.null) hS dX11_wishes_48
  · have h := it_pos c2 h
    refine lv_iconst (v := -1) hx hb dX11_wishes_14 (by decide) ?_
    obtain rfl := Option.some.inj h
    exact rt_i E hQ (.null) hS dX11_wishes_15
set_option maxHeartbeats 4000000 in
set_option maxRecDepth 100000 in
theorem c_X11_refusesPills {l : Launch} {D : va_G} {cy : Nat → ClassId} (q0 : Nat) (q1 : Nat) (u0_2 : Value) (u0_3 : Value) (u0_4 : Value) (u0_5 : Value) (u0_6 : Value) (u0_7 : Value) (u0_8 : Value) (u0_9 : Value) (u0_10 : Value) (u0_11 : Value) (u0_12 : Value) (u0_13 : Value) (u0_14 : Value) (u0_15 : Value) (u0_16 : Value) (u0_17 : Value) (u0_18 : Value) (u0_19 : Value) (u0_20 : Value) (u0_21 : Value) (u0_22 : Value) (u0_23 : Value) (u0_24 : Value) (u0_25 : Value) (u0_26 : Value) (u0_27 : Value) (u0_28 : Value) (u0_29 : Value) (u0_30 : Value) (u0_31 : Value) (u0_32 : Value) (u0_33 : Value) (u0_34 : Value) (u0_35 : Value) (u0_36 : Value) (u0_37 : Value) (u0_38 : Value) (u0_39 : Value) (u0_40 : Value) (v_people : Int32) (v_now : Nat → Int32) (p1 : Int32) (p2 : Int32) (r : Int32) (h : X11_refusesPills v_people v_now p1 p2 = some r) : Ct l yX11_refusesPills cX11_refusesPills 3 (some .int) 2 43 D cy [.ref q0, .int p1, .int p2] [oX11 q0 (.ref q1) (.int v_people) u0_2 u0_3 u0_4 u0_5 u0_6 u0_7 u0_8 u0_9 u0_10 u0_11 u0_12 u0_13 u0_14 u0_15 u0_16 u0_17 u0_18 u0_19 u0_20 u0_21 u0_22 u0_23 u0_24 u0_25 u0_26 u0_27 u0_28 u0_29 u0_30 u0_31 u0_32 u0_33 u0_34 u0_35 u0_36 u0_37 u0_38 u0_39 u0_40, aI cy q1 37 v_now] (fun _ => [oX11 q0 (.ref q1) (.int v_people) u0_2 u0_3 u0_4 u0_5 u0_6 u0_7 u0_8 u0_9 u0_10 u0_11 u0_12 u0_13 u0_14 u0_15 u0_16 u0_17 u0_18 u0_19 u0_20 u0_21 u0_22 u0_23 u0_24 u0_25 u0_26 u0_27 u0_28 u0_29 u0_30 u0_31 u0_32 u0_33 u0_34 u0_35 u0_36 u0_37 u0_38 u0_39 u0_40, aI cy q1 37 v_now]) (some (.int r)) := by
  refine Ct.mk kX11_refusesPills (by decide +kernel) (Nat.le_of_ble_eq_true rfl) ?_
  intro p e s m below meth c A ls args R Q hRf hRl hQ E H locs hS hl
  have hx := E.x
  have hb := E.b
  have hl : lv_has ls 3 [(0, .ref q0), (1, .int p1), (2, .int p2)] := hl
  unfold X11_refusesPills at h
  refine lv_aload_n hx hb dX11_refusesPills_0 rfl (lv_at hl 0 rfl) ?_
  refine lv_iload_n hx hb dX11_refusesPills_1 rfl (lv_at hl 1 rfl) ?_
  obtain ⟨y2, e1, h⟩ := bd_some h
  refine ct_V (ws' := fun _ => [oX11 q0 (.ref q1) (.int v_people) u0_2 u0_3 u0_4 u0_5 u0_6 u0_7 u0_8 u0_9 u0_10 u0_11 u0_12 u0_13 u0_14 u0_15 u0_16 u0_17 u0_18 u0_19 u0_20 u0_21 u0_22 u0_23 u0_24 u0_25 u0_26 u0_27 u0_28 u0_29 u0_30 u0_31 u0_32 u0_33 u0_34 u0_35 u0_36 u0_37 u0_38 u0_39 u0_40, aI cy q1 37 v_now]) (st' := [.int y2]) (rest := []) E hS vlX11_99 (c_X11_isOne (l := l) (D := D) (cy := cy) (q0 := q0) (u0_0 := .ref q1) (u0_2 := u0_2) (u0_3 := u0_3) (u0_4 := u0_4) (u0_5 := u0_5) (u0_6 := u0_6) (u0_7 := u0_7) (u0_8 := u0_8) (u0_9 := u0_9) (u0_10 := u0_10) (u0_11 := u0_11) (u0_12 := u0_12) (u0_13 := u0_13) (u0_14 := u0_14) (u0_15 := u0_15) (u0_16 := u0_16) (u0_17 := u0_17) (u0_18 := u0_18) (u0_19 := u0_19) (u0_20 := u0_20) (u0_21 := u0_21) (u0_22 := u0_22) (u0_23 := u0_23) (u0_24 := u0_24) (u0_25 := u0_25) (u0_26 := u0_26) (u0_27 := u0_27) (u0_28 := u0_28) (u0_29 := u0_29) (u0_30 := u0_30) (u0_31 := u0_31) (u0_32 := u0_32) (u0_33 := u0_33) (u0_34 := u0_34) (u0_35 := u0_35) (u0_36 := u0_36) (u0_37 := u0_37) (u0_38 := u0_38) (u0_39 := u0_39) (u0_40 := u0_40) (v_people := v_people) (p1 := p1) (r := y2) e1) [0] rfl rfl (fun _ => rfl) (fun _ => rfl) rfl rfl rfl rfl (Nat.le_of_ble_eq_true rfl) hl.1 (by rw [hRf]; exact Nat.le_of_ble_eq_true rfl) (by rw [hRl]; exact Nat.le_of_ble_eq_true rfl) ⟨Nat.zero_le _, Nat.zero_le _⟩ dX11_refusesPills_2 rfl (fun H locs _ hS => ?_)
  refine lv_if_eq (tgt := 18) hx hb dX11_refusesPills_5 (by decide) (fun c2 => ?_) (fun c2 => ?_)
  · have h := it_pos c2 h
    refine lv_iconst (v := -1) hx hb dX11_refusesPills_18 (by decide) ?_
    obtain rfl := Option.some.inj h
    exact rt_i E hQ (.null) hS dX11_refusesPills_19
  · have h := it_neg c2 h
    refine lv_iload_n hx hb dX11_refusesPills_8 rfl (lv_at hl 2 rfl) ?_
    refine lv_iconst (v := 1) hx hb dX11_refusesPills_9 (by decide) ?_
    refine lv_bipush (v := 9) hx hb dX11_refusesPills_10 (by decide) ?_
    refine ct_S (ws' := fun _ => [oX11 q0 (.ref q1) (.int v_people) u0_2 u0_3 u0_4 u0_5 u0_6 u0_7 u0_8 u0_9 u0_10 u0_11 u0_12 u0_13 u0_14 u0_15 u0_16 u0_17 u0_18 u0_19 u0_20 u0_21 u0_22 u0_23 u0_24 u0_25 u0_26 u0_27 u0_28 u0_29 u0_30 u0_31 u0_32 u0_33 u0_34 u0_35 u0_36 u0_37 u0_38 u0_39 u0_40, aI cy q1 37 v_now]) (st' := [.int (X11_in p2 (1 : Int32) (9 : Int32))]) (rest := []) E hS slX11_95 (c_X11_in (l := l) (D := D) (cy := cy) (p0 := p2) (p1 := (1 : Int32)) (p2 := (9 : Int32)) (r := (X11_in p2 (1 : Int32) (9 : Int32))) rfl) [] rfl rfl (fun _ => rfl) (fun _ => rfl) rfl rfl (Nat.le_of_ble_eq_true rfl) hl.1 (by rw [hRf]; exact Nat.le_of_ble_eq_true rfl) (by rw [hRl]; exact Nat.le_of_ble_eq_true rfl) ⟨Nat.zero_le _, Nat.zero_le _⟩ dX11_refusesPills_12 rfl (fun H locs _ hS => ?_)
    refine lv_if_ne (tgt := 20) hx hb dX11_refusesPills_15 (by decide) (fun c3 => ?_) (fun c3 => ?_)
    · have h := it_neg c3 h
      refine lv_aload_n hx hb dX11_refusesPills_20 rfl (lv_at hl 0 rfl) ?_
      refine r_get E frX11_9 hS 0 rfl rfl dX11_refusesPills_21 ?_
      refine lv_bipush (v := 7) hx hb dX11_refusesPills_24 (by decide) ?_
      refine lv_iload_n hx hb dX11_refusesPills_26 rfl (lv_at hl 1 rfl) ?_
      refine lv_iadd hx hb dX11_refusesPills_27 ?_
      obtain ⟨g4, h⟩ := gi_some h
      refine r_iald E hS 1 rfl g4 dX11_refusesPills_28 ?_
      refine lv_iload_n hx hb dX11_refusesPills_29 rfl (lv_at hl 2 rfl) ?_
      refine lv_iadd hx hb dX11_refusesPills_30 ?_
      refine lv_bipush (v := 9) hx hb dX11_refusesPills_31 (by decide) ?_
      have hJ42 : ∀ (s42_0 : Int32) (ls : Array Slot), s42_0 = (if ((v_now ((7 : Int32) + p1).toNatClampNeg) + p2) ≤ (9 : Int32) then (0 : Int32) else (-2 : Int32)) → lv_has ls 3 [] → W p l e R s m args below meth c H locs 0 0 Q (F0 m 42 ls [.int s42_0]) := by
        intro s42_0 ls es42_0 hl
        subst es42_0
        obtain rfl := Option.some.inj h
        exact rt_i E hQ (.null) hS dX11_refusesPills_42
      refine lv_icmp_le (tgt := 41) hx hb dX11_refusesPills_33 (by decide) (fun c5 => ?_) (fun c5 => ?_)
      · refine lv_iconst (v := 0) hx hb dX11_refusesPills_41 (by decide) ?_
        exact hJ42 _ ls ((if_pos c5)).symm (lv_sub hl [] rfl)
      · refine lv_bipush (v := -2) hx hb dX11_refusesPills_36 (by decide) ?_
        refine lv_goto (tgt := 42) hx hb dX11_refusesPills_38 (by decide) ?_
        exact hJ42 _ ls ((if_neg c5)).symm (lv_sub hl [] rfl)
    · have h := it_pos c3 h
      refine lv_iconst (v := -1) hx hb dX11_refusesPills_18 (by decide) ?_
      obtain rfl := Option.some.inj h
      exact rt_i E hQ (.null) hS dX11_refusesPills_19
set_option maxHeartbeats 4000000 in
set_option maxRecDepth 100000 in
theorem c_X11_pills {l : Launch} {D : va_G} {cy : Nat → ClassId} (q0 : Nat) (q1 : Nat) (q2 : Nat) (u0_2 : Value) (u0_3 : Value) (u0_4 : Value) (u0_5 : Value) (u0_7 : Value) (u0_8 : Value) (u0_9 : Value) (u0_10 : Value) (u0_11 : Value) (u0_12 : Value) (u0_13 : Value) (u0_14 : Value) (u0_15 : Value) (u0_16 : Value) (u0_17 : Value) (u0_20 : Value) (u0_21 : Value) (u0_22 : Value) (u0_23 : Value) (u0_24 : Value) (u0_25 : Value) (u0_26 : Value) (u0_27 : Value) (u0_28 : Value) (u0_29 : Value) (u0_30 : Value) (u0_31 : Value) (u0_32 : Value) (u0_33 : Value) (u0_34 : Value) (u0_35 : Value) (u0_36 : Value) (u0_37 : Value) (u0_38 : Value) (u0_39 : Value) (u0_40 : Value) (v_people : Int32) (v_thrown : Int32) (v_undoMany : Int32) (v_now : Nat → Int32) (v_undos : Nat → Int32) (p1 : Int32) (p2 : Int32) (r : Int32 × Int32 × Int32 × (Nat → Int32) × (Nat → Int32)) (h : X11_pills v_people v_undoMany v_now v_undos p1 p2 = some r) : Ct l yX11_pills cX11_pills 4 (some .int) 3 65 D cy [.ref q0, .int p1, .int p2] [oX11 q0 (.ref q1) (.int v_people) u0_2 u0_3 u0_4 u0_5 (.int v_thrown) u0_7 u0_8 u0_9 u0_10 u0_11 u0_12 u0_13 u0_14 u0_15 u0_16 u0_17 (.ref q2) (.int v_undoMany) u0_20 u0_21 u0_22 u0_23 u0_24 u0_25 u0_26 u0_27 u0_28 u0_29 u0_30 u0_31 u0_32 u0_33 u0_34 u0_35 u0_36 u0_37 u0_38 u0_39 u0_40, aI cy q1 37 v_now, aI cy q2 444 v_undos] (fun _ => [oX11 q0 (.ref q1) (.int v_people) u0_2 u0_3 u0_4 u0_5 (.int r.2.1) u0_7 u0_8 u0_9 u0_10 u0_11 u0_12 u0_13 u0_14 u0_15 u0_16 u0_17 (.ref q2) (.int r.2.2.1) u0_20 u0_21 u0_22 u0_23 u0_24 u0_25 u0_26 u0_27 u0_28 u0_29 u0_30 u0_31 u0_32 u0_33 u0_34 u0_35 u0_36 u0_37 u0_38 u0_39 u0_40, aI cy q1 37 r.2.2.2.1, aI cy q2 444 r.2.2.2.2]) (some (.int r.1)) := by
  refine Ct.mk kX11_pills (by decide +kernel) (Nat.le_of_ble_eq_true rfl) ?_
  intro p e s m below meth c A ls args R Q hRf hRl hQ E H locs hS hl
  have hx := E.x
  have hb := E.b
  have hl : lv_has ls 4 [(0, .ref q0), (1, .int p1), (2, .int p2)] := hl
  unfold X11_pills at h
  refine lv_aload_n hx hb dX11_pills_0 rfl (lv_at hl 0 rfl) ?_
  refine lv_iconst (v := 0) hx hb dX11_pills_1 (by decide) ?_
  refine r_put (ws' := [oX11 q0 (.ref q1) (.int v_people) u0_2 u0_3 u0_4 u0_5 (.int (0 : Int32)) u0_7 u0_8 u0_9 u0_10 u0_11 u0_12 u0_13 u0_14 u0_15 u0_16 u0_17 (.ref q2) (.int v_undoMany) u0_20 u0_21 u0_22 u0_23 u0_24 u0_25 u0_26 u0_27 u0_28 u0_29 u0_30 u0_31 u0_32 u0_33 u0_34 u0_35 u0_36 u0_37 u0_38 u0_39 u0_40, aI cy q1 37 v_now, aI cy q2 444 v_undos]) E frX11_85 hS 0 rfl (Nat.le_of_ble_eq_true rfl) rfl rfl rfl rfl dX11_pills_2 (fun H locs hS => ?_)
  refine lv_aload_n hx hb dX11_pills_5 rfl (lv_at hl 0 rfl) ?_
  refine lv_iload_n hx hb dX11_pills_6 rfl (lv_at hl 1 rfl) ?_
  refine lv_iload_n hx hb dX11_pills_7 rfl (lv_at hl 2 rfl) ?_
  obtain ⟨y8, e1, h⟩ := bd_some h
  refine ct_V (ws' := fun _ => [oX11 q0 (.ref q1) (.int v_people) u0_2 u0_3 u0_4 u0_5 (.int (0 : Int32)) u0_7 u0_8 u0_9 u0_10 u0_11 u0_12 u0_13 u0_14 u0_15 u0_16 u0_17 (.ref q2) (.int v_undoMany) u0_20 u0_21 u0_22 u0_23 u0_24 u0_25 u0_26 u0_27 u0_28 u0_29 u0_30 u0_31 u0_32 u0_33 u0_34 u0_35 u0_36 u0_37 u0_38 u0_39 u0_40, aI cy q1 37 v_now, aI cy q2 444 v_undos]) (st' := [.int y8]) (rest := []) E hS vlX11_263 (c_X11_refusesPills (l := l) (D := D) (cy := cy) (q0 := q0) (q1 := q1) (u0_2 := u0_2) (u0_3 := u0_3) (u0_4 := u0_4) (u0_5 := u0_5) (u0_6 := .int (0 : Int32)) (u0_7 := u0_7) (u0_8 := u0_8) (u0_9 := u0_9) (u0_10 := u0_10) (u0_11 := u0_11) (u0_12 := u0_12) (u0_13 := u0_13) (u0_14 := u0_14) (u0_15 := u0_15) (u0_16 := u0_16) (u0_17 := u0_17) (u0_18 := .ref q2) (u0_19 := .int v_undoMany) (u0_20 := u0_20) (u0_21 := u0_21) (u0_22 := u0_22) (u0_23 := u0_23) (u0_24 := u0_24) (u0_25 := u0_25) (u0_26 := u0_26) (u0_27 := u0_27) (u0_28 := u0_28) (u0_29 := u0_29) (u0_30 := u0_30) (u0_31 := u0_31) (u0_32 := u0_32) (u0_33 := u0_33) (u0_34 := u0_34) (u0_35 := u0_35) (u0_36 := u0_36) (u0_37 := u0_37) (u0_38 := u0_38) (u0_39 := u0_39) (u0_40 := u0_40) (v_people := v_people) (v_now := v_now) (p1 := p1) (p2 := p2) (r := y8) e1) [0, 1] rfl rfl (fun _ => rfl) (fun _ => rfl) rfl rfl rfl rfl (Nat.le_of_ble_eq_true rfl) hl.1 (by rw [hRf]; exact Nat.le_of_ble_eq_true rfl) (by rw [hRl]; exact Nat.le_of_ble_eq_true rfl) ⟨Nat.zero_le _, Nat.zero_le _⟩ dX11_pills_8 rfl (fun H locs _ hS => ?_)
  refine lv_istore_n (lv' := [(3, .int y8), (0, .ref q0), (1, .int p1), (2, .int p2)]) hx hb dX11_pills_11 rfl hl (by decide) rfl (fun ls hl => ?_)
  refine lv_iload_n hx hb dX11_pills_12 rfl (lv_at hl 0 rfl) ?_
  refine lv_if_ge (tgt := 18) hx hb dX11_pills_13 (by decide) (fun c2 => ?_) (fun c2 => ?_)
  · have h := it_pos c2 h
    refine lv_aload_n hx hb dX11_pills_18 rfl (lv_at hl 1 rfl) ?_
    refine lv_aload_n hx hb dX11_pills_19 rfl (lv_at hl 1 rfl) ?_
    refine r_get E frX11_9 hS 0 rfl rfl dX11_pills_20 ?_
    obtain ⟨y23, e3, h⟩ := bd_some h
    refine ct_V (ws' := fun _ => [oX11 q0 (.ref q1) (.int v_people) u0_2 u0_3 u0_4 u0_5 (.int (0 : Int32)) u0_7 u0_8 u0_9 u0_10 u0_11 u0_12 u0_13 u0_14 u0_15 u0_16 u0_17 (.ref q2) (.int y23.1) u0_20 u0_21 u0_22 u0_23 u0_24 u0_25 u0_26 u0_27 u0_28 u0_29 u0_30 u0_31 u0_32 u0_33 u0_34 u0_35 u0_36 u0_37 u0_38 u0_39 u0_40, aI cy q1 37 v_now, aI cy q2 444 y23.2]) (st' := []) (rest := []) E hS vlX11_249 (c_X11_remember (l := l) (D := D) (cy := cy) (q0 := q0) (q1 := q2) (q2 := q1) (u0_0 := .ref q1) (u0_1 := .int v_people) (u0_2 := u0_2) (u0_3 := u0_3) (u0_4 := u0_4) (u0_5 := u0_5) (u0_6 := .int (0 : Int32)) (u0_7 := u0_7) (u0_8 := u0_8) (u0_9 := u0_9) (u0_10 := u0_10) (u0_11 := u0_11) (u0_12 := u0_12) (u0_13 := u0_13) (u0_14 := u0_14) (u0_15 := u0_15) (u0_16 := u0_16) (u0_17 := u0_17) (u0_20 := u0_20) (u0_21 := u0_21) (u0_22 := u0_22) (u0_23 := u0_23) (u0_24 := u0_24) (u0_25 := u0_25) (u0_26 := u0_26) (u0_27 := u0_27) (u0_28 := u0_28) (u0_29 := u0_29) (u0_30 := u0_30) (u0_31 := u0_31) (u0_32 := u0_32) (u0_33 := u0_33) (u0_34 := u0_34) (u0_35 := u0_35) (u0_36 := u0_36) (u0_37 := u0_37) (u0_38 := u0_38) (u0_39 := u0_39) (u0_40 := u0_40) (v_undoMany := v_undoMany) (v_undos := v_undos) (nw1_ := 37) (w1_ := v_now) (r := y23) e3) [0, 2, 1] rfl rfl (fun _ => rfl) (fun _ => rfl) rfl rfl rfl rfl (Nat.le_of_ble_eq_true rfl) hl.1 (by rw [hRf]; exact Nat.le_of_ble_eq_true rfl) (by rw [hRl]; exact Nat.le_of_ble_eq_true rfl) ⟨Nat.zero_le _, Nat.zero_le _⟩ dX11_pills_23 rfl (fun H locs _ hS => ?_)
    refine lv_aload_n hx hb dX11_pills_26 rfl (lv_at hl 1 rfl) ?_
    refine r_get E frX11_9 hS 0 rfl rfl dX11_pills_27 ?_
    refine lv_bipush (v := 7) hx hb dX11_pills_30 (by decide) ?_
    refine lv_iload_n hx hb dX11_pills_32 rfl (lv_at hl 2 rfl) ?_
    refine lv_iadd hx hb dX11_pills_33 ?_
    refine lv_dup2_11 hx hb dX11_pills_34 rfl rfl ?_
    obtain ⟨g4, h⟩ := gi_some h
    refine r_iald E hS 1 rfl g4 dX11_pills_35 ?_
    refine lv_iload_n hx hb dX11_pills_36 rfl (lv_at hl 3 rfl) ?_
    refine lv_iadd hx hb dX11_pills_37 ?_
    obtain ⟨g5, h⟩ := gi_some h
    refine r_iast (ws' := [oX11 q0 (.ref q1) (.int v_people) u0_2 u0_3 u0_4 u0_5 (.int (0 : Int32)) u0_7 u0_8 u0_9 u0_10 u0_11 u0_12 u0_13 u0_14 u0_15 u0_16 u0_17 (.ref q2) (.int y23.1) u0_20 u0_21 u0_22 u0_23 u0_24 u0_25 u0_26 u0_27 u0_28 u0_29 u0_30 u0_31 u0_32 u0_33 u0_34 u0_35 u0_36 u0_37 u0_38 u0_39 u0_40, aI cy q1 37 (upd v_now ((7 : Int32) + p1).toNatClampNeg ((v_now ((7 : Int32) + p1).toNatClampNeg) + p2)), aI cy q2 444 y23.2]) E hS 1 rfl g5 rfl dX11_pills_38 (fun H locs hS => ?_)
    refine lv_aload_n hx hb dX11_pills_39 rfl (lv_at hl 1 rfl) ?_
    refine r_get E frX11_9 hS 0 rfl rfl dX11_pills_40 ?_
    refine lv_bipush (v := 7) hx hb dX11_pills_43 (by decide) ?_
    refine lv_iload_n hx hb dX11_pills_45 rfl (lv_at hl 2 rfl) ?_
    refine lv_iadd hx hb dX11_pills_46 ?_
    obtain ⟨g6, h⟩ := gi_some h
    refine r_iald E hS 1 rfl g6 dX11_pills_47 ?_
    obtain rfl := Option.some.inj h
    exact rt_i E hQ (.null) hS dX11_pills_48
  · have h := it_neg c2 h
    refine lv_iload_n hx hb dX11_pills_16 rfl (lv_at hl 0 rfl) ?_
    obtain rfl := Option.some.inj h
    exact rt_i E hQ (.null) hS dX11_pills_17

