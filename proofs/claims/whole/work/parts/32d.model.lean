set_option maxHeartbeats 4000000 in
set_option maxRecDepth 100000 in
theorem c_X11_steps {l : Launch} {D : va_G} {cy : Nat → ClassId} (q0 : Nat) (q1 : Nat) (q2 : Nat) (q3 : Nat) (q4 : Nat) (q5 : Nat) (u0_2 : Value) (u0_3 : Value) (u0_7 : Value) (u0_12 : Value) (u0_14 : Value) (u0_18 : Value) (u0_19 : Value) (u0_20 : Value) (u0_22 : Value) (u0_23 : Value) (u0_24 : Value) (u0_25 : Value) (u0_26 : Value) (u0_27 : Value) (u0_28 : Value) (u0_29 : Value) (u0_30 : Value) (u0_31 : Value) (u0_32 : Value) (u0_33 : Value) (u0_34 : Value) (u0_35 : Value) (u0_36 : Value) (u0_37 : Value) (u0_38 : Value) (u0_39 : Value) (u0_40 : Value) (v_people : Int32) (v_rowMany : Int32) (v_thrown : Int32) (v_length : Int32) (v_top : Int32) (v_at : Int32) (v_wrong : Int32) (v_ruleSize : Int32) (v_isAsked : Int32) (v_now : Nat → Int32) (v_row : Nat → Int64) (v_rule : Nat → Int32) (v_asked : Nat → Int32) (v_then : Nat → Int32) (p1 : Int32) (r : Int32 × Int32 × Int32 × Int32 × Int32 × Int32 × Int32 × Int32 × (Nat → Int64) × (Nat → Int32) × (Nat → Int32)) (h : X11_steps v_people v_rowMany v_length v_top v_at v_wrong v_ruleSize v_isAsked v_now v_row v_rule v_asked v_then p1 = some r) : Ct l yX11_steps cX11_steps 5 (some .int) 108 2580 D cy [.ref q0, .int p1] [oX11 q0 (.ref q1) (.int v_people) u0_2 u0_3 (.ref q2) (.int v_rowMany) (.int v_thrown) u0_7 (.int v_length) (.int v_top) (.int v_at) (.int v_wrong) u0_12 (.ref q3) u0_14 (.int v_ruleSize) (.int v_isAsked) (.ref q4) u0_18 u0_19 u0_20 (.ref q5) u0_22 u0_23 u0_24 u0_25 u0_26 u0_27 u0_28 u0_29 u0_30 u0_31 u0_32 u0_33 u0_34 u0_35 u0_36 u0_37 u0_38 u0_39 u0_40, aI cy q1 37 v_now, aJ cy q2 16 v_row, aB cy q3 40 v_rule, aI cy q4 7 v_asked, aI cy q5 37 v_then] (fun rv => [oX11 q0 (.ref q1) (.int v_people) u0_2 u0_3 (.ref q2) (.int r.2.1) (.int r.2.2.1) rv (.int r.2.2.2.1) (.int r.2.2.2.2.1) (.int r.2.2.2.2.2.1) (.int r.2.2.2.2.2.2.1) u0_12 (.ref q3) u0_14 (.int v_ruleSize) (.int r.2.2.2.2.2.2.2.1) (.ref q4) u0_18 u0_19 u0_20 (.ref q5) u0_22 u0_23 u0_24 u0_25 u0_26 u0_27 u0_28 u0_29 u0_30 u0_31 u0_32 u0_33 u0_34 u0_35 u0_36 u0_37 u0_38 u0_39 u0_40, aI cy q1 37 v_now, aJ cy q2 16 r.2.2.2.2.2.2.2.2.1, aB cy q3 40 v_rule, aI cy q4 7 r.2.2.2.2.2.2.2.2.2.1, aI cy q5 37 r.2.2.2.2.2.2.2.2.2.2]) (some (.int r.1)) := by
  refine Ct.mk kX11_steps (by decide +kernel) (Nat.le_of_ble_eq_true rfl) ?_
  intro p e s m below meth c A ls args R Q hRf hRl hQ E H locs hS hl
  have hx := E.x
  have hb := E.b
  have hl : lv_has ls 5 [(0, .ref q0), (1, .int p1)] := hl
  unfold X11_steps at h
  refine lv_aload_n hx hb dX11_steps_0 rfl (lv_at hl 0 rfl) ?_
  refine lv_iconst (v := 0) hx hb dX11_steps_1 (by decide) ?_
  refine r_put (ws' := [oX11 q0 (.ref q1) (.int v_people) u0_2 u0_3 (.ref q2) (.int v_rowMany) (.int (0 : Int32)) u0_7 (.int v_length) (.int v_top) (.int v_at) (.int v_wrong) u0_12 (.ref q3) u0_14 (.int v_ruleSize) (.int v_isAsked) (.ref q4) u0_18 u0_19 u0_20 (.ref q5) u0_22 u0_23 u0_24 u0_25 u0_26 u0_27 u0_28 u0_29 u0_30 u0_31 u0_32 u0_33 u0_34 u0_35 u0_36 u0_37 u0_38 u0_39 u0_40, aI cy q1 37 v_now, aJ cy q2 16 v_row, aB cy q3 40 v_rule, aI cy q4 7 v_asked, aI cy q5 37 v_then]) E frX11_85 hS 0 rfl (Nat.le_of_ble_eq_true rfl) rfl rfl rfl rfl dX11_steps_2 (fun H locs hS => ?_)
  refine lv_aload_n hx hb dX11_steps_5 rfl (lv_at hl 0 rfl) ?_
  refine lv_iload_n hx hb dX11_steps_6 rfl (lv_at hl 1 rfl) ?_
  obtain ⟨y7, e1, h⟩ := bd_some h
  refine ct_V (ws' := fun _ => [oX11 q0 (.ref q1) (.int v_people) u0_2 u0_3 (.ref q2) (.int v_rowMany) (.int (0 : Int32)) u0_7 (.int v_length) (.int v_top) (.int v_at) (.int v_wrong) u0_12 (.ref q3) u0_14 (.int v_ruleSize) (.int v_isAsked) (.ref q4) u0_18 u0_19 u0_20 (.ref q5) u0_22 u0_23 u0_24 u0_25 u0_26 u0_27 u0_28 u0_29 u0_30 u0_31 u0_32 u0_33 u0_34 u0_35 u0_36 u0_37 u0_38 u0_39 u0_40, aI cy q1 37 v_now, aJ cy q2 16 v_row, aB cy q3 40 v_rule, aI cy q4 7 v_asked, aI cy q5 37 v_then]) (st' := [.int y7]) (rest := []) E hS vlX11_99 (c_X11_isOne (l := l) (D := D) (cy := cy) (q0 := q0) (u0_0 := .ref q1) (u0_2 := u0_2) (u0_3 := u0_3) (u0_4 := .ref q2) (u0_5 := .int v_rowMany) (u0_6 := .int (0 : Int32)) (u0_7 := u0_7) (u0_8 := .int v_length) (u0_9 := .int v_top) (u0_10 := .int v_at) (u0_11 := .int v_wrong) (u0_12 := u0_12) (u0_13 := .ref q3) (u0_14 := u0_14) (u0_15 := .int v_ruleSize) (u0_16 := .int v_isAsked) (u0_17 := .ref q4) (u0_18 := u0_18) (u0_19 := u0_19) (u0_20 := u0_20) (u0_21 := .ref q5) (u0_22 := u0_22) (u0_23 := u0_23) (u0_24 := u0_24) (u0_25 := u0_25) (u0_26 := u0_26) (u0_27 := u0_27) (u0_28 := u0_28) (u0_29 := u0_29) (u0_30 := u0_30) (u0_31 := u0_31) (u0_32 := u0_32) (u0_33 := u0_33) (u0_34 := u0_34) (u0_35 := u0_35) (u0_36 := u0_36) (u0_37 := u0_37) (u0_38 := u0_38) (u0_39 := u0_39) (u0_40 := u0_40) (v_people := v_people) (p1 := p1) (r := y7) e1) [0] rfl rfl (fun _ => rfl) (fun _ => rfl) rfl rfl rfl rfl (Nat.le_of_ble_eq_true rfl) hl.1 (by rw [hRf]; exact Nat.le_of_ble_eq_true rfl) (by rw [hRl]; exact Nat.le_of_ble_eq_true rfl) ⟨Nat.zero_le _, Nat.zero_le _⟩ dX11_steps_7 rfl (fun H locs _ hS => ?_)
  refine lv_if_ne (tgt := 15) hx hb dX11_steps_10 (by decide) (fun c2 => ?_) (fun c2 => ?_)
  · have h := it_neg c2 h
    refine lv_aload_n hx hb dX11_steps_15 rfl (lv_at hl 0 rfl) ?_
    refine lv_aload_n hx hb dX11_steps_16 rfl (lv_at hl 0 rfl) ?_
    refine r_get E frX11_9 hS 0 rfl rfl dX11_steps_17 ?_
    refine lv_iload_n hx hb dX11_steps_20 rfl (lv_at hl 1 rfl) ?_
    obtain ⟨y21, e3, h⟩ := bd_some h
    refine ct_V (ws' := fun rc4 => [oX11 q0 (.ref q1) (.int v_people) u0_2 u0_3 (.ref q2) (.int v_rowMany) (.int (0 : Int32)) rc4 (.int y21.2.1) (.int y21.2.2.1) (.int y21.2.2.2.1) (.int y21.2.2.2.2.1) u0_12 (.ref q3) u0_14 (.int v_ruleSize) (.int y21.2.2.2.2.2.1) (.ref q4) u0_18 u0_19 u0_20 (.ref q5) u0_22 u0_23 u0_24 u0_25 u0_26 u0_27 u0_28 u0_29 u0_30 u0_31 u0_32 u0_33 u0_34 u0_35 u0_36 u0_37 u0_38 u0_39 u0_40, aI cy q1 37 v_now, aJ cy q2 16 v_row, aB cy q3 40 v_rule, aI cy q4 7 y21.2.2.2.2.2.2, aI cy q5 37 v_then]) (st' := [.int y21.1]) (rest := []) E hS vlX11_216 (c_X11_isAwake (l := l) (D := D) (cy := cy) (q0 := q0) (q1 := q3) (q2 := q4) (q3 := q1) (u0_0 := .ref q1) (u0_2 := u0_2) (u0_3 := u0_3) (u0_4 := .ref q2) (u0_5 := .int v_rowMany) (u0_6 := .int (0 : Int32)) (u0_7 := u0_7) (u0_12 := u0_12) (u0_14 := u0_14) (u0_18 := u0_18) (u0_19 := u0_19) (u0_20 := u0_20) (u0_21 := .ref q5) (u0_22 := u0_22) (u0_23 := u0_23) (u0_24 := u0_24) (u0_25 := u0_25) (u0_26 := u0_26) (u0_27 := u0_27) (u0_28 := u0_28) (u0_29 := u0_29) (u0_30 := u0_30) (u0_31 := u0_31) (u0_32 := u0_32) (u0_33 := u0_33) (u0_34 := u0_34) (u0_35 := u0_35) (u0_36 := u0_36) (u0_37 := u0_37) (u0_38 := u0_38) (u0_39 := u0_39) (u0_40 := u0_40) (v_people := v_people) (v_length := v_length) (v_top := v_top) (v_at := v_at) (v_wrong := v_wrong) (v_ruleSize := v_ruleSize) (v_isAsked := v_isAsked) (v_rule := v_rule) (v_asked := v_asked) (nw1_ := 37) (w1_ := v_now) (p2 := p1) (r := y21) e3) [0, 3, 4, 1] rfl rfl (fun _ => rfl) (fun _ => rfl) rfl rfl rfl rfl (Nat.le_of_ble_eq_true rfl) hl.1 (by rw [hRf]; exact Nat.le_of_ble_eq_true rfl) (by rw [hRl]; exact Nat.le_of_ble_eq_true rfl) ⟨Nat.zero_le _, Nat.zero_le _⟩ dX11_steps_21 rfl (fun H locs rc4 hS => ?_)
    refine lv_if_eq (tgt := 34) hx hb dX11_steps_24 (by decide) (fun c5 => ?_) (fun c5 => ?_)
    · have h := it_pos c5 h
      refine lv_aload_n hx hb dX11_steps_34 rfl (lv_at hl 0 rfl) ?_
      refine r_get E frX11_9 hS 0 rfl rfl dX11_steps_35 ?_
      refine lv_aload_n hx hb dX11_steps_38 rfl (lv_at hl 0 rfl) ?_
      refine r_get E frX11_39 hS 0 rfl rfl dX11_steps_39 ?_
      refine lv_iconst (v := 0) hx hb dX11_steps_42 (by decide) ?_
      obtain ⟨y43, e6, h⟩ := bd_some h
      refine ct_S (ws' := fun _ => [oX11 q0 (.ref q1) (.int v_people) u0_2 u0_3 (.ref q2) (.int v_rowMany) (.int (0 : Int32)) rc4 (.int y21.2.1) (.int y21.2.2.1) (.int y21.2.2.2.1) (.int y21.2.2.2.2.1) u0_12 (.ref q3) u0_14 (.int v_ruleSize) (.int y21.2.2.2.2.2.1) (.ref q4) u0_18 u0_19 u0_20 (.ref q5) u0_22 u0_23 u0_24 u0_25 u0_26 u0_27 u0_28 u0_29 u0_30 u0_31 u0_32 u0_33 u0_34 u0_35 u0_36 u0_37 u0_38 u0_39 u0_40, aI cy q1 37 v_now, aJ cy q2 16 v_row, aB cy q3 40 v_rule, aI cy q4 7 y21.2.2.2.2.2.2, aI cy q5 37 y43]) (st' := []) (rest := []) E hS slX11_235 (c_X11_lay (l := l) (D := D) (cy := cy) (q0 := q1) (q1 := q5) (nw1_ := 37) (w1_ := v_now) (nw2_ := 37) (w2_ := v_then) (p2 := (0 : Int32)) (r := y43) e6) [1, 5] rfl rfl (fun _ => rfl) (fun _ => rfl) rfl rfl (Nat.le_of_ble_eq_true rfl) hl.1 (by rw [hRf]; exact Nat.le_of_ble_eq_true rfl) (by rw [hRl]; exact Nat.le_of_ble_eq_true rfl) ⟨Nat.zero_le _, Nat.zero_le _⟩ dX11_steps_43 rfl (fun H locs _ hS => ?_)
      refine lv_iconst (v := 0) hx hb dX11_steps_46 (by decide) ?_
      refine lv_istore_n (lv' := [(2, .int (0 : Int32)), (0, .ref q0), (1, .int p1)]) hx hb dX11_steps_47 rfl hl (by decide) rfl (fun ls hl => ?_)
      have hL48 : ∀ (n : Nat) (x48_0 : Int32) (x48_1 : Int32) (x48_2 : Int32) (x48_3 : Int32) (x48_4 : Int32) (x48_5 : Int32) (x48_6 : Nat → Int32) (x48_7 : Nat → Int32) (y48 : (Int32 × Int32 × Int32 × Int32 × Int32 × (Nat → Int32) × (Nat → Int32)) ⊕ (Int32 × Int32 × Int32 × Int32 × Int32 × Int32 × (Nat → Int32) × (Nat → Int32))) (rv48_0 : Value) (H : Heap) (locs : List Loc) (ls : Array Slot), lp (fun x48 => X11_steps_s48 v_people v_ruleSize v_rule p1 x48.1 x48.2.1 x48.2.2.1 x48.2.2.2.1 x48.2.2.2.2.1 x48.2.2.2.2.2.1 x48.2.2.2.2.2.2.1 x48.2.2.2.2.2.2.2) n (x48_0, x48_1, x48_2, x48_3, x48_4, x48_5, x48_6, x48_7) = some y48 → Sv D A s.heap [oX11 q0 (.ref q1) (.int v_people) u0_2 u0_3 (.ref q2) (.int v_rowMany) (.int (0 : Int32)) rv48_0 (.int x48_1) (.int x48_2) (.int x48_3) (.int x48_4) u0_12 (.ref q3) u0_14 (.int v_ruleSize) (.int x48_5) (.ref q4) u0_18 u0_19 u0_20 (.ref q5) u0_22 u0_23 u0_24 u0_25 u0_26 u0_27 u0_28 u0_29 u0_30 u0_31 u0_32 u0_33 u0_34 u0_35 u0_36 u0_37 u0_38 u0_39 u0_40, aI cy q1 37 v_now, aJ cy q2 16 v_row, aB cy q3 40 v_rule, aI cy q4 7 x48_6, aI cy q5 37 x48_7] H locs → lv_has ls 5 [(0, .ref q0), (1, .int p1), (2, .int x48_0)] → ( ∀ (ye48_0_0 : Int32) (ye48_0_1 : Int32) (ye48_0_2 : Int32) (ye48_0_3 : Int32) (ye48_0_4 : Int32) (ye48_0_5 : Nat → Int32) (ye48_0_6 : Nat → Int32), .inl (ye48_0_0, ye48_0_1, ye48_0_2, ye48_0_3, ye48_0_4, ye48_0_5, ye48_0_6) = y48 → ∀ (rv48_0 : Value), ∀ (H : Heap) (locs : List Loc) (ls : Array Slot), Sv D A s.heap [oX11 q0 (.ref q1) (.int v_people) u0_2 u0_3 (.ref q2) (.int v_rowMany) (.int (0 : Int32)) rv48_0 (.int ye48_0_0) (.int ye48_0_1) (.int ye48_0_2) (.int ye48_0_3) u0_12 (.ref q3) u0_14 (.int v_ruleSize) (.int ye48_0_4) (.ref q4) u0_18 u0_19 u0_20 (.ref q5) u0_22 u0_23 u0_24 u0_25 u0_26 u0_27 u0_28 u0_29 u0_30 u0_31 u0_32 u0_33 u0_34 u0_35 u0_36 u0_37 u0_38 u0_39 u0_40, aI cy q1 37 v_now, aJ cy q2 16 v_row, aB cy q3 40 v_rule, aI cy q4 7 ye48_0_5, aI cy q5 37 ye48_0_6] H locs → lv_has ls 5 [(0, .ref q0), (1, .int p1)] → W p l e R s m args below meth c H locs 0 0 Q (F0 m 119 ls [])) → ( ∀ (ye48_1_0 : Int32) (ye48_1_1 : Int32) (ye48_1_2 : Int32) (ye48_1_3 : Int32) (ye48_1_4 : Int32) (ye48_1_5 : Int32) (ye48_1_6 : Nat → Int32) (ye48_1_7 : Nat → Int32), .inr (ye48_1_0, ye48_1_1, ye48_1_2, ye48_1_3, ye48_1_4, ye48_1_5, ye48_1_6, ye48_1_7) = y48 → ∀ (rv48_0 : Value), ∀ (H : Heap) (locs : List Loc) (ls : Array Slot), Sv D A s.heap [oX11 q0 (.ref q1) (.int v_people) u0_2 u0_3 (.ref q2) (.int v_rowMany) (.int (0 : Int32)) rv48_0 (.int ye48_1_1) (.int ye48_1_2) (.int ye48_1_3) (.int ye48_1_4) u0_12 (.ref q3) u0_14 (.int v_ruleSize) (.int ye48_1_5) (.ref q4) u0_18 u0_19 u0_20 (.ref q5) u0_22 u0_23 u0_24 u0_25 u0_26 u0_27 u0_28 u0_29 u0_30 u0_31 u0_32 u0_33 u0_34 u0_35 u0_36 u0_37 u0_38 u0_39 u0_40, aI cy q1 37 v_now, aJ cy q2 16 v_row, aB cy q3 40 v_rule, aI cy q4 7 ye48_1_6, aI cy q5 37 ye48_1_7] H locs → lv_has ls 5 [(0, .ref q0), (2, .int ye48_1_0)] → W p l e R s m args below meth c H locs 0 0 Q (F0 m 100 ls [])) → W p l e R s m args below meth c H locs 0 0 Q (F0 m 48 ls []) := by
        intro n
        induction n with
        | zero =>
          intro x48_0 x48_1 x48_2 x48_3 x48_4 x48_5 x48_6 x48_7 y48 rv48_0 H locs ls h
          exact lp_zero h
        | succ n ih48 =>
          intro x48_0 x48_1 x48_2 x48_3 x48_4 x48_5 x48_6 x48_7 y48 rv48_0 H locs ls h hS hl hk48_0 hk48_1
          obtain ⟨z48, h, hz48a, hz48b⟩ := lp_succ h
          have h : X11_steps_s48 v_people v_ruleSize v_rule p1 x48_0 x48_1 x48_2 x48_3 x48_4 x48_5 x48_6 x48_7 = some z48 := h
          unfold X11_steps_s48 at h
          refine lv_iload_n hx hb dX11_steps_48 rfl (lv_at hl 2 rfl) ?_
          refine lv_bipush (v := 49) hx hb dX11_steps_49 (by decide) ?_
          refine lv_icmp_ge (tgt := 119) hx hb dX11_steps_51 (by decide) (fun c7 => ?_) (fun c7 => ?_)
          · have h := it_pos c7 h
            exact hk48_0 x48_1 x48_2 x48_3 x48_4 x48_5 x48_6 x48_7 (hz48b _ (Option.some.inj h).symm) rv48_0 H locs ls hS (lv_sub hl [0, 1] rfl)
          · have h := it_neg c7 h
            refine lv_aload_n hx hb dX11_steps_54 rfl (lv_at hl 0 rfl) ?_
            refine lv_iload_n hx hb dX11_steps_55 rfl (lv_at hl 2 rfl) ?_
            obtain ⟨y56, e8, h⟩ := bd_some h
            refine ct_V (ws' := fun _ => [oX11 q0 (.ref q1) (.int v_people) u0_2 u0_3 (.ref q2) (.int v_rowMany) (.int (0 : Int32)) rv48_0 (.int x48_1) (.int x48_2) (.int x48_3) (.int x48_4) u0_12 (.ref q3) u0_14 (.int v_ruleSize) (.int x48_5) (.ref q4) u0_18 u0_19 u0_20 (.ref q5) u0_22 u0_23 u0_24 u0_25 u0_26 u0_27 u0_28 u0_29 u0_30 u0_31 u0_32 u0_33 u0_34 u0_35 u0_36 u0_37 u0_38 u0_39 u0_40, aI cy q1 37 v_now, aJ cy q2 16 v_row, aB cy q3 40 v_rule, aI cy q4 7 x48_6, aI cy q5 37 x48_7]) (st' := [.int y56]) (rest := []) E hS vlX11_297 (c_X11_isWant (l := l) (D := D) (cy := cy) (q0 := q0) (u0_0 := .ref q1) (u0_2 := u0_2) (u0_3 := u0_3) (u0_4 := .ref q2) (u0_5 := .int v_rowMany) (u0_6 := .int (0 : Int32)) (u0_7 := rv48_0) (u0_8 := .int x48_1) (u0_9 := .int x48_2) (u0_10 := .int x48_3) (u0_11 := .int x48_4) (u0_12 := u0_12) (u0_13 := .ref q3) (u0_14 := u0_14) (u0_15 := .int v_ruleSize) (u0_16 := .int x48_5) (u0_17 := .ref q4) (u0_18 := u0_18) (u0_19 := u0_19) (u0_20 := u0_20) (u0_21 := .ref q5) (u0_22 := u0_22) (u0_23 := u0_23) (u0_24 := u0_24) (u0_25 := u0_25) (u0_26 := u0_26) (u0_27 := u0_27) (u0_28 := u0_28) (u0_29 := u0_29) (u0_30 := u0_30) (u0_31 := u0_31) (u0_32 := u0_32) (u0_33 := u0_33) (u0_34 := u0_34) (u0_35 := u0_35) (u0_36 := u0_36) (u0_37 := u0_37) (u0_38 := u0_38) (u0_39 := u0_39) (u0_40 := u0_40) (v_people := v_people) (p1 := x48_0) (r := y56) e8) [0] rfl rfl (fun _ => rfl) (fun _ => rfl) rfl rfl rfl rfl (Nat.le_of_ble_eq_true rfl) hl.1 (by rw [hRf]; exact Nat.le_of_ble_eq_true rfl) (by rw [hRl]; exact Nat.le_of_ble_eq_true rfl) ⟨Nat.zero_le _, Nat.zero_le _⟩ dX11_steps_56 rfl (fun H locs _ hS => ?_)
            refine lv_if_ne (tgt := 65) hx hb dX11_steps_59 (by decide) (fun c9 => ?_) (fun c9 => ?_)
            · have h := it_neg c9 h
              refine lv_aload_n hx hb dX11_steps_65 rfl (lv_at hl 0 rfl) ?_
              refine lv_aload_n hx hb dX11_steps_66 rfl (lv_at hl 0 rfl) ?_
              refine r_get E frX11_39 hS 0 rfl rfl dX11_steps_67 ?_
              refine lv_iload_n hx hb dX11_steps_70 rfl (lv_at hl 2 rfl) ?_
              obtain ⟨y71, e10, h⟩ := bd_some h
              refine ct_V (ws' := fun _ => [oX11 q0 (.ref q1) (.int v_people) u0_2 u0_3 (.ref q2) (.int v_rowMany) (.int (0 : Int32)) rv48_0 (.int x48_1) (.int x48_2) (.int x48_3) (.int x48_4) u0_12 (.ref q3) u0_14 (.int v_ruleSize) (.int x48_5) (.ref q4) u0_18 u0_19 u0_20 (.ref q5) u0_22 u0_23 u0_24 u0_25 u0_26 u0_27 u0_28 u0_29 u0_30 u0_31 u0_32 u0_33 u0_34 u0_35 u0_36 u0_37 u0_38 u0_39 u0_40, aI cy q1 37 v_now, aJ cy q2 16 v_row, aB cy q3 40 v_rule, aI cy q4 7 x48_6, aI cy q5 37 y71]) (st' := []) (rest := []) E hS vlX11_300 (c_X11_turn (l := l) (D := D) (cy := cy) (q0 := q0) (q1 := q5) (u0_0 := .ref q1) (u0_1 := .int v_people) (u0_2 := u0_2) (u0_3 := u0_3) (u0_4 := .ref q2) (u0_5 := .int v_rowMany) (u0_6 := .int (0 : Int32)) (u0_7 := rv48_0) (u0_8 := .int x48_1) (u0_9 := .int x48_2) (u0_10 := .int x48_3) (u0_11 := .int x48_4) (u0_12 := u0_12) (u0_13 := .ref q3) (u0_14 := u0_14) (u0_15 := .int v_ruleSize) (u0_16 := .int x48_5) (u0_17 := .ref q4) (u0_18 := u0_18) (u0_19 := u0_19) (u0_20 := u0_20) (u0_21 := .ref q5) (u0_22 := u0_22) (u0_23 := u0_23) (u0_24 := u0_24) (u0_25 := u0_25) (u0_26 := u0_26) (u0_27 := u0_27) (u0_28 := u0_28) (u0_29 := u0_29) (u0_30 := u0_30) (u0_31 := u0_31) (u0_32 := u0_32) (u0_33 := u0_33) (u0_34 := u0_34) (u0_35 := u0_35) (u0_36 := u0_36) (u0_37 := u0_37) (u0_38 := u0_38) (u0_39 := u0_39) (u0_40 := u0_40) (nw1_ := 37) (w1_ := x48_7) (p2 := x48_0) (r := y71) e10) [0, 5] rfl rfl (fun _ => rfl) (fun _ => rfl) rfl rfl rfl rfl (Nat.le_of_ble_eq_true rfl) hl.1 (by rw [hRf]; exact Nat.le_of_ble_eq_true rfl) (by rw [hRl]; exact Nat.le_of_ble_eq_true rfl) ⟨Nat.zero_le _, Nat.zero_le _⟩ dX11_steps_71 rfl (fun H locs _ hS => ?_)
              refine lv_aload_n hx hb dX11_steps_74 rfl (lv_at hl 0 rfl) ?_
              refine lv_aload_n hx hb dX11_steps_75 rfl (lv_at hl 0 rfl) ?_
              refine r_get E frX11_39 hS 0 rfl rfl dX11_steps_76 ?_
              refine lv_iload_n hx hb dX11_steps_79 rfl (lv_at hl 1 rfl) ?_
              obtain ⟨y80, e11, h⟩ := bd_some h
              refine ct_V (ws' := fun rc12 => [oX11 q0 (.ref q1) (.int v_people) u0_2 u0_3 (.ref q2) (.int v_rowMany) (.int (0 : Int32)) rc12 (.int y80.2.1) (.int y80.2.2.1) (.int y80.2.2.2.1) (.int y80.2.2.2.2.1) u0_12 (.ref q3) u0_14 (.int v_ruleSize) (.int y80.2.2.2.2.2.1) (.ref q4) u0_18 u0_19 u0_20 (.ref q5) u0_22 u0_23 u0_24 u0_25 u0_26 u0_27 u0_28 u0_29 u0_30 u0_31 u0_32 u0_33 u0_34 u0_35 u0_36 u0_37 u0_38 u0_39 u0_40, aI cy q1 37 v_now, aJ cy q2 16 v_row, aB cy q3 40 v_rule, aI cy q4 7 y80.2.2.2.2.2.2, aI cy q5 37 y71]) (st' := [.int y80.1]) (rest := []) E hS vlX11_216 (c_X11_isAwake (l := l) (D := D) (cy := cy) (q0 := q0) (q1 := q3) (q2 := q4) (q3 := q5) (u0_0 := .ref q1) (u0_2 := u0_2) (u0_3 := u0_3) (u0_4 := .ref q2) (u0_5 := .int v_rowMany) (u0_6 := .int (0 : Int32)) (u0_7 := rv48_0) (u0_12 := u0_12) (u0_14 := u0_14) (u0_18 := u0_18) (u0_19 := u0_19) (u0_20 := u0_20) (u0_21 := .ref q5) (u0_22 := u0_22) (u0_23 := u0_23) (u0_24 := u0_24) (u0_25 := u0_25) (u0_26 := u0_26) (u0_27 := u0_27) (u0_28 := u0_28) (u0_29 := u0_29) (u0_30 := u0_30) (u0_31 := u0_31) (u0_32 := u0_32) (u0_33 := u0_33) (u0_34 := u0_34) (u0_35 := u0_35) (u0_36 := u0_36) (u0_37 := u0_37) (u0_38 := u0_38) (u0_39 := u0_39) (u0_40 := u0_40) (v_people := v_people) (v_length := x48_1) (v_top := x48_2) (v_at := x48_3) (v_wrong := x48_4) (v_ruleSize := v_ruleSize) (v_isAsked := x48_5) (v_rule := v_rule) (v_asked := x48_6) (nw1_ := 37) (w1_ := y71) (p2 := p1) (r := y80) e11) [0, 3, 4, 5] rfl rfl (fun _ => rfl) (fun _ => rfl) rfl rfl rfl rfl (Nat.le_of_ble_eq_true rfl) hl.1 (by rw [hRf]; exact Nat.le_of_ble_eq_true rfl) (by rw [hRl]; exact Nat.le_of_ble_eq_true rfl) ⟨Nat.zero_le _, Nat.zero_le _⟩ dX11_steps_80 rfl (fun H locs rc12 hS => ?_)
              refine lv_istore_n (lv' := [(3, .int y80.1), (0, .ref q0), (1, .int p1), (2, .int x48_0)]) hx hb dX11_steps_83 rfl hl (by decide) rfl (fun ls hl => ?_)
              refine lv_aload_n hx hb dX11_steps_84 rfl (lv_at hl 1 rfl) ?_
              refine lv_aload_n hx hb dX11_steps_85 rfl (lv_at hl 1 rfl) ?_
              refine r_get E frX11_39 hS 0 rfl rfl dX11_steps_86 ?_
              refine lv_iload_n hx hb dX11_steps_89 rfl (lv_at hl 3 rfl) ?_
              obtain ⟨y90, e13, h⟩ := bd_some h
              refine ct_V (ws' := fun _ => [oX11 q0 (.ref q1) (.int v_people) u0_2 u0_3 (.ref q2) (.int v_rowMany) (.int (0 : Int32)) rc12 (.int y80.2.1) (.int y80.2.2.1) (.int y80.2.2.2.1) (.int y80.2.2.2.2.1) u0_12 (.ref q3) u0_14 (.int v_ruleSize) (.int y80.2.2.2.2.2.1) (.ref q4) u0_18 u0_19 u0_20 (.ref q5) u0_22 u0_23 u0_24 u0_25 u0_26 u0_27 u0_28 u0_29 u0_30 u0_31 u0_32 u0_33 u0_34 u0_35 u0_36 u0_37 u0_38 u0_39 u0_40, aI cy q1 37 v_now, aJ cy q2 16 v_row, aB cy q3 40 v_rule, aI cy q4 7 y80.2.2.2.2.2.2, aI cy q5 37 y90]) (st' := []) (rest := []) E hS vlX11_300 (c_X11_turn (l := l) (D := D) (cy := cy) (q0 := q0) (q1 := q5) (u0_0 := .ref q1) (u0_1 := .int v_people) (u0_2 := u0_2) (u0_3 := u0_3) (u0_4 := .ref q2) (u0_5 := .int v_rowMany) (u0_6 := .int (0 : Int32)) (u0_7 := rc12) (u0_8 := .int y80.2.1) (u0_9 := .int y80.2.2.1) (u0_10 := .int y80.2.2.2.1) (u0_11 := .int y80.2.2.2.2.1) (u0_12 := u0_12) (u0_13 := .ref q3) (u0_14 := u0_14) (u0_15 := .int v_ruleSize) (u0_16 := .int y80.2.2.2.2.2.1) (u0_17 := .ref q4) (u0_18 := u0_18) (u0_19 := u0_19) (u0_20 := u0_20) (u0_21 := .ref q5) (u0_22 := u0_22) (u0_23 := u0_23) (u0_24 := u0_24) (u0_25 := u0_25) (u0_26 := u0_26) (u0_27 := u0_27) (u0_28 := u0_28) (u0_29 := u0_29) (u0_30 := u0_30) (u0_31 := u0_31) (u0_32 := u0_32) (u0_33 := u0_33) (u0_34 := u0_34) (u0_35 := u0_35) (u0_36 := u0_36) (u0_37 := u0_37) (u0_38 := u0_38) (u0_39 := u0_39) (u0_40 := u0_40) (nw1_ := 37) (w1_ := y71) (p2 := x48_0) (r := y90) e13) [0, 5] rfl rfl (fun _ => rfl) (fun _ => rfl) rfl rfl rfl rfl (Nat.le_of_ble_eq_true rfl) hl.1 (by rw [hRf]; exact Nat.le_of_ble_eq_true rfl) (by rw [hRl]; exact Nat.le_of_ble_eq_true rfl) ⟨Nat.zero_le _, Nat.zero_le _⟩ dX11_steps_90 rfl (fun H locs _ hS => ?_)
              refine lv_iload_n hx hb dX11_steps_93 rfl (lv_at hl 0 rfl) ?_
              refine lv_if_ne (tgt := 100) hx hb dX11_steps_94 (by decide) (fun c14 => ?_) (fun c14 => ?_)
              · have h := it_neg c14 h
                exact hk48_1 x48_0 y80.2.1 y80.2.2.1 y80.2.2.2.1 y80.2.2.2.2.1 y80.2.2.2.2.2.1 y80.2.2.2.2.2.2 y90 (hz48b _ (Option.some.inj h).symm) rc12 H locs ls hS (lv_sub hl [1, 3] rfl)
              · have h := it_pos c14 h
                refine lv_goto (tgt := 113) hx hb dX11_steps_97 (by decide) ?_
                refine lv_iinc (v := (x48_0 + (1 : Int32))) (lv' := [(2, .int (x48_0 + (1 : Int32))), (3, .int y80.1), (0, .ref q0), (1, .int p1)]) hx hb dX11_steps_113 hl (k := 3) rfl rfl (by decide) rfl (fun ls hl => ?_)
                refine lv_goto (tgt := 48) hx hb dX11_steps_116 (by decide) ?_
                exact ih48 (x48_0 + (1 : Int32)) y80.2.1 y80.2.2.1 y80.2.2.2.1 y80.2.2.2.2.1 y80.2.2.2.2.2.1 y80.2.2.2.2.2.2 y90 y48 rc12 H locs ls (hz48a _ (Option.some.inj h).symm) hS (lv_sub hl [2, 3, 0] rfl) hk48_0 hk48_1
            · have h := it_pos c9 h
              refine lv_goto (tgt := 113) hx hb dX11_steps_62 (by decide) ?_
              refine lv_iinc (v := (x48_0 + (1 : Int32))) (lv' := [(2, .int (x48_0 + (1 : Int32))), (0, .ref q0), (1, .int p1)]) hx hb dX11_steps_113 hl (k := 2) rfl rfl (by decide) rfl (fun ls hl => ?_)
              refine lv_goto (tgt := 48) hx hb dX11_steps_116 (by decide) ?_
              exact ih48 (x48_0 + (1 : Int32)) x48_1 x48_2 x48_3 x48_4 x48_5 x48_6 x48_7 y48 rv48_0 H locs ls (hz48a _ (Option.some.inj h).symm) hS (lv_sub hl [1, 2, 0] rfl) hk48_0 hk48_1
      obtain ⟨y48, e48, h⟩ := bd_some h
      refine hL48 1000 (0 : Int32) y21.2.1 y21.2.2.1 y21.2.2.2.1 y21.2.2.2.2.1 y21.2.2.2.2.2.1 y21.2.2.2.2.2.2 y43 y48 rc4 H locs ls e48 hS (lv_sub hl [1, 2, 0] rfl) (fun ye48_0_0 ye48_0_1 ye48_0_2 ye48_0_3 ye48_0_4 ye48_0_5 ye48_0_6 ey48 rw48_0 H locs ls hS hl => ?_) (fun ye48_1_0 ye48_1_1 ye48_1_2 ye48_1_3 ye48_1_4 ye48_1_5 ye48_1_6 ye48_1_7 ey48 rw48_0 H locs ls hS hl => ?_)
      · subst ey48
        have h := sm_l h
        have h := un_r h
        have h := un_r h
        have h := un_r h
        have h := un_r h
        have h := un_r h
        have h := un_r h
        refine lv_iconst (v := 0) hx hb dX11_steps_119 (by decide) ?_
        refine lv_istore_n (lv' := [(2, .int (0 : Int32)), (0, .ref q0), (1, .int p1)]) hx hb dX11_steps_120 rfl hl (by decide) rfl (fun ls hl => ?_)
        have hL121 : ∀ (n : Nat) (x121_0 : Int32) (x121_1 : Int32) (x121_2 : Int32) (x121_3 : Int32) (x121_4 : Int32) (x121_5 : Int32) (x121_6 : Nat → Int32) (x121_7 : Nat → Int32) (y121 : (Int32 × Int32 × Int32 × Int32 × Int32 × (Nat → Int32) × (Nat → Int32)) ⊕ (Int32 × Int32 × Int32 × Int32 × Int32 × Int32 × Int32 × (Nat → Int32) × (Nat → Int32))) (rv121_0 : Value) (H : Heap) (locs : List Loc) (ls : Array Slot), lp (fun x121 => X11_steps_s121 v_people v_ruleSize v_rule p1 x121.1 x121.2.1 x121.2.2.1 x121.2.2.2.1 x121.2.2.2.2.1 x121.2.2.2.2.2.1 x121.2.2.2.2.2.2.1 x121.2.2.2.2.2.2.2) n (x121_0, x121_1, x121_2, x121_3, x121_4, x121_5, x121_6, x121_7) = some y121 → Sv D A s.heap [oX11 q0 (.ref q1) (.int v_people) u0_2 u0_3 (.ref q2) (.int v_rowMany) (.int (0 : Int32)) rv121_0 (.int x121_1) (.int x121_2) (.int x121_3) (.int x121_4) u0_12 (.ref q3) u0_14 (.int v_ruleSize) (.int x121_5) (.ref q4) u0_18 u0_19 u0_20 (.ref q5) u0_22 u0_23 u0_24 u0_25 u0_26 u0_27 u0_28 u0_29 u0_30 u0_31 u0_32 u0_33 u0_34 u0_35 u0_36 u0_37 u0_38 u0_39 u0_40, aI cy q1 37 v_now, aJ cy q2 16 v_row, aB cy q3 40 v_rule, aI cy q4 7 x121_6, aI cy q5 37 x121_7] H locs → lv_has ls 5 [(0, .ref q0), (1, .int p1), (2, .int x121_0)] → ( ∀ (ye121_0_0 : Int32) (ye121_0_1 : Int32) (ye121_0_2 : Int32) (ye121_0_3 : Int32) (ye121_0_4 : Int32) (ye121_0_5 : Nat → Int32) (ye121_0_6 : Nat → Int32), .inl (ye121_0_0, ye121_0_1, ye121_0_2, ye121_0_3, ye121_0_4, ye121_0_5, ye121_0_6) = y121 → ∀ (rv121_0 : Value), ∀ (H : Heap) (locs : List Loc) (ls : Array Slot), Sv D A s.heap [oX11 q0 (.ref q1) (.int v_people) u0_2 u0_3 (.ref q2) (.int v_rowMany) (.int (0 : Int32)) rv121_0 (.int ye121_0_0) (.int ye121_0_1) (.int ye121_0_2) (.int ye121_0_3) u0_12 (.ref q3) u0_14 (.int v_ruleSize) (.int ye121_0_4) (.ref q4) u0_18 u0_19 u0_20 (.ref q5) u0_22 u0_23 u0_24 u0_25 u0_26 u0_27 u0_28 u0_29 u0_30 u0_31 u0_32 u0_33 u0_34 u0_35 u0_36 u0_37 u0_38 u0_39 u0_40, aI cy q1 37 v_now, aJ cy q2 16 v_row, aB cy q3 40 v_rule, aI cy q4 7 ye121_0_5, aI cy q5 37 ye121_0_6] H locs → lv_has ls 5 [] → W p l e R s m args below meth c H locs 0 0 Q (F0 m 242 ls [])) → ( ∀ (ye121_1_0 : Int32) (ye121_1_1 : Int32) (ye121_1_2 : Int32) (ye121_1_3 : Int32) (ye121_1_4 : Int32) (ye121_1_5 : Int32) (ye121_1_6 : Int32) (ye121_1_7 : Nat → Int32) (ye121_1_8 : Nat → Int32), .inr (ye121_1_0, ye121_1_1, ye121_1_2, ye121_1_3, ye121_1_4, ye121_1_5, ye121_1_6, ye121_1_7, ye121_1_8) = y121 → ∀ (rv121_0 : Value), ∀ (H : Heap) (locs : List Loc) (ls : Array Slot), Sv D A s.heap [oX11 q0 (.ref q1) (.int v_people) u0_2 u0_3 (.ref q2) (.int v_rowMany) (.int (0 : Int32)) rv121_0 (.int ye121_1_2) (.int ye121_1_3) (.int ye121_1_4) (.int ye121_1_5) u0_12 (.ref q3) u0_14 (.int v_ruleSize) (.int ye121_1_6) (.ref q4) u0_18 u0_19 u0_20 (.ref q5) u0_22 u0_23 u0_24 u0_25 u0_26 u0_27 u0_28 u0_29 u0_30 u0_31 u0_32 u0_33 u0_34 u0_35 u0_36 u0_37 u0_38 u0_39 u0_40, aI cy q1 37 v_now, aJ cy q2 16 v_row, aB cy q3 40 v_rule, aI cy q4 7 ye121_1_7, aI cy q5 37 ye121_1_8] H locs → lv_has ls 5 [(0, .ref q0), (2, .int ye121_1_0), (3, .int ye121_1_1)] → W p l e R s m args below meth c H locs 0 0 Q (F0 m 211 ls [])) → W p l e R s m args below meth c H locs 0 0 Q (F0 m 121 ls []) := by
          intro n
          induction n with
          | zero =>
            intro x121_0 x121_1 x121_2 x121_3 x121_4 x121_5 x121_6 x121_7 y121 rv121_0 H locs ls h
            exact lp_zero h
          | succ n ih121 =>
            intro x121_0 x121_1 x121_2 x121_3 x121_4 x121_5 x121_6 x121_7 y121 rv121_0 H locs ls h hS hl hk121_0 hk121_1
            obtain ⟨z121, h, hz121a, hz121b⟩ := lp_succ h
            have h : X11_steps_s121 v_people v_ruleSize v_rule p1 x121_0 x121_1 x121_2 x121_3 x121_4 x121_5 x121_6 x121_7 = some z121 := h
            unfold X11_steps_s121 at h
            refine lv_iload_n hx hb dX11_steps_121 rfl (lv_at hl 2 rfl) ?_
            refine lv_bipush (v := 49) hx hb dX11_steps_122 (by decide) ?_
            refine lv_icmp_ge (tgt := 242) hx hb dX11_steps_124 (by decide) (fun c15 => ?_) (fun c15 => ?_)
            · have h := it_pos c15 h
              exact hk121_0 x121_1 x121_2 x121_3 x121_4 x121_5 x121_6 x121_7 (hz121b _ (Option.some.inj h).symm) rv121_0 H locs ls hS (lv_sub hl [] rfl)
            · have h := it_neg c15 h
              refine lv_iload_n hx hb dX11_steps_127 rfl (lv_at hl 2 rfl) ?_
              refine lv_iconst (v := 1) hx hb dX11_steps_128 (by decide) ?_
              refine lv_iadd hx hb dX11_steps_129 ?_
              refine lv_istore_n (lv' := [(3, .int (x121_0 + (1 : Int32))), (0, .ref q0), (1, .int p1), (2, .int x121_0)]) hx hb dX11_steps_130 rfl hl (by decide) rfl (fun ls hl => ?_)
              have hL131 : ∀ (n : Nat) (x131_0 : Int32) (x131_1 : Int32) (x131_2 : Int32) (x131_3 : Int32) (x131_4 : Int32) (x131_5 : Int32) (x131_6 : Nat → Int32) (x131_7 : Nat → Int32) (y131 : (Int32 × Int32 × Int32 × Int32 × Int32 × (Nat → Int32) × (Nat → Int32)) ⊕ (Int32 × Int32 × Int32 × Int32 × Int32 × Int32 × (Nat → Int32) × (Nat → Int32))) (rv131_0 : Value) (H : Heap) (locs : List Loc) (ls : Array Slot), lp (fun x131 => X11_steps_s131 v_people v_ruleSize v_rule p1 x121_0 x131.1 x131.2.1 x131.2.2.1 x131.2.2.2.1 x131.2.2.2.2.1 x131.2.2.2.2.2.1 x131.2.2.2.2.2.2.1 x131.2.2.2.2.2.2.2) n (x131_0, x131_1, x131_2, x131_3, x131_4, x131_5, x131_6, x131_7) = some y131 → Sv D A s.heap [oX11 q0 (.ref q1) (.int v_people) u0_2 u0_3 (.ref q2) (.int v_rowMany) (.int (0 : Int32)) rv131_0 (.int x131_1) (.int x131_2) (.int x131_3) (.int x131_4) u0_12 (.ref q3) u0_14 (.int v_ruleSize) (.int x131_5) (.ref q4) u0_18 u0_19 u0_20 (.ref q5) u0_22 u0_23 u0_24 u0_25 u0_26 u0_27 u0_28 u0_29 u0_30 u0_31 u0_32 u0_33 u0_34 u0_35 u0_36 u0_37 u0_38 u0_39 u0_40, aI cy q1 37 v_now, aJ cy q2 16 v_row, aB cy q3 40 v_rule, aI cy q4 7 x131_6, aI cy q5 37 x131_7] H locs → lv_has ls 5 [(0, .ref q0), (1, .int p1), (2, .int x121_0), (3, .int x131_0)] → ( ∀ (ye131_0_0 : Int32) (ye131_0_1 : Int32) (ye131_0_2 : Int32) (ye131_0_3 : Int32) (ye131_0_4 : Int32) (ye131_0_5 : Nat → Int32) (ye131_0_6 : Nat → Int32), .inl (ye131_0_0, ye131_0_1, ye131_0_2, ye131_0_3, ye131_0_4, ye131_0_5, ye131_0_6) = y131 → ∀ (rv131_0 : Value), ∀ (H : Heap) (locs : List Loc) (ls : Array Slot), Sv D A s.heap [oX11 q0 (.ref q1) (.int v_people) u0_2 u0_3 (.ref q2) (.int v_rowMany) (.int (0 : Int32)) rv131_0 (.int ye131_0_0) (.int ye131_0_1) (.int ye131_0_2) (.int ye131_0_3) u0_12 (.ref q3) u0_14 (.int v_ruleSize) (.int ye131_0_4) (.ref q4) u0_18 u0_19 u0_20 (.ref q5) u0_22 u0_23 u0_24 u0_25 u0_26 u0_27 u0_28 u0_29 u0_30 u0_31 u0_32 u0_33 u0_34 u0_35 u0_36 u0_37 u0_38 u0_39 u0_40, aI cy q1 37 v_now, aJ cy q2 16 v_row, aB cy q3 40 v_rule, aI cy q4 7 ye131_0_5, aI cy q5 37 ye131_0_6] H locs → lv_has ls 5 [(0, .ref q0), (1, .int p1), (2, .int x121_0)] → W p l e R s m args below meth c H locs 0 0 Q (F0 m 236 ls [])) → ( ∀ (ye131_1_0 : Int32) (ye131_1_1 : Int32) (ye131_1_2 : Int32) (ye131_1_3 : Int32) (ye131_1_4 : Int32) (ye131_1_5 : Int32) (ye131_1_6 : Nat → Int32) (ye131_1_7 : Nat → Int32), .inr (ye131_1_0, ye131_1_1, ye131_1_2, ye131_1_3, ye131_1_4, ye131_1_5, ye131_1_6, ye131_1_7) = y131 → ∀ (rv131_0 : Value), ∀ (H : Heap) (locs : List Loc) (ls : Array Slot), Sv D A s.heap [oX11 q0 (.ref q1) (.int v_people) u0_2 u0_3 (.ref q2) (.int v_rowMany) (.int (0 : Int32)) rv131_0 (.int ye131_1_1) (.int ye131_1_2) (.int ye131_1_3) (.int ye131_1_4) u0_12 (.ref q3) u0_14 (.int v_ruleSize) (.int ye131_1_5) (.ref q4) u0_18 u0_19 u0_20 (.ref q5) u0_22 u0_23 u0_24 u0_25 u0_26 u0_27 u0_28 u0_29 u0_30 u0_31 u0_32 u0_33 u0_34 u0_35 u0_36 u0_37 u0_38 u0_39 u0_40, aI cy q1 37 v_now, aJ cy q2 16 v_row, aB cy q3 40 v_rule, aI cy q4 7 ye131_1_6, aI cy q5 37 ye131_1_7] H locs → lv_has ls 5 [(0, .ref q0), (2, .int x121_0), (3, .int ye131_1_0)] → W p l e R s m args below meth c H locs 0 0 Q (F0 m 211 ls [])) → W p l e R s m args below meth c H locs 0 0 Q (F0 m 131 ls []) := by
                intro n
                induction n with
                | zero =>
                  intro x131_0 x131_1 x131_2 x131_3 x131_4 x131_5 x131_6 x131_7 y131 rv131_0 H locs ls h
                  exact lp_zero h
                | succ n ih131 =>
                  intro x131_0 x131_1 x131_2 x131_3 x131_4 x131_5 x131_6 x131_7 y131 rv131_0 H locs ls h hS hl hk131_0 hk131_1
                  obtain ⟨z131, h, hz131a, hz131b⟩ := lp_succ h
                  have h : X11_steps_s131 v_people v_ruleSize v_rule p1 x121_0 x131_0 x131_1 x131_2 x131_3 x131_4 x131_5 x131_6 x131_7 = some z131 := h
                  unfold X11_steps_s131 at h
                  refine lv_iload_n hx hb dX11_steps_131 rfl (lv_at hl 3 rfl) ?_
                  refine lv_bipush (v := 49) hx hb dX11_steps_132 (by decide) ?_
                  refine lv_icmp_ge (tgt := 236) hx hb dX11_steps_134 (by decide) (fun c16 => ?_) (fun c16 => ?_)
                  · have h := it_pos c16 h
                    exact hk131_0 x131_1 x131_2 x131_3 x131_4 x131_5 x131_6 x131_7 (hz131b _ (Option.some.inj h).symm) rv131_0 H locs ls hS (lv_sub hl [0, 1, 2] rfl)
                  · have h := it_neg c16 h
                    refine lv_aload_n hx hb dX11_steps_137 rfl (lv_at hl 0 rfl) ?_
                    refine lv_iload_n hx hb dX11_steps_138 rfl (lv_at hl 2 rfl) ?_
                    obtain ⟨y139, e17, h⟩ := bd_some h
                    refine ct_V (ws' := fun _ => [oX11 q0 (.ref q1) (.int v_people) u0_2 u0_3 (.ref q2) (.int v_rowMany) (.int (0 : Int32)) rv131_0 (.int x131_1) (.int x131_2) (.int x131_3) (.int x131_4) u0_12 (.ref q3) u0_14 (.int v_ruleSize) (.int x131_5) (.ref q4) u0_18 u0_19 u0_20 (.ref q5) u0_22 u0_23 u0_24 u0_25 u0_26 u0_27 u0_28 u0_29 u0_30 u0_31 u0_32 u0_33 u0_34 u0_35 u0_36 u0_37 u0_38 u0_39 u0_40, aI cy q1 37 v_now, aJ cy q2 16 v_row, aB cy q3 40 v_rule, aI cy q4 7 x131_6, aI cy q5 37 x131_7]) (st' := [.int y139]) (rest := []) E hS vlX11_297 (c_X11_isWant (l := l) (D := D) (cy := cy) (q0 := q0) (u0_0 := .ref q1) (u0_2 := u0_2) (u0_3 := u0_3) (u0_4 := .ref q2) (u0_5 := .int v_rowMany) (u0_6 := .int (0 : Int32)) (u0_7 := rv131_0) (u0_8 := .int x131_1) (u0_9 := .int x131_2) (u0_10 := .int x131_3) (u0_11 := .int x131_4) (u0_12 := u0_12) (u0_13 := .ref q3) (u0_14 := u0_14) (u0_15 := .int v_ruleSize) (u0_16 := .int x131_5) (u0_17 := .ref q4) (u0_18 := u0_18) (u0_19 := u0_19) (u0_20 := u0_20) (u0_21 := .ref q5) (u0_22 := u0_22) (u0_23 := u0_23) (u0_24 := u0_24) (u0_25 := u0_25) (u0_26 := u0_26) (u0_27 := u0_27) (u0_28 := u0_28) (u0_29 := u0_29) (u0_30 := u0_30) (u0_31 := u0_31) (u0_32 := u0_32) (u0_33 := u0_33) (u0_34 := u0_34) (u0_35 := u0_35) (u0_36 := u0_36) (u0_37 := u0_37) (u0_38 := u0_38) (u0_39 := u0_39) (u0_40 := u0_40) (v_people := v_people) (p1 := x121_0) (r := y139) e17) [0] rfl rfl (fun _ => rfl) (fun _ => rfl) rfl rfl rfl rfl (Nat.le_of_ble_eq_true rfl) hl.1 (by rw [hRf]; exact Nat.le_of_ble_eq_true rfl) (by rw [hRl]; exact Nat.le_of_ble_eq_true rfl) ⟨Nat.zero_le _, Nat.zero_le _⟩ dX11_steps_139 rfl (fun H locs _ hS => ?_)
                    refine lv_if_eq (tgt := 230) hx hb dX11_steps_142 (by decide) (fun c18 => ?_) (fun c18 => ?_)
                    · have h := it_pos c18 h
                      refine lv_iinc (v := (x131_0 + (1 : Int32))) (lv' := [(3, .int (x131_0 + (1 : Int32))), (0, .ref q0), (1, .int p1), (2, .int x121_0)]) hx hb dX11_steps_230 hl (k := 3) rfl rfl (by decide) rfl (fun ls hl => ?_)
                      refine lv_goto (tgt := 131) hx hb dX11_steps_233 (by decide) ?_
                      exact ih131 (x131_0 + (1 : Int32)) x131_1 x131_2 x131_3 x131_4 x131_5 x131_6 x131_7 y131 rv131_0 H locs ls (hz131a _ (Option.some.inj h).symm) hS (lv_sub hl [1, 2, 3, 0] rfl) hk131_0 hk131_1
                    · have h := it_neg c18 h
                      refine lv_aload_n hx hb dX11_steps_145 rfl (lv_at hl 0 rfl) ?_
                      refine lv_iload_n hx hb dX11_steps_146 rfl (lv_at hl 3 rfl) ?_
                      obtain ⟨y147, e19, h⟩ := bd_some h
                      refine ct_V (ws' := fun _ => [oX11 q0 (.ref q1) (.int v_people) u0_2 u0_3 (.ref q2) (.int v_rowMany) (.int (0 : Int32)) rv131_0 (.int x131_1) (.int x131_2) (.int x131_3) (.int x131_4) u0_12 (.ref q3) u0_14 (.int v_ruleSize) (.int x131_5) (.ref q4) u0_18 u0_19 u0_20 (.ref q5) u0_22 u0_23 u0_24 u0_25 u0_26 u0_27 u0_28 u0_29 u0_30 u0_31 u0_32 u0_33 u0_34 u0_35 u0_36 u0_37 u0_38 u0_39 u0_40, aI cy q1 37 v_now, aJ cy q2 16 v_row, aB cy q3 40 v_rule, aI cy q4 7 x131_6, aI cy q5 37 x131_7]) (st' := [.int y147]) (rest := []) E hS vlX11_297 (c_X11_isWant (l := l) (D := D) (cy := cy) (q0 := q0) (u0_0 := .ref q1) (u0_2 := u0_2) (u0_3 := u0_3) (u0_4 := .ref q2) (u0_5 := .int v_rowMany) (u0_6 := .int (0 : Int32)) (u0_7 := rv131_0) (u0_8 := .int x131_1) (u0_9 := .int x131_2) (u0_10 := .int x131_3) (u0_11 := .int x131_4) (u0_12 := u0_12) (u0_13 := .ref q3) (u0_14 := u0_14) (u0_15 := .int v_ruleSize) (u0_16 := .int x131_5) (u0_17 := .ref q4) (u0_18 := u0_18) (u0_19 := u0_19) (u0_20 := u0_20) (u0_21 := .ref q5) (u0_22 := u0_22) (u0_23 := u0_23) (u0_24 := u0_24) (u0_25 := u0_25) (u0_26 := u0_26) (u0_27 := u0_27) (u0_28 := u0_28) (u0_29 := u0_29) (u0_30 := u0_30) (u0_31 := u0_31) (u0_32 := u0_32) (u0_33 := u0_33) (u0_34 := u0_34) (u0_35 := u0_35) (u0_36 := u0_36) (u0_37 := u0_37) (u0_38 := u0_38) (u0_39 := u0_39) (u0_40 := u0_40) (v_people := v_people) (p1 := x131_0) (r := y147) e19) [0] rfl rfl (fun _ => rfl) (fun _ => rfl) rfl rfl rfl rfl (Nat.le_of_ble_eq_true rfl) hl.1 (by rw [hRf]; exact Nat.le_of_ble_eq_true rfl) (by rw [hRl]; exact Nat.le_of_ble_eq_true rfl) ⟨Nat.zero_le _, Nat.zero_le _⟩ dX11_steps_147 rfl (fun H locs _ hS => ?_)
                      refine lv_if_ne (tgt := 156) hx hb dX11_steps_150 (by decide) (fun c20 => ?_) (fun c20 => ?_)
                      · have h := it_neg c20 h
                        refine lv_aload_n hx hb dX11_steps_156 rfl (lv_at hl 0 rfl) ?_
                        refine lv_aload_n hx hb dX11_steps_157 rfl (lv_at hl 0 rfl) ?_
                        refine r_get E frX11_39 hS 0 rfl rfl dX11_steps_158 ?_
                        refine lv_iload_n hx hb dX11_steps_161 rfl (lv_at hl 2 rfl) ?_
                        obtain ⟨y162, e21, h⟩ := bd_some h
                        refine ct_V (ws' := fun _ => [oX11 q0 (.ref q1) (.int v_people) u0_2 u0_3 (.ref q2) (.int v_rowMany) (.int (0 : Int32)) rv131_0 (.int x131_1) (.int x131_2) (.int x131_3) (.int x131_4) u0_12 (.ref q3) u0_14 (.int v_ruleSize) (.int x131_5) (.ref q4) u0_18 u0_19 u0_20 (.ref q5) u0_22 u0_23 u0_24 u0_25 u0_26 u0_27 u0_28 u0_29 u0_30 u0_31 u0_32 u0_33 u0_34 u0_35 u0_36 u0_37 u0_38 u0_39 u0_40, aI cy q1 37 v_now, aJ cy q2 16 v_row, aB cy q3 40 v_rule, aI cy q4 7 x131_6, aI cy q5 37 y162]) (st' := []) (rest := []) E hS vlX11_300 (c_X11_turn (l := l) (D := D) (cy := cy) (q0 := q0) (q1 := q5) (u0_0 := .ref q1) (u0_1 := .int v_people) (u0_2 := u0_2) (u0_3 := u0_3) (u0_4 := .ref q2) (u0_5 := .int v_rowMany) (u0_6 := .int (0 : Int32)) (u0_7 := rv131_0) (u0_8 := .int x131_1) (u0_9 := .int x131_2) (u0_10 := .int x131_3) (u0_11 := .int x131_4) (u0_12 := u0_12) (u0_13 := .ref q3) (u0_14 := u0_14) (u0_15 := .int v_ruleSize) (u0_16 := .int x131_5) (u0_17 := .ref q4) (u0_18 := u0_18) (u0_19 := u0_19) (u0_20 := u0_20) (u0_21 := .ref q5) (u0_22 := u0_22) (u0_23 := u0_23) (u0_24 := u0_24) (u0_25 := u0_25) (u0_26 := u0_26) (u0_27 := u0_27) (u0_28 := u0_28) (u0_29 := u0_29) (u0_30 := u0_30) (u0_31 := u0_31) (u0_32 := u0_32) (u0_33 := u0_33) (u0_34 := u0_34) (u0_35 := u0_35) (u0_36 := u0_36) (u0_37 := u0_37) (u0_38 := u0_38) (u0_39 := u0_39) (u0_40 := u0_40) (nw1_ := 37) (w1_ := x131_7) (p2 := x121_0) (r := y162) e21) [0, 5] rfl rfl (fun _ => rfl) (fun _ => rfl) rfl rfl rfl rfl (Nat.le_of_ble_eq_true rfl) hl.1 (by rw [hRf]; exact Nat.le_of_ble_eq_true rfl) (by rw [hRl]; exact Nat.le_of_ble_eq_true rfl) ⟨Nat.zero_le _, Nat.zero_le _⟩ dX11_steps_162 rfl (fun H locs _ hS => ?_)
                        refine lv_aload_n hx hb dX11_steps_165 rfl (lv_at hl 0 rfl) ?_
                        refine lv_aload_n hx hb dX11_steps_166 rfl (lv_at hl 0 rfl) ?_
                        refine r_get E frX11_39 hS 0 rfl rfl dX11_steps_167 ?_
                        refine lv_iload_n hx hb dX11_steps_170 rfl (lv_at hl 3 rfl) ?_
                        obtain ⟨y171, e22, h⟩ := bd_some h
                        refine ct_V (ws' := fun _ => [oX11 q0 (.ref q1) (.int v_people) u0_2 u0_3 (.ref q2) (.int v_rowMany) (.int (0 : Int32)) rv131_0 (.int x131_1) (.int x131_2) (.int x131_3) (.int x131_4) u0_12 (.ref q3) u0_14 (.int v_ruleSize) (.int x131_5) (.ref q4) u0_18 u0_19 u0_20 (.ref q5) u0_22 u0_23 u0_24 u0_25 u0_26 u0_27 u0_28 u0_29 u0_30 u0_31 u0_32 u0_33 u0_34 u0_35 u0_36 u0_37 u0_38 u0_39 u0_40, aI cy q1 37 v_now, aJ cy q2 16 v_row, aB cy q3 40 v_rule, aI cy q4 7 x131_6, aI cy q5 37 y171]) (st' := []) (rest := []) E hS vlX11_300 (c_X11_turn (l := l) (D := D) (cy := cy) (q0 := q0) (q1 := q5) (u0_0 := .ref q1) (u0_1 := .int v_people) (u0_2 := u0_2) (u0_3 := u0_3) (u0_4 := .ref q2) (u0_5 := .int v_rowMany) (u0_6 := .int (0 : Int32)) (u0_7 := rv131_0) (u0_8 := .int x131_1) (u0_9 := .int x131_2) (u0_10 := .int x131_3) (u0_11 := .int x131_4) (u0_12 := u0_12) (u0_13 := .ref q3) (u0_14 := u0_14) (u0_15 := .int v_ruleSize) (u0_16 := .int x131_5) (u0_17 := .ref q4) (u0_18 := u0_18) (u0_19 := u0_19) (u0_20 := u0_20) (u0_21 := .ref q5) (u0_22 := u0_22) (u0_23 := u0_23) (u0_24 := u0_24) (u0_25 := u0_25) (u0_26 := u0_26) (u0_27 := u0_27) (u0_28 := u0_28) (u0_29 := u0_29) (u0_30 := u0_30) (u0_31 := u0_31) (u0_32 := u0_32) (u0_33 := u0_33) (u0_34 := u0_34) (u0_35 := u0_35) (u0_36 := u0_36) (u0_37 := u0_37) (u0_38 := u0_38) (u0_39 := u0_39) (u0_40 := u0_40) (nw1_ := 37) (w1_ := y162) (p2 := x131_0) (r := y171) e22) [0, 5] rfl rfl (fun _ => rfl) (fun _ => rfl) rfl rfl rfl rfl (Nat.le_of_ble_eq_true rfl) hl.1 (by rw [hRf]; exact Nat.le_of_ble_eq_true rfl) (by rw [hRl]; exact Nat.le_of_ble_eq_true rfl) ⟨Nat.zero_le _, Nat.zero_le _⟩ dX11_steps_171 rfl (fun H locs _ hS => ?_)
                        refine lv_aload_n hx hb dX11_steps_174 rfl (lv_at hl 0 rfl) ?_
                        refine lv_aload_n hx hb dX11_steps_175 rfl (lv_at hl 0 rfl) ?_
                        refine r_get E frX11_39 hS 0 rfl rfl dX11_steps_176 ?_
                        refine lv_iload_n hx hb dX11_steps_179 rfl (lv_at hl 1 rfl) ?_
                        obtain ⟨y180, e23, h⟩ := bd_some h
                        refine ct_V (ws' := fun rc24 => [oX11 q0 (.ref q1) (.int v_people) u0_2 u0_3 (.ref q2) (.int v_rowMany) (.int (0 : Int32)) rc24 (.int y180.2.1) (.int y180.2.2.1) (.int y180.2.2.2.1) (.int y180.2.2.2.2.1) u0_12 (.ref q3) u0_14 (.int v_ruleSize) (.int y180.2.2.2.2.2.1) (.ref q4) u0_18 u0_19 u0_20 (.ref q5) u0_22 u0_23 u0_24 u0_25 u0_26 u0_27 u0_28 u0_29 u0_30 u0_31 u0_32 u0_33 u0_34 u0_35 u0_36 u0_37 u0_38 u0_39 u0_40, aI cy q1 37 v_now, aJ cy q2 16 v_row, aB cy q3 40 v_rule, aI cy q4 7 y180.2.2.2.2.2.2, aI cy q5 37 y171]) (st' := [.int y180.1]) (rest := []) E hS vlX11_216 (c_X11_isAwake (l := l) (D := D) (cy := cy) (q0 := q0) (q1 := q3) (q2 := q4) (q3 := q5) (u0_0 := .ref q1) (u0_2 := u0_2) (u0_3 := u0_3) (u0_4 := .ref q2) (u0_5 := .int v_rowMany) (u0_6 := .int (0 : Int32)) (u0_7 := rv131_0) (u0_12 := u0_12) (u0_14 := u0_14) (u0_18 := u0_18) (u0_19 := u0_19) (u0_20 := u0_20) (u0_21 := .ref q5) (u0_22 := u0_22) (u0_23 := u0_23) (u0_24 := u0_24) (u0_25 := u0_25) (u0_26 := u0_26) (u0_27 := u0_27) (u0_28 := u0_28) (u0_29 := u0_29) (u0_30 := u0_30) (u0_31 := u0_31) (u0_32 := u0_32) (u0_33 := u0_33) (u0_34 := u0_34) (u0_35 := u0_35) (u0_36 := u0_36) (u0_37 := u0_37) (u0_38 := u0_38) (u0_39 := u0_39) (u0_40 := u0_40) (v_people := v_people) (v_length := x131_1) (v_top := x131_2) (v_at := x131_3) (v_wrong := x131_4) (v_ruleSize := v_ruleSize) (v_isAsked := x131_5) (v_rule := v_rule) (v_asked := x131_6) (nw1_ := 37) (w1_ := y171) (p2 := p1) (r := y180) e23) [0, 3, 4, 5] rfl rfl (fun _ => rfl) (fun _ => rfl) rfl rfl rfl rfl (Nat.le_of_ble_eq_true rfl) hl.1 (by rw [hRf]; exact Nat.le_of_ble_eq_true rfl) (by rw [hRl]; exact Nat.le_of_ble_eq_true rfl) ⟨Nat.zero_le _, Nat.zero_le _⟩ dX11_steps_180 rfl (fun H locs rc24 hS => ?_)
                        refine lv_istore (lv' := [(4, .int y180.1), (0, .ref q0), (1, .int p1), (2, .int x121_0), (3, .int x131_0)]) hx hb dX11_steps_183 hl (by decide) rfl (fun ls hl => ?_)
                        refine lv_aload_n hx hb dX11_steps_185 rfl (lv_at hl 1 rfl) ?_
                        refine lv_aload_n hx hb dX11_steps_186 rfl (lv_at hl 1 rfl) ?_
                        refine r_get E frX11_39 hS 0 rfl rfl dX11_steps_187 ?_
                        refine lv_iload_n hx hb dX11_steps_190 rfl (lv_at hl 3 rfl) ?_
                        obtain ⟨y191, e25, h⟩ := bd_some h
                        refine ct_V (ws' := fun _ => [oX11 q0 (.ref q1) (.int v_people) u0_2 u0_3 (.ref q2) (.int v_rowMany) (.int (0 : Int32)) rc24 (.int y180.2.1) (.int y180.2.2.1) (.int y180.2.2.2.1) (.int y180.2.2.2.2.1) u0_12 (.ref q3) u0_14 (.int v_ruleSize) (.int y180.2.2.2.2.2.1) (.ref q4) u0_18 u0_19 u0_20 (.ref q5) u0_22 u0_23 u0_24 u0_25 u0_26 u0_27 u0_28 u0_29 u0_30 u0_31 u0_32 u0_33 u0_34 u0_35 u0_36 u0_37 u0_38 u0_39 u0_40, aI cy q1 37 v_now, aJ cy q2 16 v_row, aB cy q3 40 v_rule, aI cy q4 7 y180.2.2.2.2.2.2, aI cy q5 37 y191]) (st' := []) (rest := []) E hS vlX11_300 (c_X11_turn (l := l) (D := D) (cy := cy) (q0 := q0) (q1 := q5) (u0_0 := .ref q1) (u0_1 := .int v_people) (u0_2 := u0_2) (u0_3 := u0_3) (u0_4 := .ref q2) (u0_5 := .int v_rowMany) (u0_6 := .int (0 : Int32)) (u0_7 := rc24) (u0_8 := .int y180.2.1) (u0_9 := .int y180.2.2.1) (u0_10 := .int y180.2.2.2.1) (u0_11 := .int y180.2.2.2.2.1) (u0_12 := u0_12) (u0_13 := .ref q3) (u0_14 := u0_14) (u0_15 := .int v_ruleSize) (u0_16 := .int y180.2.2.2.2.2.1) (u0_17 := .ref q4) (u0_18 := u0_18) (u0_19 := u0_19) (u0_20 := u0_20) (u0_21 := .ref q5) (u0_22 := u0_22) (u0_23 := u0_23) (u0_24 := u0_24) (u0_25 := u0_25) (u0_26 := u0_26) (u0_27 := u0_27) (u0_28 := u0_28) (u0_29 := u0_29) (u0_30 := u0_30) (u0_31 := u0_31) (u0_32 := u0_32) (u0_33 := u0_33) (u0_34 := u0_34) (u0_35 := u0_35) (u0_36 := u0_36) (u0_37 := u0_37) (u0_38 := u0_38) (u0_39 := u0_39) (u0_40 := u0_40) (nw1_ := 37) (w1_ := y171) (p2 := x121_0) (r := y191) e25) [0, 5] rfl rfl (fun _ => rfl) (fun _ => rfl) rfl rfl rfl rfl (Nat.le_of_ble_eq_true rfl) hl.1 (by rw [hRf]; exact Nat.le_of_ble_eq_true rfl) (by rw [hRl]; exact Nat.le_of_ble_eq_true rfl) ⟨Nat.zero_le _, Nat.zero_le _⟩ dX11_steps_191 rfl (fun H locs _ hS => ?_)
                        refine lv_aload_n hx hb dX11_steps_194 rfl (lv_at hl 1 rfl) ?_
                        refine lv_aload_n hx hb dX11_steps_195 rfl (lv_at hl 1 rfl) ?_
                        refine r_get E frX11_39 hS 0 rfl rfl dX11_steps_196 ?_
                        refine lv_iload_n hx hb dX11_steps_199 rfl (lv_at hl 4 rfl) ?_
                        obtain ⟨y200, e26, h⟩ := bd_some h
                        refine ct_V (ws' := fun _ => [oX11 q0 (.ref q1) (.int v_people) u0_2 u0_3 (.ref q2) (.int v_rowMany) (.int (0 : Int32)) rc24 (.int y180.2.1) (.int y180.2.2.1) (.int y180.2.2.2.1) (.int y180.2.2.2.2.1) u0_12 (.ref q3) u0_14 (.int v_ruleSize) (.int y180.2.2.2.2.2.1) (.ref q4) u0_18 u0_19 u0_20 (.ref q5) u0_22 u0_23 u0_24 u0_25 u0_26 u0_27 u0_28 u0_29 u0_30 u0_31 u0_32 u0_33 u0_34 u0_35 u0_36 u0_37 u0_38 u0_39 u0_40, aI cy q1 37 v_now, aJ cy q2 16 v_row, aB cy q3 40 v_rule, aI cy q4 7 y180.2.2.2.2.2.2, aI cy q5 37 y200]) (st' := []) (rest := []) E hS vlX11_300 (c_X11_turn (l := l) (D := D) (cy := cy) (q0 := q0) (q1 := q5) (u0_0 := .ref q1) (u0_1 := .int v_people) (u0_2 := u0_2) (u0_3 := u0_3) (u0_4 := .ref q2) (u0_5 := .int v_rowMany) (u0_6 := .int (0 : Int32)) (u0_7 := rc24) (u0_8 := .int y180.2.1) (u0_9 := .int y180.2.2.1) (u0_10 := .int y180.2.2.2.1) (u0_11 := .int y180.2.2.2.2.1) (u0_12 := u0_12) (u0_13 := .ref q3) (u0_14 := u0_14) (u0_15 := .int v_ruleSize) (u0_16 := .int y180.2.2.2.2.2.1) (u0_17 := .ref q4) (u0_18 := u0_18) (u0_19 := u0_19) (u0_20 := u0_20) (u0_21 := .ref q5) (u0_22 := u0_22) (u0_23 := u0_23) (u0_24 := u0_24) (u0_25 := u0_25) (u0_26 := u0_26) (u0_27 := u0_27) (u0_28 := u0_28) (u0_29 := u0_29) (u0_30 := u0_30) (u0_31 := u0_31) (u0_32 := u0_32) (u0_33 := u0_33) (u0_34 := u0_34) (u0_35 := u0_35) (u0_36 := u0_36) (u0_37 := u0_37) (u0_38 := u0_38) (u0_39 := u0_39) (u0_40 := u0_40) (nw1_ := 37) (w1_ := y191) (p2 := x131_0) (r := y200) e26) [0, 5] rfl rfl (fun _ => rfl) (fun _ => rfl) rfl rfl rfl rfl (Nat.le_of_ble_eq_true rfl) hl.1 (by rw [hRf]; exact Nat.le_of_ble_eq_true rfl) (by rw [hRl]; exact Nat.le_of_ble_eq_true rfl) ⟨Nat.zero_le _, Nat.zero_le _⟩ dX11_steps_200 rfl (fun H locs _ hS => ?_)
                        refine lv_iload hx hb dX11_steps_203 (lv_at hl 0 rfl) ?_
                        refine lv_if_ne (tgt := 211) hx hb dX11_steps_205 (by decide) (fun c27 => ?_) (fun c27 => ?_)
                        · have h := it_neg c27 h
                          exact hk131_1 x131_0 y180.2.1 y180.2.2.1 y180.2.2.2.1 y180.2.2.2.2.1 y180.2.2.2.2.2.1 y180.2.2.2.2.2.2 y200 (hz131b _ (Option.some.inj h).symm) rc24 H locs ls hS (lv_sub hl [1, 3, 4] rfl)
                        · have h := it_pos c27 h
                          refine lv_goto (tgt := 230) hx hb dX11_steps_208 (by decide) ?_
                          refine lv_iinc (v := (x131_0 + (1 : Int32))) (lv' := [(3, .int (x131_0 + (1 : Int32))), (4, .int y180.1), (0, .ref q0), (1, .int p1), (2, .int x121_0)]) hx hb dX11_steps_230 hl (k := 4) rfl rfl (by decide) rfl (fun ls hl => ?_)
                          refine lv_goto (tgt := 131) hx hb dX11_steps_233 (by decide) ?_
                          exact ih131 (x131_0 + (1 : Int32)) y180.2.1 y180.2.2.1 y180.2.2.2.1 y180.2.2.2.2.1 y180.2.2.2.2.2.1 y180.2.2.2.2.2.2 y200 y131 rc24 H locs ls (hz131a _ (Option.some.inj h).symm) hS (lv_sub hl [2, 3, 4, 0] rfl) hk131_0 hk131_1
                      · have h := it_pos c20 h
                        refine lv_goto (tgt := 230) hx hb dX11_steps_153 (by decide) ?_
                        refine lv_iinc (v := (x131_0 + (1 : Int32))) (lv' := [(3, .int (x131_0 + (1 : Int32))), (0, .ref q0), (1, .int p1), (2, .int x121_0)]) hx hb dX11_steps_230 hl (k := 3) rfl rfl (by decide) rfl (fun ls hl => ?_)
                        refine lv_goto (tgt := 131) hx hb dX11_steps_233 (by decide) ?_
                        exact ih131 (x131_0 + (1 : Int32)) x131_1 x131_2 x131_3 x131_4 x131_5 x131_6 x131_7 y131 rv131_0 H locs ls (hz131a _ (Option.some.inj h).symm) hS (lv_sub hl [1, 2, 3, 0] rfl) hk131_0 hk131_1
              obtain ⟨y131, e131, h⟩ := bd_some h
              refine hL131 1000 (x121_0 + (1 : Int32)) x121_1 x121_2 x121_3 x121_4 x121_5 x121_6 x121_7 y131 rv121_0 H locs ls e131 hS (lv_sub hl [1, 2, 3, 0] rfl) (fun ye131_0_0 ye131_0_1 ye131_0_2 ye131_0_3 ye131_0_4 ye131_0_5 ye131_0_6 ey131 rw131_0 H locs ls hS hl => ?_) (fun ye131_1_0 ye131_1_1 ye131_1_2 ye131_1_3 ye131_1_4 ye131_1_5 ye131_1_6 ye131_1_7 ey131 rw131_0 H locs ls hS hl => ?_)
              · subst ey131
                have h := sm_l h
                have h := un_r h
                have h := un_r h
                have h := un_r h
                have h := un_r h
                have h := un_r h
                have h := un_r h
                refine lv_iinc (v := (x121_0 + (1 : Int32))) (lv' := [(2, .int (x121_0 + (1 : Int32))), (0, .ref q0), (1, .int p1)]) hx hb dX11_steps_236 hl (k := 2) rfl rfl (by decide) rfl (fun ls hl => ?_)
                refine lv_goto (tgt := 121) hx hb dX11_steps_239 (by decide) ?_
                exact ih121 (x121_0 + (1 : Int32)) ye131_0_0 ye131_0_1 ye131_0_2 ye131_0_3 ye131_0_4 ye131_0_5 ye131_0_6 y121 rw131_0 H locs ls (hz121a _ (Option.some.inj h).symm) hS (lv_sub hl [1, 2, 0] rfl) hk121_0 hk121_1
              · subst ey131
                have h := sm_r h
                have h := un_r h
                have h := un_r h
                have h := un_r h
                have h := un_r h
                have h := un_r h
                have h := un_r h
                have h := un_r h
                exact hk121_1 x121_0 ye131_1_0 ye131_1_1 ye131_1_2 ye131_1_3 ye131_1_4 ye131_1_5 ye131_1_6 ye131_1_7 (hz121b _ (Option.some.inj h).symm) rw131_0 H locs ls hS (lv_sub hl [0, 1, 2] rfl)
        obtain ⟨y121, e121, h⟩ := bd_some h
        refine hL121 1000 (0 : Int32) ye48_0_0 ye48_0_1 ye48_0_2 ye48_0_3 ye48_0_4 ye48_0_5 ye48_0_6 y121 rw48_0 H locs ls e121 hS (lv_sub hl [1, 2, 0] rfl) (fun ye121_0_0 ye121_0_1 ye121_0_2 ye121_0_3 ye121_0_4 ye121_0_5 ye121_0_6 ey121 rw121_0 H locs ls hS hl => ?_) (fun ye121_1_0 ye121_1_1 ye121_1_2 ye121_1_3 ye121_1_4 ye121_1_5 ye121_1_6 ye121_1_7 ye121_1_8 ey121 rw121_0 H locs ls hS hl => ?_)
        · subst ey121
          have h := sm_l h
          have h := un_r h
          have h := un_r h
          have h := un_r h
          have h := un_r h
          have h := un_r h
          have h := un_r h
          refine lv_bipush (v := -2) hx hb dX11_steps_242 (by decide) ?_
          obtain rfl := Option.some.inj h
          exact rt_i E hQ (rw121_0) hS dX11_steps_244
        · subst ey121
          have h := sm_r h
          have h := un_r h
          have h := un_r h
          have h := un_r h
          have h := un_r h
          have h := un_r h
          have h := un_r h
          have h := un_r h
          have h := un_r h
          refine lv_aload_n hx hb dX11_steps_211 rfl (lv_at hl 0 rfl) ?_
          refine lv_iconst (v := 0) hx hb dX11_steps_212 (by decide) ?_
          refine r_put (ws' := [oX11 q0 (.ref q1) (.int v_people) u0_2 u0_3 (.ref q2) (.int (0 : Int32)) (.int (0 : Int32)) rw121_0 (.int ye121_1_2) (.int ye121_1_3) (.int ye121_1_4) (.int ye121_1_5) u0_12 (.ref q3) u0_14 (.int v_ruleSize) (.int ye121_1_6) (.ref q4) u0_18 u0_19 u0_20 (.ref q5) u0_22 u0_23 u0_24 u0_25 u0_26 u0_27 u0_28 u0_29 u0_30 u0_31 u0_32 u0_33 u0_34 u0_35 u0_36 u0_37 u0_38 u0_39 u0_40, aI cy q1 37 v_now, aJ cy q2 16 v_row, aB cy q3 40 v_rule, aI cy q4 7 ye121_1_7, aI cy q5 37 ye121_1_8]) E frX11_89 hS 0 rfl (Nat.le_of_ble_eq_true rfl) rfl rfl rfl rfl dX11_steps_213 (fun H locs hS => ?_)
          refine lv_aload_n hx hb dX11_steps_216 rfl (lv_at hl 0 rfl) ?_
          refine lv_iload_n hx hb dX11_steps_217 rfl (lv_at hl 1 rfl) ?_
          refine lv_i2l (v := (ye121_1_0.toInt64)) hx hb dX11_steps_218 rfl ?_
          obtain ⟨y219, e28, h⟩ := bd_some h
          refine ct_V (ws' := fun _ => [oX11 q0 (.ref q1) (.int v_people) u0_2 u0_3 (.ref q2) (.int y219.1) (.int (0 : Int32)) rw121_0 (.int ye121_1_2) (.int ye121_1_3) (.int ye121_1_4) (.int ye121_1_5) u0_12 (.ref q3) u0_14 (.int v_ruleSize) (.int ye121_1_6) (.ref q4) u0_18 u0_19 u0_20 (.ref q5) u0_22 u0_23 u0_24 u0_25 u0_26 u0_27 u0_28 u0_29 u0_30 u0_31 u0_32 u0_33 u0_34 u0_35 u0_36 u0_37 u0_38 u0_39 u0_40, aI cy q1 37 v_now, aJ cy q2 16 y219.2, aB cy q3 40 v_rule, aI cy q4 7 ye121_1_7, aI cy q5 37 ye121_1_8]) (st' := []) (rest := []) E hS vlX11_256 (c_X11_tell (l := l) (D := D) (cy := cy) (q0 := q0) (q1 := q2) (u0_0 := .ref q1) (u0_1 := .int v_people) (u0_2 := u0_2) (u0_3 := u0_3) (u0_6 := .int (0 : Int32)) (u0_7 := rw121_0) (u0_8 := .int ye121_1_2) (u0_9 := .int ye121_1_3) (u0_10 := .int ye121_1_4) (u0_11 := .int ye121_1_5) (u0_12 := u0_12) (u0_13 := .ref q3) (u0_14 := u0_14) (u0_15 := .int v_ruleSize) (u0_16 := .int ye121_1_6) (u0_17 := .ref q4) (u0_18 := u0_18) (u0_19 := u0_19) (u0_20 := u0_20) (u0_21 := .ref q5) (u0_22 := u0_22) (u0_23 := u0_23) (u0_24 := u0_24) (u0_25 := u0_25) (u0_26 := u0_26) (u0_27 := u0_27) (u0_28 := u0_28) (u0_29 := u0_29) (u0_30 := u0_30) (u0_31 := u0_31) (u0_32 := u0_32) (u0_33 := u0_33) (u0_34 := u0_34) (u0_35 := u0_35) (u0_36 := u0_36) (u0_37 := u0_37) (u0_38 := u0_38) (u0_39 := u0_39) (u0_40 := u0_40) (v_rowMany := (0 : Int32)) (v_row := v_row) (p1 := (ye121_1_0.toInt64)) (r := y219) e28) [0, 2] rfl rfl (fun _ => rfl) (fun _ => rfl) rfl rfl rfl rfl (Nat.le_of_ble_eq_true rfl) hl.1 (by rw [hRf]; exact Nat.le_of_ble_eq_true rfl) (by rw [hRl]; exact Nat.le_of_ble_eq_true rfl) ⟨Nat.zero_le _, Nat.zero_le _⟩ dX11_steps_219 rfl (fun H locs _ hS => ?_)
          refine lv_aload_n hx hb dX11_steps_222 rfl (lv_at hl 0 rfl) ?_
          refine lv_iload_n hx hb dX11_steps_223 rfl (lv_at hl 2 rfl) ?_
          refine lv_i2l (v := (ye121_1_1.toInt64)) hx hb dX11_steps_224 rfl ?_
          obtain ⟨y225, e29, h⟩ := bd_some h
          refine ct_V (ws' := fun _ => [oX11 q0 (.ref q1) (.int v_people) u0_2 u0_3 (.ref q2) (.int y225.1) (.int (0 : Int32)) rw121_0 (.int ye121_1_2) (.int ye121_1_3) (.int ye121_1_4) (.int ye121_1_5) u0_12 (.ref q3) u0_14 (.int v_ruleSize) (.int ye121_1_6) (.ref q4) u0_18 u0_19 u0_20 (.ref q5) u0_22 u0_23 u0_24 u0_25 u0_26 u0_27 u0_28 u0_29 u0_30 u0_31 u0_32 u0_33 u0_34 u0_35 u0_36 u0_37 u0_38 u0_39 u0_40, aI cy q1 37 v_now, aJ cy q2 16 y225.2, aB cy q3 40 v_rule, aI cy q4 7 ye121_1_7, aI cy q5 37 ye121_1_8]) (st' := []) (rest := []) E hS vlX11_256 (c_X11_tell (l := l) (D := D) (cy := cy) (q0 := q0) (q1 := q2) (u0_0 := .ref q1) (u0_1 := .int v_people) (u0_2 := u0_2) (u0_3 := u0_3) (u0_6 := .int (0 : Int32)) (u0_7 := rw121_0) (u0_8 := .int ye121_1_2) (u0_9 := .int ye121_1_3) (u0_10 := .int ye121_1_4) (u0_11 := .int ye121_1_5) (u0_12 := u0_12) (u0_13 := .ref q3) (u0_14 := u0_14) (u0_15 := .int v_ruleSize) (u0_16 := .int ye121_1_6) (u0_17 := .ref q4) (u0_18 := u0_18) (u0_19 := u0_19) (u0_20 := u0_20) (u0_21 := .ref q5) (u0_22 := u0_22) (u0_23 := u0_23) (u0_24 := u0_24) (u0_25 := u0_25) (u0_26 := u0_26) (u0_27 := u0_27) (u0_28 := u0_28) (u0_29 := u0_29) (u0_30 := u0_30) (u0_31 := u0_31) (u0_32 := u0_32) (u0_33 := u0_33) (u0_34 := u0_34) (u0_35 := u0_35) (u0_36 := u0_36) (u0_37 := u0_37) (u0_38 := u0_38) (u0_39 := u0_39) (u0_40 := u0_40) (v_rowMany := y219.1) (v_row := y219.2) (p1 := (ye121_1_1.toInt64)) (r := y225) e29) [0, 2] rfl rfl (fun _ => rfl) (fun _ => rfl) rfl rfl rfl rfl (Nat.le_of_ble_eq_true rfl) hl.1 (by rw [hRf]; exact Nat.le_of_ble_eq_true rfl) (by rw [hRl]; exact Nat.le_of_ble_eq_true rfl) ⟨Nat.zero_le _, Nat.zero_le _⟩ dX11_steps_225 rfl (fun H locs _ hS => ?_)
          refine lv_iconst (v := 2) hx hb dX11_steps_228 (by decide) ?_
          obtain rfl := Option.some.inj h
          exact rt_i E hQ (rw121_0) hS dX11_steps_229
      · subst ey48
        have h := sm_r h
        have h := un_r h
        have h := un_r h
        have h := un_r h
        have h := un_r h
        have h := un_r h
        have h := un_r h
        have h := un_r h
        refine lv_aload_n hx hb dX11_steps_100 rfl (lv_at hl 0 rfl) ?_
        refine lv_iconst (v := 0) hx hb dX11_steps_101 (by decide) ?_
        refine r_put (ws' := [oX11 q0 (.ref q1) (.int v_people) u0_2 u0_3 (.ref q2) (.int (0 : Int32)) (.int (0 : Int32)) rw48_0 (.int ye48_1_1) (.int ye48_1_2) (.int ye48_1_3) (.int ye48_1_4) u0_12 (.ref q3) u0_14 (.int v_ruleSize) (.int ye48_1_5) (.ref q4) u0_18 u0_19 u0_20 (.ref q5) u0_22 u0_23 u0_24 u0_25 u0_26 u0_27 u0_28 u0_29 u0_30 u0_31 u0_32 u0_33 u0_34 u0_35 u0_36 u0_37 u0_38 u0_39 u0_40, aI cy q1 37 v_now, aJ cy q2 16 v_row, aB cy q3 40 v_rule, aI cy q4 7 ye48_1_6, aI cy q5 37 ye48_1_7]) E frX11_89 hS 0 rfl (Nat.le_of_ble_eq_true rfl) rfl rfl rfl rfl dX11_steps_102 (fun H locs hS => ?_)
        refine lv_aload_n hx hb dX11_steps_105 rfl (lv_at hl 0 rfl) ?_
        refine lv_iload_n hx hb dX11_steps_106 rfl (lv_at hl 1 rfl) ?_
        refine lv_i2l (v := (ye48_1_0.toInt64)) hx hb dX11_steps_107 rfl ?_
        obtain ⟨y108, e30, h⟩ := bd_some h
        refine ct_V (ws' := fun _ => [oX11 q0 (.ref q1) (.int v_people) u0_2 u0_3 (.ref q2) (.int y108.1) (.int (0 : Int32)) rw48_0 (.int ye48_1_1) (.int ye48_1_2) (.int ye48_1_3) (.int ye48_1_4) u0_12 (.ref q3) u0_14 (.int v_ruleSize) (.int ye48_1_5) (.ref q4) u0_18 u0_19 u0_20 (.ref q5) u0_22 u0_23 u0_24 u0_25 u0_26 u0_27 u0_28 u0_29 u0_30 u0_31 u0_32 u0_33 u0_34 u0_35 u0_36 u0_37 u0_38 u0_39 u0_40, aI cy q1 37 v_now, aJ cy q2 16 y108.2, aB cy q3 40 v_rule, aI cy q4 7 ye48_1_6, aI cy q5 37 ye48_1_7]) (st' := []) (rest := []) E hS vlX11_256 (c_X11_tell (l := l) (D := D) (cy := cy) (q0 := q0) (q1 := q2) (u0_0 := .ref q1) (u0_1 := .int v_people) (u0_2 := u0_2) (u0_3 := u0_3) (u0_6 := .int (0 : Int32)) (u0_7 := rw48_0) (u0_8 := .int ye48_1_1) (u0_9 := .int ye48_1_2) (u0_10 := .int ye48_1_3) (u0_11 := .int ye48_1_4) (u0_12 := u0_12) (u0_13 := .ref q3) (u0_14 := u0_14) (u0_15 := .int v_ruleSize) (u0_16 := .int ye48_1_5) (u0_17 := .ref q4) (u0_18 := u0_18) (u0_19 := u0_19) (u0_20 := u0_20) (u0_21 := .ref q5) (u0_22 := u0_22) (u0_23 := u0_23) (u0_24 := u0_24) (u0_25 := u0_25) (u0_26 := u0_26) (u0_27 := u0_27) (u0_28 := u0_28) (u0_29 := u0_29) (u0_30 := u0_30) (u0_31 := u0_31) (u0_32 := u0_32) (u0_33 := u0_33) (u0_34 := u0_34) (u0_35 := u0_35) (u0_36 := u0_36) (u0_37 := u0_37) (u0_38 := u0_38) (u0_39 := u0_39) (u0_40 := u0_40) (v_rowMany := (0 : Int32)) (v_row := v_row) (p1 := (ye48_1_0.toInt64)) (r := y108) e30) [0, 2] rfl rfl (fun _ => rfl) (fun _ => rfl) rfl rfl rfl rfl (Nat.le_of_ble_eq_true rfl) hl.1 (by rw [hRf]; exact Nat.le_of_ble_eq_true rfl) (by rw [hRl]; exact Nat.le_of_ble_eq_true rfl) ⟨Nat.zero_le _, Nat.zero_le _⟩ dX11_steps_108 rfl (fun H locs _ hS => ?_)
        refine lv_iconst (v := 1) hx hb dX11_steps_111 (by decide) ?_
        obtain rfl := Option.some.inj h
        exact rt_i E hQ (rw48_0) hS dX11_steps_112
    · have h := it_neg c5 h
      refine lv_aload_n hx hb dX11_steps_27 rfl (lv_at hl 0 rfl) ?_
      refine lv_iconst (v := 0) hx hb dX11_steps_28 (by decide) ?_
      refine r_put (ws' := [oX11 q0 (.ref q1) (.int v_people) u0_2 u0_3 (.ref q2) (.int (0 : Int32)) (.int (0 : Int32)) rc4 (.int y21.2.1) (.int y21.2.2.1) (.int y21.2.2.2.1) (.int y21.2.2.2.2.1) u0_12 (.ref q3) u0_14 (.int v_ruleSize) (.int y21.2.2.2.2.2.1) (.ref q4) u0_18 u0_19 u0_20 (.ref q5) u0_22 u0_23 u0_24 u0_25 u0_26 u0_27 u0_28 u0_29 u0_30 u0_31 u0_32 u0_33 u0_34 u0_35 u0_36 u0_37 u0_38 u0_39 u0_40, aI cy q1 37 v_now, aJ cy q2 16 v_row, aB cy q3 40 v_rule, aI cy q4 7 y21.2.2.2.2.2.2, aI cy q5 37 v_then]) E frX11_89 hS 0 rfl (Nat.le_of_ble_eq_true rfl) rfl rfl rfl rfl dX11_steps_29 (fun H locs hS => ?_)
      refine lv_iconst (v := 0) hx hb dX11_steps_32 (by decide) ?_
      obtain rfl := Option.some.inj h
      exact rt_i E hQ (rc4) hS dX11_steps_33
  · have h := it_pos c2 h
    refine lv_iconst (v := -1) hx hb dX11_steps_13 (by decide) ?_
    obtain rfl := Option.some.inj h
    exact rt_i E hQ (u0_7) hS dX11_steps_14
set_option maxHeartbeats 4000000 in
set_option maxRecDepth 100000 in
theorem c_X11_beginDropped {l : Launch} {D : va_G} {cy : Nat → ClassId} (q0 : Nat) (q1 : Nat) (q2 : Nat) (u0_2 : Value) (u0_3 : Value) (u0_4 : Value) (u0_5 : Value) (u0_6 : Value) (u0_7 : Value) (u0_8 : Value) (u0_9 : Value) (u0_10 : Value) (u0_11 : Value) (u0_12 : Value) (u0_13 : Value) (u0_14 : Value) (u0_15 : Value) (u0_16 : Value) (u0_17 : Value) (u0_18 : Value) (u0_19 : Value) (u0_20 : Value) (u0_22 : Value) (u0_23 : Value) (u0_24 : Value) (u0_25 : Value) (u0_26 : Value) (u0_27 : Value) (u0_28 : Value) (u0_29 : Value) (u0_30 : Value) (u0_31 : Value) (u0_32 : Value) (u0_33 : Value) (u0_34 : Value) (u0_35 : Value) (u0_36 : Value) (u0_37 : Value) (u0_38 : Value) (u0_39 : Value) (u0_40 : Value) (v_people : Int32) (v_now : Nat → Int32) (v_then : Nat → Int32) (p1 : Int32) (p2 : Int32) (r : (Nat → Int32)) (h : X11_beginDropped v_people v_now v_then p1 p2 = some r) : Ct l yX11_beginDropped cX11_beginDropped 4 none 1 23 D cy [.ref q0, .int p1, .int p2] [oX11 q0 (.ref q1) (.int v_people) u0_2 u0_3 u0_4 u0_5 u0_6 u0_7 u0_8 u0_9 u0_10 u0_11 u0_12 u0_13 u0_14 u0_15 u0_16 u0_17 u0_18 u0_19 u0_20 (.ref q2) u0_22 u0_23 u0_24 u0_25 u0_26 u0_27 u0_28 u0_29 u0_30 u0_31 u0_32 u0_33 u0_34 u0_35 u0_36 u0_37 u0_38 u0_39 u0_40, aI cy q1 37 v_now, aI cy q2 37 v_then] (fun _ => [oX11 q0 (.ref q1) (.int v_people) u0_2 u0_3 u0_4 u0_5 u0_6 u0_7 u0_8 u0_9 u0_10 u0_11 u0_12 u0_13 u0_14 u0_15 u0_16 u0_17 u0_18 u0_19 u0_20 (.ref q2) u0_22 u0_23 u0_24 u0_25 u0_26 u0_27 u0_28 u0_29 u0_30 u0_31 u0_32 u0_33 u0_34 u0_35 u0_36 u0_37 u0_38 u0_39 u0_40, aI cy q1 37 v_now, aI cy q2 37 r]) (none) := by
  refine Ct.mk kX11_beginDropped (by decide +kernel) (Nat.le_of_ble_eq_true rfl) ?_
  intro p e s m below meth c A ls args R Q hRf hRl hQ E H locs hS hl
  have hx := E.x
  have hb := E.b
  have hl : lv_has ls 4 [(0, .ref q0), (1, .int p1), (2, .int p2)] := hl
  unfold X11_beginDropped at h
  refine lv_aload_n hx hb dX11_beginDropped_0 rfl (lv_at hl 0 rfl) ?_
  refine r_get E frX11_9 hS 0 rfl rfl dX11_beginDropped_1 ?_
  refine lv_aload_n hx hb dX11_beginDropped_4 rfl (lv_at hl 0 rfl) ?_
  refine r_get E frX11_39 hS 0 rfl rfl dX11_beginDropped_5 ?_
  refine lv_iconst (v := 0) hx hb dX11_beginDropped_8 (by decide) ?_
  obtain ⟨y9, e1, h⟩ := bd_some h
  refine ct_S (ws' := fun _ => [oX11 q0 (.ref q1) (.int v_people) u0_2 u0_3 u0_4 u0_5 u0_6 u0_7 u0_8 u0_9 u0_10 u0_11 u0_12 u0_13 u0_14 u0_15 u0_16 u0_17 u0_18 u0_19 u0_20 (.ref q2) u0_22 u0_23 u0_24 u0_25 u0_26 u0_27 u0_28 u0_29 u0_30 u0_31 u0_32 u0_33 u0_34 u0_35 u0_36 u0_37 u0_38 u0_39 u0_40, aI cy q1 37 v_now, aI cy q2 37 y9]) (st' := []) (rest := []) E hS slX11_235 (c_X11_lay (l := l) (D := D) (cy := cy) (q0 := q1) (q1 := q2) (nw1_ := 37) (w1_ := v_now) (nw2_ := 37) (w2_ := v_then) (p2 := (0 : Int32)) (r := y9) e1) [1, 2] rfl rfl (fun _ => rfl) (fun _ => rfl) rfl rfl (Nat.le_of_ble_eq_true rfl) hl.1 (by rw [hRf]; exact Nat.le_of_ble_eq_true rfl) (by rw [hRl]; exact Nat.le_of_ble_eq_true rfl) ⟨Nat.zero_le _, Nat.zero_le _⟩ dX11_beginDropped_9 rfl (fun H locs _ hS => ?_)
  refine lv_iconst (v := 0) hx hb dX11_beginDropped_12 (by decide) ?_
  refine lv_istore_n (lv' := [(3, .int (0 : Int32)), (0, .ref q0), (1, .int p1), (2, .int p2)]) hx hb dX11_beginDropped_13 rfl hl (by decide) rfl (fun ls hl => ?_)
  have hL14 : ∀ (n : Nat) (x14_0 : Int32) (x14_1 : Nat → Int32) (y14 : (Nat → Int32)) (H : Heap) (locs : List Loc) (ls : Array Slot), lp (fun x14 => X11_beginDropped_s14 v_people p1 p2 x14.1 x14.2) n (x14_0, x14_1) = some y14 → Sv D A s.heap [oX11 q0 (.ref q1) (.int v_people) u0_2 u0_3 u0_4 u0_5 u0_6 u0_7 u0_8 u0_9 u0_10 u0_11 u0_12 u0_13 u0_14 u0_15 u0_16 u0_17 u0_18 u0_19 u0_20 (.ref q2) u0_22 u0_23 u0_24 u0_25 u0_26 u0_27 u0_28 u0_29 u0_30 u0_31 u0_32 u0_33 u0_34 u0_35 u0_36 u0_37 u0_38 u0_39 u0_40, aI cy q1 37 v_now, aI cy q2 37 x14_1] H locs → lv_has ls 4 [(0, .ref q0), (1, .int p1), (2, .int p2), (3, .int x14_0)] → ( ∀ (y14_0 : Nat → Int32), y14_0 = y14 → ∀ (H : Heap) (locs : List Loc) (ls : Array Slot), Sv D A s.heap [oX11 q0 (.ref q1) (.int v_people) u0_2 u0_3 u0_4 u0_5 u0_6 u0_7 u0_8 u0_9 u0_10 u0_11 u0_12 u0_13 u0_14 u0_15 u0_16 u0_17 u0_18 u0_19 u0_20 (.ref q2) u0_22 u0_23 u0_24 u0_25 u0_26 u0_27 u0_28 u0_29 u0_30 u0_31 u0_32 u0_33 u0_34 u0_35 u0_36 u0_37 u0_38 u0_39 u0_40, aI cy q1 37 v_now, aI cy q2 37 y14_0] H locs → lv_has ls 4 [] → W p l e R s m args below meth c H locs 0 0 Q (F0 m 53 ls [])) → W p l e R s m args below meth c H locs 0 0 Q (F0 m 14 ls []) := by
    intro n
    induction n with
    | zero =>
      intro x14_0 x14_1 y14 H locs ls h
      exact lp_zero h
    | succ n ih14 =>
      intro x14_0 x14_1 y14 H locs ls h hS hl hk14_0
      obtain ⟨z14, h, hz14a, hz14b⟩ := lp_succ h
      have h : X11_beginDropped_s14 v_people p1 p2 x14_0 x14_1 = some z14 := h
      unfold X11_beginDropped_s14 at h
      refine lv_iload_n hx hb dX11_beginDropped_14 rfl (lv_at hl 3 rfl) ?_
      refine lv_aload_n hx hb dX11_beginDropped_15 rfl (lv_at hl 0 rfl) ?_
      refine r_get E frX11_92 hS 0 rfl rfl dX11_beginDropped_16 ?_
      refine lv_icmp_ge (tgt := 53) hx hb dX11_beginDropped_19 (by decide) (fun c2 => ?_) (fun c2 => ?_)
      · have h := it_pos c2 h
        exact hk14_0 x14_1 (hz14b _ (Option.some.inj h).symm)  H locs ls hS (lv_sub hl [] rfl)
      · have h := it_neg c2 h
        refine lv_iload_n hx hb dX11_beginDropped_22 rfl (lv_at hl 1 rfl) ?_
        refine lv_iload_n hx hb dX11_beginDropped_23 rfl (lv_at hl 3 rfl) ?_
        refine ct_S (ws' := fun _ => [oX11 q0 (.ref q1) (.int v_people) u0_2 u0_3 u0_4 u0_5 u0_6 u0_7 u0_8 u0_9 u0_10 u0_11 u0_12 u0_13 u0_14 u0_15 u0_16 u0_17 u0_18 u0_19 u0_20 (.ref q2) u0_22 u0_23 u0_24 u0_25 u0_26 u0_27 u0_28 u0_29 u0_30 u0_31 u0_32 u0_33 u0_34 u0_35 u0_36 u0_37 u0_38 u0_39 u0_40, aI cy q1 37 v_now, aI cy q2 37 x14_1]) (st' := [.int (X11_has p1 x14_0)]) (rest := []) E hS slX11_196 (c_X11_has (l := l) (D := D) (cy := cy) (p0 := p1) (p1 := x14_0) (r := (X11_has p1 x14_0)) rfl) [] rfl rfl (fun _ => rfl) (fun _ => rfl) rfl rfl (Nat.le_of_ble_eq_true rfl) hl.1 (by rw [hRf]; exact Nat.le_of_ble_eq_true rfl) (by rw [hRl]; exact Nat.le_of_ble_eq_true rfl) ⟨Nat.zero_le _, Nat.zero_le _⟩ dX11_beginDropped_24 rfl (fun H locs _ hS => ?_)
        refine lv_if_eq (tgt := 47) hx hb dX11_beginDropped_27 (by decide) (fun c3 => ?_) (fun c3 => ?_)
        · have h := it_pos c3 h
          refine lv_iinc (v := (x14_0 + (1 : Int32))) (lv' := [(3, .int (x14_0 + (1 : Int32))), (0, .ref q0), (1, .int p1), (2, .int p2)]) hx hb dX11_beginDropped_47 hl (k := 3) rfl rfl (by decide) rfl (fun ls hl => ?_)
          refine lv_goto (tgt := 14) hx hb dX11_beginDropped_50 (by decide) ?_
          exact ih14 (x14_0 + (1 : Int32)) x14_1 y14  H locs ls (hz14a _ (Option.some.inj h).symm) hS (lv_sub hl [1, 2, 3, 0] rfl) hk14_0
        · have h := it_neg c3 h
          refine lv_aload_n hx hb dX11_beginDropped_30 rfl (lv_at hl 0 rfl) ?_
          refine r_get E frX11_39 hS 0 rfl rfl dX11_beginDropped_31 ?_
          refine lv_bipush (v := 28) hx hb dX11_beginDropped_34 (by decide) ?_
          refine lv_iload_n hx hb dX11_beginDropped_36 rfl (lv_at hl 3 rfl) ?_
          refine lv_iadd hx hb dX11_beginDropped_37 ?_
          refine lv_dup2_11 hx hb dX11_beginDropped_38 rfl rfl ?_
          obtain ⟨g4, h⟩ := gi_some h
          refine r_iald E hS 2 rfl g4 dX11_beginDropped_39 ?_
          refine lv_iconst (v := 1) hx hb dX11_beginDropped_40 (by decide) ?_
          refine lv_iload_n hx hb dX11_beginDropped_41 rfl (lv_at hl 2 rfl) ?_
          refine lv_ishl hx hb dX11_beginDropped_42 ?_
          refine lv_iconst (v := -1) hx hb dX11_beginDropped_43 (by decide) ?_
          refine lv_ixor hx hb dX11_beginDropped_44 ?_
          refine lv_iand hx hb dX11_beginDropped_45 ?_
          obtain ⟨g5, h⟩ := gi_some h
          refine r_iast (ws' := [oX11 q0 (.ref q1) (.int v_people) u0_2 u0_3 u0_4 u0_5 u0_6 u0_7 u0_8 u0_9 u0_10 u0_11 u0_12 u0_13 u0_14 u0_15 u0_16 u0_17 u0_18 u0_19 u0_20 (.ref q2) u0_22 u0_23 u0_24 u0_25 u0_26 u0_27 u0_28 u0_29 u0_30 u0_31 u0_32 u0_33 u0_34 u0_35 u0_36 u0_37 u0_38 u0_39 u0_40, aI cy q1 37 v_now, aI cy q2 37 (upd x14_1 ((28 : Int32) + x14_0).toNatClampNeg ((x14_1 ((28 : Int32) + x14_0).toNatClampNeg) &&& (((1 : Int32) <<< (p2 &&& 31)) ^^^ (-1 : Int32))))]) E hS 2 rfl g5 rfl dX11_beginDropped_46 (fun H locs hS => ?_)
          refine lv_iinc (v := (x14_0 + (1 : Int32))) (lv' := [(3, .int (x14_0 + (1 : Int32))), (0, .ref q0), (1, .int p1), (2, .int p2)]) hx hb dX11_beginDropped_47 hl (k := 3) rfl rfl (by decide) rfl (fun ls hl => ?_)
          refine lv_goto (tgt := 14) hx hb dX11_beginDropped_50 (by decide) ?_
          exact ih14 (x14_0 + (1 : Int32)) (upd x14_1 ((28 : Int32) + x14_0).toNatClampNeg ((x14_1 ((28 : Int32) + x14_0).toNatClampNeg) &&& (((1 : Int32) <<< (p2 &&& 31)) ^^^ (-1 : Int32)))) y14  H locs ls (hz14a _ (Option.some.inj h).symm) hS (lv_sub hl [1, 2, 3, 0] rfl) hk14_0
  obtain ⟨y14, e14, h⟩ := bd_some h
  refine hL14 1000 (0 : Int32) y9 y14  H locs ls e14 hS (lv_sub hl [1, 2, 3, 0] rfl) (fun y14_0 ey14 H locs ls hS hl => ?_)
  subst ey14
  obtain rfl := Option.some.inj h
  exact rt_v E hQ (.null) hS dX11_beginDropped_53
set_option maxHeartbeats 4000000 in
set_option maxRecDepth 100000 in
theorem c_X11_sleeps {l : Launch} {D : va_G} {cy : Nat → ClassId} (q0 : Nat) (q1 : Nat) (q2 : Nat) (q3 : Nat) (q4 : Nat) (q5 : Nat) (u0_2 : Value) (u0_3 : Value) (u0_7 : Value) (u0_12 : Value) (u0_14 : Value) (u0_18 : Value) (u0_19 : Value) (u0_20 : Value) (u0_22 : Value) (u0_23 : Value) (u0_24 : Value) (u0_25 : Value) (u0_26 : Value) (u0_27 : Value) (u0_28 : Value) (u0_29 : Value) (u0_30 : Value) (u0_31 : Value) (u0_32 : Value) (u0_33 : Value) (u0_34 : Value) (u0_35 : Value) (u0_36 : Value) (u0_37 : Value) (u0_38 : Value) (u0_39 : Value) (u0_40 : Value) (v_people : Int32) (v_rowMany : Int32) (v_thrown : Int32) (v_length : Int32) (v_top : Int32) (v_at : Int32) (v_wrong : Int32) (v_ruleSize : Int32) (v_isAsked : Int32) (v_now : Nat → Int32) (v_row : Nat → Int64) (v_rule : Nat → Int32) (v_asked : Nat → Int32) (v_then : Nat → Int32) (p1 : Int32) (r : Int32 × Int32 × Int32 × Int32 × Int32 × Int32 × Int32 × Int32 × (Nat → Int64) × (Nat → Int32) × (Nat → Int32)) (h : X11_sleeps v_people v_rowMany v_length v_top v_at v_wrong v_ruleSize v_isAsked v_now v_row v_rule v_asked v_then p1 = some r) : Ct l yX11_sleeps cX11_sleeps 5 (some .int) 108 2580 D cy [.ref q0, .int p1] [oX11 q0 (.ref q1) (.int v_people) u0_2 u0_3 (.ref q2) (.int v_rowMany) (.int v_thrown) u0_7 (.int v_length) (.int v_top) (.int v_at) (.int v_wrong) u0_12 (.ref q3) u0_14 (.int v_ruleSize) (.int v_isAsked) (.ref q4) u0_18 u0_19 u0_20 (.ref q5) u0_22 u0_23 u0_24 u0_25 u0_26 u0_27 u0_28 u0_29 u0_30 u0_31 u0_32 u0_33 u0_34 u0_35 u0_36 u0_37 u0_38 u0_39 u0_40, aI cy q1 37 v_now, aJ cy q2 16 v_row, aB cy q3 40 v_rule, aI cy q4 7 v_asked, aI cy q5 37 v_then] (fun rv => [oX11 q0 (.ref q1) (.int v_people) u0_2 u0_3 (.ref q2) (.int r.2.1) (.int r.2.2.1) rv (.int r.2.2.2.1) (.int r.2.2.2.2.1) (.int r.2.2.2.2.2.1) (.int r.2.2.2.2.2.2.1) u0_12 (.ref q3) u0_14 (.int v_ruleSize) (.int r.2.2.2.2.2.2.2.1) (.ref q4) u0_18 u0_19 u0_20 (.ref q5) u0_22 u0_23 u0_24 u0_25 u0_26 u0_27 u0_28 u0_29 u0_30 u0_31 u0_32 u0_33 u0_34 u0_35 u0_36 u0_37 u0_38 u0_39 u0_40, aI cy q1 37 v_now, aJ cy q2 16 r.2.2.2.2.2.2.2.2.1, aB cy q3 40 v_rule, aI cy q4 7 r.2.2.2.2.2.2.2.2.2.1, aI cy q5 37 r.2.2.2.2.2.2.2.2.2.2]) (some (.int r.1)) := by
  refine Ct.mk kX11_sleeps (by decide +kernel) (Nat.le_of_ble_eq_true rfl) ?_
  intro p e s m below meth c A ls args R Q hRf hRl hQ E H locs hS hl
  have hx := E.x
  have hb := E.b
  have hl : lv_has ls 5 [(0, .ref q0), (1, .int p1)] := hl
  unfold X11_sleeps at h
  refine lv_aload_n hx hb dX11_sleeps_0 rfl (lv_at hl 0 rfl) ?_
  refine lv_iconst (v := 0) hx hb dX11_sleeps_1 (by decide) ?_
  refine r_put (ws' := [oX11 q0 (.ref q1) (.int v_people) u0_2 u0_3 (.ref q2) (.int v_rowMany) (.int (0 : Int32)) u0_7 (.int v_length) (.int v_top) (.int v_at) (.int v_wrong) u0_12 (.ref q3) u0_14 (.int v_ruleSize) (.int v_isAsked) (.ref q4) u0_18 u0_19 u0_20 (.ref q5) u0_22 u0_23 u0_24 u0_25 u0_26 u0_27 u0_28 u0_29 u0_30 u0_31 u0_32 u0_33 u0_34 u0_35 u0_36 u0_37 u0_38 u0_39 u0_40, aI cy q1 37 v_now, aJ cy q2 16 v_row, aB cy q3 40 v_rule, aI cy q4 7 v_asked, aI cy q5 37 v_then]) E frX11_85 hS 0 rfl (Nat.le_of_ble_eq_true rfl) rfl rfl rfl rfl dX11_sleeps_2 (fun H locs hS => ?_)
  refine lv_aload_n hx hb dX11_sleeps_5 rfl (lv_at hl 0 rfl) ?_
  refine lv_iload_n hx hb dX11_sleeps_6 rfl (lv_at hl 1 rfl) ?_
  obtain ⟨y7, e1, h⟩ := bd_some h
  refine ct_V (ws' := fun _ => [oX11 q0 (.ref q1) (.int v_people) u0_2 u0_3 (.ref q2) (.int v_rowMany) (.int (0 : Int32)) u0_7 (.int v_length) (.int v_top) (.int v_at) (.int v_wrong) u0_12 (.ref q3) u0_14 (.int v_ruleSize) (.int v_isAsked) (.ref q4) u0_18 u0_19 u0_20 (.ref q5) u0_22 u0_23 u0_24 u0_25 u0_26 u0_27 u0_28 u0_29 u0_30 u0_31 u0_32 u0_33 u0_34 u0_35 u0_36 u0_37 u0_38 u0_39 u0_40, aI cy q1 37 v_now, aJ cy q2 16 v_row, aB cy q3 40 v_rule, aI cy q4 7 v_asked, aI cy q5 37 v_then]) (st' := [.int y7]) (rest := []) E hS vlX11_99 (c_X11_isOne (l := l) (D := D) (cy := cy) (q0 := q0) (u0_0 := .ref q1) (u0_2 := u0_2) (u0_3 := u0_3) (u0_4 := .ref q2) (u0_5 := .int v_rowMany) (u0_6 := .int (0 : Int32)) (u0_7 := u0_7) (u0_8 := .int v_length) (u0_9 := .int v_top) (u0_10 := .int v_at) (u0_11 := .int v_wrong) (u0_12 := u0_12) (u0_13 := .ref q3) (u0_14 := u0_14) (u0_15 := .int v_ruleSize) (u0_16 := .int v_isAsked) (u0_17 := .ref q4) (u0_18 := u0_18) (u0_19 := u0_19) (u0_20 := u0_20) (u0_21 := .ref q5) (u0_22 := u0_22) (u0_23 := u0_23) (u0_24 := u0_24) (u0_25 := u0_25) (u0_26 := u0_26) (u0_27 := u0_27) (u0_28 := u0_28) (u0_29 := u0_29) (u0_30 := u0_30) (u0_31 := u0_31) (u0_32 := u0_32) (u0_33 := u0_33) (u0_34 := u0_34) (u0_35 := u0_35) (u0_36 := u0_36) (u0_37 := u0_37) (u0_38 := u0_38) (u0_39 := u0_39) (u0_40 := u0_40) (v_people := v_people) (p1 := p1) (r := y7) e1) [0] rfl rfl (fun _ => rfl) (fun _ => rfl) rfl rfl rfl rfl (Nat.le_of_ble_eq_true rfl) hl.1 (by rw [hRf]; exact Nat.le_of_ble_eq_true rfl) (by rw [hRl]; exact Nat.le_of_ble_eq_true rfl) ⟨Nat.zero_le _, Nat.zero_le _⟩ dX11_sleeps_7 rfl (fun H locs _ hS => ?_)
  refine lv_if_ne (tgt := 15) hx hb dX11_sleeps_10 (by decide) (fun c2 => ?_) (fun c2 => ?_)
  · have h := it_neg c2 h
    refine lv_aload_n hx hb dX11_sleeps_15 rfl (lv_at hl 0 rfl) ?_
    refine lv_aload_n hx hb dX11_sleeps_16 rfl (lv_at hl 0 rfl) ?_
    refine r_get E frX11_9 hS 0 rfl rfl dX11_sleeps_17 ?_
    refine lv_iload_n hx hb dX11_sleeps_20 rfl (lv_at hl 1 rfl) ?_
    obtain ⟨y21, e3, h⟩ := bd_some h
    refine ct_V (ws' := fun _ => [oX11 q0 (.ref q1) (.int v_people) u0_2 u0_3 (.ref q2) (.int v_rowMany) (.int (0 : Int32)) u0_7 (.int v_length) (.int v_top) (.int v_at) (.int v_wrong) u0_12 (.ref q3) u0_14 (.int v_ruleSize) (.int v_isAsked) (.ref q4) u0_18 u0_19 u0_20 (.ref q5) u0_22 u0_23 u0_24 u0_25 u0_26 u0_27 u0_28 u0_29 u0_30 u0_31 u0_32 u0_33 u0_34 u0_35 u0_36 u0_37 u0_38 u0_39 u0_40, aI cy q1 37 v_now, aJ cy q2 16 v_row, aB cy q3 40 v_rule, aI cy q4 7 v_asked, aI cy q5 37 v_then]) (st' := [.int y21]) (rest := []) E hS vlX11_200 (c_X11_wantedBy (l := l) (D := D) (cy := cy) (q0 := q0) (q1 := q1) (u0_0 := .ref q1) (u0_2 := u0_2) (u0_3 := u0_3) (u0_4 := .ref q2) (u0_5 := .int v_rowMany) (u0_6 := .int (0 : Int32)) (u0_7 := u0_7) (u0_8 := .int v_length) (u0_9 := .int v_top) (u0_10 := .int v_at) (u0_11 := .int v_wrong) (u0_12 := u0_12) (u0_13 := .ref q3) (u0_14 := u0_14) (u0_15 := .int v_ruleSize) (u0_16 := .int v_isAsked) (u0_17 := .ref q4) (u0_18 := u0_18) (u0_19 := u0_19) (u0_20 := u0_20) (u0_21 := .ref q5) (u0_22 := u0_22) (u0_23 := u0_23) (u0_24 := u0_24) (u0_25 := u0_25) (u0_26 := u0_26) (u0_27 := u0_27) (u0_28 := u0_28) (u0_29 := u0_29) (u0_30 := u0_30) (u0_31 := u0_31) (u0_32 := u0_32) (u0_33 := u0_33) (u0_34 := u0_34) (u0_35 := u0_35) (u0_36 := u0_36) (u0_37 := u0_37) (u0_38 := u0_38) (u0_39 := u0_39) (u0_40 := u0_40) (v_people := v_people) (nw1_ := 37) (w1_ := v_now) (p2 := p1) (r := y21) e3) [0, 1] rfl rfl (fun _ => rfl) (fun _ => rfl) rfl rfl rfl rfl (Nat.le_of_ble_eq_true rfl) hl.1 (by rw [hRf]; exact Nat.le_of_ble_eq_true rfl) (by rw [hRl]; exact Nat.le_of_ble_eq_true rfl) ⟨Nat.zero_le _, Nat.zero_le _⟩ dX11_sleeps_21 rfl (fun H locs _ hS => ?_)
    refine lv_istore_n (lv' := [(2, .int y21), (0, .ref q0), (1, .int p1)]) hx hb dX11_sleeps_24 rfl hl (by decide) rfl (fun ls hl => ?_)
    refine lv_iload_n hx hb dX11_sleeps_25 rfl (lv_at hl 0 rfl) ?_
    refine lv_istore_n (lv' := [(3, .int y21), (2, .int y21), (0, .ref q0), (1, .int p1)]) hx hb dX11_sleeps_26 rfl hl (by decide) rfl (fun ls hl => ?_)
    refine lv_iload_n hx hb dX11_sleeps_27 rfl (lv_at hl 1 rfl) ?_
    refine lv_istore (lv' := [(4, .int y21), (3, .int y21), (2, .int y21), (0, .ref q0), (1, .int p1)]) hx hb dX11_sleeps_28 hl (by decide) rfl (fun ls hl => ?_)
    have hL30 : ∀ (n : Nat) (x30_0 : Int32) (x30_1 : Int32) (x30_2 : Int32) (x30_3 : Int32) (x30_4 : Int32) (x30_5 : Int32) (x30_6 : Int32) (x30_7 : Nat → Int32) (x30_8 : Nat → Int32) (y30 : Int32 × Int32 × Int32 × Int32 × Int32 × Int32 × (Nat → Int32) × (Nat → Int32)) (rv30_0 : Value) (H : Heap) (locs : List Loc) (ls : Array Slot), lp (fun x30 => X11_sleeps_s30 v_people v_ruleSize v_now v_rule p1 y21 x30.1 x30.2.1 x30.2.2.1 x30.2.2.2.1 x30.2.2.2.2.1 x30.2.2.2.2.2.1 x30.2.2.2.2.2.2.1 x30.2.2.2.2.2.2.2.1 x30.2.2.2.2.2.2.2.2) n (x30_0, x30_1, x30_2, x30_3, x30_4, x30_5, x30_6, x30_7, x30_8) = some y30 → Sv D A s.heap [oX11 q0 (.ref q1) (.int v_people) u0_2 u0_3 (.ref q2) (.int v_rowMany) (.int (0 : Int32)) rv30_0 (.int x30_2) (.int x30_3) (.int x30_4) (.int x30_5) u0_12 (.ref q3) u0_14 (.int v_ruleSize) (.int x30_6) (.ref q4) u0_18 u0_19 u0_20 (.ref q5) u0_22 u0_23 u0_24 u0_25 u0_26 u0_27 u0_28 u0_29 u0_30 u0_31 u0_32 u0_33 u0_34 u0_35 u0_36 u0_37 u0_38 u0_39 u0_40, aI cy q1 37 v_now, aJ cy q2 16 v_row, aB cy q3 40 v_rule, aI cy q4 7 x30_7, aI cy q5 37 x30_8] H locs → lv_has ls 5 [(0, .ref q0), (1, .int p1), (2, .int y21), (3, .int x30_0), (4, .int x30_1)] → ( ∀ (y30_0 : Int32) (y30_1 : Int32) (y30_2 : Int32) (y30_3 : Int32) (y30_4 : Int32) (y30_5 : Int32) (y30_6 : Nat → Int32) (y30_7 : Nat → Int32), (y30_0, y30_1, y30_2, y30_3, y30_4, y30_5, y30_6, y30_7) = y30 → ∀ (rv30_0 : Value), ∀ (H : Heap) (locs : List Loc) (ls : Array Slot), Sv D A s.heap [oX11 q0 (.ref q1) (.int v_people) u0_2 u0_3 (.ref q2) (.int v_rowMany) (.int (0 : Int32)) rv30_0 (.int y30_1) (.int y30_2) (.int y30_3) (.int y30_4) u0_12 (.ref q3) u0_14 (.int v_ruleSize) (.int y30_5) (.ref q4) u0_18 u0_19 u0_20 (.ref q5) u0_22 u0_23 u0_24 u0_25 u0_26 u0_27 u0_28 u0_29 u0_30 u0_31 u0_32 u0_33 u0_34 u0_35 u0_36 u0_37 u0_38 u0_39 u0_40, aI cy q1 37 v_now, aJ cy q2 16 v_row, aB cy q3 40 v_rule, aI cy q4 7 y30_6, aI cy q5 37 y30_7] H locs → lv_has ls 5 [(0, .ref q0), (3, .int y30_0)] → W p l e R s m args below meth c H locs 0 0 Q (F0 m 87 ls [])) → W p l e R s m args below meth c H locs 0 0 Q (F0 m 30 ls []) := by
      intro n
      induction n with
      | zero =>
        intro x30_0 x30_1 x30_2 x30_3 x30_4 x30_5 x30_6 x30_7 x30_8 y30 rv30_0 H locs ls h
        exact lp_zero h
      | succ n ih30 =>
        intro x30_0 x30_1 x30_2 x30_3 x30_4 x30_5 x30_6 x30_7 x30_8 y30 rv30_0 H locs ls h hS hl hk30_0
        obtain ⟨z30, h, hz30a, hz30b⟩ := lp_succ h
        have h : X11_sleeps_s30 v_people v_ruleSize v_now v_rule p1 y21 x30_0 x30_1 x30_2 x30_3 x30_4 x30_5 x30_6 x30_7 x30_8 = some z30 := h
        unfold X11_sleeps_s30 at h
        refine lv_iload hx hb dX11_sleeps_30 (lv_at hl 4 rfl) ?_
        refine lv_if_lt (tgt := 87) hx hb dX11_sleeps_32 (by decide) (fun c4 => ?_) (fun c4 => ?_)
        · have h := it_pos c4 h
          exact hk30_0 x30_0 x30_2 x30_3 x30_4 x30_5 x30_6 x30_7 x30_8 (hz30b _ (Option.some.inj h).symm) rv30_0 H locs ls hS (lv_sub hl [0, 3] rfl)
        · have h := it_neg c4 h
          refine lv_iload hx hb dX11_sleeps_35 (lv_at hl 4 rfl) ?_
          refine lv_iload_n hx hb dX11_sleeps_37 rfl (lv_at hl 2 rfl) ?_
          refine lv_iconst (v := -1) hx hb dX11_sleeps_38 (by decide) ?_
          refine lv_ixor hx hb dX11_sleeps_39 ?_
          refine lv_iand hx hb dX11_sleeps_40 ?_
          refine lv_if_ne (tgt := 81) hx hb dX11_sleeps_41 (by decide) (fun c5 => ?_) (fun c5 => ?_)
          · have h := it_neg c5 h
            refine lv_iinc (v := (x30_1 + (-1 : Int32))) (lv' := [(4, .int (x30_1 + (-1 : Int32))), (0, .ref q0), (1, .int p1), (2, .int y21), (3, .int x30_0)]) hx hb dX11_sleeps_81 hl (k := 4) rfl rfl (by decide) rfl (fun ls hl => ?_)
            refine lv_goto (tgt := 30) hx hb dX11_sleeps_84 (by decide) ?_
            exact ih30 x30_0 (x30_1 + (-1 : Int32)) x30_2 x30_3 x30_4 x30_5 x30_6 x30_7 x30_8 y30 rv30_0 H locs ls (hz30a _ (Option.some.inj h).symm) hS (lv_sub hl [1, 2, 3, 4, 0] rfl) hk30_0
          · have h := it_pos c5 h
            refine lv_iload hx hb dX11_sleeps_44 (lv_at hl 4 rfl) ?_
            refine ct_S (ws' := fun _ => [oX11 q0 (.ref q1) (.int v_people) u0_2 u0_3 (.ref q2) (.int v_rowMany) (.int (0 : Int32)) rv30_0 (.int x30_2) (.int x30_3) (.int x30_4) (.int x30_5) u0_12 (.ref q3) u0_14 (.int v_ruleSize) (.int x30_6) (.ref q4) u0_18 u0_19 u0_20 (.ref q5) u0_22 u0_23 u0_24 u0_25 u0_26 u0_27 u0_28 u0_29 u0_30 u0_31 u0_32 u0_33 u0_34 u0_35 u0_36 u0_37 u0_38 u0_39 u0_40, aI cy q1 37 v_now, aJ cy q2 16 v_row, aB cy q3 40 v_rule, aI cy q4 7 x30_7, aI cy q5 37 x30_8]) (st' := [.int (J6_bitCount_0f7a4 x30_1)]) (rest := []) E hS slX11_204 (c_J6_bitCount_0f7a4 (l := l) (D := D) (cy := cy) (p0 := x30_1) (r := (J6_bitCount_0f7a4 x30_1)) rfl) [] rfl rfl (fun _ => rfl) (fun _ => rfl) rfl rfl (Nat.le_of_ble_eq_true rfl) hl.1 (by rw [hRf]; exact Nat.le_of_ble_eq_true rfl) (by rw [hRl]; exact Nat.le_of_ble_eq_true rfl) ⟨Nat.zero_le _, Nat.zero_le _⟩ dX11_sleeps_46 rfl (fun H locs _ hS => ?_)
            refine lv_iload_n hx hb dX11_sleeps_49 rfl (lv_at hl 3 rfl) ?_
            refine ct_S (ws' := fun _ => [oX11 q0 (.ref q1) (.int v_people) u0_2 u0_3 (.ref q2) (.int v_rowMany) (.int (0 : Int32)) rv30_0 (.int x30_2) (.int x30_3) (.int x30_4) (.int x30_5) u0_12 (.ref q3) u0_14 (.int v_ruleSize) (.int x30_6) (.ref q4) u0_18 u0_19 u0_20 (.ref q5) u0_22 u0_23 u0_24 u0_25 u0_26 u0_27 u0_28 u0_29 u0_30 u0_31 u0_32 u0_33 u0_34 u0_35 u0_36 u0_37 u0_38 u0_39 u0_40, aI cy q1 37 v_now, aJ cy q2 16 v_row, aB cy q3 40 v_rule, aI cy q4 7 x30_7, aI cy q5 37 x30_8]) (st' := [.int (J6_bitCount_0f7a4 x30_0), .int (J6_bitCount_0f7a4 x30_1)]) (rest := [.int (J6_bitCount_0f7a4 x30_1)]) E hS slX11_204 (c_J6_bitCount_0f7a4 (l := l) (D := D) (cy := cy) (p0 := x30_0) (r := (J6_bitCount_0f7a4 x30_0)) rfl) [] rfl rfl (fun _ => rfl) (fun _ => rfl) rfl rfl (Nat.le_of_ble_eq_true rfl) hl.1 (by rw [hRf]; exact Nat.le_of_ble_eq_true rfl) (by rw [hRl]; exact Nat.le_of_ble_eq_true rfl) ⟨Nat.zero_le _, Nat.zero_le _⟩ dX11_sleeps_50 rfl (fun H locs _ hS => ?_)
            refine lv_icmp_le (tgt := 59) hx hb dX11_sleeps_53 (by decide) (fun c6 => ?_) (fun c6 => ?_)
            · have h := it_pos c6 h
              refine lv_aload_n hx hb dX11_sleeps_59 rfl (lv_at hl 0 rfl) ?_
              refine lv_iload hx hb dX11_sleeps_60 (lv_at hl 4 rfl) ?_
              refine lv_iload_n hx hb dX11_sleeps_62 rfl (lv_at hl 1 rfl) ?_
              obtain ⟨y63, e7, h⟩ := bd_some h
              refine ct_V (ws' := fun _ => [oX11 q0 (.ref q1) (.int v_people) u0_2 u0_3 (.ref q2) (.int v_rowMany) (.int (0 : Int32)) rv30_0 (.int x30_2) (.int x30_3) (.int x30_4) (.int x30_5) u0_12 (.ref q3) u0_14 (.int v_ruleSize) (.int x30_6) (.ref q4) u0_18 u0_19 u0_20 (.ref q5) u0_22 u0_23 u0_24 u0_25 u0_26 u0_27 u0_28 u0_29 u0_30 u0_31 u0_32 u0_33 u0_34 u0_35 u0_36 u0_37 u0_38 u0_39 u0_40, aI cy q1 37 v_now, aJ cy q2 16 v_row, aB cy q3 40 v_rule, aI cy q4 7 x30_7, aI cy q5 37 y63]) (st' := []) (rest := []) E hS vlX11_303 (c_X11_beginDropped (l := l) (D := D) (cy := cy) (q0 := q0) (q1 := q1) (q2 := q5) (u0_2 := u0_2) (u0_3 := u0_3) (u0_4 := .ref q2) (u0_5 := .int v_rowMany) (u0_6 := .int (0 : Int32)) (u0_7 := rv30_0) (u0_8 := .int x30_2) (u0_9 := .int x30_3) (u0_10 := .int x30_4) (u0_11 := .int x30_5) (u0_12 := u0_12) (u0_13 := .ref q3) (u0_14 := u0_14) (u0_15 := .int v_ruleSize) (u0_16 := .int x30_6) (u0_17 := .ref q4) (u0_18 := u0_18) (u0_19 := u0_19) (u0_20 := u0_20) (u0_22 := u0_22) (u0_23 := u0_23) (u0_24 := u0_24) (u0_25 := u0_25) (u0_26 := u0_26) (u0_27 := u0_27) (u0_28 := u0_28) (u0_29 := u0_29) (u0_30 := u0_30) (u0_31 := u0_31) (u0_32 := u0_32) (u0_33 := u0_33) (u0_34 := u0_34) (u0_35 := u0_35) (u0_36 := u0_36) (u0_37 := u0_37) (u0_38 := u0_38) (u0_39 := u0_39) (u0_40 := u0_40) (v_people := v_people) (v_now := v_now) (v_then := x30_8) (p1 := x30_1) (p2 := p1) (r := y63) e7) [0, 1, 5] rfl rfl (fun _ => rfl) (fun _ => rfl) rfl rfl rfl rfl (Nat.le_of_ble_eq_true rfl) hl.1 (by rw [hRf]; exact Nat.le_of_ble_eq_true rfl) (by rw [hRl]; exact Nat.le_of_ble_eq_true rfl) ⟨Nat.zero_le _, Nat.zero_le _⟩ dX11_sleeps_63 rfl (fun H locs _ hS => ?_)
              refine lv_aload_n hx hb dX11_sleeps_66 rfl (lv_at hl 0 rfl) ?_
              refine lv_aload_n hx hb dX11_sleeps_67 rfl (lv_at hl 0 rfl) ?_
              refine r_get E frX11_39 hS 0 rfl rfl dX11_sleeps_68 ?_
              refine lv_iload_n hx hb dX11_sleeps_71 rfl (lv_at hl 1 rfl) ?_
              obtain ⟨y72, e8, h⟩ := bd_some h
              refine ct_V (ws' := fun rc9 => [oX11 q0 (.ref q1) (.int v_people) u0_2 u0_3 (.ref q2) (.int v_rowMany) (.int (0 : Int32)) rc9 (.int y72.2.1) (.int y72.2.2.1) (.int y72.2.2.2.1) (.int y72.2.2.2.2.1) u0_12 (.ref q3) u0_14 (.int v_ruleSize) (.int y72.2.2.2.2.2.1) (.ref q4) u0_18 u0_19 u0_20 (.ref q5) u0_22 u0_23 u0_24 u0_25 u0_26 u0_27 u0_28 u0_29 u0_30 u0_31 u0_32 u0_33 u0_34 u0_35 u0_36 u0_37 u0_38 u0_39 u0_40, aI cy q1 37 v_now, aJ cy q2 16 v_row, aB cy q3 40 v_rule, aI cy q4 7 y72.2.2.2.2.2.2, aI cy q5 37 y63]) (st' := [.int y72.1]) (rest := []) E hS vlX11_216 (c_X11_isAwake (l := l) (D := D) (cy := cy) (q0 := q0) (q1 := q3) (q2 := q4) (q3 := q5) (u0_0 := .ref q1) (u0_2 := u0_2) (u0_3 := u0_3) (u0_4 := .ref q2) (u0_5 := .int v_rowMany) (u0_6 := .int (0 : Int32)) (u0_7 := rv30_0) (u0_12 := u0_12) (u0_14 := u0_14) (u0_18 := u0_18) (u0_19 := u0_19) (u0_20 := u0_20) (u0_21 := .ref q5) (u0_22 := u0_22) (u0_23 := u0_23) (u0_24 := u0_24) (u0_25 := u0_25) (u0_26 := u0_26) (u0_27 := u0_27) (u0_28 := u0_28) (u0_29 := u0_29) (u0_30 := u0_30) (u0_31 := u0_31) (u0_32 := u0_32) (u0_33 := u0_33) (u0_34 := u0_34) (u0_35 := u0_35) (u0_36 := u0_36) (u0_37 := u0_37) (u0_38 := u0_38) (u0_39 := u0_39) (u0_40 := u0_40) (v_people := v_people) (v_length := x30_2) (v_top := x30_3) (v_at := x30_4) (v_wrong := x30_5) (v_ruleSize := v_ruleSize) (v_isAsked := x30_6) (v_rule := v_rule) (v_asked := x30_7) (nw1_ := 37) (w1_ := y63) (p2 := p1) (r := y72) e8) [0, 3, 4, 5] rfl rfl (fun _ => rfl) (fun _ => rfl) rfl rfl rfl rfl (Nat.le_of_ble_eq_true rfl) hl.1 (by rw [hRf]; exact Nat.le_of_ble_eq_true rfl) (by rw [hRl]; exact Nat.le_of_ble_eq_true rfl) ⟨Nat.zero_le _, Nat.zero_le _⟩ dX11_sleeps_72 rfl (fun H locs rc9 hS => ?_)
              refine lv_if_ne (tgt := 81) hx hb dX11_sleeps_75 (by decide) (fun c10 => ?_) (fun c10 => ?_)
              · have h := it_neg c10 h
                refine lv_iinc (v := (x30_1 + (-1 : Int32))) (lv' := [(4, .int (x30_1 + (-1 : Int32))), (0, .ref q0), (1, .int p1), (2, .int y21), (3, .int x30_0)]) hx hb dX11_sleeps_81 hl (k := 4) rfl rfl (by decide) rfl (fun ls hl => ?_)
                refine lv_goto (tgt := 30) hx hb dX11_sleeps_84 (by decide) ?_
                exact ih30 x30_0 (x30_1 + (-1 : Int32)) y72.2.1 y72.2.2.1 y72.2.2.2.1 y72.2.2.2.2.1 y72.2.2.2.2.2.1 y72.2.2.2.2.2.2 y63 y30 rc9 H locs ls (hz30a _ (Option.some.inj h).symm) hS (lv_sub hl [1, 2, 3, 4, 0] rfl) hk30_0
              · have h := it_pos c10 h
                refine lv_iload hx hb dX11_sleeps_78 (lv_at hl 4 rfl) ?_
                refine lv_istore_n (lv' := [(3, .int x30_1), (0, .ref q0), (1, .int p1), (2, .int y21), (4, .int x30_1)]) hx hb dX11_sleeps_80 rfl hl (by decide) rfl (fun ls hl => ?_)
                refine lv_iinc (v := (x30_1 + (-1 : Int32))) (lv' := [(4, .int (x30_1 + (-1 : Int32))), (3, .int x30_1), (0, .ref q0), (1, .int p1), (2, .int y21)]) hx hb dX11_sleeps_81 hl (k := 4) rfl rfl (by decide) rfl (fun ls hl => ?_)
                refine lv_goto (tgt := 30) hx hb dX11_sleeps_84 (by decide) ?_
                exact ih30 x30_1 (x30_1 + (-1 : Int32)) y72.2.1 y72.2.2.1 y72.2.2.2.1 y72.2.2.2.2.1 y72.2.2.2.2.2.1 y72.2.2.2.2.2.2 y63 y30 rc9 H locs ls (hz30a _ (Option.some.inj h).symm) hS (lv_sub hl [2, 3, 4, 1, 0] rfl) hk30_0
            · have h := it_neg c6 h
              refine lv_goto (tgt := 81) hx hb dX11_sleeps_56 (by decide) ?_
              refine lv_iinc (v := (x30_1 + (-1 : Int32))) (lv' := [(4, .int (x30_1 + (-1 : Int32))), (0, .ref q0), (1, .int p1), (2, .int y21), (3, .int x30_0)]) hx hb dX11_sleeps_81 hl (k := 4) rfl rfl (by decide) rfl (fun ls hl => ?_)
              refine lv_goto (tgt := 30) hx hb dX11_sleeps_84 (by decide) ?_
              exact ih30 x30_0 (x30_1 + (-1 : Int32)) x30_2 x30_3 x30_4 x30_5 x30_6 x30_7 x30_8 y30 rv30_0 H locs ls (hz30a _ (Option.some.inj h).symm) hS (lv_sub hl [1, 2, 3, 4, 0] rfl) hk30_0
    obtain ⟨y30, e30, h⟩ := bd_some h
    refine hL30 1000 y21 y21 v_length v_top v_at v_wrong v_isAsked v_asked v_then y30 u0_7 H locs ls e30 hS (lv_sub hl [3, 4, 2, 1, 0] rfl) (fun y30_0 y30_1 y30_2 y30_3 y30_4 y30_5 y30_6 y30_7 ey30 rw30_0 H locs ls hS hl => ?_)
    subst ey30
    have h := un_r h
    have h := un_r h
    have h := un_r h
    have h := un_r h
    have h := un_r h
    have h := un_r h
    have h := un_r h
    refine lv_aload_n hx hb dX11_sleeps_87 rfl (lv_at hl 0 rfl) ?_
    refine lv_iconst (v := 0) hx hb dX11_sleeps_88 (by decide) ?_
    refine r_put (ws' := [oX11 q0 (.ref q1) (.int v_people) u0_2 u0_3 (.ref q2) (.int (0 : Int32)) (.int (0 : Int32)) rw30_0 (.int y30_1) (.int y30_2) (.int y30_3) (.int y30_4) u0_12 (.ref q3) u0_14 (.int v_ruleSize) (.int y30_5) (.ref q4) u0_18 u0_19 u0_20 (.ref q5) u0_22 u0_23 u0_24 u0_25 u0_26 u0_27 u0_28 u0_29 u0_30 u0_31 u0_32 u0_33 u0_34 u0_35 u0_36 u0_37 u0_38 u0_39 u0_40, aI cy q1 37 v_now, aJ cy q2 16 v_row, aB cy q3 40 v_rule, aI cy q4 7 y30_6, aI cy q5 37 y30_7]) E frX11_89 hS 0 rfl (Nat.le_of_ble_eq_true rfl) rfl rfl rfl rfl dX11_sleeps_89 (fun H locs hS => ?_)
    refine lv_aload_n hx hb dX11_sleeps_92 rfl (lv_at hl 0 rfl) ?_
    refine lv_iload_n hx hb dX11_sleeps_93 rfl (lv_at hl 1 rfl) ?_
    refine lv_i2l (v := (y30_0.toInt64)) hx hb dX11_sleeps_94 rfl ?_
    obtain ⟨y95, e11, h⟩ := bd_some h
    refine ct_V (ws' := fun _ => [oX11 q0 (.ref q1) (.int v_people) u0_2 u0_3 (.ref q2) (.int y95.1) (.int (0 : Int32)) rw30_0 (.int y30_1) (.int y30_2) (.int y30_3) (.int y30_4) u0_12 (.ref q3) u0_14 (.int v_ruleSize) (.int y30_5) (.ref q4) u0_18 u0_19 u0_20 (.ref q5) u0_22 u0_23 u0_24 u0_25 u0_26 u0_27 u0_28 u0_29 u0_30 u0_31 u0_32 u0_33 u0_34 u0_35 u0_36 u0_37 u0_38 u0_39 u0_40, aI cy q1 37 v_now, aJ cy q2 16 y95.2, aB cy q3 40 v_rule, aI cy q4 7 y30_6, aI cy q5 37 y30_7]) (st' := []) (rest := []) E hS vlX11_256 (c_X11_tell (l := l) (D := D) (cy := cy) (q0 := q0) (q1 := q2) (u0_0 := .ref q1) (u0_1 := .int v_people) (u0_2 := u0_2) (u0_3 := u0_3) (u0_6 := .int (0 : Int32)) (u0_7 := rw30_0) (u0_8 := .int y30_1) (u0_9 := .int y30_2) (u0_10 := .int y30_3) (u0_11 := .int y30_4) (u0_12 := u0_12) (u0_13 := .ref q3) (u0_14 := u0_14) (u0_15 := .int v_ruleSize) (u0_16 := .int y30_5) (u0_17 := .ref q4) (u0_18 := u0_18) (u0_19 := u0_19) (u0_20 := u0_20) (u0_21 := .ref q5) (u0_22 := u0_22) (u0_23 := u0_23) (u0_24 := u0_24) (u0_25 := u0_25) (u0_26 := u0_26) (u0_27 := u0_27) (u0_28 := u0_28) (u0_29 := u0_29) (u0_30 := u0_30) (u0_31 := u0_31) (u0_32 := u0_32) (u0_33 := u0_33) (u0_34 := u0_34) (u0_35 := u0_35) (u0_36 := u0_36) (u0_37 := u0_37) (u0_38 := u0_38) (u0_39 := u0_39) (u0_40 := u0_40) (v_rowMany := (0 : Int32)) (v_row := v_row) (p1 := (y30_0.toInt64)) (r := y95) e11) [0, 2] rfl rfl (fun _ => rfl) (fun _ => rfl) rfl rfl rfl rfl (Nat.le_of_ble_eq_true rfl) hl.1 (by rw [hRf]; exact Nat.le_of_ble_eq_true rfl) (by rw [hRl]; exact Nat.le_of_ble_eq_true rfl) ⟨Nat.zero_le _, Nat.zero_le _⟩ dX11_sleeps_95 rfl (fun H locs _ hS => ?_)
    refine lv_iload_n hx hb dX11_sleeps_98 rfl (lv_at hl 1 rfl) ?_
    refine ct_S (ws' := fun _ => [oX11 q0 (.ref q1) (.int v_people) u0_2 u0_3 (.ref q2) (.int y95.1) (.int (0 : Int32)) rw30_0 (.int y30_1) (.int y30_2) (.int y30_3) (.int y30_4) u0_12 (.ref q3) u0_14 (.int v_ruleSize) (.int y30_5) (.ref q4) u0_18 u0_19 u0_20 (.ref q5) u0_22 u0_23 u0_24 u0_25 u0_26 u0_27 u0_28 u0_29 u0_30 u0_31 u0_32 u0_33 u0_34 u0_35 u0_36 u0_37 u0_38 u0_39 u0_40, aI cy q1 37 v_now, aJ cy q2 16 y95.2, aB cy q3 40 v_rule, aI cy q4 7 y30_6, aI cy q5 37 y30_7]) (st' := [.int (J6_bitCount_0f7a4 y30_0)]) (rest := []) E hS slX11_204 (c_J6_bitCount_0f7a4 (l := l) (D := D) (cy := cy) (p0 := y30_0) (r := (J6_bitCount_0f7a4 y30_0)) rfl) [] rfl rfl (fun _ => rfl) (fun _ => rfl) rfl rfl (Nat.le_of_ble_eq_true rfl) hl.1 (by rw [hRf]; exact Nat.le_of_ble_eq_true rfl) (by rw [hRl]; exact Nat.le_of_ble_eq_true rfl) ⟨Nat.zero_le _, Nat.zero_le _⟩ dX11_sleeps_99 rfl (fun H locs _ hS => ?_)
    obtain rfl := Option.some.inj h
    exact rt_i E hQ (rw30_0) hS dX11_sleeps_102
  · have h := it_pos c2 h
    refine lv_iconst (v := -1) hx hb dX11_sleeps_13 (by decide) ?_
    obtain rfl := Option.some.inj h
    exact rt_i E hQ (u0_7) hS dX11_sleeps_14
set_option maxHeartbeats 4000000 in
set_option maxRecDepth 100000 in
theorem c_X11_worth {l : Launch} {D : va_G} {cy : Nat → ClassId} (q0 : Nat) (q1 : Nat) (q2 : Nat) (q3 : Nat) (q4 : Nat) (q5 : Nat) (u0_2 : Value) (u0_3 : Value) (u0_7 : Value) (u0_12 : Value) (u0_14 : Value) (u0_18 : Value) (u0_19 : Value) (u0_20 : Value) (u0_22 : Value) (u0_23 : Value) (u0_24 : Value) (u0_25 : Value) (u0_26 : Value) (u0_27 : Value) (u0_28 : Value) (u0_29 : Value) (u0_30 : Value) (u0_31 : Value) (u0_32 : Value) (u0_33 : Value) (u0_34 : Value) (u0_35 : Value) (u0_36 : Value) (u0_37 : Value) (u0_38 : Value) (u0_39 : Value) (u0_40 : Value) (v_people : Int32) (v_rowMany : Int32) (v_thrown : Int32) (v_length : Int32) (v_top : Int32) (v_at : Int32) (v_wrong : Int32) (v_ruleSize : Int32) (v_isAsked : Int32) (v_now : Nat → Int32) (v_row : Nat → Int64) (v_rule : Nat → Int32) (v_asked : Nat → Int32) (v_then : Nat → Int32) (p1 : Int32) (r : Int32 × Int32 × Int32 × Int32 × Int32 × Int32 × Int32 × Int32 × (Nat → Int64) × (Nat → Int32) × (Nat → Int32)) (h : X11_worth v_people v_rowMany v_length v_top v_at v_wrong v_ruleSize v_isAsked v_now v_row v_rule v_asked v_then p1 = some r) : Ct l yX11_worth cX11_worth 5 (some .int) 108 2580 D cy [.ref q0, .int p1] [oX11 q0 (.ref q1) (.int v_people) u0_2 u0_3 (.ref q2) (.int v_rowMany) (.int v_thrown) u0_7 (.int v_length) (.int v_top) (.int v_at) (.int v_wrong) u0_12 (.ref q3) u0_14 (.int v_ruleSize) (.int v_isAsked) (.ref q4) u0_18 u0_19 u0_20 (.ref q5) u0_22 u0_23 u0_24 u0_25 u0_26 u0_27 u0_28 u0_29 u0_30 u0_31 u0_32 u0_33 u0_34 u0_35 u0_36 u0_37 u0_38 u0_39 u0_40, aI cy q1 37 v_now, aJ cy q2 16 v_row, aB cy q3 40 v_rule, aI cy q4 7 v_asked, aI cy q5 37 v_then] (fun rv => [oX11 q0 (.ref q1) (.int v_people) u0_2 u0_3 (.ref q2) (.int r.2.1) (.int r.2.2.1) rv (.int r.2.2.2.1) (.int r.2.2.2.2.1) (.int r.2.2.2.2.2.1) (.int r.2.2.2.2.2.2.1) u0_12 (.ref q3) u0_14 (.int v_ruleSize) (.int r.2.2.2.2.2.2.2.1) (.ref q4) u0_18 u0_19 u0_20 (.ref q5) u0_22 u0_23 u0_24 u0_25 u0_26 u0_27 u0_28 u0_29 u0_30 u0_31 u0_32 u0_33 u0_34 u0_35 u0_36 u0_37 u0_38 u0_39 u0_40, aI cy q1 37 v_now, aJ cy q2 16 r.2.2.2.2.2.2.2.2.1, aB cy q3 40 v_rule, aI cy q4 7 r.2.2.2.2.2.2.2.2.2.1, aI cy q5 37 r.2.2.2.2.2.2.2.2.2.2]) (some (.int r.1)) := by
  refine Ct.mk kX11_worth (by decide +kernel) (Nat.le_of_ble_eq_true rfl) ?_
  intro p e s m below meth c A ls args R Q hRf hRl hQ E H locs hS hl
  have hx := E.x
  have hb := E.b
  have hl : lv_has ls 5 [(0, .ref q0), (1, .int p1)] := hl
  unfold X11_worth at h
  refine lv_aload_n hx hb dX11_worth_0 rfl (lv_at hl 0 rfl) ?_
  refine lv_iconst (v := 0) hx hb dX11_worth_1 (by decide) ?_
  refine r_put (ws' := [oX11 q0 (.ref q1) (.int v_people) u0_2 u0_3 (.ref q2) (.int v_rowMany) (.int (0 : Int32)) u0_7 (.int v_length) (.int v_top) (.int v_at) (.int v_wrong) u0_12 (.ref q3) u0_14 (.int v_ruleSize) (.int v_isAsked) (.ref q4) u0_18 u0_19 u0_20 (.ref q5) u0_22 u0_23 u0_24 u0_25 u0_26 u0_27 u0_28 u0_29 u0_30 u0_31 u0_32 u0_33 u0_34 u0_35 u0_36 u0_37 u0_38 u0_39 u0_40, aI cy q1 37 v_now, aJ cy q2 16 v_row, aB cy q3 40 v_rule, aI cy q4 7 v_asked, aI cy q5 37 v_then]) E frX11_85 hS 0 rfl (Nat.le_of_ble_eq_true rfl) rfl rfl rfl rfl dX11_worth_2 (fun H locs hS => ?_)
  refine lv_aload_n hx hb dX11_worth_5 rfl (lv_at hl 0 rfl) ?_
  refine lv_iload_n hx hb dX11_worth_6 rfl (lv_at hl 1 rfl) ?_
  obtain ⟨y7, e1, h⟩ := bd_some h
  refine ct_V (ws' := fun _ => [oX11 q0 (.ref q1) (.int v_people) u0_2 u0_3 (.ref q2) (.int v_rowMany) (.int (0 : Int32)) u0_7 (.int v_length) (.int v_top) (.int v_at) (.int v_wrong) u0_12 (.ref q3) u0_14 (.int v_ruleSize) (.int v_isAsked) (.ref q4) u0_18 u0_19 u0_20 (.ref q5) u0_22 u0_23 u0_24 u0_25 u0_26 u0_27 u0_28 u0_29 u0_30 u0_31 u0_32 u0_33 u0_34 u0_35 u0_36 u0_37 u0_38 u0_39 u0_40, aI cy q1 37 v_now, aJ cy q2 16 v_row, aB cy q3 40 v_rule, aI cy q4 7 v_asked, aI cy q5 37 v_then]) (st' := [.int y7]) (rest := []) E hS vlX11_99 (c_X11_isOne (l := l) (D := D) (cy := cy) (q0 := q0) (u0_0 := .ref q1) (u0_2 := u0_2) (u0_3 := u0_3) (u0_4 := .ref q2) (u0_5 := .int v_rowMany) (u0_6 := .int (0 : Int32)) (u0_7 := u0_7) (u0_8 := .int v_length) (u0_9 := .int v_top) (u0_10 := .int v_at) (u0_11 := .int v_wrong) (u0_12 := u0_12) (u0_13 := .ref q3) (u0_14 := u0_14) (u0_15 := .int v_ruleSize) (u0_16 := .int v_isAsked) (u0_17 := .ref q4) (u0_18 := u0_18) (u0_19 := u0_19) (u0_20 := u0_20) (u0_21 := .ref q5) (u0_22 := u0_22) (u0_23 := u0_23) (u0_24 := u0_24) (u0_25 := u0_25) (u0_26 := u0_26) (u0_27 := u0_27) (u0_28 := u0_28) (u0_29 := u0_29) (u0_30 := u0_30) (u0_31 := u0_31) (u0_32 := u0_32) (u0_33 := u0_33) (u0_34 := u0_34) (u0_35 := u0_35) (u0_36 := u0_36) (u0_37 := u0_37) (u0_38 := u0_38) (u0_39 := u0_39) (u0_40 := u0_40) (v_people := v_people) (p1 := p1) (r := y7) e1) [0] rfl rfl (fun _ => rfl) (fun _ => rfl) rfl rfl rfl rfl (Nat.le_of_ble_eq_true rfl) hl.1 (by rw [hRf]; exact Nat.le_of_ble_eq_true rfl) (by rw [hRl]; exact Nat.le_of_ble_eq_true rfl) ⟨Nat.zero_le _, Nat.zero_le _⟩ dX11_worth_7 rfl (fun H locs _ hS => ?_)
  refine lv_if_ne (tgt := 15) hx hb dX11_worth_10 (by decide) (fun c2 => ?_) (fun c2 => ?_)
  · have h := it_neg c2 h
    refine lv_bipush (v := -2) hx hb dX11_worth_15 (by decide) ?_
    refine lv_istore_n (lv' := [(2, .int (-2 : Int32)), (0, .ref q0), (1, .int p1)]) hx hb dX11_worth_17 rfl hl (by decide) rfl (fun ls hl => ?_)
    refine lv_iconst (v := 0) hx hb dX11_worth_18 (by decide) ?_
    refine lv_istore_n (lv' := [(3, .int (0 : Int32)), (2, .int (-2 : Int32)), (0, .ref q0), (1, .int p1)]) hx hb dX11_worth_19 rfl hl (by decide) rfl (fun ls hl => ?_)
    refine lv_aload_n hx hb dX11_worth_20 rfl (lv_at hl 2 rfl) ?_
    refine r_get E frX11_9 hS 0 rfl rfl dX11_worth_21 ?_
    refine lv_aload_n hx hb dX11_worth_24 rfl (lv_at hl 2 rfl) ?_
    refine r_get E frX11_39 hS 0 rfl rfl dX11_worth_25 ?_
    refine lv_iconst (v := 0) hx hb dX11_worth_28 (by decide) ?_
    obtain ⟨y29, e3, h⟩ := bd_some h
    refine ct_S (ws' := fun _ => [oX11 q0 (.ref q1) (.int v_people) u0_2 u0_3 (.ref q2) (.int v_rowMany) (.int (0 : Int32)) u0_7 (.int v_length) (.int v_top) (.int v_at) (.int v_wrong) u0_12 (.ref q3) u0_14 (.int v_ruleSize) (.int v_isAsked) (.ref q4) u0_18 u0_19 u0_20 (.ref q5) u0_22 u0_23 u0_24 u0_25 u0_26 u0_27 u0_28 u0_29 u0_30 u0_31 u0_32 u0_33 u0_34 u0_35 u0_36 u0_37 u0_38 u0_39 u0_40, aI cy q1 37 v_now, aJ cy q2 16 v_row, aB cy q3 40 v_rule, aI cy q4 7 v_asked, aI cy q5 37 y29]) (st' := []) (rest := []) E hS slX11_235 (c_X11_lay (l := l) (D := D) (cy := cy) (q0 := q1) (q1 := q5) (nw1_ := 37) (w1_ := v_now) (nw2_ := 37) (w2_ := v_then) (p2 := (0 : Int32)) (r := y29) e3) [1, 5] rfl rfl (fun _ => rfl) (fun _ => rfl) rfl rfl (Nat.le_of_ble_eq_true rfl) hl.1 (by rw [hRf]; exact Nat.le_of_ble_eq_true rfl) (by rw [hRl]; exact Nat.le_of_ble_eq_true rfl) ⟨Nat.zero_le _, Nat.zero_le _⟩ dX11_worth_29 rfl (fun H locs _ hS => ?_)
    refine lv_iconst (v := 0) hx hb dX11_worth_32 (by decide) ?_
    refine lv_istore (lv' := [(4, .int (0 : Int32)), (3, .int (0 : Int32)), (2, .int (-2 : Int32)), (0, .ref q0), (1, .int p1)]) hx hb dX11_worth_33 hl (by decide) rfl (fun ls hl => ?_)
    have hL35 : ∀ (n : Nat) (x35_0 : Int32) (x35_1 : Int32) (x35_2 : Int32) (x35_3 : Int32) (x35_4 : Int32) (x35_5 : Int32) (x35_6 : Int32) (x35_7 : Int32) (x35_8 : Nat → Int32) (x35_9 : Nat → Int32) (y35 : Int32 × Int32 × Int32 × Int32 × Int32 × Int32 × Int32 × (Nat → Int32) × (Nat → Int32)) (rv35_0 : Value) (H : Heap) (locs : List Loc) (ls : Array Slot), lp (fun x35 => X11_worth_s35 v_people v_ruleSize v_rule p1 x35.1 x35.2.1 x35.2.2.1 x35.2.2.2.1 x35.2.2.2.2.1 x35.2.2.2.2.2.1 x35.2.2.2.2.2.2.1 x35.2.2.2.2.2.2.2.1 x35.2.2.2.2.2.2.2.2.1 x35.2.2.2.2.2.2.2.2.2) n (x35_0, x35_1, x35_2, x35_3, x35_4, x35_5, x35_6, x35_7, x35_8, x35_9) = some y35 → Sv D A s.heap [oX11 q0 (.ref q1) (.int v_people) u0_2 u0_3 (.ref q2) (.int v_rowMany) (.int (0 : Int32)) rv35_0 (.int x35_3) (.int x35_4) (.int x35_5) (.int x35_6) u0_12 (.ref q3) u0_14 (.int v_ruleSize) (.int x35_7) (.ref q4) u0_18 u0_19 u0_20 (.ref q5) u0_22 u0_23 u0_24 u0_25 u0_26 u0_27 u0_28 u0_29 u0_30 u0_31 u0_32 u0_33 u0_34 u0_35 u0_36 u0_37 u0_38 u0_39 u0_40, aI cy q1 37 v_now, aJ cy q2 16 v_row, aB cy q3 40 v_rule, aI cy q4 7 x35_8, aI cy q5 37 x35_9] H locs → lv_has ls 5 [(0, .ref q0), (1, .int p1), (2, .int x35_0), (3, .int x35_1), (4, .int x35_2)] → ( ∀ (y35_0 : Int32) (y35_1 : Int32) (y35_2 : Int32) (y35_3 : Int32) (y35_4 : Int32) (y35_5 : Int32) (y35_6 : Int32) (y35_7 : Nat → Int32) (y35_8 : Nat → Int32), (y35_0, y35_1, y35_2, y35_3, y35_4, y35_5, y35_6, y35_7, y35_8) = y35 → ∀ (rv35_0 : Value), ∀ (H : Heap) (locs : List Loc) (ls : Array Slot), Sv D A s.heap [oX11 q0 (.ref q1) (.int v_people) u0_2 u0_3 (.ref q2) (.int v_rowMany) (.int (0 : Int32)) rv35_0 (.int y35_2) (.int y35_3) (.int y35_4) (.int y35_5) u0_12 (.ref q3) u0_14 (.int v_ruleSize) (.int y35_6) (.ref q4) u0_18 u0_19 u0_20 (.ref q5) u0_22 u0_23 u0_24 u0_25 u0_26 u0_27 u0_28 u0_29 u0_30 u0_31 u0_32 u0_33 u0_34 u0_35 u0_36 u0_37 u0_38 u0_39 u0_40, aI cy q1 37 v_now, aJ cy q2 16 v_row, aB cy q3 40 v_rule, aI cy q4 7 y35_7, aI cy q5 37 y35_8] H locs → lv_has ls 5 [(0, .ref q0), (2, .int y35_0), (3, .int y35_1)] → W p l e R s m args below meth c H locs 0 0 Q (F0 m 87 ls [])) → W p l e R s m args below meth c H locs 0 0 Q (F0 m 35 ls []) := by
      intro n
      induction n with
      | zero =>
        intro x35_0 x35_1 x35_2 x35_3 x35_4 x35_5 x35_6 x35_7 x35_8 x35_9 y35 rv35_0 H locs ls h
        exact lp_zero h
      | succ n ih35 =>
        intro x35_0 x35_1 x35_2 x35_3 x35_4 x35_5 x35_6 x35_7 x35_8 x35_9 y35 rv35_0 H locs ls h hS hl hk35_0
        obtain ⟨z35, h, hz35a, hz35b⟩ := lp_succ h
        have h : X11_worth_s35 v_people v_ruleSize v_rule p1 x35_0 x35_1 x35_2 x35_3 x35_4 x35_5 x35_6 x35_7 x35_8 x35_9 = some z35 := h
        unfold X11_worth_s35 at h
        refine lv_iload hx hb dX11_worth_35 (lv_at hl 4 rfl) ?_
        refine lv_bipush (v := 9) hx hb dX11_worth_37 (by decide) ?_
        refine lv_icmp_gt (tgt := 87) hx hb dX11_worth_39 (by decide) (fun c4 => ?_) (fun c4 => ?_)
        · have h := it_pos c4 h
          exact hk35_0 x35_0 x35_1 x35_3 x35_4 x35_5 x35_6 x35_7 x35_8 x35_9 (hz35b _ (Option.some.inj h).symm) rv35_0 H locs ls hS (lv_sub hl [0, 2, 3] rfl)
        · have h := it_neg c4 h
          refine lv_aload_n hx hb dX11_worth_42 rfl (lv_at hl 0 rfl) ?_
          refine r_get E frX11_39 hS 0 rfl rfl dX11_worth_43 ?_
          refine lv_iload_n hx hb dX11_worth_46 rfl (lv_at hl 1 rfl) ?_
          refine lv_iload hx hb dX11_worth_47 (lv_at hl 4 rfl) ?_
          obtain ⟨g5, h⟩ := gi_some h
          refine r_iast (ws' := [oX11 q0 (.ref q1) (.int v_people) u0_2 u0_3 (.ref q2) (.int v_rowMany) (.int (0 : Int32)) rv35_0 (.int x35_3) (.int x35_4) (.int x35_5) (.int x35_6) u0_12 (.ref q3) u0_14 (.int v_ruleSize) (.int x35_7) (.ref q4) u0_18 u0_19 u0_20 (.ref q5) u0_22 u0_23 u0_24 u0_25 u0_26 u0_27 u0_28 u0_29 u0_30 u0_31 u0_32 u0_33 u0_34 u0_35 u0_36 u0_37 u0_38 u0_39 u0_40, aI cy q1 37 v_now, aJ cy q2 16 v_row, aB cy q3 40 v_rule, aI cy q4 7 x35_8, aI cy q5 37 (upd x35_9 p1.toNatClampNeg x35_2)]) E hS 5 rfl g5 rfl dX11_worth_49 (fun H locs hS => ?_)
          refine lv_aload_n hx hb dX11_worth_50 rfl (lv_at hl 0 rfl) ?_
          refine lv_aload_n hx hb dX11_worth_51 rfl (lv_at hl 0 rfl) ?_
          refine r_get E frX11_39 hS 0 rfl rfl dX11_worth_52 ?_
          refine lv_iload_n hx hb dX11_worth_55 rfl (lv_at hl 1 rfl) ?_
          obtain ⟨y56, e6, h⟩ := bd_some h
          refine ct_V (ws' := fun rc7 => [oX11 q0 (.ref q1) (.int v_people) u0_2 u0_3 (.ref q2) (.int v_rowMany) (.int (0 : Int32)) rc7 (.int y56.2.1) (.int y56.2.2.1) (.int y56.2.2.2.1) (.int y56.2.2.2.2.1) u0_12 (.ref q3) u0_14 (.int v_ruleSize) (.int y56.2.2.2.2.2.1) (.ref q4) u0_18 u0_19 u0_20 (.ref q5) u0_22 u0_23 u0_24 u0_25 u0_26 u0_27 u0_28 u0_29 u0_30 u0_31 u0_32 u0_33 u0_34 u0_35 u0_36 u0_37 u0_38 u0_39 u0_40, aI cy q1 37 v_now, aJ cy q2 16 v_row, aB cy q3 40 v_rule, aI cy q4 7 y56.2.2.2.2.2.2, aI cy q5 37 (upd x35_9 p1.toNatClampNeg x35_2)]) (st' := [.int y56.1]) (rest := []) E hS vlX11_216 (c_X11_isAwake (l := l) (D := D) (cy := cy) (q0 := q0) (q1 := q3) (q2 := q4) (q3 := q5) (u0_0 := .ref q1) (u0_2 := u0_2) (u0_3 := u0_3) (u0_4 := .ref q2) (u0_5 := .int v_rowMany) (u0_6 := .int (0 : Int32)) (u0_7 := rv35_0) (u0_12 := u0_12) (u0_14 := u0_14) (u0_18 := u0_18) (u0_19 := u0_19) (u0_20 := u0_20) (u0_21 := .ref q5) (u0_22 := u0_22) (u0_23 := u0_23) (u0_24 := u0_24) (u0_25 := u0_25) (u0_26 := u0_26) (u0_27 := u0_27) (u0_28 := u0_28) (u0_29 := u0_29) (u0_30 := u0_30) (u0_31 := u0_31) (u0_32 := u0_32) (u0_33 := u0_33) (u0_34 := u0_34) (u0_35 := u0_35) (u0_36 := u0_36) (u0_37 := u0_37) (u0_38 := u0_38) (u0_39 := u0_39) (u0_40 := u0_40) (v_people := v_people) (v_length := x35_3) (v_top := x35_4) (v_at := x35_5) (v_wrong := x35_6) (v_ruleSize := v_ruleSize) (v_isAsked := x35_7) (v_rule := v_rule) (v_asked := x35_8) (nw1_ := 37) (w1_ := (upd x35_9 p1.toNatClampNeg x35_2)) (p2 := p1) (r := y56) e6) [0, 3, 4, 5] rfl rfl (fun _ => rfl) (fun _ => rfl) rfl rfl rfl rfl (Nat.le_of_ble_eq_true rfl) hl.1 (by rw [hRf]; exact Nat.le_of_ble_eq_true rfl) (by rw [hRl]; exact Nat.le_of_ble_eq_true rfl) ⟨Nat.zero_le _, Nat.zero_le _⟩ dX11_worth_56 rfl (fun H locs rc7 hS => ?_)
          have hJ81 : ∀ (s81_l2 : Int32) (s81_l3 : Int32) (ls : Array Slot), s81_l2 = (if y56.1 = 0 then x35_0 else (if x35_0 = (-2 : Int32) then x35_2 else x35_0)) → s81_l3 = (if y56.1 = 0 then x35_1 else (x35_1 + (1 : Int32))) → lv_has ls 5 [(0, .ref q0), (1, .int p1), (2, .int s81_l2), (3, .int s81_l3), (4, .int x35_2)] → W p l e R s m args below meth c H locs 0 0 Q (F0 m 81 ls []) := by
            intro s81_l2 s81_l3 ls es81_l2 es81_l3 hl
            subst es81_l2
            subst es81_l3
            refine lv_iinc (v := (x35_2 + (1 : Int32))) (lv' := [(4, .int (x35_2 + (1 : Int32))), (0, .ref q0), (1, .int p1), (2, .int (if y56.1 = 0 then x35_0 else (if x35_0 = (-2 : Int32) then x35_2 else x35_0))), (3, .int (if y56.1 = 0 then x35_1 else (x35_1 + (1 : Int32))))]) hx hb dX11_worth_81 hl (k := 4) rfl rfl (by decide) rfl (fun ls hl => ?_)
            refine lv_goto (tgt := 35) hx hb dX11_worth_84 (by decide) ?_
            exact ih35 (if y56.1 = 0 then x35_0 else (if x35_0 = (-2 : Int32) then x35_2 else x35_0)) (if y56.1 = 0 then x35_1 else (x35_1 + (1 : Int32))) (x35_2 + (1 : Int32)) y56.2.1 y56.2.2.1 y56.2.2.2.1 y56.2.2.2.2.1 y56.2.2.2.2.2.1 y56.2.2.2.2.2.2 (upd x35_9 p1.toNatClampNeg x35_2) y35 rc7 H locs ls (hz35a _ (Option.some.inj h).symm) hS (lv_sub hl [1, 2, 3, 4, 0] rfl) hk35_0
          refine lv_if_ne (tgt := 65) hx hb dX11_worth_59 (by decide) (fun c8 => ?_) (fun c8 => ?_)
          · refine lv_iload_n hx hb dX11_worth_65 rfl (lv_at hl 2 rfl) ?_
            refine lv_bipush (v := -2) hx hb dX11_worth_66 (by decide) ?_
            refine lv_icmp_ne (tgt := 76) hx hb dX11_worth_68 (by decide) (fun c9 => ?_) (fun c9 => ?_)
            · refine lv_iload_n hx hb dX11_worth_76 rfl (lv_at hl 2 rfl) ?_
              refine lv_istore_n (lv' := [(2, .int x35_0), (0, .ref q0), (1, .int p1), (3, .int x35_1), (4, .int x35_2)]) hx hb dX11_worth_77 rfl hl (by decide) rfl (fun ls hl => ?_)
              refine lv_iinc (v := (x35_1 + (1 : Int32))) (lv' := [(3, .int (x35_1 + (1 : Int32))), (2, .int x35_0), (0, .ref q0), (1, .int p1), (4, .int x35_2)]) hx hb dX11_worth_78 hl (k := 3) rfl rfl (by decide) rfl (fun ls hl => ?_)
              exact hJ81 _ _ ls (((if_neg c8).trans (if_neg c9))).symm ((if_neg c8)).symm (lv_sub hl [2, 3, 1, 0, 4] rfl)
            · refine lv_iload hx hb dX11_worth_71 (lv_at hl 4 rfl) ?_
              refine lv_goto (tgt := 77) hx hb dX11_worth_73 (by decide) ?_
              refine lv_istore_n (lv' := [(2, .int x35_2), (0, .ref q0), (1, .int p1), (3, .int x35_1), (4, .int x35_2)]) hx hb dX11_worth_77 rfl hl (by decide) rfl (fun ls hl => ?_)
              refine lv_iinc (v := (x35_1 + (1 : Int32))) (lv' := [(3, .int (x35_1 + (1 : Int32))), (2, .int x35_2), (0, .ref q0), (1, .int p1), (4, .int x35_2)]) hx hb dX11_worth_78 hl (k := 3) rfl rfl (by decide) rfl (fun ls hl => ?_)
              exact hJ81 _ _ ls (((if_neg c8).trans (if_pos c9))).symm ((if_neg c8)).symm (lv_sub hl [2, 3, 1, 0, 4] rfl)
          · refine lv_goto (tgt := 81) hx hb dX11_worth_62 (by decide) ?_
            exact hJ81 _ _ ls ((if_pos c8)).symm ((if_pos c8)).symm (lv_sub hl [0, 1, 2, 3, 4] rfl)
    obtain ⟨y35, e35, h⟩ := bd_some h
    refine hL35 1000 (-2 : Int32) (0 : Int32) (0 : Int32) v_length v_top v_at v_wrong v_isAsked v_asked y29 y35 u0_7 H locs ls e35 hS (lv_sub hl [3, 4, 2, 1, 0] rfl) (fun y35_0 y35_1 y35_2 y35_3 y35_4 y35_5 y35_6 y35_7 y35_8 ey35 rw35_0 H locs ls hS hl => ?_)
    subst ey35
    have h := un_r h
    have h := un_r h
    have h := un_r h
    have h := un_r h
    have h := un_r h
    have h := un_r h
    have h := un_r h
    have h := un_r h
    refine lv_iload_n hx hb dX11_worth_87 rfl (lv_at hl 1 rfl) ?_
    refine lv_bipush (v := -2) hx hb dX11_worth_88 (by decide) ?_
    refine lv_icmp_ne (tgt := 96) hx hb dX11_worth_90 (by decide) (fun c10 => ?_) (fun c10 => ?_)
    · have h := it_neg c10 h
      refine lv_aload_n hx hb dX11_worth_96 rfl (lv_at hl 0 rfl) ?_
      refine lv_iconst (v := 0) hx hb dX11_worth_97 (by decide) ?_
      refine r_put (ws' := [oX11 q0 (.ref q1) (.int v_people) u0_2 u0_3 (.ref q2) (.int (0 : Int32)) (.int (0 : Int32)) rw35_0 (.int y35_2) (.int y35_3) (.int y35_4) (.int y35_5) u0_12 (.ref q3) u0_14 (.int v_ruleSize) (.int y35_6) (.ref q4) u0_18 u0_19 u0_20 (.ref q5) u0_22 u0_23 u0_24 u0_25 u0_26 u0_27 u0_28 u0_29 u0_30 u0_31 u0_32 u0_33 u0_34 u0_35 u0_36 u0_37 u0_38 u0_39 u0_40, aI cy q1 37 v_now, aJ cy q2 16 v_row, aB cy q3 40 v_rule, aI cy q4 7 y35_7, aI cy q5 37 y35_8]) E frX11_89 hS 0 rfl (Nat.le_of_ble_eq_true rfl) rfl rfl rfl rfl dX11_worth_98 (fun H locs hS => ?_)
      refine lv_aload_n hx hb dX11_worth_101 rfl (lv_at hl 0 rfl) ?_
      refine lv_iload_n hx hb dX11_worth_102 rfl (lv_at hl 2 rfl) ?_
      refine lv_i2l (v := (y35_1.toInt64)) hx hb dX11_worth_103 rfl ?_
      obtain ⟨y104, e11, h⟩ := bd_some h
      refine ct_V (ws' := fun _ => [oX11 q0 (.ref q1) (.int v_people) u0_2 u0_3 (.ref q2) (.int y104.1) (.int (0 : Int32)) rw35_0 (.int y35_2) (.int y35_3) (.int y35_4) (.int y35_5) u0_12 (.ref q3) u0_14 (.int v_ruleSize) (.int y35_6) (.ref q4) u0_18 u0_19 u0_20 (.ref q5) u0_22 u0_23 u0_24 u0_25 u0_26 u0_27 u0_28 u0_29 u0_30 u0_31 u0_32 u0_33 u0_34 u0_35 u0_36 u0_37 u0_38 u0_39 u0_40, aI cy q1 37 v_now, aJ cy q2 16 y104.2, aB cy q3 40 v_rule, aI cy q4 7 y35_7, aI cy q5 37 y35_8]) (st' := []) (rest := []) E hS vlX11_256 (c_X11_tell (l := l) (D := D) (cy := cy) (q0 := q0) (q1 := q2) (u0_0 := .ref q1) (u0_1 := .int v_people) (u0_2 := u0_2) (u0_3 := u0_3) (u0_6 := .int (0 : Int32)) (u0_7 := rw35_0) (u0_8 := .int y35_2) (u0_9 := .int y35_3) (u0_10 := .int y35_4) (u0_11 := .int y35_5) (u0_12 := u0_12) (u0_13 := .ref q3) (u0_14 := u0_14) (u0_15 := .int v_ruleSize) (u0_16 := .int y35_6) (u0_17 := .ref q4) (u0_18 := u0_18) (u0_19 := u0_19) (u0_20 := u0_20) (u0_21 := .ref q5) (u0_22 := u0_22) (u0_23 := u0_23) (u0_24 := u0_24) (u0_25 := u0_25) (u0_26 := u0_26) (u0_27 := u0_27) (u0_28 := u0_28) (u0_29 := u0_29) (u0_30 := u0_30) (u0_31 := u0_31) (u0_32 := u0_32) (u0_33 := u0_33) (u0_34 := u0_34) (u0_35 := u0_35) (u0_36 := u0_36) (u0_37 := u0_37) (u0_38 := u0_38) (u0_39 := u0_39) (u0_40 := u0_40) (v_rowMany := (0 : Int32)) (v_row := v_row) (p1 := (y35_1.toInt64)) (r := y104) e11) [0, 2] rfl rfl (fun _ => rfl) (fun _ => rfl) rfl rfl rfl rfl (Nat.le_of_ble_eq_true rfl) hl.1 (by rw [hRf]; exact Nat.le_of_ble_eq_true rfl) (by rw [hRl]; exact Nat.le_of_ble_eq_true rfl) ⟨Nat.zero_le _, Nat.zero_le _⟩ dX11_worth_104 rfl (fun H locs _ hS => ?_)
      refine lv_iload_n hx hb dX11_worth_107 rfl (lv_at hl 1 rfl) ?_
      obtain rfl := Option.some.inj h
      exact rt_i E hQ (rw35_0) hS dX11_worth_108
    · have h := it_pos c10 h
      refine lv_bipush (v := -2) hx hb dX11_worth_93 (by decide) ?_
      obtain rfl := Option.some.inj h
      exact rt_i E hQ (rw35_0) hS dX11_worth_95
  · have h := it_pos c2 h
    refine lv_iconst (v := -1) hx hb dX11_worth_13 (by decide) ?_
    obtain rfl := Option.some.inj h
    exact rt_i E hQ (u0_7) hS dX11_worth_14
set_option maxHeartbeats 4000000 in
set_option maxRecDepth 100000 in
theorem c_X11_spares {l : Launch} {D : va_G} {cy : Nat → ClassId} (q0 : Nat) (q1 : Nat) (q2 : Nat) (q3 : Nat) (q4 : Nat) (q5 : Nat) (u0_2 : Value) (u0_3 : Value) (u0_7 : Value) (u0_12 : Value) (u0_14 : Value) (u0_18 : Value) (u0_19 : Value) (u0_20 : Value) (u0_22 : Value) (u0_23 : Value) (u0_24 : Value) (u0_25 : Value) (u0_26 : Value) (u0_27 : Value) (u0_28 : Value) (u0_29 : Value) (u0_30 : Value) (u0_31 : Value) (u0_32 : Value) (u0_33 : Value) (u0_34 : Value) (u0_35 : Value) (u0_36 : Value) (u0_37 : Value) (u0_38 : Value) (u0_39 : Value) (u0_40 : Value) (v_people : Int32) (v_rowMany : Int32) (v_thrown : Int32) (v_length : Int32) (v_top : Int32) (v_at : Int32) (v_wrong : Int32) (v_ruleSize : Int32) (v_isAsked : Int32) (v_now : Nat → Int32) (v_row : Nat → Int64) (v_rule : Nat → Int32) (v_asked : Nat → Int32) (v_then : Nat → Int32) (r : Int32 × Int32 × Int32 × Int32 × Int32 × Int32 × Int32 × Int32 × (Nat → Int64) × (Nat → Int32) × (Nat → Int32)) (h : X11_spares v_people v_rowMany v_length v_top v_at v_wrong v_ruleSize v_isAsked v_now v_row v_rule v_asked v_then = some r) : Ct l yX11_spares cX11_spares 5 (some .int) 109 2603 D cy [.ref q0] [oX11 q0 (.ref q1) (.int v_people) u0_2 u0_3 (.ref q2) (.int v_rowMany) (.int v_thrown) u0_7 (.int v_length) (.int v_top) (.int v_at) (.int v_wrong) u0_12 (.ref q3) u0_14 (.int v_ruleSize) (.int v_isAsked) (.ref q4) u0_18 u0_19 u0_20 (.ref q5) u0_22 u0_23 u0_24 u0_25 u0_26 u0_27 u0_28 u0_29 u0_30 u0_31 u0_32 u0_33 u0_34 u0_35 u0_36 u0_37 u0_38 u0_39 u0_40, aI cy q1 37 v_now, aJ cy q2 16 v_row, aB cy q3 40 v_rule, aI cy q4 7 v_asked, aI cy q5 37 v_then] (fun rv => [oX11 q0 (.ref q1) (.int v_people) u0_2 u0_3 (.ref q2) (.int r.2.1) (.int r.2.2.1) rv (.int r.2.2.2.1) (.int r.2.2.2.2.1) (.int r.2.2.2.2.2.1) (.int r.2.2.2.2.2.2.1) u0_12 (.ref q3) u0_14 (.int v_ruleSize) (.int r.2.2.2.2.2.2.2.1) (.ref q4) u0_18 u0_19 u0_20 (.ref q5) u0_22 u0_23 u0_24 u0_25 u0_26 u0_27 u0_28 u0_29 u0_30 u0_31 u0_32 u0_33 u0_34 u0_35 u0_36 u0_37 u0_38 u0_39 u0_40, aI cy q1 37 v_now, aJ cy q2 16 r.2.2.2.2.2.2.2.2.1, aB cy q3 40 v_rule, aI cy q4 7 r.2.2.2.2.2.2.2.2.2.1, aI cy q5 37 r.2.2.2.2.2.2.2.2.2.2]) (some (.int r.1)) := by
  refine Ct.mk kX11_spares (by decide +kernel) (Nat.le_of_ble_eq_true rfl) ?_
  intro p e s m below meth c A ls args R Q hRf hRl hQ E H locs hS hl
  have hx := E.x
  have hb := E.b
  have hl : lv_has ls 5 [(0, .ref q0)] := hl
  unfold X11_spares at h
  refine lv_aload_n hx hb dX11_spares_0 rfl (lv_at hl 0 rfl) ?_
  refine lv_iconst (v := 0) hx hb dX11_spares_1 (by decide) ?_
  refine r_put (ws' := [oX11 q0 (.ref q1) (.int v_people) u0_2 u0_3 (.ref q2) (.int v_rowMany) (.int (0 : Int32)) u0_7 (.int v_length) (.int v_top) (.int v_at) (.int v_wrong) u0_12 (.ref q3) u0_14 (.int v_ruleSize) (.int v_isAsked) (.ref q4) u0_18 u0_19 u0_20 (.ref q5) u0_22 u0_23 u0_24 u0_25 u0_26 u0_27 u0_28 u0_29 u0_30 u0_31 u0_32 u0_33 u0_34 u0_35 u0_36 u0_37 u0_38 u0_39 u0_40, aI cy q1 37 v_now, aJ cy q2 16 v_row, aB cy q3 40 v_rule, aI cy q4 7 v_asked, aI cy q5 37 v_then]) E frX11_85 hS 0 rfl (Nat.le_of_ble_eq_true rfl) rfl rfl rfl rfl dX11_spares_2 (fun H locs hS => ?_)
  refine lv_aload_n hx hb dX11_spares_5 rfl (lv_at hl 0 rfl) ?_
  refine r_get E frX11_92 hS 0 rfl rfl dX11_spares_6 ?_
  refine lv_if_ne (tgt := 15) hx hb dX11_spares_9 (by decide) (fun c1 => ?_) (fun c1 => ?_)
  · have h := it_neg c1 h
    refine lv_iconst (v := -1) hx hb dX11_spares_15 (by decide) ?_
    refine lv_istore_n (lv' := [(1, .int (-1 : Int32)), (0, .ref q0)]) hx hb dX11_spares_16 rfl hl (by decide) rfl (fun ls hl => ?_)
    refine lv_ldcw hx hb E.ow (E.ts _ cnX11_307) dX11_spares_17 ?_
    refine lv_istore_n (lv' := [(2, .int (1000000 : Int32)), (1, .int (-1 : Int32)), (0, .ref q0)]) hx hb dX11_spares_20 rfl hl (by decide) rfl (fun ls hl => ?_)
    refine lv_iconst (v := 0) hx hb dX11_spares_21 (by decide) ?_
    refine lv_istore_n (lv' := [(3, .int (0 : Int32)), (2, .int (1000000 : Int32)), (1, .int (-1 : Int32)), (0, .ref q0)]) hx hb dX11_spares_22 rfl hl (by decide) rfl (fun ls hl => ?_)
    have hL23 : ∀ (n : Nat) (x23_0 : Int32) (x23_1 : Int32) (x23_2 : Int32) (x23_3 : Int32) (x23_4 : Int32) (x23_5 : Int32) (x23_6 : Int32) (x23_7 : Int32) (x23_8 : Nat → Int32) (x23_9 : Nat → Int32) (y23 : Int32 × Int32 × Int32 × Int32 × Int32 × Int32 × Int32 × (Nat → Int32) × (Nat → Int32)) (rv23_0 : Value) (H : Heap) (locs : List Loc) (ls : Array Slot), lp (fun x23 => X11_spares_s23 v_people v_ruleSize v_now v_rule x23.1 x23.2.1 x23.2.2.1 x23.2.2.2.1 x23.2.2.2.2.1 x23.2.2.2.2.2.1 x23.2.2.2.2.2.2.1 x23.2.2.2.2.2.2.2.1 x23.2.2.2.2.2.2.2.2.1 x23.2.2.2.2.2.2.2.2.2) n (x23_0, x23_1, x23_2, x23_3, x23_4, x23_5, x23_6, x23_7, x23_8, x23_9) = some y23 → Sv D A s.heap [oX11 q0 (.ref q1) (.int v_people) u0_2 u0_3 (.ref q2) (.int v_rowMany) (.int (0 : Int32)) rv23_0 (.int x23_3) (.int x23_4) (.int x23_5) (.int x23_6) u0_12 (.ref q3) u0_14 (.int v_ruleSize) (.int x23_7) (.ref q4) u0_18 u0_19 u0_20 (.ref q5) u0_22 u0_23 u0_24 u0_25 u0_26 u0_27 u0_28 u0_29 u0_30 u0_31 u0_32 u0_33 u0_34 u0_35 u0_36 u0_37 u0_38 u0_39 u0_40, aI cy q1 37 v_now, aJ cy q2 16 v_row, aB cy q3 40 v_rule, aI cy q4 7 x23_8, aI cy q5 37 x23_9] H locs → lv_has ls 5 [(0, .ref q0), (1, .int x23_0), (2, .int x23_1), (3, .int x23_2)] → ( ∀ (y23_0 : Int32) (y23_1 : Int32) (y23_2 : Int32) (y23_3 : Int32) (y23_4 : Int32) (y23_5 : Int32) (y23_6 : Int32) (y23_7 : Nat → Int32) (y23_8 : Nat → Int32), (y23_0, y23_1, y23_2, y23_3, y23_4, y23_5, y23_6, y23_7, y23_8) = y23 → ∀ (rv23_0 : Value), ∀ (H : Heap) (locs : List Loc) (ls : Array Slot), Sv D A s.heap [oX11 q0 (.ref q1) (.int v_people) u0_2 u0_3 (.ref q2) (.int v_rowMany) (.int (0 : Int32)) rv23_0 (.int y23_2) (.int y23_3) (.int y23_4) (.int y23_5) u0_12 (.ref q3) u0_14 (.int v_ruleSize) (.int y23_6) (.ref q4) u0_18 u0_19 u0_20 (.ref q5) u0_22 u0_23 u0_24 u0_25 u0_26 u0_27 u0_28 u0_29 u0_30 u0_31 u0_32 u0_33 u0_34 u0_35 u0_36 u0_37 u0_38 u0_39 u0_40, aI cy q1 37 v_now, aJ cy q2 16 v_row, aB cy q3 40 v_rule, aI cy q4 7 y23_7, aI cy q5 37 y23_8] H locs → lv_has ls 5 [(0, .ref q0), (1, .int y23_0), (2, .int y23_1)] → W p l e R s m args below meth c H locs 0 0 Q (F0 m 90 ls [])) → W p l e R s m args below meth c H locs 0 0 Q (F0 m 23 ls []) := by
      intro n
      induction n with
      | zero =>
        intro x23_0 x23_1 x23_2 x23_3 x23_4 x23_5 x23_6 x23_7 x23_8 x23_9 y23 rv23_0 H locs ls h
        exact lp_zero h
      | succ n ih23 =>
        intro x23_0 x23_1 x23_2 x23_3 x23_4 x23_5 x23_6 x23_7 x23_8 x23_9 y23 rv23_0 H locs ls h hS hl hk23_0
        obtain ⟨z23, h, hz23a, hz23b⟩ := lp_succ h
        have h : X11_spares_s23 v_people v_ruleSize v_now v_rule x23_0 x23_1 x23_2 x23_3 x23_4 x23_5 x23_6 x23_7 x23_8 x23_9 = some z23 := h
        unfold X11_spares_s23 at h
        refine lv_iload_n hx hb dX11_spares_23 rfl (lv_at hl 3 rfl) ?_
        refine lv_aload_n hx hb dX11_spares_24 rfl (lv_at hl 0 rfl) ?_
        refine r_get E frX11_92 hS 0 rfl rfl dX11_spares_25 ?_
        refine lv_icmp_ge (tgt := 90) hx hb dX11_spares_28 (by decide) (fun c2 => ?_) (fun c2 => ?_)
        · have h := it_pos c2 h
          exact hk23_0 x23_0 x23_1 x23_3 x23_4 x23_5 x23_6 x23_7 x23_8 x23_9 (hz23b _ (Option.some.inj h).symm) rv23_0 H locs ls hS (lv_sub hl [0, 1, 2] rfl)
        · have h := it_neg c2 h
          refine lv_aload_n hx hb dX11_spares_31 rfl (lv_at hl 0 rfl) ?_
          refine r_get E frX11_9 hS 0 rfl rfl dX11_spares_32 ?_
          refine lv_aload_n hx hb dX11_spares_35 rfl (lv_at hl 0 rfl) ?_
          refine r_get E frX11_39 hS 0 rfl rfl dX11_spares_36 ?_
          refine lv_iconst (v := 0) hx hb dX11_spares_39 (by decide) ?_
          obtain ⟨y40, e3, h⟩ := bd_some h
          refine ct_S (ws' := fun _ => [oX11 q0 (.ref q1) (.int v_people) u0_2 u0_3 (.ref q2) (.int v_rowMany) (.int (0 : Int32)) rv23_0 (.int x23_3) (.int x23_4) (.int x23_5) (.int x23_6) u0_12 (.ref q3) u0_14 (.int v_ruleSize) (.int x23_7) (.ref q4) u0_18 u0_19 u0_20 (.ref q5) u0_22 u0_23 u0_24 u0_25 u0_26 u0_27 u0_28 u0_29 u0_30 u0_31 u0_32 u0_33 u0_34 u0_35 u0_36 u0_37 u0_38 u0_39 u0_40, aI cy q1 37 v_now, aJ cy q2 16 v_row, aB cy q3 40 v_rule, aI cy q4 7 x23_8, aI cy q5 37 y40]) (st' := []) (rest := []) E hS slX11_235 (c_X11_lay (l := l) (D := D) (cy := cy) (q0 := q1) (q1 := q5) (nw1_ := 37) (w1_ := v_now) (nw2_ := 37) (w2_ := x23_9) (p2 := (0 : Int32)) (r := y40) e3) [1, 5] rfl rfl (fun _ => rfl) (fun _ => rfl) rfl rfl (Nat.le_of_ble_eq_true rfl) hl.1 (by rw [hRf]; exact Nat.le_of_ble_eq_true rfl) (by rw [hRl]; exact Nat.le_of_ble_eq_true rfl) ⟨Nat.zero_le _, Nat.zero_le _⟩ dX11_spares_40 rfl (fun H locs _ hS => ?_)
          refine lv_aload_n hx hb dX11_spares_43 rfl (lv_at hl 0 rfl) ?_
          refine lv_aload_n hx hb dX11_spares_44 rfl (lv_at hl 0 rfl) ?_
          refine r_get E frX11_39 hS 0 rfl rfl dX11_spares_45 ?_
          refine lv_iload_n hx hb dX11_spares_48 rfl (lv_at hl 3 rfl) ?_
          obtain ⟨y49, e4, h⟩ := bd_some h
          refine ct_V (ws' := fun _ => [oX11 q0 (.ref q1) (.int v_people) u0_2 u0_3 (.ref q2) (.int v_rowMany) (.int (0 : Int32)) rv23_0 (.int x23_3) (.int x23_4) (.int x23_5) (.int x23_6) u0_12 (.ref q3) u0_14 (.int v_ruleSize) (.int x23_7) (.ref q4) u0_18 u0_19 u0_20 (.ref q5) u0_22 u0_23 u0_24 u0_25 u0_26 u0_27 u0_28 u0_29 u0_30 u0_31 u0_32 u0_33 u0_34 u0_35 u0_36 u0_37 u0_38 u0_39 u0_40, aI cy q1 37 v_now, aJ cy q2 16 v_row, aB cy q3 40 v_rule, aI cy q4 7 x23_8, aI cy q5 37 y49]) (st' := []) (rest := []) E hS vlX11_275 (c_X11_goAway (l := l) (D := D) (cy := cy) (q0 := q0) (q1 := q5) (u0_0 := .ref q1) (u0_2 := u0_2) (u0_3 := u0_3) (u0_4 := .ref q2) (u0_5 := .int v_rowMany) (u0_6 := .int (0 : Int32)) (u0_7 := rv23_0) (u0_8 := .int x23_3) (u0_9 := .int x23_4) (u0_10 := .int x23_5) (u0_11 := .int x23_6) (u0_12 := u0_12) (u0_13 := .ref q3) (u0_14 := u0_14) (u0_15 := .int v_ruleSize) (u0_16 := .int x23_7) (u0_17 := .ref q4) (u0_18 := u0_18) (u0_19 := u0_19) (u0_20 := u0_20) (u0_21 := .ref q5) (u0_22 := u0_22) (u0_23 := u0_23) (u0_24 := u0_24) (u0_25 := u0_25) (u0_26 := u0_26) (u0_27 := u0_27) (u0_28 := u0_28) (u0_29 := u0_29) (u0_30 := u0_30) (u0_31 := u0_31) (u0_32 := u0_32) (u0_33 := u0_33) (u0_34 := u0_34) (u0_35 := u0_35) (u0_36 := u0_36) (u0_37 := u0_37) (u0_38 := u0_38) (u0_39 := u0_39) (u0_40 := u0_40) (v_people := v_people) (nw1_ := 37) (w1_ := y40) (p2 := x23_2) (r := y49) e4) [0, 5] rfl rfl (fun _ => rfl) (fun _ => rfl) rfl rfl rfl rfl (Nat.le_of_ble_eq_true rfl) hl.1 (by rw [hRf]; exact Nat.le_of_ble_eq_true rfl) (by rw [hRl]; exact Nat.le_of_ble_eq_true rfl) ⟨Nat.zero_le _, Nat.zero_le _⟩ dX11_spares_49 rfl (fun H locs _ hS => ?_)
          refine lv_aload_n hx hb dX11_spares_52 rfl (lv_at hl 0 rfl) ?_
          refine lv_aload_n hx hb dX11_spares_53 rfl (lv_at hl 0 rfl) ?_
          refine r_get E frX11_39 hS 0 rfl rfl dX11_spares_54 ?_
          refine lv_aload_n hx hb dX11_spares_57 rfl (lv_at hl 0 rfl) ?_
          refine lv_aload_n hx hb dX11_spares_58 rfl (lv_at hl 0 rfl) ?_
          refine r_get E frX11_39 hS 0 rfl rfl dX11_spares_59 ?_
          obtain ⟨y62, e5, h⟩ := bd_some h
          refine ct_V (ws' := fun rc6 => [oX11 q0 (.ref q1) (.int v_people) u0_2 u0_3 (.ref q2) (.int v_rowMany) (.int (0 : Int32)) rc6 (.int y62.2.1) (.int y62.2.2.1) (.int y62.2.2.2.1) (.int y62.2.2.2.2.1) u0_12 (.ref q3) u0_14 (.int v_ruleSize) (.int y62.2.2.2.2.2.1) (.ref q4) u0_18 u0_19 u0_20 (.ref q5) u0_22 u0_23 u0_24 u0_25 u0_26 u0_27 u0_28 u0_29 u0_30 u0_31 u0_32 u0_33 u0_34 u0_35 u0_36 u0_37 u0_38 u0_39 u0_40, aI cy q1 37 v_now, aJ cy q2 16 v_row, aB cy q3 40 v_rule, aI cy q4 7 y62.2.2.2.2.2.2, aI cy q5 37 y49]) (st' := [.int y62.1, .ref q5, .ref q0]) (rest := [.ref q5, .ref q0]) E hS vlX11_239 (c_X11_awake (l := l) (D := D) (cy := cy) (q0 := q0) (q1 := q3) (q2 := q4) (q3 := q5) (u0_0 := .ref q1) (u0_2 := u0_2) (u0_3 := u0_3) (u0_4 := .ref q2) (u0_5 := .int v_rowMany) (u0_6 := .int (0 : Int32)) (u0_7 := rv23_0) (u0_12 := u0_12) (u0_14 := u0_14) (u0_18 := u0_18) (u0_19 := u0_19) (u0_20 := u0_20) (u0_21 := .ref q5) (u0_22 := u0_22) (u0_23 := u0_23) (u0_24 := u0_24) (u0_25 := u0_25) (u0_26 := u0_26) (u0_27 := u0_27) (u0_28 := u0_28) (u0_29 := u0_29) (u0_30 := u0_30) (u0_31 := u0_31) (u0_32 := u0_32) (u0_33 := u0_33) (u0_34 := u0_34) (u0_35 := u0_35) (u0_36 := u0_36) (u0_37 := u0_37) (u0_38 := u0_38) (u0_39 := u0_39) (u0_40 := u0_40) (v_people := v_people) (v_length := x23_3) (v_top := x23_4) (v_at := x23_5) (v_wrong := x23_6) (v_ruleSize := v_ruleSize) (v_isAsked := x23_7) (v_rule := v_rule) (v_asked := x23_8) (nw1_ := 37) (w1_ := y49) (r := y62) e5) [0, 3, 4, 5] rfl rfl (fun _ => rfl) (fun _ => rfl) rfl rfl rfl rfl (Nat.le_of_ble_eq_true rfl) hl.1 (by rw [hRf]; exact Nat.le_of_ble_eq_true rfl) (by rw [hRl]; exact Nat.le_of_ble_eq_true rfl) ⟨Nat.zero_le _, Nat.zero_le _⟩ dX11_spares_62 rfl (fun H locs rc6 hS => ?_)
          obtain ⟨y65, e7, h⟩ := bd_some h
          refine ct_V (ws' := fun _ => [oX11 q0 (.ref q1) (.int v_people) u0_2 u0_3 (.ref q2) (.int v_rowMany) (.int (0 : Int32)) rc6 (.int y62.2.1) (.int y62.2.2.1) (.int y62.2.2.2.1) (.int y62.2.2.2.2.1) u0_12 (.ref q3) u0_14 (.int v_ruleSize) (.int y62.2.2.2.2.2.1) (.ref q4) u0_18 u0_19 u0_20 (.ref q5) u0_22 u0_23 u0_24 u0_25 u0_26 u0_27 u0_28 u0_29 u0_30 u0_31 u0_32 u0_33 u0_34 u0_35 u0_36 u0_37 u0_38 u0_39 u0_40, aI cy q1 37 v_now, aJ cy q2 16 v_row, aB cy q3 40 v_rule, aI cy q4 7 y62.2.2.2.2.2.2, aI cy q5 37 y49]) (st' := [.int y65]) (rest := []) E hS vlX11_243 (c_X11_unmet (l := l) (D := D) (cy := cy) (q0 := q0) (q1 := q5) (u0_0 := .ref q1) (u0_2 := u0_2) (u0_3 := u0_3) (u0_4 := .ref q2) (u0_5 := .int v_rowMany) (u0_6 := .int (0 : Int32)) (u0_7 := rc6) (u0_8 := .int y62.2.1) (u0_9 := .int y62.2.2.1) (u0_10 := .int y62.2.2.2.1) (u0_11 := .int y62.2.2.2.2.1) (u0_12 := u0_12) (u0_13 := .ref q3) (u0_14 := u0_14) (u0_15 := .int v_ruleSize) (u0_16 := .int y62.2.2.2.2.2.1) (u0_17 := .ref q4) (u0_18 := u0_18) (u0_19 := u0_19) (u0_20 := u0_20) (u0_21 := .ref q5) (u0_22 := u0_22) (u0_23 := u0_23) (u0_24 := u0_24) (u0_25 := u0_25) (u0_26 := u0_26) (u0_27 := u0_27) (u0_28 := u0_28) (u0_29 := u0_29) (u0_30 := u0_30) (u0_31 := u0_31) (u0_32 := u0_32) (u0_33 := u0_33) (u0_34 := u0_34) (u0_35 := u0_35) (u0_36 := u0_36) (u0_37 := u0_37) (u0_38 := u0_38) (u0_39 := u0_39) (u0_40 := u0_40) (v_people := v_people) (nw1_ := 37) (w1_ := y49) (p2 := y62.1) (r := y65) e7) [0, 5] rfl rfl (fun _ => rfl) (fun _ => rfl) rfl rfl rfl rfl (Nat.le_of_ble_eq_true rfl) hl.1 (by rw [hRf]; exact Nat.le_of_ble_eq_true rfl) (by rw [hRl]; exact Nat.le_of_ble_eq_true rfl) ⟨Nat.zero_le _, Nat.zero_le _⟩ dX11_spares_65 rfl (fun H locs _ hS => ?_)
          refine lv_istore (lv' := [(4, .int y65), (0, .ref q0), (1, .int x23_0), (2, .int x23_1), (3, .int x23_2)]) hx hb dX11_spares_68 hl (by decide) rfl (fun ls hl => ?_)
          refine lv_iload hx hb dX11_spares_70 (lv_at hl 0 rfl) ?_
          refine lv_iload_n hx hb dX11_spares_72 rfl (lv_at hl 3 rfl) ?_
          have hJ84 : ∀ (s84_l1 : Int32) (s84_l2 : Int32) (ls : Array Slot), s84_l1 = (if y65 < x23_1 then x23_2 else x23_0) → s84_l2 = (if y65 < x23_1 then y65 else x23_1) → lv_has ls 5 [(0, .ref q0), (1, .int s84_l1), (2, .int s84_l2), (3, .int x23_2)] → W p l e R s m args below meth c H locs 0 0 Q (F0 m 84 ls []) := by
            intro s84_l1 s84_l2 ls es84_l1 es84_l2 hl
            subst es84_l1
            subst es84_l2
            refine lv_iinc (v := (x23_2 + (1 : Int32))) (lv' := [(3, .int (x23_2 + (1 : Int32))), (0, .ref q0), (1, .int (if y65 < x23_1 then x23_2 else x23_0)), (2, .int (if y65 < x23_1 then y65 else x23_1))]) hx hb dX11_spares_84 hl (k := 3) rfl rfl (by decide) rfl (fun ls hl => ?_)
            refine lv_goto (tgt := 23) hx hb dX11_spares_87 (by decide) ?_
            exact ih23 (if y65 < x23_1 then x23_2 else x23_0) (if y65 < x23_1 then y65 else x23_1) (x23_2 + (1 : Int32)) y62.2.1 y62.2.2.1 y62.2.2.2.1 y62.2.2.2.2.1 y62.2.2.2.2.2.1 y62.2.2.2.2.2.2 y49 y23 rc6 H locs ls (hz23a _ (Option.some.inj h).symm) hS (lv_sub hl [1, 2, 3, 0] rfl) hk23_0
          refine lv_icmp_lt (tgt := 79) hx hb dX11_spares_73 (by decide) (fun c8 => ?_) (fun c8 => ?_)
          · refine lv_iload_n hx hb dX11_spares_79 rfl (lv_at hl 4 rfl) ?_
            refine lv_istore_n (lv' := [(1, .int x23_2), (4, .int y65), (0, .ref q0), (2, .int x23_1), (3, .int x23_2)]) hx hb dX11_spares_80 rfl hl (by decide) rfl (fun ls hl => ?_)
            refine lv_iload hx hb dX11_spares_81 (lv_at hl 1 rfl) ?_
            refine lv_istore_n (lv' := [(2, .int y65), (1, .int x23_2), (4, .int y65), (0, .ref q0), (3, .int x23_2)]) hx hb dX11_spares_83 rfl hl (by decide) rfl (fun ls hl => ?_)
            exact hJ84 _ _ ls ((if_pos c8)).symm ((if_pos c8)).symm (lv_sub hl [3, 1, 0, 4] rfl)
          · refine lv_goto (tgt := 84) hx hb dX11_spares_76 (by decide) ?_
            exact hJ84 _ _ ls ((if_neg c8)).symm ((if_neg c8)).symm (lv_sub hl [1, 2, 3, 4] rfl)
    obtain ⟨y23, e23, h⟩ := bd_some h
    refine hL23 1000 (-1 : Int32) (1000000 : Int32) (0 : Int32) v_length v_top v_at v_wrong v_isAsked v_asked v_then y23 u0_7 H locs ls e23 hS (lv_sub hl [3, 2, 1, 0] rfl) (fun y23_0 y23_1 y23_2 y23_3 y23_4 y23_5 y23_6 y23_7 y23_8 ey23 rw23_0 H locs ls hS hl => ?_)
    subst ey23
    have h := un_r h
    have h := un_r h
    have h := un_r h
    have h := un_r h
    have h := un_r h
    have h := un_r h
    have h := un_r h
    have h := un_r h
    refine lv_aload_n hx hb dX11_spares_90 rfl (lv_at hl 0 rfl) ?_
    refine lv_iconst (v := 0) hx hb dX11_spares_91 (by decide) ?_
    refine r_put (ws' := [oX11 q0 (.ref q1) (.int v_people) u0_2 u0_3 (.ref q2) (.int (0 : Int32)) (.int (0 : Int32)) rw23_0 (.int y23_2) (.int y23_3) (.int y23_4) (.int y23_5) u0_12 (.ref q3) u0_14 (.int v_ruleSize) (.int y23_6) (.ref q4) u0_18 u0_19 u0_20 (.ref q5) u0_22 u0_23 u0_24 u0_25 u0_26 u0_27 u0_28 u0_29 u0_30 u0_31 u0_32 u0_33 u0_34 u0_35 u0_36 u0_37 u0_38 u0_39 u0_40, aI cy q1 37 v_now, aJ cy q2 16 v_row, aB cy q3 40 v_rule, aI cy q4 7 y23_7, aI cy q5 37 y23_8]) E frX11_89 hS 0 rfl (Nat.le_of_ble_eq_true rfl) rfl rfl rfl rfl dX11_spares_92 (fun H locs hS => ?_)
    refine lv_aload_n hx hb dX11_spares_95 rfl (lv_at hl 0 rfl) ?_
    refine lv_iload_n hx hb dX11_spares_96 rfl (lv_at hl 2 rfl) ?_
    refine lv_i2l (v := (y23_1.toInt64)) hx hb dX11_spares_97 rfl ?_
    obtain ⟨y98, e9, h⟩ := bd_some h
    refine ct_V (ws' := fun _ => [oX11 q0 (.ref q1) (.int v_people) u0_2 u0_3 (.ref q2) (.int y98.1) (.int (0 : Int32)) rw23_0 (.int y23_2) (.int y23_3) (.int y23_4) (.int y23_5) u0_12 (.ref q3) u0_14 (.int v_ruleSize) (.int y23_6) (.ref q4) u0_18 u0_19 u0_20 (.ref q5) u0_22 u0_23 u0_24 u0_25 u0_26 u0_27 u0_28 u0_29 u0_30 u0_31 u0_32 u0_33 u0_34 u0_35 u0_36 u0_37 u0_38 u0_39 u0_40, aI cy q1 37 v_now, aJ cy q2 16 y98.2, aB cy q3 40 v_rule, aI cy q4 7 y23_7, aI cy q5 37 y23_8]) (st' := []) (rest := []) E hS vlX11_256 (c_X11_tell (l := l) (D := D) (cy := cy) (q0 := q0) (q1 := q2) (u0_0 := .ref q1) (u0_1 := .int v_people) (u0_2 := u0_2) (u0_3 := u0_3) (u0_6 := .int (0 : Int32)) (u0_7 := rw23_0) (u0_8 := .int y23_2) (u0_9 := .int y23_3) (u0_10 := .int y23_4) (u0_11 := .int y23_5) (u0_12 := u0_12) (u0_13 := .ref q3) (u0_14 := u0_14) (u0_15 := .int v_ruleSize) (u0_16 := .int y23_6) (u0_17 := .ref q4) (u0_18 := u0_18) (u0_19 := u0_19) (u0_20 := u0_20) (u0_21 := .ref q5) (u0_22 := u0_22) (u0_23 := u0_23) (u0_24 := u0_24) (u0_25 := u0_25) (u0_26 := u0_26) (u0_27 := u0_27) (u0_28 := u0_28) (u0_29 := u0_29) (u0_30 := u0_30) (u0_31 := u0_31) (u0_32 := u0_32) (u0_33 := u0_33) (u0_34 := u0_34) (u0_35 := u0_35) (u0_36 := u0_36) (u0_37 := u0_37) (u0_38 := u0_38) (u0_39 := u0_39) (u0_40 := u0_40) (v_rowMany := (0 : Int32)) (v_row := v_row) (p1 := (y23_1.toInt64)) (r := y98) e9) [0, 2] rfl rfl (fun _ => rfl) (fun _ => rfl) rfl rfl rfl rfl (Nat.le_of_ble_eq_true rfl) hl.1 (by rw [hRf]; exact Nat.le_of_ble_eq_true rfl) (by rw [hRl]; exact Nat.le_of_ble_eq_true rfl) ⟨Nat.zero_le _, Nat.zero_le _⟩ dX11_spares_98 rfl (fun H locs _ hS => ?_)
    refine lv_aload_n hx hb dX11_spares_101 rfl (lv_at hl 0 rfl) ?_
    refine lv_aload_n hx hb dX11_spares_102 rfl (lv_at hl 0 rfl) ?_
    refine lv_aload_n hx hb dX11_spares_103 rfl (lv_at hl 0 rfl) ?_
    refine r_get E frX11_9 hS 0 rfl rfl dX11_spares_104 ?_
    refine lv_aload_n hx hb dX11_spares_107 rfl (lv_at hl 0 rfl) ?_
    refine lv_aload_n hx hb dX11_spares_108 rfl (lv_at hl 0 rfl) ?_
    refine r_get E frX11_9 hS 0 rfl rfl dX11_spares_109 ?_
    obtain ⟨y112, e10, h⟩ := bd_some h
    refine ct_V (ws' := fun rc11 => [oX11 q0 (.ref q1) (.int v_people) u0_2 u0_3 (.ref q2) (.int y98.1) (.int (0 : Int32)) rc11 (.int y112.2.1) (.int y112.2.2.1) (.int y112.2.2.2.1) (.int y112.2.2.2.2.1) u0_12 (.ref q3) u0_14 (.int v_ruleSize) (.int y112.2.2.2.2.2.1) (.ref q4) u0_18 u0_19 u0_20 (.ref q5) u0_22 u0_23 u0_24 u0_25 u0_26 u0_27 u0_28 u0_29 u0_30 u0_31 u0_32 u0_33 u0_34 u0_35 u0_36 u0_37 u0_38 u0_39 u0_40, aI cy q1 37 v_now, aJ cy q2 16 y98.2, aB cy q3 40 v_rule, aI cy q4 7 y112.2.2.2.2.2.2, aI cy q5 37 y23_8]) (st' := [.int y112.1, .ref q1, .ref q0, .ref q0]) (rest := [.ref q1, .ref q0, .ref q0]) E hS vlX11_239 (c_X11_awake (l := l) (D := D) (cy := cy) (q0 := q0) (q1 := q3) (q2 := q4) (q3 := q1) (u0_0 := .ref q1) (u0_2 := u0_2) (u0_3 := u0_3) (u0_4 := .ref q2) (u0_5 := .int y98.1) (u0_6 := .int (0 : Int32)) (u0_7 := rw23_0) (u0_12 := u0_12) (u0_14 := u0_14) (u0_18 := u0_18) (u0_19 := u0_19) (u0_20 := u0_20) (u0_21 := .ref q5) (u0_22 := u0_22) (u0_23 := u0_23) (u0_24 := u0_24) (u0_25 := u0_25) (u0_26 := u0_26) (u0_27 := u0_27) (u0_28 := u0_28) (u0_29 := u0_29) (u0_30 := u0_30) (u0_31 := u0_31) (u0_32 := u0_32) (u0_33 := u0_33) (u0_34 := u0_34) (u0_35 := u0_35) (u0_36 := u0_36) (u0_37 := u0_37) (u0_38 := u0_38) (u0_39 := u0_39) (u0_40 := u0_40) (v_people := v_people) (v_length := y23_2) (v_top := y23_3) (v_at := y23_4) (v_wrong := y23_5) (v_ruleSize := v_ruleSize) (v_isAsked := y23_6) (v_rule := v_rule) (v_asked := y23_7) (nw1_ := 37) (w1_ := v_now) (r := y112) e10) [0, 3, 4, 1] rfl rfl (fun _ => rfl) (fun _ => rfl) rfl rfl rfl rfl (Nat.le_of_ble_eq_true rfl) hl.1 (by rw [hRf]; exact Nat.le_of_ble_eq_true rfl) (by rw [hRl]; exact Nat.le_of_ble_eq_true rfl) ⟨Nat.zero_le _, Nat.zero_le _⟩ dX11_spares_112 rfl (fun H locs rc11 hS => ?_)
    obtain ⟨y115, e12, h⟩ := bd_some h
    refine ct_V (ws' := fun _ => [oX11 q0 (.ref q1) (.int v_people) u0_2 u0_3 (.ref q2) (.int y98.1) (.int (0 : Int32)) rc11 (.int y112.2.1) (.int y112.2.2.1) (.int y112.2.2.2.1) (.int y112.2.2.2.2.1) u0_12 (.ref q3) u0_14 (.int v_ruleSize) (.int y112.2.2.2.2.2.1) (.ref q4) u0_18 u0_19 u0_20 (.ref q5) u0_22 u0_23 u0_24 u0_25 u0_26 u0_27 u0_28 u0_29 u0_30 u0_31 u0_32 u0_33 u0_34 u0_35 u0_36 u0_37 u0_38 u0_39 u0_40, aI cy q1 37 v_now, aJ cy q2 16 y98.2, aB cy q3 40 v_rule, aI cy q4 7 y112.2.2.2.2.2.2, aI cy q5 37 y23_8]) (st' := [.int y115, .ref q0]) (rest := [.ref q0]) E hS vlX11_243 (c_X11_unmet (l := l) (D := D) (cy := cy) (q0 := q0) (q1 := q1) (u0_0 := .ref q1) (u0_2 := u0_2) (u0_3 := u0_3) (u0_4 := .ref q2) (u0_5 := .int y98.1) (u0_6 := .int (0 : Int32)) (u0_7 := rc11) (u0_8 := .int y112.2.1) (u0_9 := .int y112.2.2.1) (u0_10 := .int y112.2.2.2.1) (u0_11 := .int y112.2.2.2.2.1) (u0_12 := u0_12) (u0_13 := .ref q3) (u0_14 := u0_14) (u0_15 := .int v_ruleSize) (u0_16 := .int y112.2.2.2.2.2.1) (u0_17 := .ref q4) (u0_18 := u0_18) (u0_19 := u0_19) (u0_20 := u0_20) (u0_21 := .ref q5) (u0_22 := u0_22) (u0_23 := u0_23) (u0_24 := u0_24) (u0_25 := u0_25) (u0_26 := u0_26) (u0_27 := u0_27) (u0_28 := u0_28) (u0_29 := u0_29) (u0_30 := u0_30) (u0_31 := u0_31) (u0_32 := u0_32) (u0_33 := u0_33) (u0_34 := u0_34) (u0_35 := u0_35) (u0_36 := u0_36) (u0_37 := u0_37) (u0_38 := u0_38) (u0_39 := u0_39) (u0_40 := u0_40) (v_people := v_people) (nw1_ := 37) (w1_ := v_now) (p2 := y112.1) (r := y115) e12) [0, 1] rfl rfl (fun _ => rfl) (fun _ => rfl) rfl rfl rfl rfl (Nat.le_of_ble_eq_true rfl) hl.1 (by rw [hRf]; exact Nat.le_of_ble_eq_true rfl) (by rw [hRl]; exact Nat.le_of_ble_eq_true rfl) ⟨Nat.zero_le _, Nat.zero_le _⟩ dX11_spares_115 rfl (fun H locs _ hS => ?_)
    refine lv_i2l (v := (y115.toInt64)) hx hb dX11_spares_118 rfl ?_
    obtain ⟨y119, e13, h⟩ := bd_some h
    refine ct_V (ws' := fun _ => [oX11 q0 (.ref q1) (.int v_people) u0_2 u0_3 (.ref q2) (.int y119.1) (.int (0 : Int32)) rc11 (.int y112.2.1) (.int y112.2.2.1) (.int y112.2.2.2.1) (.int y112.2.2.2.2.1) u0_12 (.ref q3) u0_14 (.int v_ruleSize) (.int y112.2.2.2.2.2.1) (.ref q4) u0_18 u0_19 u0_20 (.ref q5) u0_22 u0_23 u0_24 u0_25 u0_26 u0_27 u0_28 u0_29 u0_30 u0_31 u0_32 u0_33 u0_34 u0_35 u0_36 u0_37 u0_38 u0_39 u0_40, aI cy q1 37 v_now, aJ cy q2 16 y119.2, aB cy q3 40 v_rule, aI cy q4 7 y112.2.2.2.2.2.2, aI cy q5 37 y23_8]) (st' := []) (rest := []) E hS vlX11_256 (c_X11_tell (l := l) (D := D) (cy := cy) (q0 := q0) (q1 := q2) (u0_0 := .ref q1) (u0_1 := .int v_people) (u0_2 := u0_2) (u0_3 := u0_3) (u0_6 := .int (0 : Int32)) (u0_7 := rc11) (u0_8 := .int y112.2.1) (u0_9 := .int y112.2.2.1) (u0_10 := .int y112.2.2.2.1) (u0_11 := .int y112.2.2.2.2.1) (u0_12 := u0_12) (u0_13 := .ref q3) (u0_14 := u0_14) (u0_15 := .int v_ruleSize) (u0_16 := .int y112.2.2.2.2.2.1) (u0_17 := .ref q4) (u0_18 := u0_18) (u0_19 := u0_19) (u0_20 := u0_20) (u0_21 := .ref q5) (u0_22 := u0_22) (u0_23 := u0_23) (u0_24 := u0_24) (u0_25 := u0_25) (u0_26 := u0_26) (u0_27 := u0_27) (u0_28 := u0_28) (u0_29 := u0_29) (u0_30 := u0_30) (u0_31 := u0_31) (u0_32 := u0_32) (u0_33 := u0_33) (u0_34 := u0_34) (u0_35 := u0_35) (u0_36 := u0_36) (u0_37 := u0_37) (u0_38 := u0_38) (u0_39 := u0_39) (u0_40 := u0_40) (v_rowMany := y98.1) (v_row := y98.2) (p1 := (y115.toInt64)) (r := y119) e13) [0, 2] rfl rfl (fun _ => rfl) (fun _ => rfl) rfl rfl rfl rfl (Nat.le_of_ble_eq_true rfl) hl.1 (by rw [hRf]; exact Nat.le_of_ble_eq_true rfl) (by rw [hRl]; exact Nat.le_of_ble_eq_true rfl) ⟨Nat.zero_le _, Nat.zero_le _⟩ dX11_spares_119 rfl (fun H locs _ hS => ?_)
    refine lv_iload_n hx hb dX11_spares_122 rfl (lv_at hl 1 rfl) ?_
    obtain rfl := Option.some.inj h
    exact rt_i E hQ (rc11) hS dX11_spares_123
  · have h := it_pos c1 h
    refine lv_bipush (v := -2) hx hb dX11_spares_12 (by decide) ?_
    obtain rfl := Option.some.inj h
    exact rt_i E hQ (u0_7) hS dX11_spares_14
set_option maxHeartbeats 4000000 in
set_option maxRecDepth 100000 in
theorem c_X11_layBest {l : Launch} {D : va_G} {cy : Nat → ClassId} (q0 : Nat) (q1 : Nat) (q2 : Nat) (u0_0 : Value) (u0_1 : Value) (u0_2 : Value) (u0_3 : Value) (u0_4 : Value) (u0_5 : Value) (u0_6 : Value) (u0_7 : Value) (u0_8 : Value) (u0_9 : Value) (u0_10 : Value) (u0_11 : Value) (u0_12 : Value) (u0_13 : Value) (u0_14 : Value) (u0_15 : Value) (u0_16 : Value) (u0_17 : Value) (u0_18 : Value) (u0_19 : Value) (u0_20 : Value) (u0_21 : Value) (u0_22 : Value) (u0_23 : Value) (u0_24 : Value) (u0_28 : Value) (u0_29 : Value) (u0_30 : Value) (u0_31 : Value) (u0_32 : Value) (u0_33 : Value) (u0_34 : Value) (u0_35 : Value) (u0_36 : Value) (u0_37 : Value) (u0_38 : Value) (u0_39 : Value) (u0_40 : Value) (v_bestMany : Int32) (v_line : Nat → Int32) (v_bestLine : Nat → Int32) (p1 : Int32) (r : Int32 × (Nat → Int32)) (h : X11_layBest v_line v_bestLine p1 = some r) : Ct l yX11_layBest cX11_layBest 3 none 0 0 D cy [.ref q0, .int p1] [oX11 q0 u0_0 u0_1 u0_2 u0_3 u0_4 u0_5 u0_6 u0_7 u0_8 u0_9 u0_10 u0_11 u0_12 u0_13 u0_14 u0_15 u0_16 u0_17 u0_18 u0_19 u0_20 u0_21 u0_22 u0_23 u0_24 (.ref q1) (.ref q2) (.int v_bestMany) u0_28 u0_29 u0_30 u0_31 u0_32 u0_33 u0_34 u0_35 u0_36 u0_37 u0_38 u0_39 u0_40, aI cy q1 7 v_line, aI cy q2 7 v_bestLine] (fun _ => [oX11 q0 u0_0 u0_1 u0_2 u0_3 u0_4 u0_5 u0_6 u0_7 u0_8 u0_9 u0_10 u0_11 u0_12 u0_13 u0_14 u0_15 u0_16 u0_17 u0_18 u0_19 u0_20 u0_21 u0_22 u0_23 u0_24 (.ref q1) (.ref q2) (.int r.1) u0_28 u0_29 u0_30 u0_31 u0_32 u0_33 u0_34 u0_35 u0_36 u0_37 u0_38 u0_39 u0_40, aI cy q1 7 v_line, aI cy q2 7 r.2]) (none) := by
  refine Ct.mk kX11_layBest (by decide +kernel) (Nat.le_of_ble_eq_true rfl) ?_
  intro p e s m below meth c A ls args R Q hRf hRl hQ E H locs hS hl
  have hx := E.x
  have hb := E.b
  have hl : lv_has ls 3 [(0, .ref q0), (1, .int p1)] := hl
  unfold X11_layBest at h
  refine lv_aload_n hx hb dX11_layBest_0 rfl (lv_at hl 0 rfl) ?_
  refine lv_iload_n hx hb dX11_layBest_1 rfl (lv_at hl 1 rfl) ?_
  refine r_put (ws' := [oX11 q0 u0_0 u0_1 u0_2 u0_3 u0_4 u0_5 u0_6 u0_7 u0_8 u0_9 u0_10 u0_11 u0_12 u0_13 u0_14 u0_15 u0_16 u0_17 u0_18 u0_19 u0_20 u0_21 u0_22 u0_23 u0_24 (.ref q1) (.ref q2) (.int p1) u0_28 u0_29 u0_30 u0_31 u0_32 u0_33 u0_34 u0_35 u0_36 u0_37 u0_38 u0_39 u0_40, aI cy q1 7 v_line, aI cy q2 7 v_bestLine]) E frX11_308 hS 0 rfl (Nat.le_of_ble_eq_true rfl) rfl rfl rfl rfl dX11_layBest_2 (fun H locs hS => ?_)
  refine lv_iconst (v := 0) hx hb dX11_layBest_5 (by decide) ?_
  refine lv_istore_n (lv' := [(2, .int (0 : Int32)), (0, .ref q0), (1, .int p1)]) hx hb dX11_layBest_6 rfl hl (by decide) rfl (fun ls hl => ?_)
  have hL7 : ∀ (n : Nat) (x7_0 : Int32) (x7_1 : Nat → Int32) (y7 : (Nat → Int32)) (H : Heap) (locs : List Loc) (ls : Array Slot), lp (fun x7 => X11_layBest_s7 v_line p1 x7.1 x7.2) n (x7_0, x7_1) = some y7 → Sv D A s.heap [oX11 q0 u0_0 u0_1 u0_2 u0_3 u0_4 u0_5 u0_6 u0_7 u0_8 u0_9 u0_10 u0_11 u0_12 u0_13 u0_14 u0_15 u0_16 u0_17 u0_18 u0_19 u0_20 u0_21 u0_22 u0_23 u0_24 (.ref q1) (.ref q2) (.int p1) u0_28 u0_29 u0_30 u0_31 u0_32 u0_33 u0_34 u0_35 u0_36 u0_37 u0_38 u0_39 u0_40, aI cy q1 7 v_line, aI cy q2 7 x7_1] H locs → lv_has ls 3 [(0, .ref q0), (1, .int p1), (2, .int x7_0)] → ( ∀ (y7_0 : Nat → Int32), y7_0 = y7 → ∀ (H : Heap) (locs : List Loc) (ls : Array Slot), Sv D A s.heap [oX11 q0 u0_0 u0_1 u0_2 u0_3 u0_4 u0_5 u0_6 u0_7 u0_8 u0_9 u0_10 u0_11 u0_12 u0_13 u0_14 u0_15 u0_16 u0_17 u0_18 u0_19 u0_20 u0_21 u0_22 u0_23 u0_24 (.ref q1) (.ref q2) (.int p1) u0_28 u0_29 u0_30 u0_31 u0_32 u0_33 u0_34 u0_35 u0_36 u0_37 u0_38 u0_39 u0_40, aI cy q1 7 v_line, aI cy q2 7 y7_0] H locs → lv_has ls 3 [] → W p l e R s m args below meth c H locs 0 0 Q (F0 m 30 ls [])) → W p l e R s m args below meth c H locs 0 0 Q (F0 m 7 ls []) := by
    intro n
    induction n with
    | zero =>
      intro x7_0 x7_1 y7 H locs ls h
      exact lp_zero h
    | succ n ih7 =>
      intro x7_0 x7_1 y7 H locs ls h hS hl hk7_0
      obtain ⟨z7, h, hz7a, hz7b⟩ := lp_succ h
      have h : X11_layBest_s7 v_line p1 x7_0 x7_1 = some z7 := h
      unfold X11_layBest_s7 at h
      refine lv_iload_n hx hb dX11_layBest_7 rfl (lv_at hl 2 rfl) ?_
      refine lv_iload_n hx hb dX11_layBest_8 rfl (lv_at hl 1 rfl) ?_
      refine lv_icmp_ge (tgt := 30) hx hb dX11_layBest_9 (by decide) (fun c1 => ?_) (fun c1 => ?_)
      · have h := it_pos c1 h
        exact hk7_0 x7_1 (hz7b _ (Option.some.inj h).symm)  H locs ls hS (lv_sub hl [] rfl)
      · have h := it_neg c1 h
        refine lv_aload_n hx hb dX11_layBest_12 rfl (lv_at hl 0 rfl) ?_
        refine r_get E frX11_54 hS 0 rfl rfl dX11_layBest_13 ?_
        refine lv_iload_n hx hb dX11_layBest_16 rfl (lv_at hl 2 rfl) ?_
        refine lv_aload_n hx hb dX11_layBest_17 rfl (lv_at hl 0 rfl) ?_
        refine r_get E frX11_51 hS 0 rfl rfl dX11_layBest_18 ?_
        refine lv_iload_n hx hb dX11_layBest_21 rfl (lv_at hl 2 rfl) ?_
        obtain ⟨g2, h⟩ := gi_some h
        refine r_iald E hS 1 rfl g2 dX11_layBest_22 ?_
        obtain ⟨g3, h⟩ := gi_some h
        refine r_iast (ws' := [oX11 q0 u0_0 u0_1 u0_2 u0_3 u0_4 u0_5 u0_6 u0_7 u0_8 u0_9 u0_10 u0_11 u0_12 u0_13 u0_14 u0_15 u0_16 u0_17 u0_18 u0_19 u0_20 u0_21 u0_22 u0_23 u0_24 (.ref q1) (.ref q2) (.int p1) u0_28 u0_29 u0_30 u0_31 u0_32 u0_33 u0_34 u0_35 u0_36 u0_37 u0_38 u0_39 u0_40, aI cy q1 7 v_line, aI cy q2 7 (upd x7_1 x7_0.toNatClampNeg (v_line x7_0.toNatClampNeg))]) E hS 2 rfl g3 rfl dX11_layBest_23 (fun H locs hS => ?_)
        refine lv_iinc (v := (x7_0 + (1 : Int32))) (lv' := [(2, .int (x7_0 + (1 : Int32))), (0, .ref q0), (1, .int p1)]) hx hb dX11_layBest_24 hl (k := 2) rfl rfl (by decide) rfl (fun ls hl => ?_)
        refine lv_goto (tgt := 7) hx hb dX11_layBest_27 (by decide) ?_
        exact ih7 (x7_0 + (1 : Int32)) (upd x7_1 x7_0.toNatClampNeg (v_line x7_0.toNatClampNeg)) y7  H locs ls (hz7a _ (Option.some.inj h).symm) hS (lv_sub hl [1, 2, 0] rfl) hk7_0
  obtain ⟨y7, e7, h⟩ := bd_some h
  refine hL7 1000 (0 : Int32) v_bestLine y7  H locs ls e7 hS (lv_sub hl [1, 2, 0] rfl) (fun y7_0 ey7 H locs ls hS hl => ?_)
  subst ey7
  obtain rfl := Option.some.inj h
  exact rt_v E hQ (.null) hS dX11_layBest_30
set_option maxHeartbeats 4000000 in
set_option maxRecDepth 100000 in
theorem c_X11_tellBest {l : Launch} {D : va_G} {cy : Nat → ClassId} (q0 : Nat) (q1 : Nat) (q2 : Nat) (u0_0 : Value) (u0_1 : Value) (u0_2 : Value) (u0_3 : Value) (u0_6 : Value) (u0_7 : Value) (u0_8 : Value) (u0_9 : Value) (u0_10 : Value) (u0_11 : Value) (u0_12 : Value) (u0_13 : Value) (u0_14 : Value) (u0_15 : Value) (u0_16 : Value) (u0_17 : Value) (u0_18 : Value) (u0_19 : Value) (u0_20 : Value) (u0_21 : Value) (u0_22 : Value) (u0_23 : Value) (u0_24 : Value) (u0_25 : Value) (u0_28 : Value) (u0_29 : Value) (u0_30 : Value) (u0_31 : Value) (u0_32 : Value) (u0_33 : Value) (u0_34 : Value) (u0_35 : Value) (u0_36 : Value) (u0_37 : Value) (u0_38 : Value) (u0_39 : Value) (u0_40 : Value) (v_rowMany : Int32) (v_bestMany : Int32) (v_row : Nat → Int64) (v_bestLine : Nat → Int32) (r : Int32 × Int32 × (Nat → Int64)) (h : X11_tellBest v_bestMany v_row v_bestLine = some r) : Ct l yX11_tellBest cX11_tellBest 2 (some .int) 1 22 D cy [.ref q0] [oX11 q0 u0_0 u0_1 u0_2 u0_3 (.ref q1) (.int v_rowMany) u0_6 u0_7 u0_8 u0_9 u0_10 u0_11 u0_12 u0_13 u0_14 u0_15 u0_16 u0_17 u0_18 u0_19 u0_20 u0_21 u0_22 u0_23 u0_24 u0_25 (.ref q2) (.int v_bestMany) u0_28 u0_29 u0_30 u0_31 u0_32 u0_33 u0_34 u0_35 u0_36 u0_37 u0_38 u0_39 u0_40, aJ cy q1 16 v_row, aI cy q2 7 v_bestLine] (fun _ => [oX11 q0 u0_0 u0_1 u0_2 u0_3 (.ref q1) (.int r.2.1) u0_6 u0_7 u0_8 u0_9 u0_10 u0_11 u0_12 u0_13 u0_14 u0_15 u0_16 u0_17 u0_18 u0_19 u0_20 u0_21 u0_22 u0_23 u0_24 u0_25 (.ref q2) (.int v_bestMany) u0_28 u0_29 u0_30 u0_31 u0_32 u0_33 u0_34 u0_35 u0_36 u0_37 u0_38 u0_39 u0_40, aJ cy q1 16 r.2.2, aI cy q2 7 v_bestLine]) (some (.int r.1)) := by
  refine Ct.mk kX11_tellBest (by decide +kernel) (Nat.le_of_ble_eq_true rfl) ?_
  intro p e s m below meth c A ls args R Q hRf hRl hQ E H locs hS hl
  have hx := E.x
  have hb := E.b
  have hl : lv_has ls 2 [(0, .ref q0)] := hl
  unfold X11_tellBest at h
  refine lv_aload_n hx hb dX11_tellBest_0 rfl (lv_at hl 0 rfl) ?_
  refine lv_iconst (v := 0) hx hb dX11_tellBest_1 (by decide) ?_
  refine r_put (ws' := [oX11 q0 u0_0 u0_1 u0_2 u0_3 (.ref q1) (.int (0 : Int32)) u0_6 u0_7 u0_8 u0_9 u0_10 u0_11 u0_12 u0_13 u0_14 u0_15 u0_16 u0_17 u0_18 u0_19 u0_20 u0_21 u0_22 u0_23 u0_24 u0_25 (.ref q2) (.int v_bestMany) u0_28 u0_29 u0_30 u0_31 u0_32 u0_33 u0_34 u0_35 u0_36 u0_37 u0_38 u0_39 u0_40, aJ cy q1 16 v_row, aI cy q2 7 v_bestLine]) E frX11_89 hS 0 rfl (Nat.le_of_ble_eq_true rfl) rfl rfl rfl rfl dX11_tellBest_2 (fun H locs hS => ?_)
  refine lv_iconst (v := 0) hx hb dX11_tellBest_5 (by decide) ?_
  refine lv_istore_n (lv' := [(1, .int (0 : Int32)), (0, .ref q0)]) hx hb dX11_tellBest_6 rfl hl (by decide) rfl (fun ls hl => ?_)
  have hL7 : ∀ (n : Nat) (x7_0 : Int32) (x7_1 : Int32) (x7_2 : Nat → Int64) (y7 : Int32 × (Nat → Int64)) (H : Heap) (locs : List Loc) (ls : Array Slot), lp (fun x7 => X11_tellBest_s7 v_bestMany v_bestLine x7.1 x7.2.1 x7.2.2) n (x7_0, x7_1, x7_2) = some y7 → Sv D A s.heap [oX11 q0 u0_0 u0_1 u0_2 u0_3 (.ref q1) (.int x7_1) u0_6 u0_7 u0_8 u0_9 u0_10 u0_11 u0_12 u0_13 u0_14 u0_15 u0_16 u0_17 u0_18 u0_19 u0_20 u0_21 u0_22 u0_23 u0_24 u0_25 (.ref q2) (.int v_bestMany) u0_28 u0_29 u0_30 u0_31 u0_32 u0_33 u0_34 u0_35 u0_36 u0_37 u0_38 u0_39 u0_40, aJ cy q1 16 x7_2, aI cy q2 7 v_bestLine] H locs → lv_has ls 2 [(0, .ref q0), (1, .int x7_0)] → ( ∀ (y7_0 : Int32) (y7_1 : Nat → Int64), (y7_0, y7_1) = y7 → ∀ (H : Heap) (locs : List Loc) (ls : Array Slot), Sv D A s.heap [oX11 q0 u0_0 u0_1 u0_2 u0_3 (.ref q1) (.int y7_0) u0_6 u0_7 u0_8 u0_9 u0_10 u0_11 u0_12 u0_13 u0_14 u0_15 u0_16 u0_17 u0_18 u0_19 u0_20 u0_21 u0_22 u0_23 u0_24 u0_25 (.ref q2) (.int v_bestMany) u0_28 u0_29 u0_30 u0_31 u0_32 u0_33 u0_34 u0_35 u0_36 u0_37 u0_38 u0_39 u0_40, aJ cy q1 16 y7_1, aI cy q2 7 v_bestLine] H locs → lv_has ls 2 [(0, .ref q0)] → W p l e R s m args below meth c H locs 0 0 Q (F0 m 32 ls [])) → W p l e R s m args below meth c H locs 0 0 Q (F0 m 7 ls []) := by
    intro n
    induction n with
    | zero =>
      intro x7_0 x7_1 x7_2 y7 H locs ls h
      exact lp_zero h
    | succ n ih7 =>
      intro x7_0 x7_1 x7_2 y7 H locs ls h hS hl hk7_0
      obtain ⟨z7, h, hz7a, hz7b⟩ := lp_succ h
      have h : X11_tellBest_s7 v_bestMany v_bestLine x7_0 x7_1 x7_2 = some z7 := h
      unfold X11_tellBest_s7 at h
      refine lv_iload_n hx hb dX11_tellBest_7 rfl (lv_at hl 1 rfl) ?_
      refine lv_aload_n hx hb dX11_tellBest_8 rfl (lv_at hl 0 rfl) ?_
      refine r_get E frX11_308 hS 0 rfl rfl dX11_tellBest_9 ?_
      refine lv_icmp_ge (tgt := 32) hx hb dX11_tellBest_12 (by decide) (fun c1 => ?_) (fun c1 => ?_)
      · have h := it_pos c1 h
        exact hk7_0 x7_1 x7_2 (hz7b _ (Option.some.inj h).symm)  H locs ls hS (lv_sub hl [0] rfl)
      · have h := it_neg c1 h
        refine lv_aload_n hx hb dX11_tellBest_15 rfl (lv_at hl 0 rfl) ?_
        refine lv_aload_n hx hb dX11_tellBest_16 rfl (lv_at hl 0 rfl) ?_
        refine r_get E frX11_54 hS 0 rfl rfl dX11_tellBest_17 ?_
        refine lv_iload_n hx hb dX11_tellBest_20 rfl (lv_at hl 1 rfl) ?_
        obtain ⟨g2, h⟩ := gi_some h
        refine r_iald E hS 2 rfl g2 dX11_tellBest_21 ?_
        refine lv_i2l (v := ((v_bestLine x7_0.toNatClampNeg).toInt64)) hx hb dX11_tellBest_22 rfl ?_
        obtain ⟨y23, e3, h⟩ := bd_some h
        refine ct_V (ws' := fun _ => [oX11 q0 u0_0 u0_1 u0_2 u0_3 (.ref q1) (.int y23.1) u0_6 u0_7 u0_8 u0_9 u0_10 u0_11 u0_12 u0_13 u0_14 u0_15 u0_16 u0_17 u0_18 u0_19 u0_20 u0_21 u0_22 u0_23 u0_24 u0_25 (.ref q2) (.int v_bestMany) u0_28 u0_29 u0_30 u0_31 u0_32 u0_33 u0_34 u0_35 u0_36 u0_37 u0_38 u0_39 u0_40, aJ cy q1 16 y23.2, aI cy q2 7 v_bestLine]) (st' := []) (rest := []) E hS vlX11_256 (c_X11_tell (l := l) (D := D) (cy := cy) (q0 := q0) (q1 := q1) (u0_0 := u0_0) (u0_1 := u0_1) (u0_2 := u0_2) (u0_3 := u0_3) (u0_6 := u0_6) (u0_7 := u0_7) (u0_8 := u0_8) (u0_9 := u0_9) (u0_10 := u0_10) (u0_11 := u0_11) (u0_12 := u0_12) (u0_13 := u0_13) (u0_14 := u0_14) (u0_15 := u0_15) (u0_16 := u0_16) (u0_17 := u0_17) (u0_18 := u0_18) (u0_19 := u0_19) (u0_20 := u0_20) (u0_21 := u0_21) (u0_22 := u0_22) (u0_23 := u0_23) (u0_24 := u0_24) (u0_25 := u0_25) (u0_26 := .ref q2) (u0_27 := .int v_bestMany) (u0_28 := u0_28) (u0_29 := u0_29) (u0_30 := u0_30) (u0_31 := u0_31) (u0_32 := u0_32) (u0_33 := u0_33) (u0_34 := u0_34) (u0_35 := u0_35) (u0_36 := u0_36) (u0_37 := u0_37) (u0_38 := u0_38) (u0_39 := u0_39) (u0_40 := u0_40) (v_rowMany := x7_1) (v_row := x7_2) (p1 := ((v_bestLine x7_0.toNatClampNeg).toInt64)) (r := y23) e3) [0, 1] rfl rfl (fun _ => rfl) (fun _ => rfl) rfl rfl rfl rfl (Nat.le_of_ble_eq_true rfl) hl.1 (by rw [hRf]; exact Nat.le_of_ble_eq_true rfl) (by rw [hRl]; exact Nat.le_of_ble_eq_true rfl) ⟨Nat.zero_le _, Nat.zero_le _⟩ dX11_tellBest_23 rfl (fun H locs _ hS => ?_)
        refine lv_iinc (v := (x7_0 + (1 : Int32))) (lv' := [(1, .int (x7_0 + (1 : Int32))), (0, .ref q0)]) hx hb dX11_tellBest_26 hl (k := 1) rfl rfl (by decide) rfl (fun ls hl => ?_)
        refine lv_goto (tgt := 7) hx hb dX11_tellBest_29 (by decide) ?_
        exact ih7 (x7_0 + (1 : Int32)) y23.1 y23.2 y7  H locs ls (hz7a _ (Option.some.inj h).symm) hS (lv_sub hl [1, 0] rfl) hk7_0
  obtain ⟨y7, e7, h⟩ := bd_some h
  refine hL7 1000 (0 : Int32) (0 : Int32) v_row y7  H locs ls e7 hS (lv_sub hl [1, 0] rfl) (fun y7_0 y7_1 ey7 H locs ls hS hl => ?_)
  subst ey7
  have h := un_r h
  refine lv_aload_n hx hb dX11_tellBest_32 rfl (lv_at hl 0 rfl) ?_
  refine r_get E frX11_308 hS 0 rfl rfl dX11_tellBest_33 ?_
  obtain rfl := Option.some.inj h
  exact rt_i E hQ (.null) hS dX11_tellBest_36
theorem X11_rowr_z {C : Prop} {v_people : Int32} {v_bestMany : Int32} {v_now : Nat → Int32} {v_line : Nat → Int32} {v_bestLine : Nat → Int32} {p1 : Int32} {p2 : Int32} {r : Int32 × (Nat → Int32) × (Nat → Int32)} (h : X11_rowr 0 v_people v_bestMany v_now v_line v_bestLine p1 p2 = some r) : C := by
  rw [X11_rowr] at h
  cases h
set_option maxHeartbeats 8000000 in
set_option maxRecDepth 100000 in
theorem g_X11_rowr {l : Launch} {D : va_G} {cy : Nat → ClassId} : ∀ n : Nat, (∀ (q0 : Nat) (q1 : Nat) (q2 : Nat) (q3 : Nat) (u0_2 : Value) (u0_3 : Value) (u0_4 : Value) (u0_5 : Value) (u0_6 : Value) (u0_7 : Value) (u0_8 : Value) (u0_9 : Value) (u0_10 : Value) (u0_11 : Value) (u0_12 : Value) (u0_13 : Value) (u0_14 : Value) (u0_15 : Value) (u0_16 : Value) (u0_17 : Value) (u0_18 : Value) (u0_19 : Value) (u0_20 : Value) (u0_21 : Value) (u0_22 : Value) (u0_23 : Value) (u0_24 : Value) (u0_28 : Value) (u0_29 : Value) (u0_30 : Value) (u0_31 : Value) (u0_32 : Value) (u0_33 : Value) (u0_34 : Value) (u0_35 : Value) (u0_36 : Value) (u0_37 : Value) (u0_38 : Value) (u0_39 : Value) (u0_40 : Value) (v_people : Int32) (v_bestMany : Int32) (v_now : Nat → Int32) (v_line : Nat → Int32) (v_bestLine : Nat → Int32) (p1 : Int32) (p2 : Int32) (r : Int32 × (Nat → Int32) × (Nat → Int32)), X11_rowr n v_people v_bestMany v_now v_line v_bestLine p1 p2 = some r → Ct l yX11_goRow cX11_goRow 4 none (1 + n) (22 + n * 23) D cy [.ref q0, .int p1, .int p2] [oX11 q0 (.ref q1) (.int v_people) u0_2 u0_3 u0_4 u0_5 u0_6 u0_7 u0_8 u0_9 u0_10 u0_11 u0_12 u0_13 u0_14 u0_15 u0_16 u0_17 u0_18 u0_19 u0_20 u0_21 u0_22 u0_23 u0_24 (.ref q2) (.ref q3) (.int v_bestMany) u0_28 u0_29 u0_30 u0_31 u0_32 u0_33 u0_34 u0_35 u0_36 u0_37 u0_38 u0_39 u0_40, aI cy q1 37 v_now, aI cy q2 7 v_line, aI cy q3 7 v_bestLine] (fun _ => [oX11 q0 (.ref q1) (.int v_people) u0_2 u0_3 u0_4 u0_5 u0_6 u0_7 u0_8 u0_9 u0_10 u0_11 u0_12 u0_13 u0_14 u0_15 u0_16 u0_17 u0_18 u0_19 u0_20 u0_21 u0_22 u0_23 u0_24 (.ref q2) (.ref q3) (.int r.1) u0_28 u0_29 u0_30 u0_31 u0_32 u0_33 u0_34 u0_35 u0_36 u0_37 u0_38 u0_39 u0_40, aI cy q1 37 v_now, aI cy q2 7 r.2.1, aI cy q3 7 r.2.2]) (none)) := by
  intro n
  induction n with
  | zero =>
    exact fun _ _ _ _ _ _ _ _ _ _ _ _ _ _ _ _ _ _ _ _ _ _ _ _ _ _ _ _ _ _ _ _ _ _ _ _ _ _ _ _ _ _ _ _ _ _ _ _ h => X11_rowr_z h
  | succ n ih =>
    have ih0 := ih
    intro q0 q1 q2 q3 u0_2 u0_3 u0_4 u0_5 u0_6 u0_7 u0_8 u0_9 u0_10 u0_11 u0_12 u0_13 u0_14 u0_15 u0_16 u0_17 u0_18 u0_19 u0_20 u0_21 u0_22 u0_23 u0_24 u0_28 u0_29 u0_30 u0_31 u0_32 u0_33 u0_34 u0_35 u0_36 u0_37 u0_38 u0_39 u0_40 v_people v_bestMany v_now v_line v_bestLine p1 p2 r h
    have h : X11_rowr_b0 (X11_rowr n) v_people v_bestMany v_now v_line v_bestLine p1 p2 = some r := h
    generalize X11_rowr n = rec at ih0 h
    unfold X11_rowr_b0 at h
    refine Ct.mk kX11_goRow (by decide +kernel) (Nat.le_of_ble_eq_true rfl) ?_
    intro p e s m below meth c A ls args R Q hRf hRl hQ E H locs hS hl
    have hx := E.x
    have hb := E.b
    have hl : lv_has ls 4 [(0, .ref q0), (1, .int p1), (2, .int p2)] := hl
    refine lv_iload_n hx hb dX11_goRow_0 rfl (lv_at hl 1 rfl) ?_
    refine lv_aload_n hx hb dX11_goRow_1 rfl (lv_at hl 0 rfl) ?_
    refine r_get E frX11_308 hS 0 rfl rfl dX11_goRow_2 ?_
    have hJ13 : ∀ (j13_v_bestMany : Int32) (j13_v_bestLine : Nat → Int32) (H : Heap) (locs : List Loc) (ls : Array Slot), X11_goRow_k13 rec v_people v_now v_line p1 p2 j13_v_bestMany j13_v_bestLine = some r → Sv D A s.heap [oX11 q0 (.ref q1) (.int v_people) u0_2 u0_3 u0_4 u0_5 u0_6 u0_7 u0_8 u0_9 u0_10 u0_11 u0_12 u0_13 u0_14 u0_15 u0_16 u0_17 u0_18 u0_19 u0_20 u0_21 u0_22 u0_23 u0_24 (.ref q2) (.ref q3) (.int j13_v_bestMany) u0_28 u0_29 u0_30 u0_31 u0_32 u0_33 u0_34 u0_35 u0_36 u0_37 u0_38 u0_39 u0_40, aI cy q1 37 v_now, aI cy q2 7 v_line, aI cy q3 7 j13_v_bestLine] H locs → lv_has ls 4 [(0, .ref q0), (1, .int p1), (2, .int p2)] → W p l e R s m args below meth c H locs 0 0 Q (F0 m 13 ls []) := by
      intro j13_v_bestMany j13_v_bestLine H locs ls h hS hl
      unfold X11_goRow_k13 at h
      refine lv_iconst (v := 0) hx hb dX11_goRow_13 (by decide) ?_
      refine lv_istore_n (lv' := [(3, .int (0 : Int32)), (0, .ref q0), (1, .int p1), (2, .int p2)]) hx hb dX11_goRow_14 rfl hl (by decide) rfl (fun ls hl => ?_)
      have hL15 : ∀ (n : Nat) (x15_0 : Int32) (x15_1 : Int32) (x15_2 : Nat → Int32) (x15_3 : Nat → Int32) (y15 : Int32 × (Nat → Int32) × (Nat → Int32)) (H : Heap) (locs : List Loc) (ls : Array Slot), lp (fun x15 => X11_goRow_s15 rec v_people v_now p1 p2 x15.1 x15.2.1 x15.2.2.1 x15.2.2.2) n (x15_0, x15_1, x15_2, x15_3) = some y15 → Sv D A s.heap [oX11 q0 (.ref q1) (.int v_people) u0_2 u0_3 u0_4 u0_5 u0_6 u0_7 u0_8 u0_9 u0_10 u0_11 u0_12 u0_13 u0_14 u0_15 u0_16 u0_17 u0_18 u0_19 u0_20 u0_21 u0_22 u0_23 u0_24 (.ref q2) (.ref q3) (.int x15_1) u0_28 u0_29 u0_30 u0_31 u0_32 u0_33 u0_34 u0_35 u0_36 u0_37 u0_38 u0_39 u0_40, aI cy q1 37 v_now, aI cy q2 7 x15_2, aI cy q3 7 x15_3] H locs → lv_has ls 4 [(0, .ref q0), (1, .int p1), (2, .int p2), (3, .int x15_0)] → ( ∀ (y15_0 : Int32) (y15_1 : Nat → Int32) (y15_2 : Nat → Int32), (y15_0, y15_1, y15_2) = y15 → ∀ (H : Heap) (locs : List Loc) (ls : Array Slot), Sv D A s.heap [oX11 q0 (.ref q1) (.int v_people) u0_2 u0_3 u0_4 u0_5 u0_6 u0_7 u0_8 u0_9 u0_10 u0_11 u0_12 u0_13 u0_14 u0_15 u0_16 u0_17 u0_18 u0_19 u0_20 u0_21 u0_22 u0_23 u0_24 (.ref q2) (.ref q3) (.int y15_0) u0_28 u0_29 u0_30 u0_31 u0_32 u0_33 u0_34 u0_35 u0_36 u0_37 u0_38 u0_39 u0_40, aI cy q1 37 v_now, aI cy q2 7 y15_1, aI cy q3 7 y15_2] H locs → lv_has ls 4 [] → W p l e R s m args below meth c H locs 0 0 Q (F0 m 82 ls [])) → W p l e R s m args below meth c H locs 0 0 Q (F0 m 15 ls []) := by
        intro n
        induction n with
        | zero =>
          intro x15_0 x15_1 x15_2 x15_3 y15 H locs ls h
          exact lp_zero h
        | succ n ih15 =>
          intro x15_0 x15_1 x15_2 x15_3 y15 H locs ls h hS hl hk15_0
          obtain ⟨z15, h, hz15a, hz15b⟩ := lp_succ h
          have h : X11_goRow_s15 rec v_people v_now p1 p2 x15_0 x15_1 x15_2 x15_3 = some z15 := h
          unfold X11_goRow_s15 at h
          refine lv_iload_n hx hb dX11_goRow_15 rfl (lv_at hl 3 rfl) ?_
          refine lv_aload_n hx hb dX11_goRow_16 rfl (lv_at hl 0 rfl) ?_
          refine r_get E frX11_92 hS 0 rfl rfl dX11_goRow_17 ?_
          refine lv_icmp_ge (tgt := 82) hx hb dX11_goRow_20 (by decide) (fun c1 => ?_) (fun c1 => ?_)
          · have h := it_pos c1 h
            exact hk15_0 x15_1 x15_2 x15_3 (hz15b _ (Option.some.inj h).symm)  H locs ls hS (lv_sub hl [] rfl)
          · have h := it_neg c1 h
            refine lv_iload_n hx hb dX11_goRow_23 rfl (lv_at hl 2 rfl) ?_
            refine lv_iload_n hx hb dX11_goRow_24 rfl (lv_at hl 3 rfl) ?_
            refine ct_S (ws' := fun _ => [oX11 q0 (.ref q1) (.int v_people) u0_2 u0_3 u0_4 u0_5 u0_6 u0_7 u0_8 u0_9 u0_10 u0_11 u0_12 u0_13 u0_14 u0_15 u0_16 u0_17 u0_18 u0_19 u0_20 u0_21 u0_22 u0_23 u0_24 (.ref q2) (.ref q3) (.int x15_1) u0_28 u0_29 u0_30 u0_31 u0_32 u0_33 u0_34 u0_35 u0_36 u0_37 u0_38 u0_39 u0_40, aI cy q1 37 v_now, aI cy q2 7 x15_2, aI cy q3 7 x15_3]) (st' := [.int (X11_has p2 x15_0)]) (rest := []) E hS slX11_196 (c_X11_has (l := l) (D := D) (cy := cy) (p0 := p2) (p1 := x15_0) (r := (X11_has p2 x15_0)) rfl) [] rfl rfl (fun _ => rfl) (fun _ => rfl) rfl rfl (Nat.le_of_ble_eq_true rfl) hl.1 (by rw [hRf]; omega) (by rw [hRl]; omega) ⟨Nat.zero_le _, Nat.zero_le _⟩ dX11_goRow_25 rfl (fun H locs _ hS => ?_)
            refine lv_if_ne (tgt := 76) hx hb dX11_goRow_28 (by decide) (fun c2 => ?_) (fun c2 => ?_)
            · have h := it_neg c2 h
              refine lv_iinc (v := (x15_0 + (1 : Int32))) (lv' := [(3, .int (x15_0 + (1 : Int32))), (0, .ref q0), (1, .int p1), (2, .int p2)]) hx hb dX11_goRow_76 hl (k := 3) rfl rfl (by decide) rfl (fun ls hl => ?_)
              refine lv_goto (tgt := 15) hx hb dX11_goRow_79 (by decide) ?_
              exact ih15 (x15_0 + (1 : Int32)) x15_1 x15_2 x15_3 y15  H locs ls (hz15a _ (Option.some.inj h).symm) hS (lv_sub hl [1, 2, 3, 0] rfl) hk15_0
            · have h := it_pos c2 h
              refine lv_aload_n hx hb dX11_goRow_31 rfl (lv_at hl 0 rfl) ?_
              refine r_get E frX11_9 hS 0 rfl rfl dX11_goRow_32 ?_
              refine lv_bipush (v := 28) hx hb dX11_goRow_35 (by decide) ?_
              refine lv_aload_n hx hb dX11_goRow_37 rfl (lv_at hl 0 rfl) ?_
              refine r_get E frX11_51 hS 0 rfl rfl dX11_goRow_38 ?_
              refine lv_iload_n hx hb dX11_goRow_41 rfl (lv_at hl 1 rfl) ?_
              refine lv_iconst (v := 1) hx hb dX11_goRow_42 (by decide) ?_
              refine lv_isub hx hb dX11_goRow_43 ?_
              obtain ⟨g3, h⟩ := gi_some h
              refine r_iald E hS 2 rfl g3 dX11_goRow_44 ?_
              refine lv_iadd hx hb dX11_goRow_45 ?_
              obtain ⟨g4, h⟩ := gi_some h
              refine r_iald E hS 1 rfl g4 dX11_goRow_46 ?_
              refine lv_iload_n hx hb dX11_goRow_47 rfl (lv_at hl 3 rfl) ?_
              refine ct_S (ws' := fun _ => [oX11 q0 (.ref q1) (.int v_people) u0_2 u0_3 u0_4 u0_5 u0_6 u0_7 u0_8 u0_9 u0_10 u0_11 u0_12 u0_13 u0_14 u0_15 u0_16 u0_17 u0_18 u0_19 u0_20 u0_21 u0_22 u0_23 u0_24 (.ref q2) (.ref q3) (.int x15_1) u0_28 u0_29 u0_30 u0_31 u0_32 u0_33 u0_34 u0_35 u0_36 u0_37 u0_38 u0_39 u0_40, aI cy q1 37 v_now, aI cy q2 7 x15_2, aI cy q3 7 x15_3]) (st' := [.int (X11_has (v_now ((28 : Int32) + (x15_2 (p1 - (1 : Int32)).toNatClampNeg)).toNatClampNeg) x15_0)]) (rest := []) E hS slX11_196 (c_X11_has (l := l) (D := D) (cy := cy) (p0 := (v_now ((28 : Int32) + (x15_2 (p1 - (1 : Int32)).toNatClampNeg)).toNatClampNeg)) (p1 := x15_0) (r := (X11_has (v_now ((28 : Int32) + (x15_2 (p1 - (1 : Int32)).toNatClampNeg)).toNatClampNeg) x15_0)) rfl) [] rfl rfl (fun _ => rfl) (fun _ => rfl) rfl rfl (Nat.le_of_ble_eq_true rfl) hl.1 (by rw [hRf]; omega) (by rw [hRl]; omega) ⟨Nat.zero_le _, Nat.zero_le _⟩ dX11_goRow_48 rfl (fun H locs _ hS => ?_)
              refine lv_if_ne (tgt := 57) hx hb dX11_goRow_51 (by decide) (fun c5 => ?_) (fun c5 => ?_)
              · have h := it_neg c5 h
                refine lv_aload_n hx hb dX11_goRow_57 rfl (lv_at hl 0 rfl) ?_
                refine r_get E frX11_51 hS 0 rfl rfl dX11_goRow_58 ?_
                refine lv_iload_n hx hb dX11_goRow_61 rfl (lv_at hl 1 rfl) ?_
                refine lv_iload_n hx hb dX11_goRow_62 rfl (lv_at hl 3 rfl) ?_
                obtain ⟨g6, h⟩ := gi_some h
                refine r_iast (ws' := [oX11 q0 (.ref q1) (.int v_people) u0_2 u0_3 u0_4 u0_5 u0_6 u0_7 u0_8 u0_9 u0_10 u0_11 u0_12 u0_13 u0_14 u0_15 u0_16 u0_17 u0_18 u0_19 u0_20 u0_21 u0_22 u0_23 u0_24 (.ref q2) (.ref q3) (.int x15_1) u0_28 u0_29 u0_30 u0_31 u0_32 u0_33 u0_34 u0_35 u0_36 u0_37 u0_38 u0_39 u0_40, aI cy q1 37 v_now, aI cy q2 7 (upd x15_2 p1.toNatClampNeg x15_0), aI cy q3 7 x15_3]) E hS 2 rfl g6 rfl dX11_goRow_63 (fun H locs hS => ?_)
                refine lv_aload_n hx hb dX11_goRow_64 rfl (lv_at hl 0 rfl) ?_
                refine lv_iload_n hx hb dX11_goRow_65 rfl (lv_at hl 1 rfl) ?_
                refine lv_iconst (v := 1) hx hb dX11_goRow_66 (by decide) ?_
                refine lv_iadd hx hb dX11_goRow_67 ?_
                refine lv_iload_n hx hb dX11_goRow_68 rfl (lv_at hl 2 rfl) ?_
                refine lv_iconst (v := 1) hx hb dX11_goRow_69 (by decide) ?_
                refine lv_iload_n hx hb dX11_goRow_70 rfl (lv_at hl 3 rfl) ?_
                refine lv_ishl hx hb dX11_goRow_71 ?_
                refine lv_ior hx hb dX11_goRow_72 ?_
                obtain ⟨y73, e7, h⟩ := bd_some h
                refine ct_V (ws' := fun _ => [oX11 q0 (.ref q1) (.int v_people) u0_2 u0_3 u0_4 u0_5 u0_6 u0_7 u0_8 u0_9 u0_10 u0_11 u0_12 u0_13 u0_14 u0_15 u0_16 u0_17 u0_18 u0_19 u0_20 u0_21 u0_22 u0_23 u0_24 (.ref q2) (.ref q3) (.int y73.1) u0_28 u0_29 u0_30 u0_31 u0_32 u0_33 u0_34 u0_35 u0_36 u0_37 u0_38 u0_39 u0_40, aI cy q1 37 v_now, aI cy q2 7 y73.2.1, aI cy q3 7 y73.2.2]) (st' := []) (rest := []) E hS vlX11_314 (ih0 q0 q1 q2 q3 u0_2 u0_3 u0_4 u0_5 u0_6 u0_7 u0_8 u0_9 u0_10 u0_11 u0_12 u0_13 u0_14 u0_15 u0_16 u0_17 u0_18 u0_19 u0_20 u0_21 u0_22 u0_23 u0_24 u0_28 u0_29 u0_30 u0_31 u0_32 u0_33 u0_34 u0_35 u0_36 u0_37 u0_38 u0_39 u0_40 v_people x15_1 v_now (upd x15_2 p1.toNatClampNeg x15_0) x15_3 (p1 + (1 : Int32)) (p2 ||| ((1 : Int32) <<< (x15_0 &&& 31))) y73 e7) [0, 1, 2, 3] rfl rfl (fun _ => rfl) (fun _ => rfl) rfl rfl rfl rfl (Nat.le_of_ble_eq_true rfl) hl.1 (by rw [hRf]; omega) (by rw [hRl]; omega) ⟨Nat.zero_le _, Nat.zero_le _⟩ dX11_goRow_73 rfl (fun H locs _ hS => ?_)
                refine lv_iinc (v := (x15_0 + (1 : Int32))) (lv' := [(3, .int (x15_0 + (1 : Int32))), (0, .ref q0), (1, .int p1), (2, .int p2)]) hx hb dX11_goRow_76 hl (k := 3) rfl rfl (by decide) rfl (fun ls hl => ?_)
                refine lv_goto (tgt := 15) hx hb dX11_goRow_79 (by decide) ?_
                exact ih15 (x15_0 + (1 : Int32)) y73.1 y73.2.1 y73.2.2 y15  H locs ls (hz15a _ (Option.some.inj h).symm) hS (lv_sub hl [1, 2, 3, 0] rfl) hk15_0
              · have h := it_pos c5 h
                refine lv_goto (tgt := 76) hx hb dX11_goRow_54 (by decide) ?_
                refine lv_iinc (v := (x15_0 + (1 : Int32))) (lv' := [(3, .int (x15_0 + (1 : Int32))), (0, .ref q0), (1, .int p1), (2, .int p2)]) hx hb dX11_goRow_76 hl (k := 3) rfl rfl (by decide) rfl (fun ls hl => ?_)
                refine lv_goto (tgt := 15) hx hb dX11_goRow_79 (by decide) ?_
                exact ih15 (x15_0 + (1 : Int32)) x15_1 x15_2 x15_3 y15  H locs ls (hz15a _ (Option.some.inj h).symm) hS (lv_sub hl [1, 2, 3, 0] rfl) hk15_0
      obtain ⟨y15, e15, h⟩ := bd_some h
      refine hL15 1000 (0 : Int32) j13_v_bestMany v_line j13_v_bestLine y15  H locs ls e15 hS (lv_sub hl [1, 2, 3, 0] rfl) (fun y15_0 y15_1 y15_2 ey15 H locs ls hS hl => ?_)
      subst ey15
      have h := un_r h
      have h := un_r h
      obtain rfl := Option.some.inj h
      exact rt_v E hQ (.null) hS dX11_goRow_82
    refine lv_icmp_le (tgt := 13) hx hb dX11_goRow_5 (by decide) (fun c8 => ?_) (fun c8 => ?_)
    · have h := it_pos c8 h
      exact hJ13 v_bestMany v_bestLine  H locs ls h hS (lv_sub hl [0, 1, 2] rfl)
    · have h := it_neg c8 h
      refine lv_aload_n hx hb dX11_goRow_8 rfl (lv_at hl 0 rfl) ?_
      refine lv_iload_n hx hb dX11_goRow_9 rfl (lv_at hl 1 rfl) ?_
      obtain ⟨y10, e9, h⟩ := bd_some h
      refine ct_V (ws' := fun _ => [oX11 q0 (.ref q1) (.int v_people) u0_2 u0_3 u0_4 u0_5 u0_6 u0_7 u0_8 u0_9 u0_10 u0_11 u0_12 u0_13 u0_14 u0_15 u0_16 u0_17 u0_18 u0_19 u0_20 u0_21 u0_22 u0_23 u0_24 (.ref q2) (.ref q3) (.int y10.1) u0_28 u0_29 u0_30 u0_31 u0_32 u0_33 u0_34 u0_35 u0_36 u0_37 u0_38 u0_39 u0_40, aI cy q1 37 v_now, aI cy q2 7 v_line, aI cy q3 7 y10.2]) (st' := []) (rest := []) E hS vlX11_311 (c_X11_layBest (l := l) (D := D) (cy := cy) (q0 := q0) (q1 := q2) (q2 := q3) (u0_0 := .ref q1) (u0_1 := .int v_people) (u0_2 := u0_2) (u0_3 := u0_3) (u0_4 := u0_4) (u0_5 := u0_5) (u0_6 := u0_6) (u0_7 := u0_7) (u0_8 := u0_8) (u0_9 := u0_9) (u0_10 := u0_10) (u0_11 := u0_11) (u0_12 := u0_12) (u0_13 := u0_13) (u0_14 := u0_14) (u0_15 := u0_15) (u0_16 := u0_16) (u0_17 := u0_17) (u0_18 := u0_18) (u0_19 := u0_19) (u0_20 := u0_20) (u0_21 := u0_21) (u0_22 := u0_22) (u0_23 := u0_23) (u0_24 := u0_24) (u0_28 := u0_28) (u0_29 := u0_29) (u0_30 := u0_30) (u0_31 := u0_31) (u0_32 := u0_32) (u0_33 := u0_33) (u0_34 := u0_34) (u0_35 := u0_35) (u0_36 := u0_36) (u0_37 := u0_37) (u0_38 := u0_38) (u0_39 := u0_39) (u0_40 := u0_40) (v_bestMany := v_bestMany) (v_line := v_line) (v_bestLine := v_bestLine) (p1 := p1) (r := y10) e9) [0, 2, 3] rfl rfl (fun _ => rfl) (fun _ => rfl) rfl rfl rfl rfl (Nat.le_of_ble_eq_true rfl) hl.1 (by rw [hRf]; omega) (by rw [hRl]; omega) ⟨Nat.zero_le _, Nat.zero_le _⟩ dX11_goRow_10 rfl (fun H locs _ hS => ?_)
      exact hJ13 y10.1 y10.2  H locs ls h hS (lv_sub hl [0, 1, 2] rfl)
theorem c_X11_goRow {l : Launch} {D : va_G} {cy : Nat → ClassId} (q0 : Nat) (q1 : Nat) (q2 : Nat) (q3 : Nat) (u0_2 : Value) (u0_3 : Value) (u0_4 : Value) (u0_5 : Value) (u0_6 : Value) (u0_7 : Value) (u0_8 : Value) (u0_9 : Value) (u0_10 : Value) (u0_11 : Value) (u0_12 : Value) (u0_13 : Value) (u0_14 : Value) (u0_15 : Value) (u0_16 : Value) (u0_17 : Value) (u0_18 : Value) (u0_19 : Value) (u0_20 : Value) (u0_21 : Value) (u0_22 : Value) (u0_23 : Value) (u0_24 : Value) (u0_28 : Value) (u0_29 : Value) (u0_30 : Value) (u0_31 : Value) (u0_32 : Value) (u0_33 : Value) (u0_34 : Value) (u0_35 : Value) (u0_36 : Value) (u0_37 : Value) (u0_38 : Value) (u0_39 : Value) (u0_40 : Value) (v_people : Int32) (v_bestMany : Int32) (v_now : Nat → Int32) (v_line : Nat → Int32) (v_bestLine : Nat → Int32) (p1 : Int32) (p2 : Int32) (r : Int32 × (Nat → Int32) × (Nat → Int32)) (h : X11_rowr 100 v_people v_bestMany v_now v_line v_bestLine p1 p2 = some r) : Ct l yX11_goRow cX11_goRow 4 none 101 2322 D cy [.ref q0, .int p1, .int p2] [oX11 q0 (.ref q1) (.int v_people) u0_2 u0_3 u0_4 u0_5 u0_6 u0_7 u0_8 u0_9 u0_10 u0_11 u0_12 u0_13 u0_14 u0_15 u0_16 u0_17 u0_18 u0_19 u0_20 u0_21 u0_22 u0_23 u0_24 (.ref q2) (.ref q3) (.int v_bestMany) u0_28 u0_29 u0_30 u0_31 u0_32 u0_33 u0_34 u0_35 u0_36 u0_37 u0_38 u0_39 u0_40, aI cy q1 37 v_now, aI cy q2 7 v_line, aI cy q3 7 v_bestLine] (fun _ => [oX11 q0 (.ref q1) (.int v_people) u0_2 u0_3 u0_4 u0_5 u0_6 u0_7 u0_8 u0_9 u0_10 u0_11 u0_12 u0_13 u0_14 u0_15 u0_16 u0_17 u0_18 u0_19 u0_20 u0_21 u0_22 u0_23 u0_24 (.ref q2) (.ref q3) (.int r.1) u0_28 u0_29 u0_30 u0_31 u0_32 u0_33 u0_34 u0_35 u0_36 u0_37 u0_38 u0_39 u0_40, aI cy q1 37 v_now, aI cy q2 7 r.2.1, aI cy q3 7 r.2.2]) (none) := (g_X11_rowr 100) q0 q1 q2 q3 u0_2 u0_3 u0_4 u0_5 u0_6 u0_7 u0_8 u0_9 u0_10 u0_11 u0_12 u0_13 u0_14 u0_15 u0_16 u0_17 u0_18 u0_19 u0_20 u0_21 u0_22 u0_23 u0_24 u0_28 u0_29 u0_30 u0_31 u0_32 u0_33 u0_34 u0_35 u0_36 u0_37 u0_38 u0_39 u0_40 v_people v_bestMany v_now v_line v_bestLine p1 p2 r h
set_option maxHeartbeats 4000000 in
set_option maxRecDepth 100000 in
theorem c_X11_follows {l : Launch} {D : va_G} {cy : Nat → ClassId} (q0 : Nat) (q1 : Nat) (q2 : Nat) (q3 : Nat) (q4 : Nat) (u0_2 : Value) (u0_3 : Value) (u0_7 : Value) (u0_8 : Value) (u0_9 : Value) (u0_10 : Value) (u0_11 : Value) (u0_12 : Value) (u0_13 : Value) (u0_14 : Value) (u0_15 : Value) (u0_16 : Value) (u0_17 : Value) (u0_18 : Value) (u0_19 : Value) (u0_20 : Value) (u0_21 : Value) (u0_22 : Value) (u0_23 : Value) (u0_24 : Value) (u0_28 : Value) (u0_29 : Value) (u0_30 : Value) (u0_31 : Value) (u0_32 : Value) (u0_33 : Value) (u0_34 : Value) (u0_35 : Value) (u0_36 : Value) (u0_37 : Value) (u0_38 : Value) (u0_39 : Value) (u0_40 : Value) (v_people : Int32) (v_rowMany : Int32) (v_thrown : Int32) (v_bestMany : Int32) (v_now : Nat → Int32) (v_row : Nat → Int64) (v_line : Nat → Int32) (v_bestLine : Nat → Int32) (p1 : Int32) (r : Int32 × Int32 × Int32 × Int32 × (Nat → Int64) × (Nat → Int32) × (Nat → Int32)) (h : X11_follows v_people v_rowMany v_bestMany v_now v_row v_line v_bestLine p1 = some r) : Ct l yX11_follows cX11_follows 2 (some .int) 102 2345 D cy [.ref q0, .int p1] [oX11 q0 (.ref q1) (.int v_people) u0_2 u0_3 (.ref q2) (.int v_rowMany) (.int v_thrown) u0_7 u0_8 u0_9 u0_10 u0_11 u0_12 u0_13 u0_14 u0_15 u0_16 u0_17 u0_18 u0_19 u0_20 u0_21 u0_22 u0_23 u0_24 (.ref q3) (.ref q4) (.int v_bestMany) u0_28 u0_29 u0_30 u0_31 u0_32 u0_33 u0_34 u0_35 u0_36 u0_37 u0_38 u0_39 u0_40, aI cy q1 37 v_now, aJ cy q2 16 v_row, aI cy q3 7 v_line, aI cy q4 7 v_bestLine] (fun _ => [oX11 q0 (.ref q1) (.int v_people) u0_2 u0_3 (.ref q2) (.int r.2.1) (.int r.2.2.1) u0_7 u0_8 u0_9 u0_10 u0_11 u0_12 u0_13 u0_14 u0_15 u0_16 u0_17 u0_18 u0_19 u0_20 u0_21 u0_22 u0_23 u0_24 (.ref q3) (.ref q4) (.int r.2.2.2.1) u0_28 u0_29 u0_30 u0_31 u0_32 u0_33 u0_34 u0_35 u0_36 u0_37 u0_38 u0_39 u0_40, aI cy q1 37 v_now, aJ cy q2 16 r.2.2.2.2.1, aI cy q3 7 r.2.2.2.2.2.1, aI cy q4 7 r.2.2.2.2.2.2]) (some (.int r.1)) := by
  refine Ct.mk kX11_follows (by decide +kernel) (Nat.le_of_ble_eq_true rfl) ?_
  intro p e s m below meth c A ls args R Q hRf hRl hQ E H locs hS hl
  have hx := E.x
  have hb := E.b
  have hl : lv_has ls 2 [(0, .ref q0), (1, .int p1)] := hl
  unfold X11_follows at h
  refine lv_aload_n hx hb dX11_follows_0 rfl (lv_at hl 0 rfl) ?_
  refine lv_iconst (v := 0) hx hb dX11_follows_1 (by decide) ?_
  refine r_put (ws' := [oX11 q0 (.ref q1) (.int v_people) u0_2 u0_3 (.ref q2) (.int v_rowMany) (.int (0 : Int32)) u0_7 u0_8 u0_9 u0_10 u0_11 u0_12 u0_13 u0_14 u0_15 u0_16 u0_17 u0_18 u0_19 u0_20 u0_21 u0_22 u0_23 u0_24 (.ref q3) (.ref q4) (.int v_bestMany) u0_28 u0_29 u0_30 u0_31 u0_32 u0_33 u0_34 u0_35 u0_36 u0_37 u0_38 u0_39 u0_40, aI cy q1 37 v_now, aJ cy q2 16 v_row, aI cy q3 7 v_line, aI cy q4 7 v_bestLine]) E frX11_85 hS 0 rfl (Nat.le_of_ble_eq_true rfl) rfl rfl rfl rfl dX11_follows_2 (fun H locs hS => ?_)
  refine lv_aload_n hx hb dX11_follows_5 rfl (lv_at hl 0 rfl) ?_
  refine lv_iload_n hx hb dX11_follows_6 rfl (lv_at hl 1 rfl) ?_
  obtain ⟨y7, e1, h⟩ := bd_some h
  refine ct_V (ws' := fun _ => [oX11 q0 (.ref q1) (.int v_people) u0_2 u0_3 (.ref q2) (.int v_rowMany) (.int (0 : Int32)) u0_7 u0_8 u0_9 u0_10 u0_11 u0_12 u0_13 u0_14 u0_15 u0_16 u0_17 u0_18 u0_19 u0_20 u0_21 u0_22 u0_23 u0_24 (.ref q3) (.ref q4) (.int v_bestMany) u0_28 u0_29 u0_30 u0_31 u0_32 u0_33 u0_34 u0_35 u0_36 u0_37 u0_38 u0_39 u0_40, aI cy q1 37 v_now, aJ cy q2 16 v_row, aI cy q3 7 v_line, aI cy q4 7 v_bestLine]) (st' := [.int y7]) (rest := []) E hS vlX11_99 (c_X11_isOne (l := l) (D := D) (cy := cy) (q0 := q0) (u0_0 := .ref q1) (u0_2 := u0_2) (u0_3 := u0_3) (u0_4 := .ref q2) (u0_5 := .int v_rowMany) (u0_6 := .int (0 : Int32)) (u0_7 := u0_7) (u0_8 := u0_8) (u0_9 := u0_9) (u0_10 := u0_10) (u0_11 := u0_11) (u0_12 := u0_12) (u0_13 := u0_13) (u0_14 := u0_14) (u0_15 := u0_15) (u0_16 := u0_16) (u0_17 := u0_17) (u0_18 := u0_18) (u0_19 := u0_19) (u0_20 := u0_20) (u0_21 := u0_21) (u0_22 := u0_22) (u0_23 := u0_23) (u0_24 := u0_24) (u0_25 := .ref q3) (u0_26 := .ref q4) (u0_27 := .int v_bestMany) (u0_28 := u0_28) (u0_29 := u0_29) (u0_30 := u0_30) (u0_31 := u0_31) (u0_32 := u0_32) (u0_33 := u0_33) (u0_34 := u0_34) (u0_35 := u0_35) (u0_36 := u0_36) (u0_37 := u0_37) (u0_38 := u0_38) (u0_39 := u0_39) (u0_40 := u0_40) (v_people := v_people) (p1 := p1) (r := y7) e1) [0] rfl rfl (fun _ => rfl) (fun _ => rfl) rfl rfl rfl rfl (Nat.le_of_ble_eq_true rfl) hl.1 (by rw [hRf]; exact Nat.le_of_ble_eq_true rfl) (by rw [hRl]; exact Nat.le_of_ble_eq_true rfl) ⟨Nat.zero_le _, Nat.zero_le _⟩ dX11_follows_7 rfl (fun H locs _ hS => ?_)
  refine lv_if_ne (tgt := 15) hx hb dX11_follows_10 (by decide) (fun c2 => ?_) (fun c2 => ?_)
  · have h := it_neg c2 h
    refine lv_aload_n hx hb dX11_follows_15 rfl (lv_at hl 0 rfl) ?_
    refine lv_iconst (v := 0) hx hb dX11_follows_16 (by decide) ?_
    refine r_put (ws' := [oX11 q0 (.ref q1) (.int v_people) u0_2 u0_3 (.ref q2) (.int v_rowMany) (.int (0 : Int32)) u0_7 u0_8 u0_9 u0_10 u0_11 u0_12 u0_13 u0_14 u0_15 u0_16 u0_17 u0_18 u0_19 u0_20 u0_21 u0_22 u0_23 u0_24 (.ref q3) (.ref q4) (.int (0 : Int32)) u0_28 u0_29 u0_30 u0_31 u0_32 u0_33 u0_34 u0_35 u0_36 u0_37 u0_38 u0_39 u0_40, aI cy q1 37 v_now, aJ cy q2 16 v_row, aI cy q3 7 v_line, aI cy q4 7 v_bestLine]) E frX11_308 hS 0 rfl (Nat.le_of_ble_eq_true rfl) rfl rfl rfl rfl dX11_follows_17 (fun H locs hS => ?_)
    refine lv_aload_n hx hb dX11_follows_20 rfl (lv_at hl 0 rfl) ?_
    refine r_get E frX11_51 hS 0 rfl rfl dX11_follows_21 ?_
    refine lv_iconst (v := 0) hx hb dX11_follows_24 (by decide) ?_
    refine lv_iload_n hx hb dX11_follows_25 rfl (lv_at hl 1 rfl) ?_
    obtain ⟨g3, h⟩ := gi_some h
    refine r_iast (ws' := [oX11 q0 (.ref q1) (.int v_people) u0_2 u0_3 (.ref q2) (.int v_rowMany) (.int (0 : Int32)) u0_7 u0_8 u0_9 u0_10 u0_11 u0_12 u0_13 u0_14 u0_15 u0_16 u0_17 u0_18 u0_19 u0_20 u0_21 u0_22 u0_23 u0_24 (.ref q3) (.ref q4) (.int (0 : Int32)) u0_28 u0_29 u0_30 u0_31 u0_32 u0_33 u0_34 u0_35 u0_36 u0_37 u0_38 u0_39 u0_40, aI cy q1 37 v_now, aJ cy q2 16 v_row, aI cy q3 7 (upd v_line (0 : Int32).toNatClampNeg p1), aI cy q4 7 v_bestLine]) E hS 3 rfl g3 rfl dX11_follows_26 (fun H locs hS => ?_)
    refine lv_aload_n hx hb dX11_follows_27 rfl (lv_at hl 0 rfl) ?_
    refine lv_iconst (v := 1) hx hb dX11_follows_28 (by decide) ?_
    refine lv_iconst (v := 1) hx hb dX11_follows_29 (by decide) ?_
    refine lv_iload_n hx hb dX11_follows_30 rfl (lv_at hl 1 rfl) ?_
    refine lv_ishl hx hb dX11_follows_31 ?_
    obtain ⟨y32, e4, h⟩ := bd_some h
    refine ct_V (ws' := fun _ => [oX11 q0 (.ref q1) (.int v_people) u0_2 u0_3 (.ref q2) (.int v_rowMany) (.int (0 : Int32)) u0_7 u0_8 u0_9 u0_10 u0_11 u0_12 u0_13 u0_14 u0_15 u0_16 u0_17 u0_18 u0_19 u0_20 u0_21 u0_22 u0_23 u0_24 (.ref q3) (.ref q4) (.int y32.1) u0_28 u0_29 u0_30 u0_31 u0_32 u0_33 u0_34 u0_35 u0_36 u0_37 u0_38 u0_39 u0_40, aI cy q1 37 v_now, aJ cy q2 16 v_row, aI cy q3 7 y32.2.1, aI cy q4 7 y32.2.2]) (st' := []) (rest := []) E hS vlX11_314 (c_X11_goRow (l := l) (D := D) (cy := cy) (q0 := q0) (q1 := q1) (q2 := q3) (q3 := q4) (u0_2 := u0_2) (u0_3 := u0_3) (u0_4 := .ref q2) (u0_5 := .int v_rowMany) (u0_6 := .int (0 : Int32)) (u0_7 := u0_7) (u0_8 := u0_8) (u0_9 := u0_9) (u0_10 := u0_10) (u0_11 := u0_11) (u0_12 := u0_12) (u0_13 := u0_13) (u0_14 := u0_14) (u0_15 := u0_15) (u0_16 := u0_16) (u0_17 := u0_17) (u0_18 := u0_18) (u0_19 := u0_19) (u0_20 := u0_20) (u0_21 := u0_21) (u0_22 := u0_22) (u0_23 := u0_23) (u0_24 := u0_24) (u0_28 := u0_28) (u0_29 := u0_29) (u0_30 := u0_30) (u0_31 := u0_31) (u0_32 := u0_32) (u0_33 := u0_33) (u0_34 := u0_34) (u0_35 := u0_35) (u0_36 := u0_36) (u0_37 := u0_37) (u0_38 := u0_38) (u0_39 := u0_39) (u0_40 := u0_40) (v_people := v_people) (v_bestMany := (0 : Int32)) (v_now := v_now) (v_line := (upd v_line (0 : Int32).toNatClampNeg p1)) (v_bestLine := v_bestLine) (p1 := (1 : Int32)) (p2 := ((1 : Int32) <<< (p1 &&& 31))) (r := y32) e4) [0, 1, 3, 4] rfl rfl (fun _ => rfl) (fun _ => rfl) rfl rfl rfl rfl (Nat.le_of_ble_eq_true rfl) hl.1 (by rw [hRf]; exact Nat.le_of_ble_eq_true rfl) (by rw [hRl]; exact Nat.le_of_ble_eq_true rfl) ⟨Nat.zero_le _, Nat.zero_le _⟩ dX11_follows_32 rfl (fun H locs _ hS => ?_)
    refine lv_aload_n hx hb dX11_follows_35 rfl (lv_at hl 0 rfl) ?_
    obtain ⟨y36, e5, h⟩ := bd_some h
    refine ct_V (ws' := fun _ => [oX11 q0 (.ref q1) (.int v_people) u0_2 u0_3 (.ref q2) (.int y36.2.1) (.int (0 : Int32)) u0_7 u0_8 u0_9 u0_10 u0_11 u0_12 u0_13 u0_14 u0_15 u0_16 u0_17 u0_18 u0_19 u0_20 u0_21 u0_22 u0_23 u0_24 (.ref q3) (.ref q4) (.int y32.1) u0_28 u0_29 u0_30 u0_31 u0_32 u0_33 u0_34 u0_35 u0_36 u0_37 u0_38 u0_39 u0_40, aI cy q1 37 v_now, aJ cy q2 16 y36.2.2, aI cy q3 7 y32.2.1, aI cy q4 7 y32.2.2]) (st' := [.int y36.1]) (rest := []) E hS vlX11_317 (c_X11_tellBest (l := l) (D := D) (cy := cy) (q0 := q0) (q1 := q2) (q2 := q4) (u0_0 := .ref q1) (u0_1 := .int v_people) (u0_2 := u0_2) (u0_3 := u0_3) (u0_6 := .int (0 : Int32)) (u0_7 := u0_7) (u0_8 := u0_8) (u0_9 := u0_9) (u0_10 := u0_10) (u0_11 := u0_11) (u0_12 := u0_12) (u0_13 := u0_13) (u0_14 := u0_14) (u0_15 := u0_15) (u0_16 := u0_16) (u0_17 := u0_17) (u0_18 := u0_18) (u0_19 := u0_19) (u0_20 := u0_20) (u0_21 := u0_21) (u0_22 := u0_22) (u0_23 := u0_23) (u0_24 := u0_24) (u0_25 := .ref q3) (u0_28 := u0_28) (u0_29 := u0_29) (u0_30 := u0_30) (u0_31 := u0_31) (u0_32 := u0_32) (u0_33 := u0_33) (u0_34 := u0_34) (u0_35 := u0_35) (u0_36 := u0_36) (u0_37 := u0_37) (u0_38 := u0_38) (u0_39 := u0_39) (u0_40 := u0_40) (v_rowMany := v_rowMany) (v_bestMany := y32.1) (v_row := v_row) (v_bestLine := y32.2.2) (r := y36) e5) [0, 2, 4] rfl rfl (fun _ => rfl) (fun _ => rfl) rfl rfl rfl rfl (Nat.le_of_ble_eq_true rfl) hl.1 (by rw [hRf]; exact Nat.le_of_ble_eq_true rfl) (by rw [hRl]; exact Nat.le_of_ble_eq_true rfl) ⟨Nat.zero_le _, Nat.zero_le _⟩ dX11_follows_36 rfl (fun H locs _ hS => ?_)
    obtain rfl := Option.some.inj h
    exact rt_i E hQ (.null) hS dX11_follows_39
  · have h := it_pos c2 h
    refine lv_iconst (v := -1) hx hb dX11_follows_13 (by decide) ?_
    obtain rfl := Option.some.inj h
    exact rt_i E hQ (.null) hS dX11_follows_14
theorem X11_ringr_z {C : Prop} {v_people : Int32} {v_bestMany : Int32} {v_now : Nat → Int32} {v_line : Nat → Int32} {v_bestLine : Nat → Int32} {p1 : Int32} {p2 : Int32} {r : Int32 × (Nat → Int32) × (Nat → Int32)} (h : X11_ringr 0 v_people v_bestMany v_now v_line v_bestLine p1 p2 = some r) : C := by
  rw [X11_ringr] at h
  cases h
set_option maxHeartbeats 8000000 in
set_option maxRecDepth 100000 in
theorem g_X11_ringr {l : Launch} {D : va_G} {cy : Nat → ClassId} : ∀ n : Nat, (∀ (q0 : Nat) (q1 : Nat) (q2 : Nat) (q3 : Nat) (u0_2 : Value) (u0_3 : Value) (u0_4 : Value) (u0_5 : Value) (u0_6 : Value) (u0_7 : Value) (u0_8 : Value) (u0_9 : Value) (u0_10 : Value) (u0_11 : Value) (u0_12 : Value) (u0_13 : Value) (u0_14 : Value) (u0_15 : Value) (u0_16 : Value) (u0_17 : Value) (u0_18 : Value) (u0_19 : Value) (u0_20 : Value) (u0_21 : Value) (u0_22 : Value) (u0_23 : Value) (u0_24 : Value) (u0_28 : Value) (u0_29 : Value) (u0_30 : Value) (u0_31 : Value) (u0_32 : Value) (u0_33 : Value) (u0_34 : Value) (u0_35 : Value) (u0_36 : Value) (u0_37 : Value) (u0_38 : Value) (u0_39 : Value) (u0_40 : Value) (v_people : Int32) (v_bestMany : Int32) (v_now : Nat → Int32) (v_line : Nat → Int32) (v_bestLine : Nat → Int32) (p1 : Int32) (p2 : Int32) (r : Int32 × (Nat → Int32) × (Nat → Int32)), X11_ringr n v_people v_bestMany v_now v_line v_bestLine p1 p2 = some r → Ct l yX11_goRing cX11_goRing 4 none (1 + n) (22 + n * 23) D cy [.ref q0, .int p1, .int p2] [oX11 q0 (.ref q1) (.int v_people) u0_2 u0_3 u0_4 u0_5 u0_6 u0_7 u0_8 u0_9 u0_10 u0_11 u0_12 u0_13 u0_14 u0_15 u0_16 u0_17 u0_18 u0_19 u0_20 u0_21 u0_22 u0_23 u0_24 (.ref q2) (.ref q3) (.int v_bestMany) u0_28 u0_29 u0_30 u0_31 u0_32 u0_33 u0_34 u0_35 u0_36 u0_37 u0_38 u0_39 u0_40, aI cy q1 37 v_now, aI cy q2 7 v_line, aI cy q3 7 v_bestLine] (fun _ => [oX11 q0 (.ref q1) (.int v_people) u0_2 u0_3 u0_4 u0_5 u0_6 u0_7 u0_8 u0_9 u0_10 u0_11 u0_12 u0_13 u0_14 u0_15 u0_16 u0_17 u0_18 u0_19 u0_20 u0_21 u0_22 u0_23 u0_24 (.ref q2) (.ref q3) (.int r.1) u0_28 u0_29 u0_30 u0_31 u0_32 u0_33 u0_34 u0_35 u0_36 u0_37 u0_38 u0_39 u0_40, aI cy q1 37 v_now, aI cy q2 7 r.2.1, aI cy q3 7 r.2.2]) (none)) := by
  intro n
  induction n with
  | zero =>
    exact fun _ _ _ _ _ _ _ _ _ _ _ _ _ _ _ _ _ _ _ _ _ _ _ _ _ _ _ _ _ _ _ _ _ _ _ _ _ _ _ _ _ _ _ _ _ _ _ _ h => X11_ringr_z h
  | succ n ih =>
    have ih0 := ih
    intro q0 q1 q2 q3 u0_2 u0_3 u0_4 u0_5 u0_6 u0_7 u0_8 u0_9 u0_10 u0_11 u0_12 u0_13 u0_14 u0_15 u0_16 u0_17 u0_18 u0_19 u0_20 u0_21 u0_22 u0_23 u0_24 u0_28 u0_29 u0_30 u0_31 u0_32 u0_33 u0_34 u0_35 u0_36 u0_37 u0_38 u0_39 u0_40 v_people v_bestMany v_now v_line v_bestLine p1 p2 r h
    have h : X11_ringr_b0 (X11_ringr n) v_people v_bestMany v_now v_line v_bestLine p1 p2 = some r := h
    generalize X11_ringr n = rec at ih0 h
    unfold X11_ringr_b0 at h
    refine Ct.mk kX11_goRing (by decide +kernel) (Nat.le_of_ble_eq_true rfl) ?_
    intro p e s m below meth c A ls args R Q hRf hRl hQ E H locs hS hl
    have hx := E.x
    have hb := E.b
    have hl : lv_has ls 4 [(0, .ref q0), (1, .int p1), (2, .int p2)] := hl
    refine lv_iload_n hx hb dX11_goRing_0 rfl (lv_at hl 1 rfl) ?_
    refine lv_iconst (v := 1) hx hb dX11_goRing_1 (by decide) ?_
    have hJ46 : ∀ (j46_v_bestMany : Int32) (j46_v_bestLine : Nat → Int32) (H : Heap) (locs : List Loc) (ls : Array Slot), X11_goRing_k46 rec v_people v_now v_line p1 p2 j46_v_bestMany j46_v_bestLine = some r → Sv D A s.heap [oX11 q0 (.ref q1) (.int v_people) u0_2 u0_3 u0_4 u0_5 u0_6 u0_7 u0_8 u0_9 u0_10 u0_11 u0_12 u0_13 u0_14 u0_15 u0_16 u0_17 u0_18 u0_19 u0_20 u0_21 u0_22 u0_23 u0_24 (.ref q2) (.ref q3) (.int j46_v_bestMany) u0_28 u0_29 u0_30 u0_31 u0_32 u0_33 u0_34 u0_35 u0_36 u0_37 u0_38 u0_39 u0_40, aI cy q1 37 v_now, aI cy q2 7 v_line, aI cy q3 7 j46_v_bestLine] H locs → lv_has ls 4 [(0, .ref q0), (1, .int p1), (2, .int p2)] → W p l e R s m args below meth c H locs 0 0 Q (F0 m 46 ls []) := by
      intro j46_v_bestMany j46_v_bestLine H locs ls h hS hl
      unfold X11_goRing_k46 at h
      refine lv_aload_n hx hb dX11_goRing_46 rfl (lv_at hl 0 rfl) ?_
      refine r_get E frX11_51 hS 0 rfl rfl dX11_goRing_47 ?_
      refine lv_iconst (v := 0) hx hb dX11_goRing_50 (by decide) ?_
      obtain ⟨g1, h⟩ := gi_some h
      refine r_iald E hS 2 rfl g1 dX11_goRing_51 ?_
      refine lv_iconst (v := 1) hx hb dX11_goRing_52 (by decide) ?_
      refine lv_iadd hx hb dX11_goRing_53 ?_
      refine lv_istore_n (lv' := [(3, .int ((v_line (0 : Int32).toNatClampNeg) + (1 : Int32))), (0, .ref q0), (1, .int p1), (2, .int p2)]) hx hb dX11_goRing_54 rfl hl (by decide) rfl (fun ls hl => ?_)
      have hL55 : ∀ (n : Nat) (x55_0 : Int32) (x55_1 : Int32) (x55_2 : Nat → Int32) (x55_3 : Nat → Int32) (y55 : Int32 × (Nat → Int32) × (Nat → Int32)) (H : Heap) (locs : List Loc) (ls : Array Slot), lp (fun x55 => X11_goRing_s55 rec v_people v_now p1 p2 x55.1 x55.2.1 x55.2.2.1 x55.2.2.2) n (x55_0, x55_1, x55_2, x55_3) = some y55 → Sv D A s.heap [oX11 q0 (.ref q1) (.int v_people) u0_2 u0_3 u0_4 u0_5 u0_6 u0_7 u0_8 u0_9 u0_10 u0_11 u0_12 u0_13 u0_14 u0_15 u0_16 u0_17 u0_18 u0_19 u0_20 u0_21 u0_22 u0_23 u0_24 (.ref q2) (.ref q3) (.int x55_1) u0_28 u0_29 u0_30 u0_31 u0_32 u0_33 u0_34 u0_35 u0_36 u0_37 u0_38 u0_39 u0_40, aI cy q1 37 v_now, aI cy q2 7 x55_2, aI cy q3 7 x55_3] H locs → lv_has ls 4 [(0, .ref q0), (1, .int p1), (2, .int p2), (3, .int x55_0)] → ( ∀ (y55_0 : Int32) (y55_1 : Nat → Int32) (y55_2 : Nat → Int32), (y55_0, y55_1, y55_2) = y55 → ∀ (H : Heap) (locs : List Loc) (ls : Array Slot), Sv D A s.heap [oX11 q0 (.ref q1) (.int v_people) u0_2 u0_3 u0_4 u0_5 u0_6 u0_7 u0_8 u0_9 u0_10 u0_11 u0_12 u0_13 u0_14 u0_15 u0_16 u0_17 u0_18 u0_19 u0_20 u0_21 u0_22 u0_23 u0_24 (.ref q2) (.ref q3) (.int y55_0) u0_28 u0_29 u0_30 u0_31 u0_32 u0_33 u0_34 u0_35 u0_36 u0_37 u0_38 u0_39 u0_40, aI cy q1 37 v_now, aI cy q2 7 y55_1, aI cy q3 7 y55_2] H locs → lv_has ls 4 [] → W p l e R s m args below meth c H locs 0 0 Q (F0 m 122 ls [])) → W p l e R s m args below meth c H locs 0 0 Q (F0 m 55 ls []) := by
        intro n
        induction n with
        | zero =>
          intro x55_0 x55_1 x55_2 x55_3 y55 H locs ls h
          exact lp_zero h
        | succ n ih55 =>
          intro x55_0 x55_1 x55_2 x55_3 y55 H locs ls h hS hl hk55_0
          obtain ⟨z55, h, hz55a, hz55b⟩ := lp_succ h
          have h : X11_goRing_s55 rec v_people v_now p1 p2 x55_0 x55_1 x55_2 x55_3 = some z55 := h
          unfold X11_goRing_s55 at h
          refine lv_iload_n hx hb dX11_goRing_55 rfl (lv_at hl 3 rfl) ?_
          refine lv_aload_n hx hb dX11_goRing_56 rfl (lv_at hl 0 rfl) ?_
          refine r_get E frX11_92 hS 0 rfl rfl dX11_goRing_57 ?_
          refine lv_icmp_ge (tgt := 122) hx hb dX11_goRing_60 (by decide) (fun c2 => ?_) (fun c2 => ?_)
          · have h := it_pos c2 h
            exact hk55_0 x55_1 x55_2 x55_3 (hz55b _ (Option.some.inj h).symm)  H locs ls hS (lv_sub hl [] rfl)
          · have h := it_neg c2 h
            refine lv_iload_n hx hb dX11_goRing_63 rfl (lv_at hl 2 rfl) ?_
            refine lv_iload_n hx hb dX11_goRing_64 rfl (lv_at hl 3 rfl) ?_
            refine ct_S (ws' := fun _ => [oX11 q0 (.ref q1) (.int v_people) u0_2 u0_3 u0_4 u0_5 u0_6 u0_7 u0_8 u0_9 u0_10 u0_11 u0_12 u0_13 u0_14 u0_15 u0_16 u0_17 u0_18 u0_19 u0_20 u0_21 u0_22 u0_23 u0_24 (.ref q2) (.ref q3) (.int x55_1) u0_28 u0_29 u0_30 u0_31 u0_32 u0_33 u0_34 u0_35 u0_36 u0_37 u0_38 u0_39 u0_40, aI cy q1 37 v_now, aI cy q2 7 x55_2, aI cy q3 7 x55_3]) (st' := [.int (X11_has p2 x55_0)]) (rest := []) E hS slX11_196 (c_X11_has (l := l) (D := D) (cy := cy) (p0 := p2) (p1 := x55_0) (r := (X11_has p2 x55_0)) rfl) [] rfl rfl (fun _ => rfl) (fun _ => rfl) rfl rfl (Nat.le_of_ble_eq_true rfl) hl.1 (by rw [hRf]; omega) (by rw [hRl]; omega) ⟨Nat.zero_le _, Nat.zero_le _⟩ dX11_goRing_65 rfl (fun H locs _ hS => ?_)
            refine lv_if_ne (tgt := 116) hx hb dX11_goRing_68 (by decide) (fun c3 => ?_) (fun c3 => ?_)
            · have h := it_neg c3 h
              refine lv_iinc (v := (x55_0 + (1 : Int32))) (lv' := [(3, .int (x55_0 + (1 : Int32))), (0, .ref q0), (1, .int p1), (2, .int p2)]) hx hb dX11_goRing_116 hl (k := 3) rfl rfl (by decide) rfl (fun ls hl => ?_)
              refine lv_goto (tgt := 55) hx hb dX11_goRing_119 (by decide) ?_
              exact ih55 (x55_0 + (1 : Int32)) x55_1 x55_2 x55_3 y55  H locs ls (hz55a _ (Option.some.inj h).symm) hS (lv_sub hl [1, 2, 3, 0] rfl) hk55_0
            · have h := it_pos c3 h
              refine lv_aload_n hx hb dX11_goRing_71 rfl (lv_at hl 0 rfl) ?_
              refine r_get E frX11_9 hS 0 rfl rfl dX11_goRing_72 ?_
              refine lv_bipush (v := 28) hx hb dX11_goRing_75 (by decide) ?_
              refine lv_aload_n hx hb dX11_goRing_77 rfl (lv_at hl 0 rfl) ?_
              refine r_get E frX11_51 hS 0 rfl rfl dX11_goRing_78 ?_
              refine lv_iload_n hx hb dX11_goRing_81 rfl (lv_at hl 1 rfl) ?_
              refine lv_iconst (v := 1) hx hb dX11_goRing_82 (by decide) ?_
              refine lv_isub hx hb dX11_goRing_83 ?_
              obtain ⟨g4, h⟩ := gi_some h
              refine r_iald E hS 2 rfl g4 dX11_goRing_84 ?_
              refine lv_iadd hx hb dX11_goRing_85 ?_
              obtain ⟨g5, h⟩ := gi_some h
              refine r_iald E hS 1 rfl g5 dX11_goRing_86 ?_
              refine lv_iload_n hx hb dX11_goRing_87 rfl (lv_at hl 3 rfl) ?_
              refine ct_S (ws' := fun _ => [oX11 q0 (.ref q1) (.int v_people) u0_2 u0_3 u0_4 u0_5 u0_6 u0_7 u0_8 u0_9 u0_10 u0_11 u0_12 u0_13 u0_14 u0_15 u0_16 u0_17 u0_18 u0_19 u0_20 u0_21 u0_22 u0_23 u0_24 (.ref q2) (.ref q3) (.int x55_1) u0_28 u0_29 u0_30 u0_31 u0_32 u0_33 u0_34 u0_35 u0_36 u0_37 u0_38 u0_39 u0_40, aI cy q1 37 v_now, aI cy q2 7 x55_2, aI cy q3 7 x55_3]) (st' := [.int (X11_has (v_now ((28 : Int32) + (x55_2 (p1 - (1 : Int32)).toNatClampNeg)).toNatClampNeg) x55_0)]) (rest := []) E hS slX11_196 (c_X11_has (l := l) (D := D) (cy := cy) (p0 := (v_now ((28 : Int32) + (x55_2 (p1 - (1 : Int32)).toNatClampNeg)).toNatClampNeg)) (p1 := x55_0) (r := (X11_has (v_now ((28 : Int32) + (x55_2 (p1 - (1 : Int32)).toNatClampNeg)).toNatClampNeg) x55_0)) rfl) [] rfl rfl (fun _ => rfl) (fun _ => rfl) rfl rfl (Nat.le_of_ble_eq_true rfl) hl.1 (by rw [hRf]; omega) (by rw [hRl]; omega) ⟨Nat.zero_le _, Nat.zero_le _⟩ dX11_goRing_88 rfl (fun H locs _ hS => ?_)
              refine lv_if_ne (tgt := 97) hx hb dX11_goRing_91 (by decide) (fun c6 => ?_) (fun c6 => ?_)
              · have h := it_neg c6 h
                refine lv_aload_n hx hb dX11_goRing_97 rfl (lv_at hl 0 rfl) ?_
                refine r_get E frX11_51 hS 0 rfl rfl dX11_goRing_98 ?_
                refine lv_iload_n hx hb dX11_goRing_101 rfl (lv_at hl 1 rfl) ?_
                refine lv_iload_n hx hb dX11_goRing_102 rfl (lv_at hl 3 rfl) ?_
                obtain ⟨g7, h⟩ := gi_some h
                refine r_iast (ws' := [oX11 q0 (.ref q1) (.int v_people) u0_2 u0_3 u0_4 u0_5 u0_6 u0_7 u0_8 u0_9 u0_10 u0_11 u0_12 u0_13 u0_14 u0_15 u0_16 u0_17 u0_18 u0_19 u0_20 u0_21 u0_22 u0_23 u0_24 (.ref q2) (.ref q3) (.int x55_1) u0_28 u0_29 u0_30 u0_31 u0_32 u0_33 u0_34 u0_35 u0_36 u0_37 u0_38 u0_39 u0_40, aI cy q1 37 v_now, aI cy q2 7 (upd x55_2 p1.toNatClampNeg x55_0), aI cy q3 7 x55_3]) E hS 2 rfl g7 rfl dX11_goRing_103 (fun H locs hS => ?_)
                refine lv_aload_n hx hb dX11_goRing_104 rfl (lv_at hl 0 rfl) ?_
                refine lv_iload_n hx hb dX11_goRing_105 rfl (lv_at hl 1 rfl) ?_
                refine lv_iconst (v := 1) hx hb dX11_goRing_106 (by decide) ?_
                refine lv_iadd hx hb dX11_goRing_107 ?_
                refine lv_iload_n hx hb dX11_goRing_108 rfl (lv_at hl 2 rfl) ?_
                refine lv_iconst (v := 1) hx hb dX11_goRing_109 (by decide) ?_
                refine lv_iload_n hx hb dX11_goRing_110 rfl (lv_at hl 3 rfl) ?_
                refine lv_ishl hx hb dX11_goRing_111 ?_
                refine lv_ior hx hb dX11_goRing_112 ?_
                obtain ⟨y113, e8, h⟩ := bd_some h
                refine ct_V (ws' := fun _ => [oX11 q0 (.ref q1) (.int v_people) u0_2 u0_3 u0_4 u0_5 u0_6 u0_7 u0_8 u0_9 u0_10 u0_11 u0_12 u0_13 u0_14 u0_15 u0_16 u0_17 u0_18 u0_19 u0_20 u0_21 u0_22 u0_23 u0_24 (.ref q2) (.ref q3) (.int y113.1) u0_28 u0_29 u0_30 u0_31 u0_32 u0_33 u0_34 u0_35 u0_36 u0_37 u0_38 u0_39 u0_40, aI cy q1 37 v_now, aI cy q2 7 y113.2.1, aI cy q3 7 y113.2.2]) (st' := []) (rest := []) E hS vlX11_320 (ih0 q0 q1 q2 q3 u0_2 u0_3 u0_4 u0_5 u0_6 u0_7 u0_8 u0_9 u0_10 u0_11 u0_12 u0_13 u0_14 u0_15 u0_16 u0_17 u0_18 u0_19 u0_20 u0_21 u0_22 u0_23 u0_24 u0_28 u0_29 u0_30 u0_31 u0_32 u0_33 u0_34 u0_35 u0_36 u0_37 u0_38 u0_39 u0_40 v_people x55_1 v_now (upd x55_2 p1.toNatClampNeg x55_0) x55_3 (p1 + (1 : Int32)) (p2 ||| ((1 : Int32) <<< (x55_0 &&& 31))) y113 e8) [0, 1, 2, 3] rfl rfl (fun _ => rfl) (fun _ => rfl) rfl rfl rfl rfl (Nat.le_of_ble_eq_true rfl) hl.1 (by rw [hRf]; omega) (by rw [hRl]; omega) ⟨Nat.zero_le _, Nat.zero_le _⟩ dX11_goRing_113 rfl (fun H locs _ hS => ?_)
                refine lv_iinc (v := (x55_0 + (1 : Int32))) (lv' := [(3, .int (x55_0 + (1 : Int32))), (0, .ref q0), (1, .int p1), (2, .int p2)]) hx hb dX11_goRing_116 hl (k := 3) rfl rfl (by decide) rfl (fun ls hl => ?_)
                refine lv_goto (tgt := 55) hx hb dX11_goRing_119 (by decide) ?_
                exact ih55 (x55_0 + (1 : Int32)) y113.1 y113.2.1 y113.2.2 y55  H locs ls (hz55a _ (Option.some.inj h).symm) hS (lv_sub hl [1, 2, 3, 0] rfl) hk55_0
              · have h := it_pos c6 h
                refine lv_goto (tgt := 116) hx hb dX11_goRing_94 (by decide) ?_
                refine lv_iinc (v := (x55_0 + (1 : Int32))) (lv' := [(3, .int (x55_0 + (1 : Int32))), (0, .ref q0), (1, .int p1), (2, .int p2)]) hx hb dX11_goRing_116 hl (k := 3) rfl rfl (by decide) rfl (fun ls hl => ?_)
                refine lv_goto (tgt := 55) hx hb dX11_goRing_119 (by decide) ?_
                exact ih55 (x55_0 + (1 : Int32)) x55_1 x55_2 x55_3 y55  H locs ls (hz55a _ (Option.some.inj h).symm) hS (lv_sub hl [1, 2, 3, 0] rfl) hk55_0
      obtain ⟨y55, e55, h⟩ := bd_some h
      refine hL55 1000 ((v_line (0 : Int32).toNatClampNeg) + (1 : Int32)) j46_v_bestMany v_line j46_v_bestLine y55  H locs ls e55 hS (lv_sub hl [1, 2, 3, 0] rfl) (fun y55_0 y55_1 y55_2 ey55 H locs ls hS hl => ?_)
      subst ey55
      have h := un_r h
      have h := un_r h
      obtain rfl := Option.some.inj h
      exact rt_v E hQ (.null) hS dX11_goRing_122
    refine lv_icmp_le (tgt := 46) hx hb dX11_goRing_2 (by decide) (fun c9 => ?_) (fun c9 => ?_)
    · have h := it_pos c9 h
      exact hJ46 v_bestMany v_bestLine  H locs ls h hS (lv_sub hl [0, 1, 2] rfl)
    · have h := it_neg c9 h
      refine lv_iload_n hx hb dX11_goRing_5 rfl (lv_at hl 1 rfl) ?_
      refine lv_aload_n hx hb dX11_goRing_6 rfl (lv_at hl 0 rfl) ?_
      refine r_get E frX11_308 hS 0 rfl rfl dX11_goRing_7 ?_
      refine lv_icmp_ge (tgt := 46) hx hb dX11_goRing_10 (by decide) (fun c10 => ?_) (fun c10 => ?_)
      · have h := it_pos c10 h
        exact hJ46 v_bestMany v_bestLine  H locs ls h hS (lv_sub hl [0, 1, 2] rfl)
      · have h := it_neg c10 h
        refine lv_aload_n hx hb dX11_goRing_13 rfl (lv_at hl 0 rfl) ?_
        refine r_get E frX11_9 hS 0 rfl rfl dX11_goRing_14 ?_
        refine lv_bipush (v := 28) hx hb dX11_goRing_17 (by decide) ?_
        refine lv_aload_n hx hb dX11_goRing_19 rfl (lv_at hl 0 rfl) ?_
        refine r_get E frX11_51 hS 0 rfl rfl dX11_goRing_20 ?_
        refine lv_iload_n hx hb dX11_goRing_23 rfl (lv_at hl 1 rfl) ?_
        refine lv_iconst (v := 1) hx hb dX11_goRing_24 (by decide) ?_
        refine lv_isub hx hb dX11_goRing_25 ?_
        obtain ⟨g11, h⟩ := gi_some h
        refine r_iald E hS 2 rfl g11 dX11_goRing_26 ?_
        refine lv_iadd hx hb dX11_goRing_27 ?_
        obtain ⟨g12, h⟩ := gi_some h
        refine r_iald E hS 1 rfl g12 dX11_goRing_28 ?_
        refine lv_aload_n hx hb dX11_goRing_29 rfl (lv_at hl 0 rfl) ?_
        refine r_get E frX11_51 hS 0 rfl rfl dX11_goRing_30 ?_
        refine lv_iconst (v := 0) hx hb dX11_goRing_33 (by decide) ?_
        obtain ⟨g13, h⟩ := gi_some h
        refine r_iald E hS 2 rfl g13 dX11_goRing_34 ?_
        refine ct_S (ws' := fun _ => [oX11 q0 (.ref q1) (.int v_people) u0_2 u0_3 u0_4 u0_5 u0_6 u0_7 u0_8 u0_9 u0_10 u0_11 u0_12 u0_13 u0_14 u0_15 u0_16 u0_17 u0_18 u0_19 u0_20 u0_21 u0_22 u0_23 u0_24 (.ref q2) (.ref q3) (.int v_bestMany) u0_28 u0_29 u0_30 u0_31 u0_32 u0_33 u0_34 u0_35 u0_36 u0_37 u0_38 u0_39 u0_40, aI cy q1 37 v_now, aI cy q2 7 v_line, aI cy q3 7 v_bestLine]) (st' := [.int (X11_has (v_now ((28 : Int32) + (v_line (p1 - (1 : Int32)).toNatClampNeg)).toNatClampNeg) (v_line (0 : Int32).toNatClampNeg))]) (rest := []) E hS slX11_196 (c_X11_has (l := l) (D := D) (cy := cy) (p0 := (v_now ((28 : Int32) + (v_line (p1 - (1 : Int32)).toNatClampNeg)).toNatClampNeg)) (p1 := (v_line (0 : Int32).toNatClampNeg)) (r := (X11_has (v_now ((28 : Int32) + (v_line (p1 - (1 : Int32)).toNatClampNeg)).toNatClampNeg) (v_line (0 : Int32).toNatClampNeg))) rfl) [] rfl rfl (fun _ => rfl) (fun _ => rfl) rfl rfl (Nat.le_of_ble_eq_true rfl) hl.1 (by rw [hRf]; omega) (by rw [hRl]; omega) ⟨Nat.zero_le _, Nat.zero_le _⟩ dX11_goRing_35 rfl (fun H locs _ hS => ?_)
        refine lv_if_eq (tgt := 46) hx hb dX11_goRing_38 (by decide) (fun c14 => ?_) (fun c14 => ?_)
        · have h := it_pos c14 h
          exact hJ46 v_bestMany v_bestLine  H locs ls h hS (lv_sub hl [0, 1, 2] rfl)
        · have h := it_neg c14 h
          refine lv_aload_n hx hb dX11_goRing_41 rfl (lv_at hl 0 rfl) ?_
          refine lv_iload_n hx hb dX11_goRing_42 rfl (lv_at hl 1 rfl) ?_
          obtain ⟨y43, e15, h⟩ := bd_some h
          refine ct_V (ws' := fun _ => [oX11 q0 (.ref q1) (.int v_people) u0_2 u0_3 u0_4 u0_5 u0_6 u0_7 u0_8 u0_9 u0_10 u0_11 u0_12 u0_13 u0_14 u0_15 u0_16 u0_17 u0_18 u0_19 u0_20 u0_21 u0_22 u0_23 u0_24 (.ref q2) (.ref q3) (.int y43.1) u0_28 u0_29 u0_30 u0_31 u0_32 u0_33 u0_34 u0_35 u0_36 u0_37 u0_38 u0_39 u0_40, aI cy q1 37 v_now, aI cy q2 7 v_line, aI cy q3 7 y43.2]) (st' := []) (rest := []) E hS vlX11_311 (c_X11_layBest (l := l) (D := D) (cy := cy) (q0 := q0) (q1 := q2) (q2 := q3) (u0_0 := .ref q1) (u0_1 := .int v_people) (u0_2 := u0_2) (u0_3 := u0_3) (u0_4 := u0_4) (u0_5 := u0_5) (u0_6 := u0_6) (u0_7 := u0_7) (u0_8 := u0_8) (u0_9 := u0_9) (u0_10 := u0_10) (u0_11 := u0_11) (u0_12 := u0_12) (u0_13 := u0_13) (u0_14 := u0_14) (u0_15 := u0_15) (u0_16 := u0_16) (u0_17 := u0_17) (u0_18 := u0_18) (u0_19 := u0_19) (u0_20 := u0_20) (u0_21 := u0_21) (u0_22 := u0_22) (u0_23 := u0_23) (u0_24 := u0_24) (u0_28 := u0_28) (u0_29 := u0_29) (u0_30 := u0_30) (u0_31 := u0_31) (u0_32 := u0_32) (u0_33 := u0_33) (u0_34 := u0_34) (u0_35 := u0_35) (u0_36 := u0_36) (u0_37 := u0_37) (u0_38 := u0_38) (u0_39 := u0_39) (u0_40 := u0_40) (v_bestMany := v_bestMany) (v_line := v_line) (v_bestLine := v_bestLine) (p1 := p1) (r := y43) e15) [0, 2, 3] rfl rfl (fun _ => rfl) (fun _ => rfl) rfl rfl rfl rfl (Nat.le_of_ble_eq_true rfl) hl.1 (by rw [hRf]; omega) (by rw [hRl]; omega) ⟨Nat.zero_le _, Nat.zero_le _⟩ dX11_goRing_43 rfl (fun H locs _ hS => ?_)
          exact hJ46 y43.1 y43.2  H locs ls h hS (lv_sub hl [0, 1, 2] rfl)
theorem c_X11_goRing {l : Launch} {D : va_G} {cy : Nat → ClassId} (q0 : Nat) (q1 : Nat) (q2 : Nat) (q3 : Nat) (u0_2 : Value) (u0_3 : Value) (u0_4 : Value) (u0_5 : Value) (u0_6 : Value) (u0_7 : Value) (u0_8 : Value) (u0_9 : Value) (u0_10 : Value) (u0_11 : Value) (u0_12 : Value) (u0_13 : Value) (u0_14 : Value) (u0_15 : Value) (u0_16 : Value) (u0_17 : Value) (u0_18 : Value) (u0_19 : Value) (u0_20 : Value) (u0_21 : Value) (u0_22 : Value) (u0_23 : Value) (u0_24 : Value) (u0_28 : Value) (u0_29 : Value) (u0_30 : Value) (u0_31 : Value) (u0_32 : Value) (u0_33 : Value) (u0_34 : Value) (u0_35 : Value) (u0_36 : Value) (u0_37 : Value) (u0_38 : Value) (u0_39 : Value) (u0_40 : Value) (v_people : Int32) (v_bestMany : Int32) (v_now : Nat → Int32) (v_line : Nat → Int32) (v_bestLine : Nat → Int32) (p1 : Int32) (p2 : Int32) (r : Int32 × (Nat → Int32) × (Nat → Int32)) (h : X11_ringr 100 v_people v_bestMany v_now v_line v_bestLine p1 p2 = some r) : Ct l yX11_goRing cX11_goRing 4 none 101 2322 D cy [.ref q0, .int p1, .int p2] [oX11 q0 (.ref q1) (.int v_people) u0_2 u0_3 u0_4 u0_5 u0_6 u0_7 u0_8 u0_9 u0_10 u0_11 u0_12 u0_13 u0_14 u0_15 u0_16 u0_17 u0_18 u0_19 u0_20 u0_21 u0_22 u0_23 u0_24 (.ref q2) (.ref q3) (.int v_bestMany) u0_28 u0_29 u0_30 u0_31 u0_32 u0_33 u0_34 u0_35 u0_36 u0_37 u0_38 u0_39 u0_40, aI cy q1 37 v_now, aI cy q2 7 v_line, aI cy q3 7 v_bestLine] (fun _ => [oX11 q0 (.ref q1) (.int v_people) u0_2 u0_3 u0_4 u0_5 u0_6 u0_7 u0_8 u0_9 u0_10 u0_11 u0_12 u0_13 u0_14 u0_15 u0_16 u0_17 u0_18 u0_19 u0_20 u0_21 u0_22 u0_23 u0_24 (.ref q2) (.ref q3) (.int r.1) u0_28 u0_29 u0_30 u0_31 u0_32 u0_33 u0_34 u0_35 u0_36 u0_37 u0_38 u0_39 u0_40, aI cy q1 37 v_now, aI cy q2 7 r.2.1, aI cy q3 7 r.2.2]) (none) := (g_X11_ringr 100) q0 q1 q2 q3 u0_2 u0_3 u0_4 u0_5 u0_6 u0_7 u0_8 u0_9 u0_10 u0_11 u0_12 u0_13 u0_14 u0_15 u0_16 u0_17 u0_18 u0_19 u0_20 u0_21 u0_22 u0_23 u0_24 u0_28 u0_29 u0_30 u0_31 u0_32 u0_33 u0_34 u0_35 u0_36 u0_37 u0_38 u0_39 u0_40 v_people v_bestMany v_now v_line v_bestLine p1 p2 r h
set_option maxHeartbeats 4000000 in
set_option maxRecDepth 100000 in
theorem c_X11_ring {l : Launch} {D : va_G} {cy : Nat → ClassId} (q0 : Nat) (q1 : Nat) (q2 : Nat) (q3 : Nat) (q4 : Nat) (u0_2 : Value) (u0_3 : Value) (u0_7 : Value) (u0_8 : Value) (u0_9 : Value) (u0_10 : Value) (u0_11 : Value) (u0_12 : Value) (u0_13 : Value) (u0_14 : Value) (u0_15 : Value) (u0_16 : Value) (u0_17 : Value) (u0_18 : Value) (u0_19 : Value) (u0_20 : Value) (u0_21 : Value) (u0_22 : Value) (u0_23 : Value) (u0_24 : Value) (u0_28 : Value) (u0_29 : Value) (u0_30 : Value) (u0_31 : Value) (u0_32 : Value) (u0_33 : Value) (u0_34 : Value) (u0_35 : Value) (u0_36 : Value) (u0_37 : Value) (u0_38 : Value) (u0_39 : Value) (u0_40 : Value) (v_people : Int32) (v_rowMany : Int32) (v_thrown : Int32) (v_bestMany : Int32) (v_now : Nat → Int32) (v_row : Nat → Int64) (v_line : Nat → Int32) (v_bestLine : Nat → Int32) (r : Int32 × Int32 × Int32 × Int32 × (Nat → Int64) × (Nat → Int32) × (Nat → Int32)) (h : X11_ring v_people v_rowMany v_now v_row v_line v_bestLine = some r) : Ct l yX11_ring cX11_ring 2 (some .int) 102 2345 D cy [.ref q0] [oX11 q0 (.ref q1) (.int v_people) u0_2 u0_3 (.ref q2) (.int v_rowMany) (.int v_thrown) u0_7 u0_8 u0_9 u0_10 u0_11 u0_12 u0_13 u0_14 u0_15 u0_16 u0_17 u0_18 u0_19 u0_20 u0_21 u0_22 u0_23 u0_24 (.ref q3) (.ref q4) (.int v_bestMany) u0_28 u0_29 u0_30 u0_31 u0_32 u0_33 u0_34 u0_35 u0_36 u0_37 u0_38 u0_39 u0_40, aI cy q1 37 v_now, aJ cy q2 16 v_row, aI cy q3 7 v_line, aI cy q4 7 v_bestLine] (fun _ => [oX11 q0 (.ref q1) (.int v_people) u0_2 u0_3 (.ref q2) (.int r.2.1) (.int r.2.2.1) u0_7 u0_8 u0_9 u0_10 u0_11 u0_12 u0_13 u0_14 u0_15 u0_16 u0_17 u0_18 u0_19 u0_20 u0_21 u0_22 u0_23 u0_24 (.ref q3) (.ref q4) (.int r.2.2.2.1) u0_28 u0_29 u0_30 u0_31 u0_32 u0_33 u0_34 u0_35 u0_36 u0_37 u0_38 u0_39 u0_40, aI cy q1 37 v_now, aJ cy q2 16 r.2.2.2.2.1, aI cy q3 7 r.2.2.2.2.2.1, aI cy q4 7 r.2.2.2.2.2.2]) (some (.int r.1)) := by
  refine Ct.mk kX11_ring (by decide +kernel) (Nat.le_of_ble_eq_true rfl) ?_
  intro p e s m below meth c A ls args R Q hRf hRl hQ E H locs hS hl
  have hx := E.x
  have hb := E.b
  have hl : lv_has ls 2 [(0, .ref q0)] := hl
  unfold X11_ring at h
  refine lv_aload_n hx hb dX11_ring_0 rfl (lv_at hl 0 rfl) ?_
  refine lv_iconst (v := 0) hx hb dX11_ring_1 (by decide) ?_
  refine r_put (ws' := [oX11 q0 (.ref q1) (.int v_people) u0_2 u0_3 (.ref q2) (.int v_rowMany) (.int (0 : Int32)) u0_7 u0_8 u0_9 u0_10 u0_11 u0_12 u0_13 u0_14 u0_15 u0_16 u0_17 u0_18 u0_19 u0_20 u0_21 u0_22 u0_23 u0_24 (.ref q3) (.ref q4) (.int v_bestMany) u0_28 u0_29 u0_30 u0_31 u0_32 u0_33 u0_34 u0_35 u0_36 u0_37 u0_38 u0_39 u0_40, aI cy q1 37 v_now, aJ cy q2 16 v_row, aI cy q3 7 v_line, aI cy q4 7 v_bestLine]) E frX11_85 hS 0 rfl (Nat.le_of_ble_eq_true rfl) rfl rfl rfl rfl dX11_ring_2 (fun H locs hS => ?_)
  refine lv_aload_n hx hb dX11_ring_5 rfl (lv_at hl 0 rfl) ?_
  refine lv_ldcw hx hb E.ow (E.ts _ cnX11_307) dX11_ring_6 ?_
  refine r_put (ws' := [oX11 q0 (.ref q1) (.int v_people) u0_2 u0_3 (.ref q2) (.int v_rowMany) (.int (0 : Int32)) u0_7 u0_8 u0_9 u0_10 u0_11 u0_12 u0_13 u0_14 u0_15 u0_16 u0_17 u0_18 u0_19 u0_20 u0_21 u0_22 u0_23 u0_24 (.ref q3) (.ref q4) (.int (1000000 : Int32)) u0_28 u0_29 u0_30 u0_31 u0_32 u0_33 u0_34 u0_35 u0_36 u0_37 u0_38 u0_39 u0_40, aI cy q1 37 v_now, aJ cy q2 16 v_row, aI cy q3 7 v_line, aI cy q4 7 v_bestLine]) E frX11_308 hS 0 rfl (Nat.le_of_ble_eq_true rfl) rfl rfl rfl rfl dX11_ring_9 (fun H locs hS => ?_)
  refine lv_iconst (v := 0) hx hb dX11_ring_12 (by decide) ?_
  refine lv_istore_n (lv' := [(1, .int (0 : Int32)), (0, .ref q0)]) hx hb dX11_ring_13 rfl hl (by decide) rfl (fun ls hl => ?_)
  have hL14 : ∀ (n : Nat) (x14_0 : Int32) (x14_1 : Int32) (x14_2 : Nat → Int32) (x14_3 : Nat → Int32) (y14 : Int32 × (Nat → Int32) × (Nat → Int32)) (H : Heap) (locs : List Loc) (ls : Array Slot), lp (fun x14 => X11_ring_s14 v_people v_now x14.1 x14.2.1 x14.2.2.1 x14.2.2.2) n (x14_0, x14_1, x14_2, x14_3) = some y14 → Sv D A s.heap [oX11 q0 (.ref q1) (.int v_people) u0_2 u0_3 (.ref q2) (.int v_rowMany) (.int (0 : Int32)) u0_7 u0_8 u0_9 u0_10 u0_11 u0_12 u0_13 u0_14 u0_15 u0_16 u0_17 u0_18 u0_19 u0_20 u0_21 u0_22 u0_23 u0_24 (.ref q3) (.ref q4) (.int x14_1) u0_28 u0_29 u0_30 u0_31 u0_32 u0_33 u0_34 u0_35 u0_36 u0_37 u0_38 u0_39 u0_40, aI cy q1 37 v_now, aJ cy q2 16 v_row, aI cy q3 7 x14_2, aI cy q4 7 x14_3] H locs → lv_has ls 2 [(0, .ref q0), (1, .int x14_0)] → ( ∀ (y14_0 : Int32) (y14_1 : Nat → Int32) (y14_2 : Nat → Int32), (y14_0, y14_1, y14_2) = y14 → ∀ (H : Heap) (locs : List Loc) (ls : Array Slot), Sv D A s.heap [oX11 q0 (.ref q1) (.int v_people) u0_2 u0_3 (.ref q2) (.int v_rowMany) (.int (0 : Int32)) u0_7 u0_8 u0_9 u0_10 u0_11 u0_12 u0_13 u0_14 u0_15 u0_16 u0_17 u0_18 u0_19 u0_20 u0_21 u0_22 u0_23 u0_24 (.ref q3) (.ref q4) (.int y14_0) u0_28 u0_29 u0_30 u0_31 u0_32 u0_33 u0_34 u0_35 u0_36 u0_37 u0_38 u0_39 u0_40, aI cy q1 37 v_now, aJ cy q2 16 v_row, aI cy q3 7 y14_1, aI cy q4 7 y14_2] H locs → lv_has ls 2 [(0, .ref q0)] → W p l e R s m args below meth c H locs 0 0 Q (F0 m 43 ls [])) → W p l e R s m args below meth c H locs 0 0 Q (F0 m 14 ls []) := by
    intro n
    induction n with
    | zero =>
      intro x14_0 x14_1 x14_2 x14_3 y14 H locs ls h
      exact lp_zero h
    | succ n ih14 =>
      intro x14_0 x14_1 x14_2 x14_3 y14 H locs ls h hS hl hk14_0
      obtain ⟨z14, h, hz14a, hz14b⟩ := lp_succ h
      have h : X11_ring_s14 v_people v_now x14_0 x14_1 x14_2 x14_3 = some z14 := h
      unfold X11_ring_s14 at h
      refine lv_iload_n hx hb dX11_ring_14 rfl (lv_at hl 1 rfl) ?_
      refine lv_aload_n hx hb dX11_ring_15 rfl (lv_at hl 0 rfl) ?_
      refine r_get E frX11_92 hS 0 rfl rfl dX11_ring_16 ?_
      refine lv_icmp_ge (tgt := 43) hx hb dX11_ring_19 (by decide) (fun c1 => ?_) (fun c1 => ?_)
      · have h := it_pos c1 h
        exact hk14_0 x14_1 x14_2 x14_3 (hz14b _ (Option.some.inj h).symm)  H locs ls hS (lv_sub hl [0] rfl)
      · have h := it_neg c1 h
        refine lv_aload_n hx hb dX11_ring_22 rfl (lv_at hl 0 rfl) ?_
        refine r_get E frX11_51 hS 0 rfl rfl dX11_ring_23 ?_
        refine lv_iconst (v := 0) hx hb dX11_ring_26 (by decide) ?_
        refine lv_iload_n hx hb dX11_ring_27 rfl (lv_at hl 1 rfl) ?_
        obtain ⟨g2, h⟩ := gi_some h
        refine r_iast (ws' := [oX11 q0 (.ref q1) (.int v_people) u0_2 u0_3 (.ref q2) (.int v_rowMany) (.int (0 : Int32)) u0_7 u0_8 u0_9 u0_10 u0_11 u0_12 u0_13 u0_14 u0_15 u0_16 u0_17 u0_18 u0_19 u0_20 u0_21 u0_22 u0_23 u0_24 (.ref q3) (.ref q4) (.int x14_1) u0_28 u0_29 u0_30 u0_31 u0_32 u0_33 u0_34 u0_35 u0_36 u0_37 u0_38 u0_39 u0_40, aI cy q1 37 v_now, aJ cy q2 16 v_row, aI cy q3 7 (upd x14_2 (0 : Int32).toNatClampNeg x14_0), aI cy q4 7 x14_3]) E hS 3 rfl g2 rfl dX11_ring_28 (fun H locs hS => ?_)
        refine lv_aload_n hx hb dX11_ring_29 rfl (lv_at hl 0 rfl) ?_
        refine lv_iconst (v := 1) hx hb dX11_ring_30 (by decide) ?_
        refine lv_iconst (v := 1) hx hb dX11_ring_31 (by decide) ?_
        refine lv_iload_n hx hb dX11_ring_32 rfl (lv_at hl 1 rfl) ?_
        refine lv_ishl hx hb dX11_ring_33 ?_
        obtain ⟨y34, e3, h⟩ := bd_some h
        refine ct_V (ws' := fun _ => [oX11 q0 (.ref q1) (.int v_people) u0_2 u0_3 (.ref q2) (.int v_rowMany) (.int (0 : Int32)) u0_7 u0_8 u0_9 u0_10 u0_11 u0_12 u0_13 u0_14 u0_15 u0_16 u0_17 u0_18 u0_19 u0_20 u0_21 u0_22 u0_23 u0_24 (.ref q3) (.ref q4) (.int y34.1) u0_28 u0_29 u0_30 u0_31 u0_32 u0_33 u0_34 u0_35 u0_36 u0_37 u0_38 u0_39 u0_40, aI cy q1 37 v_now, aJ cy q2 16 v_row, aI cy q3 7 y34.2.1, aI cy q4 7 y34.2.2]) (st' := []) (rest := []) E hS vlX11_320 (c_X11_goRing (l := l) (D := D) (cy := cy) (q0 := q0) (q1 := q1) (q2 := q3) (q3 := q4) (u0_2 := u0_2) (u0_3 := u0_3) (u0_4 := .ref q2) (u0_5 := .int v_rowMany) (u0_6 := .int (0 : Int32)) (u0_7 := u0_7) (u0_8 := u0_8) (u0_9 := u0_9) (u0_10 := u0_10) (u0_11 := u0_11) (u0_12 := u0_12) (u0_13 := u0_13) (u0_14 := u0_14) (u0_15 := u0_15) (u0_16 := u0_16) (u0_17 := u0_17) (u0_18 := u0_18) (u0_19 := u0_19) (u0_20 := u0_20) (u0_21 := u0_21) (u0_22 := u0_22) (u0_23 := u0_23) (u0_24 := u0_24) (u0_28 := u0_28) (u0_29 := u0_29) (u0_30 := u0_30) (u0_31 := u0_31) (u0_32 := u0_32) (u0_33 := u0_33) (u0_34 := u0_34) (u0_35 := u0_35) (u0_36 := u0_36) (u0_37 := u0_37) (u0_38 := u0_38) (u0_39 := u0_39) (u0_40 := u0_40) (v_people := v_people) (v_bestMany := x14_1) (v_now := v_now) (v_line := (upd x14_2 (0 : Int32).toNatClampNeg x14_0)) (v_bestLine := x14_3) (p1 := (1 : Int32)) (p2 := ((1 : Int32) <<< (x14_0 &&& 31))) (r := y34) e3) [0, 1, 3, 4] rfl rfl (fun _ => rfl) (fun _ => rfl) rfl rfl rfl rfl (Nat.le_of_ble_eq_true rfl) hl.1 (by rw [hRf]; exact Nat.le_of_ble_eq_true rfl) (by rw [hRl]; exact Nat.le_of_ble_eq_true rfl) ⟨Nat.zero_le _, Nat.zero_le _⟩ dX11_ring_34 rfl (fun H locs _ hS => ?_)
        refine lv_iinc (v := (x14_0 + (1 : Int32))) (lv' := [(1, .int (x14_0 + (1 : Int32))), (0, .ref q0)]) hx hb dX11_ring_37 hl (k := 1) rfl rfl (by decide) rfl (fun ls hl => ?_)
        refine lv_goto (tgt := 14) hx hb dX11_ring_40 (by decide) ?_
        exact ih14 (x14_0 + (1 : Int32)) y34.1 y34.2.1 y34.2.2 y14  H locs ls (hz14a _ (Option.some.inj h).symm) hS (lv_sub hl [1, 0] rfl) hk14_0
  obtain ⟨y14, e14, h⟩ := bd_some h
  refine hL14 1000 (0 : Int32) (1000000 : Int32) v_line v_bestLine y14  H locs ls e14 hS (lv_sub hl [1, 0] rfl) (fun y14_0 y14_1 y14_2 ey14 H locs ls hS hl => ?_)
  subst ey14
  have h := un_r h
  have h := un_r h
  refine lv_aload_n hx hb dX11_ring_43 rfl (lv_at hl 0 rfl) ?_
  refine r_get E frX11_308 hS 0 rfl rfl dX11_ring_44 ?_
  refine lv_ldcw hx hb E.ow (E.ts _ cnX11_307) dX11_ring_47 ?_
  refine lv_icmp_ne (tgt := 58) hx hb dX11_ring_50 (by decide) (fun c4 => ?_) (fun c4 => ?_)
  · have h := it_neg c4 h
    refine lv_aload_n hx hb dX11_ring_58 rfl (lv_at hl 0 rfl) ?_
    obtain ⟨y59, e5, h⟩ := bd_some h
    refine ct_V (ws' := fun _ => [oX11 q0 (.ref q1) (.int v_people) u0_2 u0_3 (.ref q2) (.int y59.2.1) (.int (0 : Int32)) u0_7 u0_8 u0_9 u0_10 u0_11 u0_12 u0_13 u0_14 u0_15 u0_16 u0_17 u0_18 u0_19 u0_20 u0_21 u0_22 u0_23 u0_24 (.ref q3) (.ref q4) (.int y14_0) u0_28 u0_29 u0_30 u0_31 u0_32 u0_33 u0_34 u0_35 u0_36 u0_37 u0_38 u0_39 u0_40, aI cy q1 37 v_now, aJ cy q2 16 y59.2.2, aI cy q3 7 y14_1, aI cy q4 7 y14_2]) (st' := [.int y59.1]) (rest := []) E hS vlX11_317 (c_X11_tellBest (l := l) (D := D) (cy := cy) (q0 := q0) (q1 := q2) (q2 := q4) (u0_0 := .ref q1) (u0_1 := .int v_people) (u0_2 := u0_2) (u0_3 := u0_3) (u0_6 := .int (0 : Int32)) (u0_7 := u0_7) (u0_8 := u0_8) (u0_9 := u0_9) (u0_10 := u0_10) (u0_11 := u0_11) (u0_12 := u0_12) (u0_13 := u0_13) (u0_14 := u0_14) (u0_15 := u0_15) (u0_16 := u0_16) (u0_17 := u0_17) (u0_18 := u0_18) (u0_19 := u0_19) (u0_20 := u0_20) (u0_21 := u0_21) (u0_22 := u0_22) (u0_23 := u0_23) (u0_24 := u0_24) (u0_25 := .ref q3) (u0_28 := u0_28) (u0_29 := u0_29) (u0_30 := u0_30) (u0_31 := u0_31) (u0_32 := u0_32) (u0_33 := u0_33) (u0_34 := u0_34) (u0_35 := u0_35) (u0_36 := u0_36) (u0_37 := u0_37) (u0_38 := u0_38) (u0_39 := u0_39) (u0_40 := u0_40) (v_rowMany := v_rowMany) (v_bestMany := y14_0) (v_row := v_row) (v_bestLine := y14_2) (r := y59) e5) [0, 2, 4] rfl rfl (fun _ => rfl) (fun _ => rfl) rfl rfl rfl rfl (Nat.le_of_ble_eq_true rfl) hl.1 (by rw [hRf]; exact Nat.le_of_ble_eq_true rfl) (by rw [hRl]; exact Nat.le_of_ble_eq_true rfl) ⟨Nat.zero_le _, Nat.zero_le _⟩ dX11_ring_59 rfl (fun H locs _ hS => ?_)
    obtain rfl := Option.some.inj h
    exact rt_i E hQ (.null) hS dX11_ring_62
  · have h := it_pos c4 h
    refine lv_bipush (v := -2) hx hb dX11_ring_53 (by decide) ?_
    refine lv_goto (tgt := 62) hx hb dX11_ring_55 (by decide) ?_
    obtain rfl := Option.some.inj h
    exact rt_i E hQ (.null) hS dX11_ring_62
set_option maxHeartbeats 4000000 in
set_option maxRecDepth 100000 in
theorem c_X11_areFriends {l : Launch} {D : va_G} {cy : Nat → ClassId} (q0 : Nat) (q1 : Nat) (u0_2 : Value) (u0_3 : Value) (u0_4 : Value) (u0_5 : Value) (u0_6 : Value) (u0_7 : Value) (u0_8 : Value) (u0_9 : Value) (u0_10 : Value) (u0_11 : Value) (u0_12 : Value) (u0_13 : Value) (u0_14 : Value) (u0_15 : Value) (u0_16 : Value) (u0_17 : Value) (u0_18 : Value) (u0_19 : Value) (u0_20 : Value) (u0_21 : Value) (u0_22 : Value) (u0_23 : Value) (u0_24 : Value) (u0_25 : Value) (u0_26 : Value) (u0_27 : Value) (u0_28 : Value) (u0_29 : Value) (u0_30 : Value) (u0_31 : Value) (u0_32 : Value) (u0_33 : Value) (u0_34 : Value) (u0_35 : Value) (u0_36 : Value) (u0_37 : Value) (u0_38 : Value) (u0_39 : Value) (u0_40 : Value) (v_people : Int32) (v_now : Nat → Int32) (p1 : Int32) (r : Int32) (h : X11_areFriends v_people v_now p1 = some r) : Ct l yX11_areFriends cX11_areFriends 3 (some .boolean) 1 21 D cy [.ref q0, .int p1] [oX11 q0 (.ref q1) (.int v_people) u0_2 u0_3 u0_4 u0_5 u0_6 u0_7 u0_8 u0_9 u0_10 u0_11 u0_12 u0_13 u0_14 u0_15 u0_16 u0_17 u0_18 u0_19 u0_20 u0_21 u0_22 u0_23 u0_24 u0_25 u0_26 u0_27 u0_28 u0_29 u0_30 u0_31 u0_32 u0_33 u0_34 u0_35 u0_36 u0_37 u0_38 u0_39 u0_40, aI cy q1 37 v_now] (fun _ => [oX11 q0 (.ref q1) (.int v_people) u0_2 u0_3 u0_4 u0_5 u0_6 u0_7 u0_8 u0_9 u0_10 u0_11 u0_12 u0_13 u0_14 u0_15 u0_16 u0_17 u0_18 u0_19 u0_20 u0_21 u0_22 u0_23 u0_24 u0_25 u0_26 u0_27 u0_28 u0_29 u0_30 u0_31 u0_32 u0_33 u0_34 u0_35 u0_36 u0_37 u0_38 u0_39 u0_40, aI cy q1 37 v_now]) (some (.int r)) := by
  refine Ct.mk kX11_areFriends (by decide +kernel) (Nat.le_of_ble_eq_true rfl) ?_
  intro p e s m below meth c A ls args R Q hRf hRl hQ E H locs hS hl
  have hx := E.x
  have hb := E.b
  have hl : lv_has ls 3 [(0, .ref q0), (1, .int p1)] := hl
  unfold X11_areFriends at h
  refine lv_iconst (v := 0) hx hb dX11_areFriends_0 (by decide) ?_
  refine lv_istore_n (lv' := [(2, .int (0 : Int32)), (0, .ref q0), (1, .int p1)]) hx hb dX11_areFriends_1 rfl hl (by decide) rfl (fun ls hl => ?_)
  have hL2 : ∀ (n : Nat) (x2_0 : Int32) (y2 : (Unit) ⊕ (Unit)) (H : Heap) (locs : List Loc) (ls : Array Slot), lp (fun x2 => X11_areFriends_s2 v_people v_now p1 x2) n x2_0 = some y2 → Sv D A s.heap [oX11 q0 (.ref q1) (.int v_people) u0_2 u0_3 u0_4 u0_5 u0_6 u0_7 u0_8 u0_9 u0_10 u0_11 u0_12 u0_13 u0_14 u0_15 u0_16 u0_17 u0_18 u0_19 u0_20 u0_21 u0_22 u0_23 u0_24 u0_25 u0_26 u0_27 u0_28 u0_29 u0_30 u0_31 u0_32 u0_33 u0_34 u0_35 u0_36 u0_37 u0_38 u0_39 u0_40, aI cy q1 37 v_now] H locs → lv_has ls 3 [(0, .ref q0), (1, .int p1), (2, .int x2_0)] → ( .inl () = y2 → ∀ (H : Heap) (locs : List Loc) (ls : Array Slot), Sv D A s.heap [oX11 q0 (.ref q1) (.int v_people) u0_2 u0_3 u0_4 u0_5 u0_6 u0_7 u0_8 u0_9 u0_10 u0_11 u0_12 u0_13 u0_14 u0_15 u0_16 u0_17 u0_18 u0_19 u0_20 u0_21 u0_22 u0_23 u0_24 u0_25 u0_26 u0_27 u0_28 u0_29 u0_30 u0_31 u0_32 u0_33 u0_34 u0_35 u0_36 u0_37 u0_38 u0_39 u0_40, aI cy q1 37 v_now] H locs → lv_has ls 3 [] → W p l e R s m args below meth c H locs 0 0 Q (F0 m 46 ls [])) → ( .inr () = y2 → ∀ (H : Heap) (locs : List Loc) (ls : Array Slot), Sv D A s.heap [oX11 q0 (.ref q1) (.int v_people) u0_2 u0_3 u0_4 u0_5 u0_6 u0_7 u0_8 u0_9 u0_10 u0_11 u0_12 u0_13 u0_14 u0_15 u0_16 u0_17 u0_18 u0_19 u0_20 u0_21 u0_22 u0_23 u0_24 u0_25 u0_26 u0_27 u0_28 u0_29 u0_30 u0_31 u0_32 u0_33 u0_34 u0_35 u0_36 u0_37 u0_38 u0_39 u0_40, aI cy q1 37 v_now] H locs → lv_has ls 3 [] → W p l e R s m args below meth c H locs 0 0 Q (F0 m 38 ls [])) → W p l e R s m args below meth c H locs 0 0 Q (F0 m 2 ls []) := by
    intro n
    induction n with
    | zero =>
      intro x2_0 y2 H locs ls h
      exact lp_zero h
    | succ n ih2 =>
      intro x2_0 y2 H locs ls h hS hl hk2_0 hk2_1
      obtain ⟨z2, h, hz2a, hz2b⟩ := lp_succ h
      have h : X11_areFriends_s2 v_people v_now p1 x2_0 = some z2 := h
      unfold X11_areFriends_s2 at h
      refine lv_iload_n hx hb dX11_areFriends_2 rfl (lv_at hl 2 rfl) ?_
      refine lv_aload_n hx hb dX11_areFriends_3 rfl (lv_at hl 0 rfl) ?_
      refine r_get E frX11_92 hS 0 rfl rfl dX11_areFriends_4 ?_
      refine lv_icmp_ge (tgt := 46) hx hb dX11_areFriends_7 (by decide) (fun c1 => ?_) (fun c1 => ?_)
      · have h := it_pos c1 h
        exact hk2_0  (hz2b _ (Option.some.inj h).symm)  H locs ls hS (lv_sub hl [] rfl)
      · have h := it_neg c1 h
        refine lv_iload_n hx hb dX11_areFriends_10 rfl (lv_at hl 1 rfl) ?_
        refine lv_iload_n hx hb dX11_areFriends_11 rfl (lv_at hl 2 rfl) ?_
        refine ct_S (ws' := fun _ => [oX11 q0 (.ref q1) (.int v_people) u0_2 u0_3 u0_4 u0_5 u0_6 u0_7 u0_8 u0_9 u0_10 u0_11 u0_12 u0_13 u0_14 u0_15 u0_16 u0_17 u0_18 u0_19 u0_20 u0_21 u0_22 u0_23 u0_24 u0_25 u0_26 u0_27 u0_28 u0_29 u0_30 u0_31 u0_32 u0_33 u0_34 u0_35 u0_36 u0_37 u0_38 u0_39 u0_40, aI cy q1 37 v_now]) (st' := [.int (X11_has p1 x2_0)]) (rest := []) E hS slX11_196 (c_X11_has (l := l) (D := D) (cy := cy) (p0 := p1) (p1 := x2_0) (r := (X11_has p1 x2_0)) rfl) [] rfl rfl (fun _ => rfl) (fun _ => rfl) rfl rfl (Nat.le_of_ble_eq_true rfl) hl.1 (by rw [hRf]; exact Nat.le_of_ble_eq_true rfl) (by rw [hRl]; exact Nat.le_of_ble_eq_true rfl) ⟨Nat.zero_le _, Nat.zero_le _⟩ dX11_areFriends_12 rfl (fun H locs _ hS => ?_)
        refine lv_if_eq (tgt := 40) hx hb dX11_areFriends_15 (by decide) (fun c2 => ?_) (fun c2 => ?_)
        · have h := it_pos c2 h
          refine lv_iinc (v := (x2_0 + (1 : Int32))) (lv' := [(2, .int (x2_0 + (1 : Int32))), (0, .ref q0), (1, .int p1)]) hx hb dX11_areFriends_40 hl (k := 2) rfl rfl (by decide) rfl (fun ls hl => ?_)
          refine lv_goto (tgt := 2) hx hb dX11_areFriends_43 (by decide) ?_
          exact ih2 (x2_0 + (1 : Int32)) y2  H locs ls (hz2a _ (Option.some.inj h).symm) hS (lv_sub hl [1, 2, 0] rfl) hk2_0 hk2_1
        · have h := it_neg c2 h
          refine lv_iload_n hx hb dX11_areFriends_18 rfl (lv_at hl 1 rfl) ?_
          refine lv_aload_n hx hb dX11_areFriends_19 rfl (lv_at hl 0 rfl) ?_
          refine r_get E frX11_9 hS 0 rfl rfl dX11_areFriends_20 ?_
          refine lv_bipush (v := 28) hx hb dX11_areFriends_23 (by decide) ?_
          refine lv_iload_n hx hb dX11_areFriends_25 rfl (lv_at hl 2 rfl) ?_
          refine lv_iadd hx hb dX11_areFriends_26 ?_
          obtain ⟨g3, h⟩ := gi_some h
          refine r_iald E hS 1 rfl g3 dX11_areFriends_27 ?_
          refine lv_iconst (v := 1) hx hb dX11_areFriends_28 (by decide) ?_
          refine lv_iload_n hx hb dX11_areFriends_29 rfl (lv_at hl 2 rfl) ?_
          refine lv_ishl hx hb dX11_areFriends_30 ?_
          refine lv_ior hx hb dX11_areFriends_31 ?_
          refine lv_iconst (v := -1) hx hb dX11_areFriends_32 (by decide) ?_
          refine lv_ixor hx hb dX11_areFriends_33 ?_
          refine lv_iand hx hb dX11_areFriends_34 ?_
          refine lv_if_eq (tgt := 40) hx hb dX11_areFriends_35 (by decide) (fun c4 => ?_) (fun c4 => ?_)
          · have h := it_pos c4 h
            refine lv_iinc (v := (x2_0 + (1 : Int32))) (lv' := [(2, .int (x2_0 + (1 : Int32))), (0, .ref q0), (1, .int p1)]) hx hb dX11_areFriends_40 hl (k := 2) rfl rfl (by decide) rfl (fun ls hl => ?_)
            refine lv_goto (tgt := 2) hx hb dX11_areFriends_43 (by decide) ?_
            exact ih2 (x2_0 + (1 : Int32)) y2  H locs ls (hz2a _ (Option.some.inj h).symm) hS (lv_sub hl [1, 2, 0] rfl) hk2_0 hk2_1
          · have h := it_neg c4 h
            exact hk2_1  (hz2b _ (Option.some.inj h).symm)  H locs ls hS (lv_sub hl [] rfl)
  obtain ⟨y2, e2, h⟩ := bd_some h
  refine hL2 1000 (0 : Int32) y2  H locs ls e2 hS (lv_sub hl [1, 2, 0] rfl) (fun ey2 H locs ls hS hl => ?_) (fun ey2 H locs ls hS hl => ?_)
  · subst ey2
    have h := sm_l h
    refine lv_iconst (v := 1) hx hb dX11_areFriends_46 (by decide) ?_
    obtain rfl := Option.some.inj h
    exact rt_n E rfl hQ (.null) hS dX11_areFriends_47
  · subst ey2
    have h := sm_r h
    refine lv_iconst (v := 0) hx hb dX11_areFriends_38 (by decide) ?_
    obtain rfl := Option.some.inj h
    exact rt_n E rfl hQ (.null) hS dX11_areFriends_39

