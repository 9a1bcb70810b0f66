set_option maxHeartbeats 4000000 in
set_option maxRecDepth 100000 in
theorem c_X11_refusesSkill {l : Launch} {D : va_G} {cy : Nat → ClassId} (q0 : Nat) (q1 : Nat) (u0_2 : Value) (u0_3 : Value) (u0_4 : Value) (u0_5 : Value) (u0_6 : Value) (u0_7 : Value) (u0_8 : Value) (u0_9 : Value) (u0_10 : Value) (u0_11 : Value) (u0_12 : Value) (u0_13 : Value) (u0_14 : Value) (u0_15 : Value) (u0_16 : Value) (u0_17 : Value) (u0_18 : Value) (u0_19 : Value) (u0_20 : Value) (u0_21 : Value) (u0_22 : Value) (u0_23 : Value) (u0_24 : Value) (u0_25 : Value) (u0_26 : Value) (u0_27 : Value) (u0_28 : Value) (u0_29 : Value) (u0_30 : Value) (u0_31 : Value) (u0_32 : Value) (u0_33 : Value) (u0_34 : Value) (u0_35 : Value) (u0_36 : Value) (u0_37 : Value) (u0_38 : Value) (u0_39 : Value) (u0_40 : Value) (v_people : Int32) (v_now : Nat → Int32) (p1 : Int32) (p2 : Int32) (r : Int32) (h : X11_refusesSkill v_people v_now p1 p2 = some r) : Ct l yX11_refusesSkill cX11_refusesSkill 3 (some .int) 2 43 D cy [.ref q0, .int p1, .int p2] [oX11 q0 (.ref q1) (.int v_people) u0_2 u0_3 u0_4 u0_5 u0_6 u0_7 u0_8 u0_9 u0_10 u0_11 u0_12 u0_13 u0_14 u0_15 u0_16 u0_17 u0_18 u0_19 u0_20 u0_21 u0_22 u0_23 u0_24 u0_25 u0_26 u0_27 u0_28 u0_29 u0_30 u0_31 u0_32 u0_33 u0_34 u0_35 u0_36 u0_37 u0_38 u0_39 u0_40, aI cy q1 37 v_now] (fun _ => [oX11 q0 (.ref q1) (.int v_people) u0_2 u0_3 u0_4 u0_5 u0_6 u0_7 u0_8 u0_9 u0_10 u0_11 u0_12 u0_13 u0_14 u0_15 u0_16 u0_17 u0_18 u0_19 u0_20 u0_21 u0_22 u0_23 u0_24 u0_25 u0_26 u0_27 u0_28 u0_29 u0_30 u0_31 u0_32 u0_33 u0_34 u0_35 u0_36 u0_37 u0_38 u0_39 u0_40, aI cy q1 37 v_now]) (some (.int r)) := by
  refine Ct.mk kX11_refusesSkill (by decide +kernel) (Nat.le_of_ble_eq_true rfl) ?_
  intro p e s m below meth c A ls args R Q hRf hRl hQ E H locs hS hl
  have hx := E.x
  have hb := E.b
  have hl : lv_has ls 3 [(0, .ref q0), (1, .int p1), (2, .int p2)] := hl
  unfold X11_refusesSkill at h
  refine lv_aload_n hx hb dX11_refusesSkill_0 rfl (lv_at hl 0 rfl) ?_
  refine lv_iload_n hx hb dX11_refusesSkill_1 rfl (lv_at hl 1 rfl) ?_
  obtain ⟨y2, e1, h⟩ := bd_some h
  refine ct_V (ws' := fun _ => [oX11 q0 (.ref q1) (.int v_people) u0_2 u0_3 u0_4 u0_5 u0_6 u0_7 u0_8 u0_9 u0_10 u0_11 u0_12 u0_13 u0_14 u0_15 u0_16 u0_17 u0_18 u0_19 u0_20 u0_21 u0_22 u0_23 u0_24 u0_25 u0_26 u0_27 u0_28 u0_29 u0_30 u0_31 u0_32 u0_33 u0_34 u0_35 u0_36 u0_37 u0_38 u0_39 u0_40, aI cy q1 37 v_now]) (st' := [.int y2]) (rest := []) E hS vlX11_99 (c_X11_isOne (l := l) (D := D) (cy := cy) (q0 := q0) (u0_0 := .ref q1) (u0_2 := u0_2) (u0_3 := u0_3) (u0_4 := u0_4) (u0_5 := u0_5) (u0_6 := u0_6) (u0_7 := u0_7) (u0_8 := u0_8) (u0_9 := u0_9) (u0_10 := u0_10) (u0_11 := u0_11) (u0_12 := u0_12) (u0_13 := u0_13) (u0_14 := u0_14) (u0_15 := u0_15) (u0_16 := u0_16) (u0_17 := u0_17) (u0_18 := u0_18) (u0_19 := u0_19) (u0_20 := u0_20) (u0_21 := u0_21) (u0_22 := u0_22) (u0_23 := u0_23) (u0_24 := u0_24) (u0_25 := u0_25) (u0_26 := u0_26) (u0_27 := u0_27) (u0_28 := u0_28) (u0_29 := u0_29) (u0_30 := u0_30) (u0_31 := u0_31) (u0_32 := u0_32) (u0_33 := u0_33) (u0_34 := u0_34) (u0_35 := u0_35) (u0_36 := u0_36) (u0_37 := u0_37) (u0_38 := u0_38) (u0_39 := u0_39) (u0_40 := u0_40) (v_people := v_people) (p1 := p1) (r := y2) e1) [0] rfl rfl (fun _ => rfl) (fun _ => rfl) rfl rfl rfl rfl (Nat.le_of_ble_eq_true rfl) hl.1 (by rw [hRf]; exact Nat.le_of_ble_eq_true rfl) (by rw [hRl]; exact Nat.le_of_ble_eq_true rfl) ⟨Nat.zero_le _, Nat.zero_le _⟩ dX11_refusesSkill_2 rfl (fun H locs _ hS => ?_)
  refine lv_if_eq (tgt := 18) hx hb dX11_refusesSkill_5 (by decide) (fun c2 => ?_) (fun c2 => ?_)
  · have h := it_pos c2 h
    refine lv_iconst (v := -1) hx hb dX11_refusesSkill_18 (by decide) ?_
    obtain rfl := Option.some.inj h
    exact rt_i E hQ (.null) hS dX11_refusesSkill_19
  · have h := it_neg c2 h
    refine lv_iload_n hx hb dX11_refusesSkill_8 rfl (lv_at hl 2 rfl) ?_
    refine lv_iconst (v := 0) hx hb dX11_refusesSkill_9 (by decide) ?_
    refine lv_bipush (v := 9) hx hb dX11_refusesSkill_10 (by decide) ?_
    refine ct_S (ws' := fun _ => [oX11 q0 (.ref q1) (.int v_people) u0_2 u0_3 u0_4 u0_5 u0_6 u0_7 u0_8 u0_9 u0_10 u0_11 u0_12 u0_13 u0_14 u0_15 u0_16 u0_17 u0_18 u0_19 u0_20 u0_21 u0_22 u0_23 u0_24 u0_25 u0_26 u0_27 u0_28 u0_29 u0_30 u0_31 u0_32 u0_33 u0_34 u0_35 u0_36 u0_37 u0_38 u0_39 u0_40, aI cy q1 37 v_now]) (st' := [.int (X11_in p2 (0 : Int32) (9 : Int32))]) (rest := []) E hS slX11_95 (c_X11_in (l := l) (D := D) (cy := cy) (p0 := p2) (p1 := (0 : Int32)) (p2 := (9 : Int32)) (r := (X11_in p2 (0 : Int32) (9 : Int32))) rfl) [] rfl rfl (fun _ => rfl) (fun _ => rfl) rfl rfl (Nat.le_of_ble_eq_true rfl) hl.1 (by rw [hRf]; exact Nat.le_of_ble_eq_true rfl) (by rw [hRl]; exact Nat.le_of_ble_eq_true rfl) ⟨Nat.zero_le _, Nat.zero_le _⟩ dX11_refusesSkill_12 rfl (fun H locs _ hS => ?_)
    refine lv_if_ne (tgt := 20) hx hb dX11_refusesSkill_15 (by decide) (fun c3 => ?_) (fun c3 => ?_)
    · have h := it_neg c3 h
      refine lv_aload_n hx hb dX11_refusesSkill_20 rfl (lv_at hl 0 rfl) ?_
      refine r_get E frX11_9 hS 0 rfl rfl dX11_refusesSkill_21 ?_
      refine lv_iload_n hx hb dX11_refusesSkill_24 rfl (lv_at hl 1 rfl) ?_
      obtain ⟨g4, h⟩ := gi_some h
      refine r_iald E hS 1 rfl g4 dX11_refusesSkill_25 ?_
      refine lv_iload_n hx hb dX11_refusesSkill_26 rfl (lv_at hl 2 rfl) ?_
      have hJ36 : ∀ (s36_0 : Int32) (ls : Array Slot), s36_0 = (if (v_now p1.toNatClampNeg) = p2 then (-2 : Int32) else (0 : Int32)) → lv_has ls 3 [] → W p l e R s m args below meth c H locs 0 0 Q (F0 m 36 ls [.int s36_0]) := by
        intro s36_0 ls es36_0 hl
        subst es36_0
        obtain rfl := Option.some.inj h
        exact rt_i E hQ (.null) hS dX11_refusesSkill_36
      refine lv_icmp_ne (tgt := 35) hx hb dX11_refusesSkill_27 (by decide) (fun c5 => ?_) (fun c5 => ?_)
      · refine lv_iconst (v := 0) hx hb dX11_refusesSkill_35 (by decide) ?_
        exact hJ36 _ ls ((if_neg c5)).symm (lv_sub hl [] rfl)
      · refine lv_bipush (v := -2) hx hb dX11_refusesSkill_30 (by decide) ?_
        refine lv_goto (tgt := 36) hx hb dX11_refusesSkill_32 (by decide) ?_
        exact hJ36 _ ls ((if_pos c5)).symm (lv_sub hl [] rfl)
    · have h := it_pos c3 h
      refine lv_iconst (v := -1) hx hb dX11_refusesSkill_18 (by decide) ?_
      obtain rfl := Option.some.inj h
      exact rt_i E hQ (.null) hS dX11_refusesSkill_19
set_option maxHeartbeats 4000000 in
set_option maxRecDepth 100000 in
theorem c_X11_learns {l : Launch} {D : va_G} {cy : Nat → ClassId} (q0 : Nat) (q1 : Nat) (q2 : Nat) (u0_2 : Value) (u0_3 : Value) (u0_4 : Value) (u0_5 : Value) (u0_7 : Value) (u0_8 : Value) (u0_9 : Value) (u0_10 : Value) (u0_11 : Value) (u0_12 : Value) (u0_13 : Value) (u0_14 : Value) (u0_15 : Value) (u0_16 : Value) (u0_17 : Value) (u0_20 : Value) (u0_21 : Value) (u0_22 : Value) (u0_23 : Value) (u0_24 : Value) (u0_25 : Value) (u0_26 : Value) (u0_27 : Value) (u0_28 : Value) (u0_29 : Value) (u0_30 : Value) (u0_31 : Value) (u0_32 : Value) (u0_33 : Value) (u0_34 : Value) (u0_35 : Value) (u0_36 : Value) (u0_37 : Value) (u0_38 : Value) (u0_39 : Value) (u0_40 : Value) (v_people : Int32) (v_thrown : Int32) (v_undoMany : Int32) (v_now : Nat → Int32) (v_undos : Nat → Int32) (p1 : Int32) (p2 : Int32) (r : Int32 × Int32 × Int32 × (Nat → Int32) × (Nat → Int32)) (h : X11_learns v_people v_undoMany v_now v_undos p1 p2 = some r) : Ct l yX11_learns cX11_learns 5 (some .int) 3 65 D cy [.ref q0, .int p1, .int p2] [oX11 q0 (.ref q1) (.int v_people) u0_2 u0_3 u0_4 u0_5 (.int v_thrown) u0_7 u0_8 u0_9 u0_10 u0_11 u0_12 u0_13 u0_14 u0_15 u0_16 u0_17 (.ref q2) (.int v_undoMany) u0_20 u0_21 u0_22 u0_23 u0_24 u0_25 u0_26 u0_27 u0_28 u0_29 u0_30 u0_31 u0_32 u0_33 u0_34 u0_35 u0_36 u0_37 u0_38 u0_39 u0_40, aI cy q1 37 v_now, aI cy q2 444 v_undos] (fun _ => [oX11 q0 (.ref q1) (.int v_people) u0_2 u0_3 u0_4 u0_5 (.int r.2.1) u0_7 u0_8 u0_9 u0_10 u0_11 u0_12 u0_13 u0_14 u0_15 u0_16 u0_17 (.ref q2) (.int r.2.2.1) u0_20 u0_21 u0_22 u0_23 u0_24 u0_25 u0_26 u0_27 u0_28 u0_29 u0_30 u0_31 u0_32 u0_33 u0_34 u0_35 u0_36 u0_37 u0_38 u0_39 u0_40, aI cy q1 37 r.2.2.2.1, aI cy q2 444 r.2.2.2.2]) (some (.int r.1)) := by
  refine Ct.mk kX11_learns (by decide +kernel) (Nat.le_of_ble_eq_true rfl) ?_
  intro p e s m below meth c A ls args R Q hRf hRl hQ E H locs hS hl
  have hx := E.x
  have hb := E.b
  have hl : lv_has ls 5 [(0, .ref q0), (1, .int p1), (2, .int p2)] := hl
  unfold X11_learns at h
  refine lv_aload_n hx hb dX11_learns_0 rfl (lv_at hl 0 rfl) ?_
  refine lv_iconst (v := 0) hx hb dX11_learns_1 (by decide) ?_
  refine r_put (ws' := [oX11 q0 (.ref q1) (.int v_people) u0_2 u0_3 u0_4 u0_5 (.int (0 : Int32)) u0_7 u0_8 u0_9 u0_10 u0_11 u0_12 u0_13 u0_14 u0_15 u0_16 u0_17 (.ref q2) (.int v_undoMany) u0_20 u0_21 u0_22 u0_23 u0_24 u0_25 u0_26 u0_27 u0_28 u0_29 u0_30 u0_31 u0_32 u0_33 u0_34 u0_35 u0_36 u0_37 u0_38 u0_39 u0_40, aI cy q1 37 v_now, aI cy q2 444 v_undos]) E frX11_85 hS 0 rfl (Nat.le_of_ble_eq_true rfl) rfl rfl rfl rfl dX11_learns_2 (fun H locs hS => ?_)
  refine lv_aload_n hx hb dX11_learns_5 rfl (lv_at hl 0 rfl) ?_
  refine lv_iload_n hx hb dX11_learns_6 rfl (lv_at hl 1 rfl) ?_
  refine lv_iload_n hx hb dX11_learns_7 rfl (lv_at hl 2 rfl) ?_
  obtain ⟨y8, e1, h⟩ := bd_some h
  refine ct_V (ws' := fun _ => [oX11 q0 (.ref q1) (.int v_people) u0_2 u0_3 u0_4 u0_5 (.int (0 : Int32)) u0_7 u0_8 u0_9 u0_10 u0_11 u0_12 u0_13 u0_14 u0_15 u0_16 u0_17 (.ref q2) (.int v_undoMany) u0_20 u0_21 u0_22 u0_23 u0_24 u0_25 u0_26 u0_27 u0_28 u0_29 u0_30 u0_31 u0_32 u0_33 u0_34 u0_35 u0_36 u0_37 u0_38 u0_39 u0_40, aI cy q1 37 v_now, aI cy q2 444 v_undos]) (st' := [.int y8]) (rest := []) E hS vlX11_266 (c_X11_refusesSkill (l := l) (D := D) (cy := cy) (q0 := q0) (q1 := q1) (u0_2 := u0_2) (u0_3 := u0_3) (u0_4 := u0_4) (u0_5 := u0_5) (u0_6 := .int (0 : Int32)) (u0_7 := u0_7) (u0_8 := u0_8) (u0_9 := u0_9) (u0_10 := u0_10) (u0_11 := u0_11) (u0_12 := u0_12) (u0_13 := u0_13) (u0_14 := u0_14) (u0_15 := u0_15) (u0_16 := u0_16) (u0_17 := u0_17) (u0_18 := .ref q2) (u0_19 := .int v_undoMany) (u0_20 := u0_20) (u0_21 := u0_21) (u0_22 := u0_22) (u0_23 := u0_23) (u0_24 := u0_24) (u0_25 := u0_25) (u0_26 := u0_26) (u0_27 := u0_27) (u0_28 := u0_28) (u0_29 := u0_29) (u0_30 := u0_30) (u0_31 := u0_31) (u0_32 := u0_32) (u0_33 := u0_33) (u0_34 := u0_34) (u0_35 := u0_35) (u0_36 := u0_36) (u0_37 := u0_37) (u0_38 := u0_38) (u0_39 := u0_39) (u0_40 := u0_40) (v_people := v_people) (v_now := v_now) (p1 := p1) (p2 := p2) (r := y8) e1) [0, 1] rfl rfl (fun _ => rfl) (fun _ => rfl) rfl rfl rfl rfl (Nat.le_of_ble_eq_true rfl) hl.1 (by rw [hRf]; exact Nat.le_of_ble_eq_true rfl) (by rw [hRl]; exact Nat.le_of_ble_eq_true rfl) ⟨Nat.zero_le _, Nat.zero_le _⟩ dX11_learns_8 rfl (fun H locs _ hS => ?_)
  refine lv_istore_n (lv' := [(3, .int y8), (0, .ref q0), (1, .int p1), (2, .int p2)]) hx hb dX11_learns_11 rfl hl (by decide) rfl (fun ls hl => ?_)
  refine lv_iload_n hx hb dX11_learns_12 rfl (lv_at hl 0 rfl) ?_
  refine lv_if_ge (tgt := 18) hx hb dX11_learns_13 (by decide) (fun c2 => ?_) (fun c2 => ?_)
  · have h := it_pos c2 h
    refine lv_aload_n hx hb dX11_learns_18 rfl (lv_at hl 1 rfl) ?_
    refine lv_aload_n hx hb dX11_learns_19 rfl (lv_at hl 1 rfl) ?_
    refine r_get E frX11_9 hS 0 rfl rfl dX11_learns_20 ?_
    obtain ⟨y23, e3, h⟩ := bd_some h
    refine ct_V (ws' := fun _ => [oX11 q0 (.ref q1) (.int v_people) u0_2 u0_3 u0_4 u0_5 (.int (0 : Int32)) u0_7 u0_8 u0_9 u0_10 u0_11 u0_12 u0_13 u0_14 u0_15 u0_16 u0_17 (.ref q2) (.int y23.1) u0_20 u0_21 u0_22 u0_23 u0_24 u0_25 u0_26 u0_27 u0_28 u0_29 u0_30 u0_31 u0_32 u0_33 u0_34 u0_35 u0_36 u0_37 u0_38 u0_39 u0_40, aI cy q1 37 v_now, aI cy q2 444 y23.2]) (st' := []) (rest := []) E hS vlX11_249 (c_X11_remember (l := l) (D := D) (cy := cy) (q0 := q0) (q1 := q2) (q2 := q1) (u0_0 := .ref q1) (u0_1 := .int v_people) (u0_2 := u0_2) (u0_3 := u0_3) (u0_4 := u0_4) (u0_5 := u0_5) (u0_6 := .int (0 : Int32)) (u0_7 := u0_7) (u0_8 := u0_8) (u0_9 := u0_9) (u0_10 := u0_10) (u0_11 := u0_11) (u0_12 := u0_12) (u0_13 := u0_13) (u0_14 := u0_14) (u0_15 := u0_15) (u0_16 := u0_16) (u0_17 := u0_17) (u0_20 := u0_20) (u0_21 := u0_21) (u0_22 := u0_22) (u0_23 := u0_23) (u0_24 := u0_24) (u0_25 := u0_25) (u0_26 := u0_26) (u0_27 := u0_27) (u0_28 := u0_28) (u0_29 := u0_29) (u0_30 := u0_30) (u0_31 := u0_31) (u0_32 := u0_32) (u0_33 := u0_33) (u0_34 := u0_34) (u0_35 := u0_35) (u0_36 := u0_36) (u0_37 := u0_37) (u0_38 := u0_38) (u0_39 := u0_39) (u0_40 := u0_40) (v_undoMany := v_undoMany) (v_undos := v_undos) (nw1_ := 37) (w1_ := v_now) (r := y23) e3) [0, 2, 1] rfl rfl (fun _ => rfl) (fun _ => rfl) rfl rfl rfl rfl (Nat.le_of_ble_eq_true rfl) hl.1 (by rw [hRf]; exact Nat.le_of_ble_eq_true rfl) (by rw [hRl]; exact Nat.le_of_ble_eq_true rfl) ⟨Nat.zero_le _, Nat.zero_le _⟩ dX11_learns_23 rfl (fun H locs _ hS => ?_)
    refine lv_aload_n hx hb dX11_learns_26 rfl (lv_at hl 1 rfl) ?_
    refine r_get E frX11_9 hS 0 rfl rfl dX11_learns_27 ?_
    refine lv_iload_n hx hb dX11_learns_30 rfl (lv_at hl 2 rfl) ?_
    obtain ⟨g4, h⟩ := gi_some h
    refine r_iald E hS 1 rfl g4 dX11_learns_31 ?_
    refine lv_istore (lv' := [(4, .int (v_now p1.toNatClampNeg)), (3, .int y8), (0, .ref q0), (1, .int p1), (2, .int p2)]) hx hb dX11_learns_32 hl (by decide) rfl (fun ls hl => ?_)
    refine lv_aload_n hx hb dX11_learns_34 rfl (lv_at hl 2 rfl) ?_
    refine r_get E frX11_9 hS 0 rfl rfl dX11_learns_35 ?_
    refine lv_iload_n hx hb dX11_learns_38 rfl (lv_at hl 3 rfl) ?_
    refine lv_iload_n hx hb dX11_learns_39 rfl (lv_at hl 4 rfl) ?_
    obtain ⟨g5, h⟩ := gi_some h
    refine r_iast (ws' := [oX11 q0 (.ref q1) (.int v_people) u0_2 u0_3 u0_4 u0_5 (.int (0 : Int32)) u0_7 u0_8 u0_9 u0_10 u0_11 u0_12 u0_13 u0_14 u0_15 u0_16 u0_17 (.ref q2) (.int y23.1) u0_20 u0_21 u0_22 u0_23 u0_24 u0_25 u0_26 u0_27 u0_28 u0_29 u0_30 u0_31 u0_32 u0_33 u0_34 u0_35 u0_36 u0_37 u0_38 u0_39 u0_40, aI cy q1 37 (upd v_now p1.toNatClampNeg p2), aI cy q2 444 y23.2]) E hS 1 rfl g5 rfl dX11_learns_40 (fun H locs hS => ?_)
    refine lv_bipush (v := 10) hx hb dX11_learns_41 (by decide) ?_
    refine lv_iload hx hb dX11_learns_43 (lv_at hl 0 rfl) ?_
    refine lv_iadd hx hb dX11_learns_45 ?_
    obtain rfl := Option.some.inj h
    exact rt_i E hQ (.null) hS dX11_learns_46
  · have h := it_neg c2 h
    refine lv_iload_n hx hb dX11_learns_16 rfl (lv_at hl 0 rfl) ?_
    obtain rfl := Option.some.inj h
    exact rt_i E hQ (.null) hS dX11_learns_17
set_option maxHeartbeats 4000000 in
set_option maxRecDepth 100000 in
theorem c_X11_wantsOf {l : Launch} {D : va_G} {cy : Nat → ClassId} (q0 : Nat) (q1 : Nat) (u0_0 : Value) (u0_2 : Value) (u0_3 : Value) (u0_4 : Value) (u0_5 : Value) (u0_6 : Value) (u0_7 : Value) (u0_8 : Value) (u0_9 : Value) (u0_10 : Value) (u0_11 : Value) (u0_12 : Value) (u0_13 : Value) (u0_14 : Value) (u0_15 : Value) (u0_16 : Value) (u0_17 : Value) (u0_18 : Value) (u0_19 : Value) (u0_20 : Value) (u0_21 : Value) (u0_22 : Value) (u0_23 : Value) (u0_24 : Value) (u0_25 : Value) (u0_26 : Value) (u0_27 : Value) (u0_28 : Value) (u0_29 : Value) (u0_30 : Value) (u0_31 : Value) (u0_32 : Value) (u0_33 : Value) (u0_34 : Value) (u0_35 : Value) (u0_36 : Value) (u0_37 : Value) (u0_38 : Value) (u0_39 : Value) (u0_40 : Value) (v_people : Int32) (nw1_ : Nat) (w1_ : Nat → Int32) (p2 : Int32) (r : Int32) (h : X11_wantsOf v_people nw1_ w1_ p2 = some r) : Ct l yX11_wantsOf cX11_wantsOf 3 (some .int) 2 45 D cy [.ref q0, .ref q1, .int p2] [oX11 q0 u0_0 (.int v_people) u0_2 u0_3 u0_4 u0_5 u0_6 u0_7 u0_8 u0_9 u0_10 u0_11 u0_12 u0_13 u0_14 u0_15 u0_16 u0_17 u0_18 u0_19 u0_20 u0_21 u0_22 u0_23 u0_24 u0_25 u0_26 u0_27 u0_28 u0_29 u0_30 u0_31 u0_32 u0_33 u0_34 u0_35 u0_36 u0_37 u0_38 u0_39 u0_40, aI cy q1 nw1_ w1_] (fun _ => [oX11 q0 u0_0 (.int v_people) u0_2 u0_3 u0_4 u0_5 u0_6 u0_7 u0_8 u0_9 u0_10 u0_11 u0_12 u0_13 u0_14 u0_15 u0_16 u0_17 u0_18 u0_19 u0_20 u0_21 u0_22 u0_23 u0_24 u0_25 u0_26 u0_27 u0_28 u0_29 u0_30 u0_31 u0_32 u0_33 u0_34 u0_35 u0_36 u0_37 u0_38 u0_39 u0_40, aI cy q1 nw1_ w1_]) (some (.int r)) := by
  refine Ct.mk kX11_wantsOf (by decide +kernel) (Nat.le_of_ble_eq_true rfl) ?_
  intro p e s m below meth c A ls args R Q hRf hRl hQ E H locs hS hl
  have hx := E.x
  have hb := E.b
  have hl : lv_has ls 3 [(0, .ref q0), (1, .ref q1), (2, .int p2)] := hl
  unfold X11_wantsOf at h
  refine lv_aload_n hx hb dX11_wantsOf_0 rfl (lv_at hl 1 rfl) ?_
  refine lv_bipush (v := 28) hx hb dX11_wantsOf_1 (by decide) ?_
  refine lv_iload_n hx hb dX11_wantsOf_3 rfl (lv_at hl 2 rfl) ?_
  refine lv_iadd hx hb dX11_wantsOf_4 ?_
  obtain ⟨g1, h⟩ := gi_some h
  refine r_iald E hS 1 rfl g1 dX11_wantsOf_5 ?_
  refine ct_S (ws' := fun _ => [oX11 q0 u0_0 (.int v_people) u0_2 u0_3 u0_4 u0_5 u0_6 u0_7 u0_8 u0_9 u0_10 u0_11 u0_12 u0_13 u0_14 u0_15 u0_16 u0_17 u0_18 u0_19 u0_20 u0_21 u0_22 u0_23 u0_24 u0_25 u0_26 u0_27 u0_28 u0_29 u0_30 u0_31 u0_32 u0_33 u0_34 u0_35 u0_36 u0_37 u0_38 u0_39 u0_40, aI cy q1 nw1_ w1_]) (st' := [.int (J6_bitCount_0f7a4 (w1_ ((28 : Int32) + p2).toNatClampNeg))]) (rest := []) E hS slX11_204 (c_J6_bitCount_0f7a4 (l := l) (D := D) (cy := cy) (p0 := (w1_ ((28 : Int32) + p2).toNatClampNeg)) (r := (J6_bitCount_0f7a4 (w1_ ((28 : Int32) + p2).toNatClampNeg))) rfl) [] rfl rfl (fun _ => rfl) (fun _ => rfl) rfl rfl (Nat.le_of_ble_eq_true rfl) hl.1 (by rw [hRf]; exact Nat.le_of_ble_eq_true rfl) (by rw [hRl]; exact Nat.le_of_ble_eq_true rfl) ⟨Nat.zero_le _, Nat.zero_le _⟩ dX11_wantsOf_6 rfl (fun H locs _ hS => ?_)
  refine lv_aload_n hx hb dX11_wantsOf_9 rfl (lv_at hl 0 rfl) ?_
  refine lv_aload_n hx hb dX11_wantsOf_10 rfl (lv_at hl 1 rfl) ?_
  refine lv_iload_n hx hb dX11_wantsOf_11 rfl (lv_at hl 2 rfl) ?_
  obtain ⟨y12, e2, h⟩ := bd_some h
  refine ct_V (ws' := fun _ => [oX11 q0 u0_0 (.int v_people) u0_2 u0_3 u0_4 u0_5 u0_6 u0_7 u0_8 u0_9 u0_10 u0_11 u0_12 u0_13 u0_14 u0_15 u0_16 u0_17 u0_18 u0_19 u0_20 u0_21 u0_22 u0_23 u0_24 u0_25 u0_26 u0_27 u0_28 u0_29 u0_30 u0_31 u0_32 u0_33 u0_34 u0_35 u0_36 u0_37 u0_38 u0_39 u0_40, aI cy q1 nw1_ w1_]) (st' := [.int y12, .int (J6_bitCount_0f7a4 (w1_ ((28 : Int32) + p2).toNatClampNeg))]) (rest := [.int (J6_bitCount_0f7a4 (w1_ ((28 : Int32) + p2).toNatClampNeg))]) E hS vlX11_200 (c_X11_wantedBy (l := l) (D := D) (cy := cy) (q0 := q0) (q1 := q1) (u0_0 := u0_0) (u0_2 := u0_2) (u0_3 := u0_3) (u0_4 := u0_4) (u0_5 := u0_5) (u0_6 := u0_6) (u0_7 := u0_7) (u0_8 := u0_8) (u0_9 := u0_9) (u0_10 := u0_10) (u0_11 := u0_11) (u0_12 := u0_12) (u0_13 := u0_13) (u0_14 := u0_14) (u0_15 := u0_15) (u0_16 := u0_16) (u0_17 := u0_17) (u0_18 := u0_18) (u0_19 := u0_19) (u0_20 := u0_20) (u0_21 := u0_21) (u0_22 := u0_22) (u0_23 := u0_23) (u0_24 := u0_24) (u0_25 := u0_25) (u0_26 := u0_26) (u0_27 := u0_27) (u0_28 := u0_28) (u0_29 := u0_29) (u0_30 := u0_30) (u0_31 := u0_31) (u0_32 := u0_32) (u0_33 := u0_33) (u0_34 := u0_34) (u0_35 := u0_35) (u0_36 := u0_36) (u0_37 := u0_37) (u0_38 := u0_38) (u0_39 := u0_39) (u0_40 := u0_40) (v_people := v_people) (nw1_ := nw1_) (w1_ := w1_) (p2 := p2) (r := y12) e2) [0, 1] rfl rfl (fun _ => rfl) (fun _ => rfl) rfl rfl rfl rfl (Nat.le_of_ble_eq_true rfl) hl.1 (by rw [hRf]; exact Nat.le_of_ble_eq_true rfl) (by rw [hRl]; exact Nat.le_of_ble_eq_true rfl) ⟨Nat.zero_le _, Nat.zero_le _⟩ dX11_wantsOf_12 rfl (fun H locs _ hS => ?_)
  refine ct_S (ws' := fun _ => [oX11 q0 u0_0 (.int v_people) u0_2 u0_3 u0_4 u0_5 u0_6 u0_7 u0_8 u0_9 u0_10 u0_11 u0_12 u0_13 u0_14 u0_15 u0_16 u0_17 u0_18 u0_19 u0_20 u0_21 u0_22 u0_23 u0_24 u0_25 u0_26 u0_27 u0_28 u0_29 u0_30 u0_31 u0_32 u0_33 u0_34 u0_35 u0_36 u0_37 u0_38 u0_39 u0_40, aI cy q1 nw1_ w1_]) (st' := [.int (J6_bitCount_0f7a4 y12), .int (J6_bitCount_0f7a4 (w1_ ((28 : Int32) + p2).toNatClampNeg))]) (rest := [.int (J6_bitCount_0f7a4 (w1_ ((28 : Int32) + p2).toNatClampNeg))]) E hS slX11_204 (c_J6_bitCount_0f7a4 (l := l) (D := D) (cy := cy) (p0 := y12) (r := (J6_bitCount_0f7a4 y12)) rfl) [] rfl rfl (fun _ => rfl) (fun _ => rfl) rfl rfl (Nat.le_of_ble_eq_true rfl) hl.1 (by rw [hRf]; exact Nat.le_of_ble_eq_true rfl) (by rw [hRl]; exact Nat.le_of_ble_eq_true rfl) ⟨Nat.zero_le _, Nat.zero_le _⟩ dX11_wantsOf_15 rfl (fun H locs _ hS => ?_)
  refine lv_iadd hx hb dX11_wantsOf_18 ?_
  obtain rfl := Option.some.inj h
  exact rt_i E hQ (.null) hS dX11_wantsOf_19
set_option maxHeartbeats 4000000 in
set_option maxRecDepth 100000 in
theorem c_X11_goAway {l : Launch} {D : va_G} {cy : Nat → ClassId} (q0 : Nat) (q1 : Nat) (u0_0 : Value) (u0_2 : Value) (u0_3 : Value) (u0_4 : Value) (u0_5 : Value) (u0_6 : Value) (u0_7 : Value) (u0_8 : Value) (u0_9 : Value) (u0_10 : Value) (u0_11 : Value) (u0_12 : Value) (u0_13 : Value) (u0_14 : Value) (u0_15 : Value) (u0_16 : Value) (u0_17 : Value) (u0_18 : Value) (u0_19 : Value) (u0_20 : Value) (u0_21 : Value) (u0_22 : Value) (u0_23 : Value) (u0_24 : Value) (u0_25 : Value) (u0_26 : Value) (u0_27 : Value) (u0_28 : Value) (u0_29 : Value) (u0_30 : Value) (u0_31 : Value) (u0_32 : Value) (u0_33 : Value) (u0_34 : Value) (u0_35 : Value) (u0_36 : Value) (u0_37 : Value) (u0_38 : Value) (u0_39 : Value) (u0_40 : Value) (v_people : Int32) (nw1_ : Nat) (w1_ : Nat → Int32) (p2 : Int32) (r : (Nat → Int32)) (h : X11_goAway v_people nw1_ w1_ p2 = some r) : Ct l yX11_goAway cX11_goAway 4 none 0 0 D cy [.ref q0, .ref q1, .int p2] [oX11 q0 u0_0 (.int v_people) u0_2 u0_3 u0_4 u0_5 u0_6 u0_7 u0_8 u0_9 u0_10 u0_11 u0_12 u0_13 u0_14 u0_15 u0_16 u0_17 u0_18 u0_19 u0_20 u0_21 u0_22 u0_23 u0_24 u0_25 u0_26 u0_27 u0_28 u0_29 u0_30 u0_31 u0_32 u0_33 u0_34 u0_35 u0_36 u0_37 u0_38 u0_39 u0_40, aI cy q1 nw1_ w1_] (fun _ => [oX11 q0 u0_0 (.int v_people) u0_2 u0_3 u0_4 u0_5 u0_6 u0_7 u0_8 u0_9 u0_10 u0_11 u0_12 u0_13 u0_14 u0_15 u0_16 u0_17 u0_18 u0_19 u0_20 u0_21 u0_22 u0_23 u0_24 u0_25 u0_26 u0_27 u0_28 u0_29 u0_30 u0_31 u0_32 u0_33 u0_34 u0_35 u0_36 u0_37 u0_38 u0_39 u0_40, aI cy q1 nw1_ r]) (none) := by
  refine Ct.mk kX11_goAway (by decide +kernel) (Nat.le_of_ble_eq_true rfl) ?_
  intro p e s m below meth c A ls args R Q hRf hRl hQ E H locs hS hl
  have hx := E.x
  have hb := E.b
  have hl : lv_has ls 4 [(0, .ref q0), (1, .ref q1), (2, .int p2)] := hl
  unfold X11_goAway at h
  refine lv_aload_n hx hb dX11_goAway_0 rfl (lv_at hl 1 rfl) ?_
  refine lv_bipush (v := 28) hx hb dX11_goAway_1 (by decide) ?_
  refine lv_iload_n hx hb dX11_goAway_3 rfl (lv_at hl 2 rfl) ?_
  refine lv_iadd hx hb dX11_goAway_4 ?_
  refine lv_iconst (v := 0) hx hb dX11_goAway_5 (by decide) ?_
  obtain ⟨g1, h⟩ := gi_some h
  refine r_iast (ws' := [oX11 q0 u0_0 (.int v_people) u0_2 u0_3 u0_4 u0_5 u0_6 u0_7 u0_8 u0_9 u0_10 u0_11 u0_12 u0_13 u0_14 u0_15 u0_16 u0_17 u0_18 u0_19 u0_20 u0_21 u0_22 u0_23 u0_24 u0_25 u0_26 u0_27 u0_28 u0_29 u0_30 u0_31 u0_32 u0_33 u0_34 u0_35 u0_36 u0_37 u0_38 u0_39 u0_40, aI cy q1 nw1_ (upd w1_ ((28 : Int32) + p2).toNatClampNeg (0 : Int32))]) E hS 1 rfl g1 rfl dX11_goAway_6 (fun H locs hS => ?_)
  refine lv_iconst (v := 0) hx hb dX11_goAway_7 (by decide) ?_
  refine lv_istore_n (lv' := [(3, .int (0 : Int32)), (0, .ref q0), (1, .ref q1), (2, .int p2)]) hx hb dX11_goAway_8 rfl hl (by decide) rfl (fun ls hl => ?_)
  have hL9 : ∀ (n : Nat) (x9_0 : Int32) (x9_1 : Nat → Int32) (y9 : (Nat → Int32)) (H : Heap) (locs : List Loc) (ls : Array Slot), lp (fun x9 => X11_goAway_s9 v_people nw1_ p2 x9.1 x9.2) n (x9_0, x9_1) = some y9 → Sv D A s.heap [oX11 q0 u0_0 (.int v_people) u0_2 u0_3 u0_4 u0_5 u0_6 u0_7 u0_8 u0_9 u0_10 u0_11 u0_12 u0_13 u0_14 u0_15 u0_16 u0_17 u0_18 u0_19 u0_20 u0_21 u0_22 u0_23 u0_24 u0_25 u0_26 u0_27 u0_28 u0_29 u0_30 u0_31 u0_32 u0_33 u0_34 u0_35 u0_36 u0_37 u0_38 u0_39 u0_40, aI cy q1 nw1_ x9_1] H locs → lv_has ls 4 [(0, .ref q0), (1, .ref q1), (2, .int p2), (3, .int x9_0)] → ( ∀ (y9_0 : Nat → Int32), y9_0 = y9 → ∀ (H : Heap) (locs : List Loc) (ls : Array Slot), Sv D A s.heap [oX11 q0 u0_0 (.int v_people) u0_2 u0_3 u0_4 u0_5 u0_6 u0_7 u0_8 u0_9 u0_10 u0_11 u0_12 u0_13 u0_14 u0_15 u0_16 u0_17 u0_18 u0_19 u0_20 u0_21 u0_22 u0_23 u0_24 u0_25 u0_26 u0_27 u0_28 u0_29 u0_30 u0_31 u0_32 u0_33 u0_34 u0_35 u0_36 u0_37 u0_38 u0_39 u0_40, aI cy q1 nw1_ y9_0] H locs → lv_has ls 4 [] → W p l e R s m args below meth c H locs 0 0 Q (F0 m 37 ls [])) → W p l e R s m args below meth c H locs 0 0 Q (F0 m 9 ls []) := by
    intro n
    induction n with
    | zero =>
      intro x9_0 x9_1 y9 H locs ls h
      exact lp_zero h
    | succ n ih9 =>
      intro x9_0 x9_1 y9 H locs ls h hS hl hk9_0
      obtain ⟨z9, h, hz9a, hz9b⟩ := lp_succ h
      have h : X11_goAway_s9 v_people nw1_ p2 x9_0 x9_1 = some z9 := h
      unfold X11_goAway_s9 at h
      refine lv_iload_n hx hb dX11_goAway_9 rfl (lv_at hl 3 rfl) ?_
      refine lv_aload_n hx hb dX11_goAway_10 rfl (lv_at hl 0 rfl) ?_
      refine r_get E frX11_92 hS 0 rfl rfl dX11_goAway_11 ?_
      refine lv_icmp_ge (tgt := 37) hx hb dX11_goAway_14 (by decide) (fun c2 => ?_) (fun c2 => ?_)
      · have h := it_pos c2 h
        exact hk9_0 x9_1 (hz9b _ (Option.some.inj h).symm)  H locs ls hS (lv_sub hl [] rfl)
      · have h := it_neg c2 h
        refine lv_aload_n hx hb dX11_goAway_17 rfl (lv_at hl 1 rfl) ?_
        refine lv_bipush (v := 28) hx hb dX11_goAway_18 (by decide) ?_
        refine lv_iload_n hx hb dX11_goAway_20 rfl (lv_at hl 3 rfl) ?_
        refine lv_iadd hx hb dX11_goAway_21 ?_
        refine lv_dup2_11 hx hb dX11_goAway_22 rfl rfl ?_
        obtain ⟨g3, h⟩ := gi_some h
        refine r_iald E hS 1 rfl g3 dX11_goAway_23 ?_
        refine lv_iconst (v := 1) hx hb dX11_goAway_24 (by decide) ?_
        refine lv_iload_n hx hb dX11_goAway_25 rfl (lv_at hl 2 rfl) ?_
        refine lv_ishl hx hb dX11_goAway_26 ?_
        refine lv_iconst (v := -1) hx hb dX11_goAway_27 (by decide) ?_
        refine lv_ixor hx hb dX11_goAway_28 ?_
        refine lv_iand hx hb dX11_goAway_29 ?_
        obtain ⟨g4, h⟩ := gi_some h
        refine r_iast (ws' := [oX11 q0 u0_0 (.int v_people) u0_2 u0_3 u0_4 u0_5 u0_6 u0_7 u0_8 u0_9 u0_10 u0_11 u0_12 u0_13 u0_14 u0_15 u0_16 u0_17 u0_18 u0_19 u0_20 u0_21 u0_22 u0_23 u0_24 u0_25 u0_26 u0_27 u0_28 u0_29 u0_30 u0_31 u0_32 u0_33 u0_34 u0_35 u0_36 u0_37 u0_38 u0_39 u0_40, aI cy q1 nw1_ (upd x9_1 ((28 : Int32) + x9_0).toNatClampNeg ((x9_1 ((28 : Int32) + x9_0).toNatClampNeg) &&& (((1 : Int32) <<< (p2 &&& 31)) ^^^ (-1 : Int32))))]) E hS 1 rfl g4 rfl dX11_goAway_30 (fun H locs hS => ?_)
        refine lv_iinc (v := (x9_0 + (1 : Int32))) (lv' := [(3, .int (x9_0 + (1 : Int32))), (0, .ref q0), (1, .ref q1), (2, .int p2)]) hx hb dX11_goAway_31 hl (k := 3) rfl rfl (by decide) rfl (fun ls hl => ?_)
        refine lv_goto (tgt := 9) hx hb dX11_goAway_34 (by decide) ?_
        exact ih9 (x9_0 + (1 : Int32)) (upd x9_1 ((28 : Int32) + x9_0).toNatClampNeg ((x9_1 ((28 : Int32) + x9_0).toNatClampNeg) &&& (((1 : Int32) <<< (p2 &&& 31)) ^^^ (-1 : Int32)))) y9  H locs ls (hz9a _ (Option.some.inj h).symm) hS (lv_sub hl [1, 2, 3, 0] rfl) hk9_0
  obtain ⟨y9, e9, h⟩ := bd_some h
  refine hL9 1000 (0 : Int32) (upd w1_ ((28 : Int32) + p2).toNatClampNeg (0 : Int32)) y9  H locs ls e9 hS (lv_sub hl [1, 2, 3, 0] rfl) (fun y9_0 ey9 H locs ls hS hl => ?_)
  subst ey9
  obtain rfl := Option.some.inj h
  exact rt_v E hQ (.null) hS dX11_goAway_37
set_option maxHeartbeats 4000000 in
set_option maxRecDepth 100000 in
theorem c_X11_refusesLeave {l : Launch} {D : va_G} {cy : Nat → ClassId} (q0 : Nat) (q1 : Nat) (u0_2 : Value) (u0_3 : Value) (u0_4 : Value) (u0_5 : Value) (u0_6 : Value) (u0_7 : Value) (u0_8 : Value) (u0_9 : Value) (u0_10 : Value) (u0_11 : Value) (u0_12 : Value) (u0_13 : Value) (u0_14 : Value) (u0_15 : Value) (u0_16 : Value) (u0_17 : Value) (u0_18 : Value) (u0_19 : Value) (u0_20 : Value) (u0_21 : Value) (u0_22 : Value) (u0_23 : Value) (u0_24 : Value) (u0_25 : Value) (u0_26 : Value) (u0_27 : Value) (u0_28 : Value) (u0_29 : Value) (u0_30 : Value) (u0_31 : Value) (u0_32 : Value) (u0_33 : Value) (u0_34 : Value) (u0_35 : Value) (u0_36 : Value) (u0_37 : Value) (u0_38 : Value) (u0_39 : Value) (u0_40 : Value) (v_people : Int32) (v_now : Nat → Int32) (p1 : Int32) (r : Int32) (h : X11_refusesLeave v_people v_now p1 = some r) : Ct l yX11_refusesLeave cX11_refusesLeave 2 (some .int) 3 67 D cy [.ref q0, .int p1] [oX11 q0 (.ref q1) (.int v_people) u0_2 u0_3 u0_4 u0_5 u0_6 u0_7 u0_8 u0_9 u0_10 u0_11 u0_12 u0_13 u0_14 u0_15 u0_16 u0_17 u0_18 u0_19 u0_20 u0_21 u0_22 u0_23 u0_24 u0_25 u0_26 u0_27 u0_28 u0_29 u0_30 u0_31 u0_32 u0_33 u0_34 u0_35 u0_36 u0_37 u0_38 u0_39 u0_40, aI cy q1 37 v_now] (fun _ => [oX11 q0 (.ref q1) (.int v_people) u0_2 u0_3 u0_4 u0_5 u0_6 u0_7 u0_8 u0_9 u0_10 u0_11 u0_12 u0_13 u0_14 u0_15 u0_16 u0_17 u0_18 u0_19 u0_20 u0_21 u0_22 u0_23 u0_24 u0_25 u0_26 u0_27 u0_28 u0_29 u0_30 u0_31 u0_32 u0_33 u0_34 u0_35 u0_36 u0_37 u0_38 u0_39 u0_40, aI cy q1 37 v_now]) (some (.int r)) := by
  refine Ct.mk kX11_refusesLeave (by decide +kernel) (Nat.le_of_ble_eq_true rfl) ?_
  intro p e s m below meth c A ls args R Q hRf hRl hQ E H locs hS hl
  have hx := E.x
  have hb := E.b
  have hl : lv_has ls 2 [(0, .ref q0), (1, .int p1)] := hl
  unfold X11_refusesLeave at h
  refine lv_aload_n hx hb dX11_refusesLeave_0 rfl (lv_at hl 0 rfl) ?_
  refine lv_iload_n hx hb dX11_refusesLeave_1 rfl (lv_at hl 1 rfl) ?_
  obtain ⟨y2, e1, h⟩ := bd_some h
  refine ct_V (ws' := fun _ => [oX11 q0 (.ref q1) (.int v_people) u0_2 u0_3 u0_4 u0_5 u0_6 u0_7 u0_8 u0_9 u0_10 u0_11 u0_12 u0_13 u0_14 u0_15 u0_16 u0_17 u0_18 u0_19 u0_20 u0_21 u0_22 u0_23 u0_24 u0_25 u0_26 u0_27 u0_28 u0_29 u0_30 u0_31 u0_32 u0_33 u0_34 u0_35 u0_36 u0_37 u0_38 u0_39 u0_40, aI cy q1 37 v_now]) (st' := [.int y2]) (rest := []) E hS vlX11_99 (c_X11_isOne (l := l) (D := D) (cy := cy) (q0 := q0) (u0_0 := .ref q1) (u0_2 := u0_2) (u0_3 := u0_3) (u0_4 := u0_4) (u0_5 := u0_5) (u0_6 := u0_6) (u0_7 := u0_7) (u0_8 := u0_8) (u0_9 := u0_9) (u0_10 := u0_10) (u0_11 := u0_11) (u0_12 := u0_12) (u0_13 := u0_13) (u0_14 := u0_14) (u0_15 := u0_15) (u0_16 := u0_16) (u0_17 := u0_17) (u0_18 := u0_18) (u0_19 := u0_19) (u0_20 := u0_20) (u0_21 := u0_21) (u0_22 := u0_22) (u0_23 := u0_23) (u0_24 := u0_24) (u0_25 := u0_25) (u0_26 := u0_26) (u0_27 := u0_27) (u0_28 := u0_28) (u0_29 := u0_29) (u0_30 := u0_30) (u0_31 := u0_31) (u0_32 := u0_32) (u0_33 := u0_33) (u0_34 := u0_34) (u0_35 := u0_35) (u0_36 := u0_36) (u0_37 := u0_37) (u0_38 := u0_38) (u0_39 := u0_39) (u0_40 := u0_40) (v_people := v_people) (p1 := p1) (r := y2) e1) [0] rfl rfl (fun _ => rfl) (fun _ => rfl) rfl rfl rfl rfl (Nat.le_of_ble_eq_true rfl) hl.1 (by rw [hRf]; exact Nat.le_of_ble_eq_true rfl) (by rw [hRl]; exact Nat.le_of_ble_eq_true rfl) ⟨Nat.zero_le _, Nat.zero_le _⟩ dX11_refusesLeave_2 rfl (fun H locs _ hS => ?_)
  refine lv_if_ne (tgt := 10) hx hb dX11_refusesLeave_5 (by decide) (fun c2 => ?_) (fun c2 => ?_)
  · have h := it_neg c2 h
    refine lv_aload_n hx hb dX11_refusesLeave_10 rfl (lv_at hl 0 rfl) ?_
    refine lv_aload_n hx hb dX11_refusesLeave_11 rfl (lv_at hl 0 rfl) ?_
    refine r_get E frX11_9 hS 0 rfl rfl dX11_refusesLeave_12 ?_
    refine lv_iload_n hx hb dX11_refusesLeave_15 rfl (lv_at hl 1 rfl) ?_
    obtain ⟨y16, e3, h⟩ := bd_some h
    refine ct_V (ws' := fun _ => [oX11 q0 (.ref q1) (.int v_people) u0_2 u0_3 u0_4 u0_5 u0_6 u0_7 u0_8 u0_9 u0_10 u0_11 u0_12 u0_13 u0_14 u0_15 u0_16 u0_17 u0_18 u0_19 u0_20 u0_21 u0_22 u0_23 u0_24 u0_25 u0_26 u0_27 u0_28 u0_29 u0_30 u0_31 u0_32 u0_33 u0_34 u0_35 u0_36 u0_37 u0_38 u0_39 u0_40, aI cy q1 37 v_now]) (st' := [.int y16]) (rest := []) E hS vlX11_269 (c_X11_wantsOf (l := l) (D := D) (cy := cy) (q0 := q0) (q1 := q1) (u0_0 := .ref q1) (u0_2 := u0_2) (u0_3 := u0_3) (u0_4 := u0_4) (u0_5 := u0_5) (u0_6 := u0_6) (u0_7 := u0_7) (u0_8 := u0_8) (u0_9 := u0_9) (u0_10 := u0_10) (u0_11 := u0_11) (u0_12 := u0_12) (u0_13 := u0_13) (u0_14 := u0_14) (u0_15 := u0_15) (u0_16 := u0_16) (u0_17 := u0_17) (u0_18 := u0_18) (u0_19 := u0_19) (u0_20 := u0_20) (u0_21 := u0_21) (u0_22 := u0_22) (u0_23 := u0_23) (u0_24 := u0_24) (u0_25 := u0_25) (u0_26 := u0_26) (u0_27 := u0_27) (u0_28 := u0_28) (u0_29 := u0_29) (u0_30 := u0_30) (u0_31 := u0_31) (u0_32 := u0_32) (u0_33 := u0_33) (u0_34 := u0_34) (u0_35 := u0_35) (u0_36 := u0_36) (u0_37 := u0_37) (u0_38 := u0_38) (u0_39 := u0_39) (u0_40 := u0_40) (v_people := v_people) (nw1_ := 37) (w1_ := v_now) (p2 := p1) (r := y16) e3) [0, 1] rfl rfl (fun _ => rfl) (fun _ => rfl) rfl rfl rfl rfl (Nat.le_of_ble_eq_true rfl) hl.1 (by rw [hRf]; exact Nat.le_of_ble_eq_true rfl) (by rw [hRl]; exact Nat.le_of_ble_eq_true rfl) ⟨Nat.zero_le _, Nat.zero_le _⟩ dX11_refusesLeave_16 rfl (fun H locs _ hS => ?_)
    have hJ28 : ∀ (s28_0 : Int32) (ls : Array Slot), s28_0 = (if y16 = 0 then (-2 : Int32) else (0 : Int32)) → lv_has ls 2 [] → W p l e R s m args below meth c H locs 0 0 Q (F0 m 28 ls [.int s28_0]) := by
      intro s28_0 ls es28_0 hl
      subst es28_0
      obtain rfl := Option.some.inj h
      exact rt_i E hQ (.null) hS dX11_refusesLeave_28
    refine lv_if_ne (tgt := 27) hx hb dX11_refusesLeave_19 (by decide) (fun c4 => ?_) (fun c4 => ?_)
    · refine lv_iconst (v := 0) hx hb dX11_refusesLeave_27 (by decide) ?_
      exact hJ28 _ ls ((if_neg c4)).symm (lv_sub hl [] rfl)
    · refine lv_bipush (v := -2) hx hb dX11_refusesLeave_22 (by decide) ?_
      refine lv_goto (tgt := 28) hx hb dX11_refusesLeave_24 (by decide) ?_
      exact hJ28 _ ls ((if_pos c4)).symm (lv_sub hl [] rfl)
  · have h := it_pos c2 h
    refine lv_iconst (v := -1) hx hb dX11_refusesLeave_8 (by decide) ?_
    obtain rfl := Option.some.inj h
    exact rt_i E hQ (.null) hS dX11_refusesLeave_9
set_option maxHeartbeats 4000000 in
set_option maxRecDepth 100000 in
theorem c_X11_leaves {l : Launch} {D : va_G} {cy : Nat → ClassId} (q0 : Nat) (q1 : Nat) (q2 : Nat) (u0_2 : Value) (u0_3 : Value) (u0_4 : Value) (u0_5 : Value) (u0_7 : Value) (u0_8 : Value) (u0_9 : Value) (u0_10 : Value) (u0_11 : Value) (u0_12 : Value) (u0_13 : Value) (u0_14 : Value) (u0_15 : Value) (u0_16 : Value) (u0_17 : Value) (u0_20 : Value) (u0_21 : Value) (u0_22 : Value) (u0_23 : Value) (u0_24 : Value) (u0_25 : Value) (u0_26 : Value) (u0_27 : Value) (u0_28 : Value) (u0_29 : Value) (u0_30 : Value) (u0_31 : Value) (u0_32 : Value) (u0_33 : Value) (u0_34 : Value) (u0_35 : Value) (u0_36 : Value) (u0_37 : Value) (u0_38 : Value) (u0_39 : Value) (u0_40 : Value) (v_people : Int32) (v_thrown : Int32) (v_undoMany : Int32) (v_now : Nat → Int32) (v_undos : Nat → Int32) (p1 : Int32) (r : Int32 × Int32 × Int32 × (Nat → Int32) × (Nat → Int32)) (h : X11_leaves v_people v_undoMany v_now v_undos p1 = some r) : Ct l yX11_leaves cX11_leaves 4 (some .int) 4 88 D cy [.ref q0, .int p1] [oX11 q0 (.ref q1) (.int v_people) u0_2 u0_3 u0_4 u0_5 (.int v_thrown) u0_7 u0_8 u0_9 u0_10 u0_11 u0_12 u0_13 u0_14 u0_15 u0_16 u0_17 (.ref q2) (.int v_undoMany) u0_20 u0_21 u0_22 u0_23 u0_24 u0_25 u0_26 u0_27 u0_28 u0_29 u0_30 u0_31 u0_32 u0_33 u0_34 u0_35 u0_36 u0_37 u0_38 u0_39 u0_40, aI cy q1 37 v_now, aI cy q2 444 v_undos] (fun _ => [oX11 q0 (.ref q1) (.int v_people) u0_2 u0_3 u0_4 u0_5 (.int r.2.1) u0_7 u0_8 u0_9 u0_10 u0_11 u0_12 u0_13 u0_14 u0_15 u0_16 u0_17 (.ref q2) (.int r.2.2.1) u0_20 u0_21 u0_22 u0_23 u0_24 u0_25 u0_26 u0_27 u0_28 u0_29 u0_30 u0_31 u0_32 u0_33 u0_34 u0_35 u0_36 u0_37 u0_38 u0_39 u0_40, aI cy q1 37 r.2.2.2.1, aI cy q2 444 r.2.2.2.2]) (some (.int r.1)) := by
  refine Ct.mk kX11_leaves (by decide +kernel) (Nat.le_of_ble_eq_true rfl) ?_
  intro p e s m below meth c A ls args R Q hRf hRl hQ E H locs hS hl
  have hx := E.x
  have hb := E.b
  have hl : lv_has ls 4 [(0, .ref q0), (1, .int p1)] := hl
  unfold X11_leaves at h
  refine lv_aload_n hx hb dX11_leaves_0 rfl (lv_at hl 0 rfl) ?_
  refine lv_iconst (v := 0) hx hb dX11_leaves_1 (by decide) ?_
  refine r_put (ws' := [oX11 q0 (.ref q1) (.int v_people) u0_2 u0_3 u0_4 u0_5 (.int (0 : Int32)) u0_7 u0_8 u0_9 u0_10 u0_11 u0_12 u0_13 u0_14 u0_15 u0_16 u0_17 (.ref q2) (.int v_undoMany) u0_20 u0_21 u0_22 u0_23 u0_24 u0_25 u0_26 u0_27 u0_28 u0_29 u0_30 u0_31 u0_32 u0_33 u0_34 u0_35 u0_36 u0_37 u0_38 u0_39 u0_40, aI cy q1 37 v_now, aI cy q2 444 v_undos]) E frX11_85 hS 0 rfl (Nat.le_of_ble_eq_true rfl) rfl rfl rfl rfl dX11_leaves_2 (fun H locs hS => ?_)
  refine lv_aload_n hx hb dX11_leaves_5 rfl (lv_at hl 0 rfl) ?_
  refine lv_iload_n hx hb dX11_leaves_6 rfl (lv_at hl 1 rfl) ?_
  obtain ⟨y7, e1, h⟩ := bd_some h
  refine ct_V (ws' := fun _ => [oX11 q0 (.ref q1) (.int v_people) u0_2 u0_3 u0_4 u0_5 (.int (0 : Int32)) u0_7 u0_8 u0_9 u0_10 u0_11 u0_12 u0_13 u0_14 u0_15 u0_16 u0_17 (.ref q2) (.int v_undoMany) u0_20 u0_21 u0_22 u0_23 u0_24 u0_25 u0_26 u0_27 u0_28 u0_29 u0_30 u0_31 u0_32 u0_33 u0_34 u0_35 u0_36 u0_37 u0_38 u0_39 u0_40, aI cy q1 37 v_now, aI cy q2 444 v_undos]) (st' := [.int y7]) (rest := []) E hS vlX11_272 (c_X11_refusesLeave (l := l) (D := D) (cy := cy) (q0 := q0) (q1 := q1) (u0_2 := u0_2) (u0_3 := u0_3) (u0_4 := u0_4) (u0_5 := u0_5) (u0_6 := .int (0 : Int32)) (u0_7 := u0_7) (u0_8 := u0_8) (u0_9 := u0_9) (u0_10 := u0_10) (u0_11 := u0_11) (u0_12 := u0_12) (u0_13 := u0_13) (u0_14 := u0_14) (u0_15 := u0_15) (u0_16 := u0_16) (u0_17 := u0_17) (u0_18 := .ref q2) (u0_19 := .int v_undoMany) (u0_20 := u0_20) (u0_21 := u0_21) (u0_22 := u0_22) (u0_23 := u0_23) (u0_24 := u0_24) (u0_25 := u0_25) (u0_26 := u0_26) (u0_27 := u0_27) (u0_28 := u0_28) (u0_29 := u0_29) (u0_30 := u0_30) (u0_31 := u0_31) (u0_32 := u0_32) (u0_33 := u0_33) (u0_34 := u0_34) (u0_35 := u0_35) (u0_36 := u0_36) (u0_37 := u0_37) (u0_38 := u0_38) (u0_39 := u0_39) (u0_40 := u0_40) (v_people := v_people) (v_now := v_now) (p1 := p1) (r := y7) e1) [0, 1] rfl rfl (fun _ => rfl) (fun _ => rfl) rfl rfl rfl rfl (Nat.le_of_ble_eq_true rfl) hl.1 (by rw [hRf]; exact Nat.le_of_ble_eq_true rfl) (by rw [hRl]; exact Nat.le_of_ble_eq_true rfl) ⟨Nat.zero_le _, Nat.zero_le _⟩ dX11_leaves_7 rfl (fun H locs _ hS => ?_)
  refine lv_istore_n (lv' := [(2, .int y7), (0, .ref q0), (1, .int p1)]) hx hb dX11_leaves_10 rfl hl (by decide) rfl (fun ls hl => ?_)
  refine lv_iload_n hx hb dX11_leaves_11 rfl (lv_at hl 0 rfl) ?_
  refine lv_if_ge (tgt := 17) hx hb dX11_leaves_12 (by decide) (fun c2 => ?_) (fun c2 => ?_)
  · have h := it_pos c2 h
    refine lv_aload_n hx hb dX11_leaves_17 rfl (lv_at hl 1 rfl) ?_
    refine lv_aload_n hx hb dX11_leaves_18 rfl (lv_at hl 1 rfl) ?_
    refine r_get E frX11_9 hS 0 rfl rfl dX11_leaves_19 ?_
    obtain ⟨y22, e3, h⟩ := bd_some h
    refine ct_V (ws' := fun _ => [oX11 q0 (.ref q1) (.int v_people) u0_2 u0_3 u0_4 u0_5 (.int (0 : Int32)) u0_7 u0_8 u0_9 u0_10 u0_11 u0_12 u0_13 u0_14 u0_15 u0_16 u0_17 (.ref q2) (.int y22.1) u0_20 u0_21 u0_22 u0_23 u0_24 u0_25 u0_26 u0_27 u0_28 u0_29 u0_30 u0_31 u0_32 u0_33 u0_34 u0_35 u0_36 u0_37 u0_38 u0_39 u0_40, aI cy q1 37 v_now, aI cy q2 444 y22.2]) (st' := []) (rest := []) E hS vlX11_249 (c_X11_remember (l := l) (D := D) (cy := cy) (q0 := q0) (q1 := q2) (q2 := q1) (u0_0 := .ref q1) (u0_1 := .int v_people) (u0_2 := u0_2) (u0_3 := u0_3) (u0_4 := u0_4) (u0_5 := u0_5) (u0_6 := .int (0 : Int32)) (u0_7 := u0_7) (u0_8 := u0_8) (u0_9 := u0_9) (u0_10 := u0_10) (u0_11 := u0_11) (u0_12 := u0_12) (u0_13 := u0_13) (u0_14 := u0_14) (u0_15 := u0_15) (u0_16 := u0_16) (u0_17 := u0_17) (u0_20 := u0_20) (u0_21 := u0_21) (u0_22 := u0_22) (u0_23 := u0_23) (u0_24 := u0_24) (u0_25 := u0_25) (u0_26 := u0_26) (u0_27 := u0_27) (u0_28 := u0_28) (u0_29 := u0_29) (u0_30 := u0_30) (u0_31 := u0_31) (u0_32 := u0_32) (u0_33 := u0_33) (u0_34 := u0_34) (u0_35 := u0_35) (u0_36 := u0_36) (u0_37 := u0_37) (u0_38 := u0_38) (u0_39 := u0_39) (u0_40 := u0_40) (v_undoMany := v_undoMany) (v_undos := v_undos) (nw1_ := 37) (w1_ := v_now) (r := y22) e3) [0, 2, 1] rfl rfl (fun _ => rfl) (fun _ => rfl) rfl rfl rfl rfl (Nat.le_of_ble_eq_true rfl) hl.1 (by rw [hRf]; exact Nat.le_of_ble_eq_true rfl) (by rw [hRl]; exact Nat.le_of_ble_eq_true rfl) ⟨Nat.zero_le _, Nat.zero_le _⟩ dX11_leaves_22 rfl (fun H locs _ hS => ?_)
    refine lv_aload_n hx hb dX11_leaves_25 rfl (lv_at hl 1 rfl) ?_
    refine lv_aload_n hx hb dX11_leaves_26 rfl (lv_at hl 1 rfl) ?_
    refine r_get E frX11_9 hS 0 rfl rfl dX11_leaves_27 ?_
    refine lv_iload_n hx hb dX11_leaves_30 rfl (lv_at hl 2 rfl) ?_
    obtain ⟨y31, e4, h⟩ := bd_some h
    refine ct_V (ws' := fun _ => [oX11 q0 (.ref q1) (.int v_people) u0_2 u0_3 u0_4 u0_5 (.int (0 : Int32)) u0_7 u0_8 u0_9 u0_10 u0_11 u0_12 u0_13 u0_14 u0_15 u0_16 u0_17 (.ref q2) (.int y22.1) u0_20 u0_21 u0_22 u0_23 u0_24 u0_25 u0_26 u0_27 u0_28 u0_29 u0_30 u0_31 u0_32 u0_33 u0_34 u0_35 u0_36 u0_37 u0_38 u0_39 u0_40, aI cy q1 37 v_now, aI cy q2 444 y22.2]) (st' := [.int y31]) (rest := []) E hS vlX11_269 (c_X11_wantsOf (l := l) (D := D) (cy := cy) (q0 := q0) (q1 := q1) (u0_0 := .ref q1) (u0_2 := u0_2) (u0_3 := u0_3) (u0_4 := u0_4) (u0_5 := u0_5) (u0_6 := .int (0 : Int32)) (u0_7 := u0_7) (u0_8 := u0_8) (u0_9 := u0_9) (u0_10 := u0_10) (u0_11 := u0_11) (u0_12 := u0_12) (u0_13 := u0_13) (u0_14 := u0_14) (u0_15 := u0_15) (u0_16 := u0_16) (u0_17 := u0_17) (u0_18 := .ref q2) (u0_19 := .int y22.1) (u0_20 := u0_20) (u0_21 := u0_21) (u0_22 := u0_22) (u0_23 := u0_23) (u0_24 := u0_24) (u0_25 := u0_25) (u0_26 := u0_26) (u0_27 := u0_27) (u0_28 := u0_28) (u0_29 := u0_29) (u0_30 := u0_30) (u0_31 := u0_31) (u0_32 := u0_32) (u0_33 := u0_33) (u0_34 := u0_34) (u0_35 := u0_35) (u0_36 := u0_36) (u0_37 := u0_37) (u0_38 := u0_38) (u0_39 := u0_39) (u0_40 := u0_40) (v_people := v_people) (nw1_ := 37) (w1_ := v_now) (p2 := p1) (r := y31) e4) [0, 1] rfl rfl (fun _ => rfl) (fun _ => rfl) rfl rfl rfl rfl (Nat.le_of_ble_eq_true rfl) hl.1 (by rw [hRf]; exact Nat.le_of_ble_eq_true rfl) (by rw [hRl]; exact Nat.le_of_ble_eq_true rfl) ⟨Nat.zero_le _, Nat.zero_le _⟩ dX11_leaves_31 rfl (fun H locs _ hS => ?_)
    refine lv_istore_n (lv' := [(3, .int y31), (2, .int y7), (0, .ref q0), (1, .int p1)]) hx hb dX11_leaves_34 rfl hl (by decide) rfl (fun ls hl => ?_)
    refine lv_aload_n hx hb dX11_leaves_35 rfl (lv_at hl 2 rfl) ?_
    refine lv_aload_n hx hb dX11_leaves_36 rfl (lv_at hl 2 rfl) ?_
    refine r_get E frX11_9 hS 0 rfl rfl dX11_leaves_37 ?_
    refine lv_iload_n hx hb dX11_leaves_40 rfl (lv_at hl 3 rfl) ?_
    obtain ⟨y41, e5, h⟩ := bd_some h
    refine ct_V (ws' := fun _ => [oX11 q0 (.ref q1) (.int v_people) u0_2 u0_3 u0_4 u0_5 (.int (0 : Int32)) u0_7 u0_8 u0_9 u0_10 u0_11 u0_12 u0_13 u0_14 u0_15 u0_16 u0_17 (.ref q2) (.int y22.1) u0_20 u0_21 u0_22 u0_23 u0_24 u0_25 u0_26 u0_27 u0_28 u0_29 u0_30 u0_31 u0_32 u0_33 u0_34 u0_35 u0_36 u0_37 u0_38 u0_39 u0_40, aI cy q1 37 y41, aI cy q2 444 y22.2]) (st' := []) (rest := []) E hS vlX11_275 (c_X11_goAway (l := l) (D := D) (cy := cy) (q0 := q0) (q1 := q1) (u0_0 := .ref q1) (u0_2 := u0_2) (u0_3 := u0_3) (u0_4 := u0_4) (u0_5 := u0_5) (u0_6 := .int (0 : Int32)) (u0_7 := u0_7) (u0_8 := u0_8) (u0_9 := u0_9) (u0_10 := u0_10) (u0_11 := u0_11) (u0_12 := u0_12) (u0_13 := u0_13) (u0_14 := u0_14) (u0_15 := u0_15) (u0_16 := u0_16) (u0_17 := u0_17) (u0_18 := .ref q2) (u0_19 := .int y22.1) (u0_20 := u0_20) (u0_21 := u0_21) (u0_22 := u0_22) (u0_23 := u0_23) (u0_24 := u0_24) (u0_25 := u0_25) (u0_26 := u0_26) (u0_27 := u0_27) (u0_28 := u0_28) (u0_29 := u0_29) (u0_30 := u0_30) (u0_31 := u0_31) (u0_32 := u0_32) (u0_33 := u0_33) (u0_34 := u0_34) (u0_35 := u0_35) (u0_36 := u0_36) (u0_37 := u0_37) (u0_38 := u0_38) (u0_39 := u0_39) (u0_40 := u0_40) (v_people := v_people) (nw1_ := 37) (w1_ := v_now) (p2 := p1) (r := y41) e5) [0, 1] rfl rfl (fun _ => rfl) (fun _ => rfl) rfl rfl rfl rfl (Nat.le_of_ble_eq_true rfl) hl.1 (by rw [hRf]; exact Nat.le_of_ble_eq_true rfl) (by rw [hRl]; exact Nat.le_of_ble_eq_true rfl) ⟨Nat.zero_le _, Nat.zero_le _⟩ dX11_leaves_41 rfl (fun H locs _ hS => ?_)
    refine lv_iload_n hx hb dX11_leaves_44 rfl (lv_at hl 0 rfl) ?_
    obtain rfl := Option.some.inj h
    exact rt_i E hQ (.null) hS dX11_leaves_45
  · have h := it_neg c2 h
    refine lv_iload_n hx hb dX11_leaves_15 rfl (lv_at hl 0 rfl) ?_
    obtain rfl := Option.some.inj h
    exact rt_i E hQ (.null) hS dX11_leaves_16
set_option maxHeartbeats 4000000 in
set_option maxRecDepth 100000 in
theorem c_X11_readAct {l : Launch} {D : va_G} {cy : Nat → ClassId} (q0 : Nat) (q1 : Nat) (q2 : Nat) (u0_0 : Value) (u0_1 : Value) (u0_2 : Value) (u0_3 : Value) (u0_4 : Value) (u0_5 : Value) (u0_6 : Value) (u0_12 : Value) (u0_13 : Value) (u0_14 : Value) (u0_15 : Value) (u0_16 : Value) (u0_17 : Value) (u0_18 : Value) (u0_19 : Value) (u0_20 : Value) (u0_21 : Value) (u0_23 : Value) (u0_24 : Value) (u0_25 : Value) (u0_26 : Value) (u0_27 : Value) (u0_28 : Value) (u0_29 : Value) (u0_30 : Value) (u0_31 : Value) (u0_32 : Value) (u0_33 : Value) (u0_34 : Value) (u0_35 : Value) (u0_36 : Value) (u0_37 : Value) (u0_38 : Value) (u0_39 : Value) (u0_40 : Value) (v_length : Int32) (v_top : Int32) (v_at : Int32) (v_wrong : Int32) (nv_read : Nat) (v_read : Nat → Int32) (v_acts : Nat → Int32) (p1 : Int32) (r : Int32 × Int32 × (Nat → Int32)) (h : X11_readAct v_length v_top v_at v_wrong nv_read v_read v_acts p1 = some r) : Ct l yX11_readAct cX11_readAct 3 none 3 63 D cy [.ref q0, .int p1] [oX11 q0 u0_0 u0_1 u0_2 u0_3 u0_4 u0_5 u0_6 (.ref q1) (.int v_length) (.int v_top) (.int v_at) (.int v_wrong) u0_12 u0_13 u0_14 u0_15 u0_16 u0_17 u0_18 u0_19 u0_20 u0_21 (.ref q2) u0_23 u0_24 u0_25 u0_26 u0_27 u0_28 u0_29 u0_30 u0_31 u0_32 u0_33 u0_34 u0_35 u0_36 u0_37 u0_38 u0_39 u0_40, aB cy q1 nv_read v_read, aI cy q2 240 v_acts] (fun _ => [oX11 q0 u0_0 u0_1 u0_2 u0_3 u0_4 u0_5 u0_6 (.ref q1) (.int v_length) (.int v_top) (.int r.1) (.int r.2.1) u0_12 u0_13 u0_14 u0_15 u0_16 u0_17 u0_18 u0_19 u0_20 u0_21 (.ref q2) u0_23 u0_24 u0_25 u0_26 u0_27 u0_28 u0_29 u0_30 u0_31 u0_32 u0_33 u0_34 u0_35 u0_36 u0_37 u0_38 u0_39 u0_40, aB cy q1 nv_read v_read, aI cy q2 240 r.2.2]) (none) := by
  refine Ct.mk kX11_readAct (by decide +kernel) (Nat.le_of_ble_eq_true rfl) ?_
  intro p e s m below meth c A ls args R Q hRf hRl hQ E H locs hS hl
  have hx := E.x
  have hb := E.b
  have hl : lv_has ls 3 [(0, .ref q0), (1, .int p1)] := hl
  unfold X11_readAct at h
  refine lv_aload_n hx hb dX11_readAct_0 rfl (lv_at hl 0 rfl) ?_
  obtain ⟨y1, e1, h⟩ := bd_some h
  refine ct_V (ws' := fun _ => [oX11 q0 u0_0 u0_1 u0_2 u0_3 u0_4 u0_5 u0_6 (.ref q1) (.int v_length) (.int v_top) (.int v_at) (.int v_wrong) u0_12 u0_13 u0_14 u0_15 u0_16 u0_17 u0_18 u0_19 u0_20 u0_21 (.ref q2) u0_23 u0_24 u0_25 u0_26 u0_27 u0_28 u0_29 u0_30 u0_31 u0_32 u0_33 u0_34 u0_35 u0_36 u0_37 u0_38 u0_39 u0_40, aB cy q1 nv_read v_read, aI cy q2 240 v_acts]) (st' := [.int y1]) (rest := []) E hS vlX11_129 (c_X11_here (l := l) (D := D) (cy := cy) (q0 := q0) (q1 := q1) (u0_0 := u0_0) (u0_1 := u0_1) (u0_2 := u0_2) (u0_3 := u0_3) (u0_4 := u0_4) (u0_5 := u0_5) (u0_6 := u0_6) (u0_11 := .int v_wrong) (u0_12 := u0_12) (u0_13 := u0_13) (u0_14 := u0_14) (u0_15 := u0_15) (u0_16 := u0_16) (u0_17 := u0_17) (u0_18 := u0_18) (u0_19 := u0_19) (u0_20 := u0_20) (u0_21 := u0_21) (u0_22 := .ref q2) (u0_23 := u0_23) (u0_24 := u0_24) (u0_25 := u0_25) (u0_26 := u0_26) (u0_27 := u0_27) (u0_28 := u0_28) (u0_29 := u0_29) (u0_30 := u0_30) (u0_31 := u0_31) (u0_32 := u0_32) (u0_33 := u0_33) (u0_34 := u0_34) (u0_35 := u0_35) (u0_36 := u0_36) (u0_37 := u0_37) (u0_38 := u0_38) (u0_39 := u0_39) (u0_40 := u0_40) (v_length := v_length) (v_top := v_top) (v_at := v_at) (nv_read := nv_read) (v_read := v_read) (r := y1) e1) [0, 1] rfl rfl (fun _ => rfl) (fun _ => rfl) rfl rfl rfl rfl (Nat.le_of_ble_eq_true rfl) hl.1 (by rw [hRf]; exact Nat.le_of_ble_eq_true rfl) (by rw [hRl]; exact Nat.le_of_ble_eq_true rfl) ⟨Nat.zero_le _, Nat.zero_le _⟩ dX11_readAct_1 rfl (fun H locs _ hS => ?_)
  refine lv_istore_n (lv' := [(2, .int y1), (0, .ref q0), (1, .int p1)]) hx hb dX11_readAct_4 rfl hl (by decide) rfl (fun ls hl => ?_)
  refine lv_iload_n hx hb dX11_readAct_5 rfl (lv_at hl 0 rfl) ?_
  refine lv_bipush (v := 110) hx hb dX11_readAct_6 (by decide) ?_
  have hJ44 : ∀ (H : Heap) (locs : List Loc) (ls : Array Slot), X11_readAct_k44 v_length v_top v_at v_wrong nv_read v_read v_acts p1 y1 = some r → Sv D A s.heap [oX11 q0 u0_0 u0_1 u0_2 u0_3 u0_4 u0_5 u0_6 (.ref q1) (.int v_length) (.int v_top) (.int v_at) (.int v_wrong) u0_12 u0_13 u0_14 u0_15 u0_16 u0_17 u0_18 u0_19 u0_20 u0_21 (.ref q2) u0_23 u0_24 u0_25 u0_26 u0_27 u0_28 u0_29 u0_30 u0_31 u0_32 u0_33 u0_34 u0_35 u0_36 u0_37 u0_38 u0_39 u0_40, aB cy q1 nv_read v_read, aI cy q2 240 v_acts] H locs → lv_has ls 3 [(0, .ref q0), (1, .int p1), (2, .int y1)] → W p l e R s m args below meth c H locs 0 0 Q (F0 m 44 ls []) := by
    intro H locs ls h hS hl
    unfold X11_readAct_k44 at h
    refine lv_aload_n hx hb dX11_readAct_44 rfl (lv_at hl 0 rfl) ?_
    refine lv_dup hx hb dX11_readAct_45 rfl ?_
    refine r_get E frX11_115 hS 0 rfl rfl dX11_readAct_46 ?_
    refine lv_iconst (v := 1) hx hb dX11_readAct_49 (by decide) ?_
    refine lv_iadd hx hb dX11_readAct_50 ?_
    refine r_put (ws' := [oX11 q0 u0_0 u0_1 u0_2 u0_3 u0_4 u0_5 u0_6 (.ref q1) (.int v_length) (.int v_top) (.int (v_at + (1 : Int32))) (.int v_wrong) u0_12 u0_13 u0_14 u0_15 u0_16 u0_17 u0_18 u0_19 u0_20 u0_21 (.ref q2) u0_23 u0_24 u0_25 u0_26 u0_27 u0_28 u0_29 u0_30 u0_31 u0_32 u0_33 u0_34 u0_35 u0_36 u0_37 u0_38 u0_39 u0_40, aB cy q1 nv_read v_read, aI cy q2 240 v_acts]) E frX11_115 hS 0 rfl (Nat.le_of_ble_eq_true rfl) rfl rfl rfl rfl dX11_readAct_51 (fun H locs hS => ?_)
    refine lv_aload_n hx hb dX11_readAct_54 rfl (lv_at hl 0 rfl) ?_
    refine r_get E frX11_42 hS 0 rfl rfl dX11_readAct_55 ?_
    refine lv_iload_n hx hb dX11_readAct_58 rfl (lv_at hl 1 rfl) ?_
    refine lv_iload_n hx hb dX11_readAct_59 rfl (lv_at hl 2 rfl) ?_
    obtain ⟨g2, h⟩ := gi_some h
    refine r_iast (ws' := [oX11 q0 u0_0 u0_1 u0_2 u0_3 u0_4 u0_5 u0_6 (.ref q1) (.int v_length) (.int v_top) (.int (v_at + (1 : Int32))) (.int v_wrong) u0_12 u0_13 u0_14 u0_15 u0_16 u0_17 u0_18 u0_19 u0_20 u0_21 (.ref q2) u0_23 u0_24 u0_25 u0_26 u0_27 u0_28 u0_29 u0_30 u0_31 u0_32 u0_33 u0_34 u0_35 u0_36 u0_37 u0_38 u0_39 u0_40, aB cy q1 nv_read v_read, aI cy q2 240 (upd v_acts p1.toNatClampNeg y1)]) E hS 2 rfl g2 rfl dX11_readAct_60 (fun H locs hS => ?_)
    refine lv_aload_n hx hb dX11_readAct_61 rfl (lv_at hl 0 rfl) ?_
    refine r_get E frX11_42 hS 0 rfl rfl dX11_readAct_62 ?_
    refine lv_iload_n hx hb dX11_readAct_65 rfl (lv_at hl 1 rfl) ?_
    refine lv_iconst (v := 1) hx hb dX11_readAct_66 (by decide) ?_
    refine lv_iadd hx hb dX11_readAct_67 ?_
    refine lv_aload_n hx hb dX11_readAct_68 rfl (lv_at hl 0 rfl) ?_
    refine lv_bipush (v := 48) hx hb dX11_readAct_69 (by decide) ?_
    refine lv_bipush (v := 10) hx hb dX11_readAct_71 (by decide) ?_
    obtain ⟨y73, e3, h⟩ := bd_some h
    refine ct_V (ws' := fun _ => [oX11 q0 u0_0 u0_1 u0_2 u0_3 u0_4 u0_5 u0_6 (.ref q1) (.int v_length) (.int v_top) (.int y73.2.1) (.int y73.2.2) u0_12 u0_13 u0_14 u0_15 u0_16 u0_17 u0_18 u0_19 u0_20 u0_21 (.ref q2) u0_23 u0_24 u0_25 u0_26 u0_27 u0_28 u0_29 u0_30 u0_31 u0_32 u0_33 u0_34 u0_35 u0_36 u0_37 u0_38 u0_39 u0_40, aB cy q1 nv_read v_read, aI cy q2 240 (upd v_acts p1.toNatClampNeg y1)]) (st' := [.int y73.1, .int (p1 + (1 : Int32)), .ref q2]) (rest := [.int (p1 + (1 : Int32)), .ref q2]) E hS vlX11_141 (c_X11_oneOf (l := l) (D := D) (cy := cy) (q0 := q0) (q1 := q1) (u0_0 := u0_0) (u0_1 := u0_1) (u0_2 := u0_2) (u0_3 := u0_3) (u0_4 := u0_4) (u0_5 := u0_5) (u0_6 := u0_6) (u0_12 := u0_12) (u0_13 := u0_13) (u0_14 := u0_14) (u0_15 := u0_15) (u0_16 := u0_16) (u0_17 := u0_17) (u0_18 := u0_18) (u0_19 := u0_19) (u0_20 := u0_20) (u0_21 := u0_21) (u0_22 := .ref q2) (u0_23 := u0_23) (u0_24 := u0_24) (u0_25 := u0_25) (u0_26 := u0_26) (u0_27 := u0_27) (u0_28 := u0_28) (u0_29 := u0_29) (u0_30 := u0_30) (u0_31 := u0_31) (u0_32 := u0_32) (u0_33 := u0_33) (u0_34 := u0_34) (u0_35 := u0_35) (u0_36 := u0_36) (u0_37 := u0_37) (u0_38 := u0_38) (u0_39 := u0_39) (u0_40 := u0_40) (v_length := v_length) (v_top := v_top) (v_at := (v_at + (1 : Int32))) (v_wrong := v_wrong) (nv_read := nv_read) (v_read := v_read) (p1 := (48 : Int32)) (p2 := (10 : Int32)) (r := y73) e3) [0, 1] rfl rfl (fun _ => rfl) (fun _ => rfl) rfl rfl rfl rfl (Nat.le_of_ble_eq_true rfl) hl.1 (by rw [hRf]; exact Nat.le_of_ble_eq_true rfl) (by rw [hRl]; exact Nat.le_of_ble_eq_true rfl) ⟨Nat.zero_le _, Nat.zero_le _⟩ dX11_readAct_73 rfl (fun H locs _ hS => ?_)
    obtain ⟨g4, h⟩ := gi_some h
    refine r_iast (ws' := [oX11 q0 u0_0 u0_1 u0_2 u0_3 u0_4 u0_5 u0_6 (.ref q1) (.int v_length) (.int v_top) (.int y73.2.1) (.int y73.2.2) u0_12 u0_13 u0_14 u0_15 u0_16 u0_17 u0_18 u0_19 u0_20 u0_21 (.ref q2) u0_23 u0_24 u0_25 u0_26 u0_27 u0_28 u0_29 u0_30 u0_31 u0_32 u0_33 u0_34 u0_35 u0_36 u0_37 u0_38 u0_39 u0_40, aB cy q1 nv_read v_read, aI cy q2 240 (upd (upd v_acts p1.toNatClampNeg y1) (p1 + (1 : Int32)).toNatClampNeg y73.1)]) E hS 2 rfl g4 rfl dX11_readAct_76 (fun H locs hS => ?_)
    refine lv_iload_n hx hb dX11_readAct_77 rfl (lv_at hl 2 rfl) ?_
    refine lv_bipush (v := 116) hx hb dX11_readAct_78 (by decide) ?_
    have hJ105 : ∀ (j105_v_at : Int32) (j105_v_wrong : Int32) (j105_v_acts : Nat → Int32) (H : Heap) (locs : List Loc) (ls : Array Slot), X11_readAct_k105 v_length v_top nv_read v_read p1 y1 j105_v_at j105_v_wrong j105_v_acts = some r → Sv D A s.heap [oX11 q0 u0_0 u0_1 u0_2 u0_3 u0_4 u0_5 u0_6 (.ref q1) (.int v_length) (.int v_top) (.int j105_v_at) (.int j105_v_wrong) u0_12 u0_13 u0_14 u0_15 u0_16 u0_17 u0_18 u0_19 u0_20 u0_21 (.ref q2) u0_23 u0_24 u0_25 u0_26 u0_27 u0_28 u0_29 u0_30 u0_31 u0_32 u0_33 u0_34 u0_35 u0_36 u0_37 u0_38 u0_39 u0_40, aB cy q1 nv_read v_read, aI cy q2 240 j105_v_acts] H locs → lv_has ls 3 [(0, .ref q0), (1, .int p1), (2, .int y1)] → W p l e R s m args below meth c H locs 0 0 Q (F0 m 105 ls []) := by
      intro j105_v_at j105_v_wrong j105_v_acts H locs ls h hS hl
      unfold X11_readAct_k105 at h
      refine lv_iload_n hx hb dX11_readAct_105 rfl (lv_at hl 2 rfl) ?_
      refine lv_bipush (v := 112) hx hb dX11_readAct_106 (by decide) ?_
      refine lv_icmp_ne (tgt := 129) hx hb dX11_readAct_108 (by decide) (fun c5 => ?_) (fun c5 => ?_)
      · have h := it_neg c5 h
        obtain rfl := Option.some.inj h
        exact rt_v E hQ (.null) hS dX11_readAct_129
      · have h := it_pos c5 h
        refine lv_aload_n hx hb dX11_readAct_111 rfl (lv_at hl 0 rfl) ?_
        refine r_get E frX11_42 hS 0 rfl rfl dX11_readAct_112 ?_
        refine lv_iload_n hx hb dX11_readAct_115 rfl (lv_at hl 1 rfl) ?_
        refine lv_iconst (v := 2) hx hb dX11_readAct_116 (by decide) ?_
        refine lv_iadd hx hb dX11_readAct_117 ?_
        refine lv_aload_n hx hb dX11_readAct_118 rfl (lv_at hl 0 rfl) ?_
        refine lv_bipush (v := 49) hx hb dX11_readAct_119 (by decide) ?_
        refine lv_bipush (v := 9) hx hb dX11_readAct_121 (by decide) ?_
        obtain ⟨y123, e6, h⟩ := bd_some h
        refine ct_V (ws' := fun _ => [oX11 q0 u0_0 u0_1 u0_2 u0_3 u0_4 u0_5 u0_6 (.ref q1) (.int v_length) (.int v_top) (.int y123.2.1) (.int y123.2.2) u0_12 u0_13 u0_14 u0_15 u0_16 u0_17 u0_18 u0_19 u0_20 u0_21 (.ref q2) u0_23 u0_24 u0_25 u0_26 u0_27 u0_28 u0_29 u0_30 u0_31 u0_32 u0_33 u0_34 u0_35 u0_36 u0_37 u0_38 u0_39 u0_40, aB cy q1 nv_read v_read, aI cy q2 240 j105_v_acts]) (st' := [.int y123.1, .int (p1 + (2 : Int32)), .ref q2]) (rest := [.int (p1 + (2 : Int32)), .ref q2]) E hS vlX11_141 (c_X11_oneOf (l := l) (D := D) (cy := cy) (q0 := q0) (q1 := q1) (u0_0 := u0_0) (u0_1 := u0_1) (u0_2 := u0_2) (u0_3 := u0_3) (u0_4 := u0_4) (u0_5 := u0_5) (u0_6 := u0_6) (u0_12 := u0_12) (u0_13 := u0_13) (u0_14 := u0_14) (u0_15 := u0_15) (u0_16 := u0_16) (u0_17 := u0_17) (u0_18 := u0_18) (u0_19 := u0_19) (u0_20 := u0_20) (u0_21 := u0_21) (u0_22 := .ref q2) (u0_23 := u0_23) (u0_24 := u0_24) (u0_25 := u0_25) (u0_26 := u0_26) (u0_27 := u0_27) (u0_28 := u0_28) (u0_29 := u0_29) (u0_30 := u0_30) (u0_31 := u0_31) (u0_32 := u0_32) (u0_33 := u0_33) (u0_34 := u0_34) (u0_35 := u0_35) (u0_36 := u0_36) (u0_37 := u0_37) (u0_38 := u0_38) (u0_39 := u0_39) (u0_40 := u0_40) (v_length := v_length) (v_top := v_top) (v_at := j105_v_at) (v_wrong := j105_v_wrong) (nv_read := nv_read) (v_read := v_read) (p1 := (49 : Int32)) (p2 := (9 : Int32)) (r := y123) e6) [0, 1] rfl rfl (fun _ => rfl) (fun _ => rfl) rfl rfl rfl rfl (Nat.le_of_ble_eq_true rfl) hl.1 (by rw [hRf]; exact Nat.le_of_ble_eq_true rfl) (by rw [hRl]; exact Nat.le_of_ble_eq_true rfl) ⟨Nat.zero_le _, Nat.zero_le _⟩ dX11_readAct_123 rfl (fun H locs _ hS => ?_)
        refine lv_iconst (v := 1) hx hb dX11_readAct_126 (by decide) ?_
        refine lv_iadd hx hb dX11_readAct_127 ?_
        obtain ⟨g7, h⟩ := gi_some h
        refine r_iast (ws' := [oX11 q0 u0_0 u0_1 u0_2 u0_3 u0_4 u0_5 u0_6 (.ref q1) (.int v_length) (.int v_top) (.int y123.2.1) (.int y123.2.2) u0_12 u0_13 u0_14 u0_15 u0_16 u0_17 u0_18 u0_19 u0_20 u0_21 (.ref q2) u0_23 u0_24 u0_25 u0_26 u0_27 u0_28 u0_29 u0_30 u0_31 u0_32 u0_33 u0_34 u0_35 u0_36 u0_37 u0_38 u0_39 u0_40, aB cy q1 nv_read v_read, aI cy q2 240 (upd j105_v_acts (p1 + (2 : Int32)).toNatClampNeg (y123.1 + (1 : Int32)))]) E hS 2 rfl g7 rfl dX11_readAct_128 (fun H locs hS => ?_)
        obtain rfl := Option.some.inj h
        exact rt_v E hQ (.null) hS dX11_readAct_129
    have hJ89 : ∀ (H : Heap) (locs : List Loc) (ls : Array Slot), X11_readAct_k89 v_length v_top nv_read v_read v_acts p1 y1 y73 = some r → Sv D A s.heap [oX11 q0 u0_0 u0_1 u0_2 u0_3 u0_4 u0_5 u0_6 (.ref q1) (.int v_length) (.int v_top) (.int y73.2.1) (.int y73.2.2) u0_12 u0_13 u0_14 u0_15 u0_16 u0_17 u0_18 u0_19 u0_20 u0_21 (.ref q2) u0_23 u0_24 u0_25 u0_26 u0_27 u0_28 u0_29 u0_30 u0_31 u0_32 u0_33 u0_34 u0_35 u0_36 u0_37 u0_38 u0_39 u0_40, aB cy q1 nv_read v_read, aI cy q2 240 (upd (upd v_acts p1.toNatClampNeg y1) (p1 + (1 : Int32)).toNatClampNeg y73.1)] H locs → lv_has ls 3 [(0, .ref q0), (1, .int p1), (2, .int y1)] → W p l e R s m args below meth c H locs 0 0 Q (F0 m 89 ls []) := by
      intro H locs ls h hS hl
      unfold X11_readAct_k89 at h
      refine lv_aload_n hx hb dX11_readAct_89 rfl (lv_at hl 0 rfl) ?_
      refine r_get E frX11_42 hS 0 rfl rfl dX11_readAct_90 ?_
      refine lv_iload_n hx hb dX11_readAct_93 rfl (lv_at hl 1 rfl) ?_
      refine lv_iconst (v := 2) hx hb dX11_readAct_94 (by decide) ?_
      refine lv_iadd hx hb dX11_readAct_95 ?_
      refine lv_aload_n hx hb dX11_readAct_96 rfl (lv_at hl 0 rfl) ?_
      refine lv_bipush (v := 48) hx hb dX11_readAct_97 (by decide) ?_
      refine lv_bipush (v := 10) hx hb dX11_readAct_99 (by decide) ?_
      obtain ⟨y101, e8, h⟩ := bd_some h
      refine ct_V (ws' := fun _ => [oX11 q0 u0_0 u0_1 u0_2 u0_3 u0_4 u0_5 u0_6 (.ref q1) (.int v_length) (.int v_top) (.int y101.2.1) (.int y101.2.2) u0_12 u0_13 u0_14 u0_15 u0_16 u0_17 u0_18 u0_19 u0_20 u0_21 (.ref q2) u0_23 u0_24 u0_25 u0_26 u0_27 u0_28 u0_29 u0_30 u0_31 u0_32 u0_33 u0_34 u0_35 u0_36 u0_37 u0_38 u0_39 u0_40, aB cy q1 nv_read v_read, aI cy q2 240 (upd (upd v_acts p1.toNatClampNeg y1) (p1 + (1 : Int32)).toNatClampNeg y73.1)]) (st' := [.int y101.1, .int (p1 + (2 : Int32)), .ref q2]) (rest := [.int (p1 + (2 : Int32)), .ref q2]) E hS vlX11_141 (c_X11_oneOf (l := l) (D := D) (cy := cy) (q0 := q0) (q1 := q1) (u0_0 := u0_0) (u0_1 := u0_1) (u0_2 := u0_2) (u0_3 := u0_3) (u0_4 := u0_4) (u0_5 := u0_5) (u0_6 := u0_6) (u0_12 := u0_12) (u0_13 := u0_13) (u0_14 := u0_14) (u0_15 := u0_15) (u0_16 := u0_16) (u0_17 := u0_17) (u0_18 := u0_18) (u0_19 := u0_19) (u0_20 := u0_20) (u0_21 := u0_21) (u0_22 := .ref q2) (u0_23 := u0_23) (u0_24 := u0_24) (u0_25 := u0_25) (u0_26 := u0_26) (u0_27 := u0_27) (u0_28 := u0_28) (u0_29 := u0_29) (u0_30 := u0_30) (u0_31 := u0_31) (u0_32 := u0_32) (u0_33 := u0_33) (u0_34 := u0_34) (u0_35 := u0_35) (u0_36 := u0_36) (u0_37 := u0_37) (u0_38 := u0_38) (u0_39 := u0_39) (u0_40 := u0_40) (v_length := v_length) (v_top := v_top) (v_at := y73.2.1) (v_wrong := y73.2.2) (nv_read := nv_read) (v_read := v_read) (p1 := (48 : Int32)) (p2 := (10 : Int32)) (r := y101) e8) [0, 1] rfl rfl (fun _ => rfl) (fun _ => rfl) rfl rfl rfl rfl (Nat.le_of_ble_eq_true rfl) hl.1 (by rw [hRf]; exact Nat.le_of_ble_eq_true rfl) (by rw [hRl]; exact Nat.le_of_ble_eq_true rfl) ⟨Nat.zero_le _, Nat.zero_le _⟩ dX11_readAct_101 rfl (fun H locs _ hS => ?_)
      obtain ⟨g9, h⟩ := gi_some h
      refine r_iast (ws' := [oX11 q0 u0_0 u0_1 u0_2 u0_3 u0_4 u0_5 u0_6 (.ref q1) (.int v_length) (.int v_top) (.int y101.2.1) (.int y101.2.2) u0_12 u0_13 u0_14 u0_15 u0_16 u0_17 u0_18 u0_19 u0_20 u0_21 (.ref q2) u0_23 u0_24 u0_25 u0_26 u0_27 u0_28 u0_29 u0_30 u0_31 u0_32 u0_33 u0_34 u0_35 u0_36 u0_37 u0_38 u0_39 u0_40, aB cy q1 nv_read v_read, aI cy q2 240 (upd (upd (upd v_acts p1.toNatClampNeg y1) (p1 + (1 : Int32)).toNatClampNeg y73.1) (p1 + (2 : Int32)).toNatClampNeg y101.1)]) E hS 2 rfl g9 rfl dX11_readAct_104 (fun H locs hS => ?_)
      exact hJ105 y101.2.1 y101.2.2 (upd (upd (upd v_acts p1.toNatClampNeg y1) (p1 + (1 : Int32)).toNatClampNeg y73.1) (p1 + (2 : Int32)).toNatClampNeg y101.1)  H locs ls h hS (lv_sub hl [0, 1, 2] rfl)
    refine lv_icmp_eq (tgt := 89) hx hb dX11_readAct_80 (by decide) (fun c10 => ?_) (fun c10 => ?_)
    · have h := it_pos c10 h
      exact hJ89   H locs ls h hS (lv_sub hl [0, 1, 2] rfl)
    · have h := it_neg c10 h
      refine lv_iload_n hx hb dX11_readAct_83 rfl (lv_at hl 2 rfl) ?_
      refine lv_bipush (v := 115) hx hb dX11_readAct_84 (by decide) ?_
      refine lv_icmp_ne (tgt := 105) hx hb dX11_readAct_86 (by decide) (fun c11 => ?_) (fun c11 => ?_)
      · have h := it_neg c11 h
        exact hJ105 y73.2.1 y73.2.2 (upd (upd v_acts p1.toNatClampNeg y1) (p1 + (1 : Int32)).toNatClampNeg y73.1)  H locs ls h hS (lv_sub hl [0, 1, 2] rfl)
      · have h := it_pos c11 h
        exact hJ89   H locs ls h hS (lv_sub hl [0, 1, 2] rfl)
  refine lv_icmp_eq (tgt := 44) hx hb dX11_readAct_8 (by decide) (fun c12 => ?_) (fun c12 => ?_)
  · have h := it_pos c12 h
    exact hJ44   H locs ls h hS (lv_sub hl [1, 2, 0] rfl)
  · have h := it_neg c12 h
    refine lv_iload_n hx hb dX11_readAct_11 rfl (lv_at hl 0 rfl) ?_
    refine lv_bipush (v := 116) hx hb dX11_readAct_12 (by decide) ?_
    refine lv_icmp_eq (tgt := 44) hx hb dX11_readAct_14 (by decide) (fun c13 => ?_) (fun c13 => ?_)
    · have h := it_pos c13 h
      exact hJ44   H locs ls h hS (lv_sub hl [1, 2, 0] rfl)
    · have h := it_neg c13 h
      refine lv_iload_n hx hb dX11_readAct_17 rfl (lv_at hl 0 rfl) ?_
      refine lv_bipush (v := 112) hx hb dX11_readAct_18 (by decide) ?_
      refine lv_icmp_eq (tgt := 44) hx hb dX11_readAct_20 (by decide) (fun c14 => ?_) (fun c14 => ?_)
      · have h := it_pos c14 h
        exact hJ44   H locs ls h hS (lv_sub hl [1, 2, 0] rfl)
      · have h := it_neg c14 h
        refine lv_iload_n hx hb dX11_readAct_23 rfl (lv_at hl 0 rfl) ?_
        refine lv_bipush (v := 115) hx hb dX11_readAct_24 (by decide) ?_
        refine lv_icmp_eq (tgt := 44) hx hb dX11_readAct_26 (by decide) (fun c15 => ?_) (fun c15 => ?_)
        · have h := it_pos c15 h
          exact hJ44   H locs ls h hS (lv_sub hl [1, 2, 0] rfl)
        · have h := it_neg c15 h
          refine lv_iload_n hx hb dX11_readAct_29 rfl (lv_at hl 0 rfl) ?_
          refine lv_bipush (v := 108) hx hb dX11_readAct_30 (by decide) ?_
          refine lv_icmp_eq (tgt := 44) hx hb dX11_readAct_32 (by decide) (fun c16 => ?_) (fun c16 => ?_)
          · have h := it_pos c16 h
            exact hJ44   H locs ls h hS (lv_sub hl [1, 2, 0] rfl)
          · have h := it_neg c16 h
            refine lv_aload_n hx hb dX11_readAct_35 rfl (lv_at hl 1 rfl) ?_
            refine lv_aload_n hx hb dX11_readAct_36 rfl (lv_at hl 1 rfl) ?_
            refine r_get E frX11_115 hS 0 rfl rfl dX11_readAct_37 ?_
            refine ct_V (ws' := fun _ => [oX11 q0 u0_0 u0_1 u0_2 u0_3 u0_4 u0_5 u0_6 (.ref q1) (.int v_length) (.int v_top) (.int v_at) (.int (X11_fault v_wrong v_at)) u0_12 u0_13 u0_14 u0_15 u0_16 u0_17 u0_18 u0_19 u0_20 u0_21 (.ref q2) u0_23 u0_24 u0_25 u0_26 u0_27 u0_28 u0_29 u0_30 u0_31 u0_32 u0_33 u0_34 u0_35 u0_36 u0_37 u0_38 u0_39 u0_40, aB cy q1 nv_read v_read, aI cy q2 240 v_acts]) (st' := []) (rest := []) E hS vlX11_137 (c_X11_fault (l := l) (D := D) (cy := cy) (q0 := q0) (u0_0 := u0_0) (u0_1 := u0_1) (u0_2 := u0_2) (u0_3 := u0_3) (u0_4 := u0_4) (u0_5 := u0_5) (u0_6 := u0_6) (u0_7 := .ref q1) (u0_8 := .int v_length) (u0_9 := .int v_top) (u0_10 := .int v_at) (u0_12 := u0_12) (u0_13 := u0_13) (u0_14 := u0_14) (u0_15 := u0_15) (u0_16 := u0_16) (u0_17 := u0_17) (u0_18 := u0_18) (u0_19 := u0_19) (u0_20 := u0_20) (u0_21 := u0_21) (u0_22 := .ref q2) (u0_23 := u0_23) (u0_24 := u0_24) (u0_25 := u0_25) (u0_26 := u0_26) (u0_27 := u0_27) (u0_28 := u0_28) (u0_29 := u0_29) (u0_30 := u0_30) (u0_31 := u0_31) (u0_32 := u0_32) (u0_33 := u0_33) (u0_34 := u0_34) (u0_35 := u0_35) (u0_36 := u0_36) (u0_37 := u0_37) (u0_38 := u0_38) (u0_39 := u0_39) (u0_40 := u0_40) (v_wrong := v_wrong) (p1 := v_at) (r := (X11_fault v_wrong v_at)) rfl) [0] rfl rfl (fun _ => rfl) (fun _ => rfl) rfl rfl rfl rfl (Nat.le_of_ble_eq_true rfl) hl.1 (by rw [hRf]; exact Nat.le_of_ble_eq_true rfl) (by rw [hRl]; exact Nat.le_of_ble_eq_true rfl) ⟨Nat.zero_le _, Nat.zero_le _⟩ dX11_readAct_40 rfl (fun H locs _ hS => ?_)
            obtain rfl := Option.some.inj h
            exact rt_v E hQ (.null) hS dX11_readAct_43
set_option maxHeartbeats 4000000 in
set_option maxRecDepth 100000 in
theorem c_X11_act {l : Launch} {D : va_G} {cy : Nat → ClassId} (q0 : Nat) (q1 : Nat) (q2 : Nat) (q3 : Nat) (u0_2 : Value) (u0_3 : Value) (u0_4 : Value) (u0_5 : Value) (u0_6 : Value) (u0_7 : Value) (u0_12 : Value) (u0_14 : Value) (u0_18 : Value) (u0_19 : Value) (u0_20 : Value) (u0_21 : Value) (u0_22 : Value) (u0_23 : Value) (u0_24 : Value) (u0_25 : Value) (u0_26 : Value) (u0_27 : Value) (u0_28 : Value) (u0_29 : Value) (u0_30 : Value) (u0_31 : Value) (u0_32 : Value) (u0_33 : Value) (u0_34 : Value) (u0_35 : Value) (u0_36 : Value) (u0_37 : Value) (u0_38 : Value) (u0_39 : Value) (u0_40 : Value) (v_people : Int32) (v_length : Int32) (v_top : Int32) (v_at : Int32) (v_wrong : Int32) (v_ruleSize : Int32) (v_isAsked : Int32) (v_now : Nat → Int32) (v_rule : Nat → Int32) (v_asked : Nat → Int32) (p1 : Int32) (p2 : Int32) (p3 : Int32) (r : Int32 × Int32 × Int32 × Int32 × Int32 × Int32 × (Nat → Int32) × (Nat → Int32)) (h : X11_act v_people v_length v_top v_at v_wrong v_ruleSize v_isAsked v_now v_rule v_asked p1 p2 p3 = some r) : Ct l yX11_act cX11_act 4 (some .boolean) 111 2650 D cy [.ref q0, .int p1, .int p2, .int p3] [oX11 q0 (.ref q1) (.int v_people) u0_2 u0_3 u0_4 u0_5 u0_6 u0_7 (.int v_length) (.int v_top) (.int v_at) (.int v_wrong) u0_12 (.ref q2) u0_14 (.int v_ruleSize) (.int v_isAsked) (.ref q3) u0_18 u0_19 u0_20 u0_21 u0_22 u0_23 u0_24 u0_25 u0_26 u0_27 u0_28 u0_29 u0_30 u0_31 u0_32 u0_33 u0_34 u0_35 u0_36 u0_37 u0_38 u0_39 u0_40, aI cy q1 37 v_now, aB cy q2 40 v_rule, aI cy q3 7 v_asked] (fun rv => [oX11 q0 (.ref q1) (.int v_people) u0_2 u0_3 u0_4 u0_5 u0_6 rv (.int r.2.1) (.int r.2.2.1) (.int r.2.2.2.1) (.int r.2.2.2.2.1) u0_12 (.ref q2) u0_14 (.int v_ruleSize) (.int r.2.2.2.2.2.1) (.ref q3) u0_18 u0_19 u0_20 u0_21 u0_22 u0_23 u0_24 u0_25 u0_26 u0_27 u0_28 u0_29 u0_30 u0_31 u0_32 u0_33 u0_34 u0_35 u0_36 u0_37 u0_38 u0_39 u0_40, aI cy q1 37 r.2.2.2.2.2.2.1, aB cy q2 40 v_rule, aI cy q3 7 r.2.2.2.2.2.2.2]) (some (.int r.1)) := by
  refine Ct.mk kX11_act (by decide +kernel) (Nat.le_of_ble_eq_true rfl) ?_
  intro p e s m below meth c A ls args R Q hRf hRl hQ E H locs hS hl
  have hx := E.x
  have hb := E.b
  have hl : lv_has ls 4 [(0, .ref q0), (1, .int p1), (2, .int p2), (3, .int p3)] := hl
  unfold X11_act at h
  refine lv_iload_n hx hb dX11_act_0 rfl (lv_at hl 1 rfl) ?_
  rcases Decidable.em (p1 = 110) with c1 | c1
  · have h := it_pos c1 h
    refine lv_tableIn (off := 43) (tgt := 44) hx hb dX11_act_1 (by rw [c1]; decide) (by rw [c1]; decide) (by rw [c1]; rfl) (by decide) ?_
    refine lv_aload_n hx hb dX11_act_44 rfl (lv_at hl 0 rfl) ?_
    refine lv_aload_n hx hb dX11_act_45 rfl (lv_at hl 0 rfl) ?_
    refine r_get E frX11_9 hS 0 rfl rfl dX11_act_46 ?_
    refine lv_iload_n hx hb dX11_act_49 rfl (lv_at hl 2 rfl) ?_
    obtain ⟨y50, e2, h⟩ := bd_some h
    refine ct_V (ws' := fun rc3 => [oX11 q0 (.ref q1) (.int v_people) u0_2 u0_3 u0_4 u0_5 u0_6 rc3 (.int y50.2.1) (.int y50.2.2.1) (.int y50.2.2.2.1) (.int y50.2.2.2.2.1) u0_12 (.ref q2) u0_14 (.int v_ruleSize) (.int y50.2.2.2.2.2.1) (.ref q3) u0_18 u0_19 u0_20 u0_21 u0_22 u0_23 u0_24 u0_25 u0_26 u0_27 u0_28 u0_29 u0_30 u0_31 u0_32 u0_33 u0_34 u0_35 u0_36 u0_37 u0_38 u0_39 u0_40, aI cy q1 37 y50.2.2.2.2.2.2.2, aB cy q2 40 v_rule, aI cy q3 7 y50.2.2.2.2.2.2.1]) (st' := [.int y50.1]) (rest := []) E hS vlX11_253 (c_X11_goMornings (l := l) (D := D) (cy := cy) (q0 := q0) (q1 := q2) (q2 := q3) (q3 := q1) (u0_0 := .ref q1) (u0_2 := u0_2) (u0_3 := u0_3) (u0_4 := u0_4) (u0_5 := u0_5) (u0_6 := u0_6) (u0_7 := u0_7) (u0_12 := u0_12) (u0_14 := u0_14) (u0_18 := u0_18) (u0_19 := u0_19) (u0_20 := u0_20) (u0_21 := u0_21) (u0_22 := u0_22) (u0_23 := u0_23) (u0_24 := u0_24) (u0_25 := u0_25) (u0_26 := u0_26) (u0_27 := u0_27) (u0_28 := u0_28) (u0_29 := u0_29) (u0_30 := u0_30) (u0_31 := u0_31) (u0_32 := u0_32) (u0_33 := u0_33) (u0_34 := u0_34) (u0_35 := u0_35) (u0_36 := u0_36) (u0_37 := u0_37) (u0_38 := u0_38) (u0_39 := u0_39) (u0_40 := u0_40) (v_people := v_people) (v_length := v_length) (v_top := v_top) (v_at := v_at) (v_wrong := v_wrong) (v_ruleSize := v_ruleSize) (v_isAsked := v_isAsked) (v_rule := v_rule) (v_asked := v_asked) (nw1_ := 37) (w1_ := v_now) (p2 := p2) (r := y50) e2) [0, 2, 3, 1] rfl rfl (fun _ => rfl) (fun _ => rfl) rfl rfl rfl rfl (Nat.le_of_ble_eq_true rfl) hl.1 (by rw [hRf]; exact Nat.le_of_ble_eq_true rfl) (by rw [hRl]; exact Nat.le_of_ble_eq_true rfl) ⟨Nat.zero_le _, Nat.zero_le _⟩ dX11_act_50 rfl (fun H locs rc3 hS => ?_)
    refine lv_pop hx hb dX11_act_53 rfl ?_
    refine lv_iconst (v := 1) hx hb dX11_act_54 (by decide) ?_
    obtain rfl := Option.some.inj h
    exact rt_n E rfl hQ (rc3) hS dX11_act_55
  · have h := it_neg c1 h
    rcases Decidable.em (p1 = 111) with c4 | c4
    · have h := it_pos c4 h
      refine lv_tableIn (off := 129) (tgt := 130) hx hb dX11_act_1 (by rw [c4]; decide) (by rw [c4]; decide) (by rw [c4]; rfl) (by decide) ?_
      refine lv_aload_n hx hb dX11_act_130 rfl (lv_at hl 0 rfl) ?_
      refine lv_iload_n hx hb dX11_act_131 rfl (lv_at hl 2 rfl) ?_
      obtain ⟨y132, e5, h⟩ := bd_some h
      refine ct_V (ws' := fun _ => [oX11 q0 (.ref q1) (.int v_people) u0_2 u0_3 u0_4 u0_5 u0_6 u0_7 (.int v_length) (.int v_top) (.int v_at) (.int v_wrong) u0_12 (.ref q2) u0_14 (.int v_ruleSize) (.int v_isAsked) (.ref q3) u0_18 u0_19 u0_20 u0_21 u0_22 u0_23 u0_24 u0_25 u0_26 u0_27 u0_28 u0_29 u0_30 u0_31 u0_32 u0_33 u0_34 u0_35 u0_36 u0_37 u0_38 u0_39 u0_40, aI cy q1 37 v_now, aB cy q2 40 v_rule, aI cy q3 7 v_asked]) (st' := [.int y132]) (rest := []) E hS vlX11_272 (c_X11_refusesLeave (l := l) (D := D) (cy := cy) (q0 := q0) (q1 := q1) (u0_2 := u0_2) (u0_3 := u0_3) (u0_4 := u0_4) (u0_5 := u0_5) (u0_6 := u0_6) (u0_7 := u0_7) (u0_8 := .int v_length) (u0_9 := .int v_top) (u0_10 := .int v_at) (u0_11 := .int v_wrong) (u0_12 := u0_12) (u0_13 := .ref q2) (u0_14 := u0_14) (u0_15 := .int v_ruleSize) (u0_16 := .int v_isAsked) (u0_17 := .ref q3) (u0_18 := u0_18) (u0_19 := u0_19) (u0_20 := u0_20) (u0_21 := u0_21) (u0_22 := u0_22) (u0_23 := u0_23) (u0_24 := u0_24) (u0_25 := u0_25) (u0_26 := u0_26) (u0_27 := u0_27) (u0_28 := u0_28) (u0_29 := u0_29) (u0_30 := u0_30) (u0_31 := u0_31) (u0_32 := u0_32) (u0_33 := u0_33) (u0_34 := u0_34) (u0_35 := u0_35) (u0_36 := u0_36) (u0_37 := u0_37) (u0_38 := u0_38) (u0_39 := u0_39) (u0_40 := u0_40) (v_people := v_people) (v_now := v_now) (p1 := p2) (r := y132) e5) [0, 1] rfl rfl (fun _ => rfl) (fun _ => rfl) rfl rfl rfl rfl (Nat.le_of_ble_eq_true rfl) hl.1 (by rw [hRf]; exact Nat.le_of_ble_eq_true rfl) (by rw [hRl]; exact Nat.le_of_ble_eq_true rfl) ⟨Nat.zero_le _, Nat.zero_le _⟩ dX11_act_132 rfl (fun H locs _ hS => ?_)
      refine lv_if_ge (tgt := 140) hx hb dX11_act_135 (by decide) (fun c6 => ?_) (fun c6 => ?_)
      · have h := it_pos c6 h
        refine lv_aload_n hx hb dX11_act_140 rfl (lv_at hl 0 rfl) ?_
        refine lv_aload_n hx hb dX11_act_141 rfl (lv_at hl 0 rfl) ?_
        refine r_get E frX11_9 hS 0 rfl rfl dX11_act_142 ?_
        refine lv_iload_n hx hb dX11_act_145 rfl (lv_at hl 2 rfl) ?_
        obtain ⟨y146, e7, h⟩ := bd_some h
        refine ct_V (ws' := fun _ => [oX11 q0 (.ref q1) (.int v_people) u0_2 u0_3 u0_4 u0_5 u0_6 u0_7 (.int v_length) (.int v_top) (.int v_at) (.int v_wrong) u0_12 (.ref q2) u0_14 (.int v_ruleSize) (.int v_isAsked) (.ref q3) u0_18 u0_19 u0_20 u0_21 u0_22 u0_23 u0_24 u0_25 u0_26 u0_27 u0_28 u0_29 u0_30 u0_31 u0_32 u0_33 u0_34 u0_35 u0_36 u0_37 u0_38 u0_39 u0_40, aI cy q1 37 y146, aB cy q2 40 v_rule, aI cy q3 7 v_asked]) (st' := []) (rest := []) E hS vlX11_275 (c_X11_goAway (l := l) (D := D) (cy := cy) (q0 := q0) (q1 := q1) (u0_0 := .ref q1) (u0_2 := u0_2) (u0_3 := u0_3) (u0_4 := u0_4) (u0_5 := u0_5) (u0_6 := u0_6) (u0_7 := u0_7) (u0_8 := .int v_length) (u0_9 := .int v_top) (u0_10 := .int v_at) (u0_11 := .int v_wrong) (u0_12 := u0_12) (u0_13 := .ref q2) (u0_14 := u0_14) (u0_15 := .int v_ruleSize) (u0_16 := .int v_isAsked) (u0_17 := .ref q3) (u0_18 := u0_18) (u0_19 := u0_19) (u0_20 := u0_20) (u0_21 := u0_21) (u0_22 := u0_22) (u0_23 := u0_23) (u0_24 := u0_24) (u0_25 := u0_25) (u0_26 := u0_26) (u0_27 := u0_27) (u0_28 := u0_28) (u0_29 := u0_29) (u0_30 := u0_30) (u0_31 := u0_31) (u0_32 := u0_32) (u0_33 := u0_33) (u0_34 := u0_34) (u0_35 := u0_35) (u0_36 := u0_36) (u0_37 := u0_37) (u0_38 := u0_38) (u0_39 := u0_39) (u0_40 := u0_40) (v_people := v_people) (nw1_ := 37) (w1_ := v_now) (p2 := p2) (r := y146) e7) [0, 1] rfl rfl (fun _ => rfl) (fun _ => rfl) rfl rfl rfl rfl (Nat.le_of_ble_eq_true rfl) hl.1 (by rw [hRf]; exact Nat.le_of_ble_eq_true rfl) (by rw [hRl]; exact Nat.le_of_ble_eq_true rfl) ⟨Nat.zero_le _, Nat.zero_le _⟩ dX11_act_146 rfl (fun H locs _ hS => ?_)
        refine lv_iconst (v := 1) hx hb dX11_act_149 (by decide) ?_
        obtain rfl := Option.some.inj h
        exact rt_n E rfl hQ (u0_7) hS dX11_act_150
      · have h := it_neg c6 h
        refine lv_iconst (v := 0) hx hb dX11_act_138 (by decide) ?_
        obtain rfl := Option.some.inj h
        exact rt_n E rfl hQ (u0_7) hS dX11_act_139
    · have h := it_neg c4 h
      rcases Decidable.em (p1 = 112) with c8 | c8
      · have h := it_pos c8 h
        refine lv_tableIn (off := 83) (tgt := 84) hx hb dX11_act_1 (by rw [c8]; decide) (by rw [c8]; decide) (by rw [c8]; rfl) (by decide) ?_
        refine lv_aload_n hx hb dX11_act_84 rfl (lv_at hl 0 rfl) ?_
        refine lv_iload_n hx hb dX11_act_85 rfl (lv_at hl 2 rfl) ?_
        refine lv_iload_n hx hb dX11_act_86 rfl (lv_at hl 3 rfl) ?_
        obtain ⟨y87, e9, h⟩ := bd_some h
        refine ct_V (ws' := fun _ => [oX11 q0 (.ref q1) (.int v_people) u0_2 u0_3 u0_4 u0_5 u0_6 u0_7 (.int v_length) (.int v_top) (.int v_at) (.int v_wrong) u0_12 (.ref q2) u0_14 (.int v_ruleSize) (.int v_isAsked) (.ref q3) u0_18 u0_19 u0_20 u0_21 u0_22 u0_23 u0_24 u0_25 u0_26 u0_27 u0_28 u0_29 u0_30 u0_31 u0_32 u0_33 u0_34 u0_35 u0_36 u0_37 u0_38 u0_39 u0_40, aI cy q1 37 v_now, aB cy q2 40 v_rule, aI cy q3 7 v_asked]) (st' := [.int y87]) (rest := []) E hS vlX11_263 (c_X11_refusesPills (l := l) (D := D) (cy := cy) (q0 := q0) (q1 := q1) (u0_2 := u0_2) (u0_3 := u0_3) (u0_4 := u0_4) (u0_5 := u0_5) (u0_6 := u0_6) (u0_7 := u0_7) (u0_8 := .int v_length) (u0_9 := .int v_top) (u0_10 := .int v_at) (u0_11 := .int v_wrong) (u0_12 := u0_12) (u0_13 := .ref q2) (u0_14 := u0_14) (u0_15 := .int v_ruleSize) (u0_16 := .int v_isAsked) (u0_17 := .ref q3) (u0_18 := u0_18) (u0_19 := u0_19) (u0_20 := u0_20) (u0_21 := u0_21) (u0_22 := u0_22) (u0_23 := u0_23) (u0_24 := u0_24) (u0_25 := u0_25) (u0_26 := u0_26) (u0_27 := u0_27) (u0_28 := u0_28) (u0_29 := u0_29) (u0_30 := u0_30) (u0_31 := u0_31) (u0_32 := u0_32) (u0_33 := u0_33) (u0_34 := u0_34) (u0_35 := u0_35) (u0_36 := u0_36) (u0_37 := u0_37) (u0_38 := u0_38) (u0_39 := u0_39) (u0_40 := u0_40) (v_people := v_people) (v_now := v_now) (p1 := p2) (p2 := p3) (r := y87) e9) [0, 1] rfl rfl (fun _ => rfl) (fun _ => rfl) rfl rfl rfl rfl (Nat.le_of_ble_eq_true rfl) hl.1 (by rw [hRf]; exact Nat.le_of_ble_eq_true rfl) (by rw [hRl]; exact Nat.le_of_ble_eq_true rfl) ⟨Nat.zero_le _, Nat.zero_le _⟩ dX11_act_87 rfl (fun H locs _ hS => ?_)
        refine lv_if_ge (tgt := 95) hx hb dX11_act_90 (by decide) (fun c10 => ?_) (fun c10 => ?_)
        · have h := it_pos c10 h
          refine lv_aload_n hx hb dX11_act_95 rfl (lv_at hl 0 rfl) ?_
          refine r_get E frX11_9 hS 0 rfl rfl dX11_act_96 ?_
          refine lv_bipush (v := 7) hx hb dX11_act_99 (by decide) ?_
          refine lv_iload_n hx hb dX11_act_101 rfl (lv_at hl 2 rfl) ?_
          refine lv_iadd hx hb dX11_act_102 ?_
          refine lv_dup2_11 hx hb dX11_act_103 rfl rfl ?_
          obtain ⟨g11, h⟩ := gi_some h
          refine r_iald E hS 1 rfl g11 dX11_act_104 ?_
          refine lv_iload_n hx hb dX11_act_105 rfl (lv_at hl 3 rfl) ?_
          refine lv_iadd hx hb dX11_act_106 ?_
          obtain ⟨g12, h⟩ := gi_some h
          refine r_iast (ws' := [oX11 q0 (.ref q1) (.int v_people) u0_2 u0_3 u0_4 u0_5 u0_6 u0_7 (.int v_length) (.int v_top) (.int v_at) (.int v_wrong) u0_12 (.ref q2) u0_14 (.int v_ruleSize) (.int v_isAsked) (.ref q3) u0_18 u0_19 u0_20 u0_21 u0_22 u0_23 u0_24 u0_25 u0_26 u0_27 u0_28 u0_29 u0_30 u0_31 u0_32 u0_33 u0_34 u0_35 u0_36 u0_37 u0_38 u0_39 u0_40, aI cy q1 37 (upd v_now ((7 : Int32) + p2).toNatClampNeg ((v_now ((7 : Int32) + p2).toNatClampNeg) + p3)), aB cy q2 40 v_rule, aI cy q3 7 v_asked]) E hS 1 rfl g12 rfl dX11_act_107 (fun H locs hS => ?_)
          refine lv_iconst (v := 1) hx hb dX11_act_108 (by decide) ?_
          obtain rfl := Option.some.inj h
          exact rt_n E rfl hQ (u0_7) hS dX11_act_109
        · have h := it_neg c10 h
          refine lv_iconst (v := 0) hx hb dX11_act_93 (by decide) ?_
          obtain rfl := Option.some.inj h
          exact rt_n E rfl hQ (u0_7) hS dX11_act_94
      · have h := it_neg c8 h
        rcases Decidable.em (p1 = 113) with c13 | c13
        · have h := it_pos c13 h
          refine lv_tableIn (off := 129) (tgt := 130) hx hb dX11_act_1 (by rw [c13]; decide) (by rw [c13]; decide) (by rw [c13]; rfl) (by decide) ?_
          refine lv_aload_n hx hb dX11_act_130 rfl (lv_at hl 0 rfl) ?_
          refine lv_iload_n hx hb dX11_act_131 rfl (lv_at hl 2 rfl) ?_
          obtain ⟨y132, e14, h⟩ := bd_some h
          refine ct_V (ws' := fun _ => [oX11 q0 (.ref q1) (.int v_people) u0_2 u0_3 u0_4 u0_5 u0_6 u0_7 (.int v_length) (.int v_top) (.int v_at) (.int v_wrong) u0_12 (.ref q2) u0_14 (.int v_ruleSize) (.int v_isAsked) (.ref q3) u0_18 u0_19 u0_20 u0_21 u0_22 u0_23 u0_24 u0_25 u0_26 u0_27 u0_28 u0_29 u0_30 u0_31 u0_32 u0_33 u0_34 u0_35 u0_36 u0_37 u0_38 u0_39 u0_40, aI cy q1 37 v_now, aB cy q2 40 v_rule, aI cy q3 7 v_asked]) (st' := [.int y132]) (rest := []) E hS vlX11_272 (c_X11_refusesLeave (l := l) (D := D) (cy := cy) (q0 := q0) (q1 := q1) (u0_2 := u0_2) (u0_3 := u0_3) (u0_4 := u0_4) (u0_5 := u0_5) (u0_6 := u0_6) (u0_7 := u0_7) (u0_8 := .int v_length) (u0_9 := .int v_top) (u0_10 := .int v_at) (u0_11 := .int v_wrong) (u0_12 := u0_12) (u0_13 := .ref q2) (u0_14 := u0_14) (u0_15 := .int v_ruleSize) (u0_16 := .int v_isAsked) (u0_17 := .ref q3) (u0_18 := u0_18) (u0_19 := u0_19) (u0_20 := u0_20) (u0_21 := u0_21) (u0_22 := u0_22) (u0_23 := u0_23) (u0_24 := u0_24) (u0_25 := u0_25) (u0_26 := u0_26) (u0_27 := u0_27) (u0_28 := u0_28) (u0_29 := u0_29) (u0_30 := u0_30) (u0_31 := u0_31) (u0_32 := u0_32) (u0_33 := u0_33) (u0_34 := u0_34) (u0_35 := u0_35) (u0_36 := u0_36) (u0_37 := u0_37) (u0_38 := u0_38) (u0_39 := u0_39) (u0_40 := u0_40) (v_people := v_people) (v_now := v_now) (p1 := p2) (r := y132) e14) [0, 1] rfl rfl (fun _ => rfl) (fun _ => rfl) rfl rfl rfl rfl (Nat.le_of_ble_eq_true rfl) hl.1 (by rw [hRf]; exact Nat.le_of_ble_eq_true rfl) (by rw [hRl]; exact Nat.le_of_ble_eq_true rfl) ⟨Nat.zero_le _, Nat.zero_le _⟩ dX11_act_132 rfl (fun H locs _ hS => ?_)
          refine lv_if_ge (tgt := 140) hx hb dX11_act_135 (by decide) (fun c15 => ?_) (fun c15 => ?_)
          · have h := it_pos c15 h
            refine lv_aload_n hx hb dX11_act_140 rfl (lv_at hl 0 rfl) ?_
            refine lv_aload_n hx hb dX11_act_141 rfl (lv_at hl 0 rfl) ?_
            refine r_get E frX11_9 hS 0 rfl rfl dX11_act_142 ?_
            refine lv_iload_n hx hb dX11_act_145 rfl (lv_at hl 2 rfl) ?_
            obtain ⟨y146, e16, h⟩ := bd_some h
            refine ct_V (ws' := fun _ => [oX11 q0 (.ref q1) (.int v_people) u0_2 u0_3 u0_4 u0_5 u0_6 u0_7 (.int v_length) (.int v_top) (.int v_at) (.int v_wrong) u0_12 (.ref q2) u0_14 (.int v_ruleSize) (.int v_isAsked) (.ref q3) u0_18 u0_19 u0_20 u0_21 u0_22 u0_23 u0_24 u0_25 u0_26 u0_27 u0_28 u0_29 u0_30 u0_31 u0_32 u0_33 u0_34 u0_35 u0_36 u0_37 u0_38 u0_39 u0_40, aI cy q1 37 y146, aB cy q2 40 v_rule, aI cy q3 7 v_asked]) (st' := []) (rest := []) E hS vlX11_275 (c_X11_goAway (l := l) (D := D) (cy := cy) (q0 := q0) (q1 := q1) (u0_0 := .ref q1) (u0_2 := u0_2) (u0_3 := u0_3) (u0_4 := u0_4) (u0_5 := u0_5) (u0_6 := u0_6) (u0_7 := u0_7) (u0_8 := .int v_length) (u0_9 := .int v_top) (u0_10 := .int v_at) (u0_11 := .int v_wrong) (u0_12 := u0_12) (u0_13 := .ref q2) (u0_14 := u0_14) (u0_15 := .int v_ruleSize) (u0_16 := .int v_isAsked) (u0_17 := .ref q3) (u0_18 := u0_18) (u0_19 := u0_19) (u0_20 := u0_20) (u0_21 := u0_21) (u0_22 := u0_22) (u0_23 := u0_23) (u0_24 := u0_24) (u0_25 := u0_25) (u0_26 := u0_26) (u0_27 := u0_27) (u0_28 := u0_28) (u0_29 := u0_29) (u0_30 := u0_30) (u0_31 := u0_31) (u0_32 := u0_32) (u0_33 := u0_33) (u0_34 := u0_34) (u0_35 := u0_35) (u0_36 := u0_36) (u0_37 := u0_37) (u0_38 := u0_38) (u0_39 := u0_39) (u0_40 := u0_40) (v_people := v_people) (nw1_ := 37) (w1_ := v_now) (p2 := p2) (r := y146) e16) [0, 1] rfl rfl (fun _ => rfl) (fun _ => rfl) rfl rfl rfl rfl (Nat.le_of_ble_eq_true rfl) hl.1 (by rw [hRf]; exact Nat.le_of_ble_eq_true rfl) (by rw [hRl]; exact Nat.le_of_ble_eq_true rfl) ⟨Nat.zero_le _, Nat.zero_le _⟩ dX11_act_146 rfl (fun H locs _ hS => ?_)
            refine lv_iconst (v := 1) hx hb dX11_act_149 (by decide) ?_
            obtain rfl := Option.some.inj h
            exact rt_n E rfl hQ (u0_7) hS dX11_act_150
          · have h := it_neg c15 h
            refine lv_iconst (v := 0) hx hb dX11_act_138 (by decide) ?_
            obtain rfl := Option.some.inj h
            exact rt_n E rfl hQ (u0_7) hS dX11_act_139
        · have h := it_neg c13 h
          rcases Decidable.em (p1 = 114) with c17 | c17
          · have h := it_pos c17 h
            refine lv_tableIn (off := 129) (tgt := 130) hx hb dX11_act_1 (by rw [c17]; decide) (by rw [c17]; decide) (by rw [c17]; rfl) (by decide) ?_
            refine lv_aload_n hx hb dX11_act_130 rfl (lv_at hl 0 rfl) ?_
            refine lv_iload_n hx hb dX11_act_131 rfl (lv_at hl 2 rfl) ?_
            obtain ⟨y132, e18, h⟩ := bd_some h
            refine ct_V (ws' := fun _ => [oX11 q0 (.ref q1) (.int v_people) u0_2 u0_3 u0_4 u0_5 u0_6 u0_7 (.int v_length) (.int v_top) (.int v_at) (.int v_wrong) u0_12 (.ref q2) u0_14 (.int v_ruleSize) (.int v_isAsked) (.ref q3) u0_18 u0_19 u0_20 u0_21 u0_22 u0_23 u0_24 u0_25 u0_26 u0_27 u0_28 u0_29 u0_30 u0_31 u0_32 u0_33 u0_34 u0_35 u0_36 u0_37 u0_38 u0_39 u0_40, aI cy q1 37 v_now, aB cy q2 40 v_rule, aI cy q3 7 v_asked]) (st' := [.int y132]) (rest := []) E hS vlX11_272 (c_X11_refusesLeave (l := l) (D := D) (cy := cy) (q0 := q0) (q1 := q1) (u0_2 := u0_2) (u0_3 := u0_3) (u0_4 := u0_4) (u0_5 := u0_5) (u0_6 := u0_6) (u0_7 := u0_7) (u0_8 := .int v_length) (u0_9 := .int v_top) (u0_10 := .int v_at) (u0_11 := .int v_wrong) (u0_12 := u0_12) (u0_13 := .ref q2) (u0_14 := u0_14) (u0_15 := .int v_ruleSize) (u0_16 := .int v_isAsked) (u0_17 := .ref q3) (u0_18 := u0_18) (u0_19 := u0_19) (u0_20 := u0_20) (u0_21 := u0_21) (u0_22 := u0_22) (u0_23 := u0_23) (u0_24 := u0_24) (u0_25 := u0_25) (u0_26 := u0_26) (u0_27 := u0_27) (u0_28 := u0_28) (u0_29 := u0_29) (u0_30 := u0_30) (u0_31 := u0_31) (u0_32 := u0_32) (u0_33 := u0_33) (u0_34 := u0_34) (u0_35 := u0_35) (u0_36 := u0_36) (u0_37 := u0_37) (u0_38 := u0_38) (u0_39 := u0_39) (u0_40 := u0_40) (v_people := v_people) (v_now := v_now) (p1 := p2) (r := y132) e18) [0, 1] rfl rfl (fun _ => rfl) (fun _ => rfl) rfl rfl rfl rfl (Nat.le_of_ble_eq_true rfl) hl.1 (by rw [hRf]; exact Nat.le_of_ble_eq_true rfl) (by rw [hRl]; exact Nat.le_of_ble_eq_true rfl) ⟨Nat.zero_le _, Nat.zero_le _⟩ dX11_act_132 rfl (fun H locs _ hS => ?_)
            refine lv_if_ge (tgt := 140) hx hb dX11_act_135 (by decide) (fun c19 => ?_) (fun c19 => ?_)
            · have h := it_pos c19 h
              refine lv_aload_n hx hb dX11_act_140 rfl (lv_at hl 0 rfl) ?_
              refine lv_aload_n hx hb dX11_act_141 rfl (lv_at hl 0 rfl) ?_
              refine r_get E frX11_9 hS 0 rfl rfl dX11_act_142 ?_
              refine lv_iload_n hx hb dX11_act_145 rfl (lv_at hl 2 rfl) ?_
              obtain ⟨y146, e20, h⟩ := bd_some h
              refine ct_V (ws' := fun _ => [oX11 q0 (.ref q1) (.int v_people) u0_2 u0_3 u0_4 u0_5 u0_6 u0_7 (.int v_length) (.int v_top) (.int v_at) (.int v_wrong) u0_12 (.ref q2) u0_14 (.int v_ruleSize) (.int v_isAsked) (.ref q3) u0_18 u0_19 u0_20 u0_21 u0_22 u0_23 u0_24 u0_25 u0_26 u0_27 u0_28 u0_29 u0_30 u0_31 u0_32 u0_33 u0_34 u0_35 u0_36 u0_37 u0_38 u0_39 u0_40, aI cy q1 37 y146, aB cy q2 40 v_rule, aI cy q3 7 v_asked]) (st' := []) (rest := []) E hS vlX11_275 (c_X11_goAway (l := l) (D := D) (cy := cy) (q0 := q0) (q1 := q1) (u0_0 := .ref q1) (u0_2 := u0_2) (u0_3 := u0_3) (u0_4 := u0_4) (u0_5 := u0_5) (u0_6 := u0_6) (u0_7 := u0_7) (u0_8 := .int v_length) (u0_9 := .int v_top) (u0_10 := .int v_at) (u0_11 := .int v_wrong) (u0_12 := u0_12) (u0_13 := .ref q2) (u0_14 := u0_14) (u0_15 := .int v_ruleSize) (u0_16 := .int v_isAsked) (u0_17 := .ref q3) (u0_18 := u0_18) (u0_19 := u0_19) (u0_20 := u0_20) (u0_21 := u0_21) (u0_22 := u0_22) (u0_23 := u0_23) (u0_24 := u0_24) (u0_25 := u0_25) (u0_26 := u0_26) (u0_27 := u0_27) (u0_28 := u0_28) (u0_29 := u0_29) (u0_30 := u0_30) (u0_31 := u0_31) (u0_32 := u0_32) (u0_33 := u0_33) (u0_34 := u0_34) (u0_35 := u0_35) (u0_36 := u0_36) (u0_37 := u0_37) (u0_38 := u0_38) (u0_39 := u0_39) (u0_40 := u0_40) (v_people := v_people) (nw1_ := 37) (w1_ := v_now) (p2 := p2) (r := y146) e20) [0, 1] rfl rfl (fun _ => rfl) (fun _ => rfl) rfl rfl rfl rfl (Nat.le_of_ble_eq_true rfl) hl.1 (by rw [hRf]; exact Nat.le_of_ble_eq_true rfl) (by rw [hRl]; exact Nat.le_of_ble_eq_true rfl) ⟨Nat.zero_le _, Nat.zero_le _⟩ dX11_act_146 rfl (fun H locs _ hS => ?_)
              refine lv_iconst (v := 1) hx hb dX11_act_149 (by decide) ?_
              obtain rfl := Option.some.inj h
              exact rt_n E rfl hQ (u0_7) hS dX11_act_150
            · have h := it_neg c19 h
              refine lv_iconst (v := 0) hx hb dX11_act_138 (by decide) ?_
              obtain rfl := Option.some.inj h
              exact rt_n E rfl hQ (u0_7) hS dX11_act_139
          · have h := it_neg c17 h
            rcases Decidable.em (p1 = 115) with c21 | c21
            · have h := it_pos c21 h
              refine lv_tableIn (off := 109) (tgt := 110) hx hb dX11_act_1 (by rw [c21]; decide) (by rw [c21]; decide) (by rw [c21]; rfl) (by decide) ?_
              refine lv_aload_n hx hb dX11_act_110 rfl (lv_at hl 0 rfl) ?_
              refine lv_iload_n hx hb dX11_act_111 rfl (lv_at hl 2 rfl) ?_
              refine lv_iload_n hx hb dX11_act_112 rfl (lv_at hl 3 rfl) ?_
              obtain ⟨y113, e22, h⟩ := bd_some h
              refine ct_V (ws' := fun _ => [oX11 q0 (.ref q1) (.int v_people) u0_2 u0_3 u0_4 u0_5 u0_6 u0_7 (.int v_length) (.int v_top) (.int v_at) (.int v_wrong) u0_12 (.ref q2) u0_14 (.int v_ruleSize) (.int v_isAsked) (.ref q3) u0_18 u0_19 u0_20 u0_21 u0_22 u0_23 u0_24 u0_25 u0_26 u0_27 u0_28 u0_29 u0_30 u0_31 u0_32 u0_33 u0_34 u0_35 u0_36 u0_37 u0_38 u0_39 u0_40, aI cy q1 37 v_now, aB cy q2 40 v_rule, aI cy q3 7 v_asked]) (st' := [.int y113]) (rest := []) E hS vlX11_266 (c_X11_refusesSkill (l := l) (D := D) (cy := cy) (q0 := q0) (q1 := q1) (u0_2 := u0_2) (u0_3 := u0_3) (u0_4 := u0_4) (u0_5 := u0_5) (u0_6 := u0_6) (u0_7 := u0_7) (u0_8 := .int v_length) (u0_9 := .int v_top) (u0_10 := .int v_at) (u0_11 := .int v_wrong) (u0_12 := u0_12) (u0_13 := .ref q2) (u0_14 := u0_14) (u0_15 := .int v_ruleSize) (u0_16 := .int v_isAsked) (u0_17 := .ref q3) (u0_18 := u0_18) (u0_19 := u0_19) (u0_20 := u0_20) (u0_21 := u0_21) (u0_22 := u0_22) (u0_23 := u0_23) (u0_24 := u0_24) (u0_25 := u0_25) (u0_26 := u0_26) (u0_27 := u0_27) (u0_28 := u0_28) (u0_29 := u0_29) (u0_30 := u0_30) (u0_31 := u0_31) (u0_32 := u0_32) (u0_33 := u0_33) (u0_34 := u0_34) (u0_35 := u0_35) (u0_36 := u0_36) (u0_37 := u0_37) (u0_38 := u0_38) (u0_39 := u0_39) (u0_40 := u0_40) (v_people := v_people) (v_now := v_now) (p1 := p2) (p2 := p3) (r := y113) e22) [0, 1] rfl rfl (fun _ => rfl) (fun _ => rfl) rfl rfl rfl rfl (Nat.le_of_ble_eq_true rfl) hl.1 (by rw [hRf]; exact Nat.le_of_ble_eq_true rfl) (by rw [hRl]; exact Nat.le_of_ble_eq_true rfl) ⟨Nat.zero_le _, Nat.zero_le _⟩ dX11_act_113 rfl (fun H locs _ hS => ?_)
              refine lv_if_ge (tgt := 121) hx hb dX11_act_116 (by decide) (fun c23 => ?_) (fun c23 => ?_)
              · have h := it_pos c23 h
                refine lv_aload_n hx hb dX11_act_121 rfl (lv_at hl 0 rfl) ?_
                refine r_get E frX11_9 hS 0 rfl rfl dX11_act_122 ?_
                refine lv_iload_n hx hb dX11_act_125 rfl (lv_at hl 2 rfl) ?_
                refine lv_iload_n hx hb dX11_act_126 rfl (lv_at hl 3 rfl) ?_
                obtain ⟨g24, h⟩ := gi_some h
                refine r_iast (ws' := [oX11 q0 (.ref q1) (.int v_people) u0_2 u0_3 u0_4 u0_5 u0_6 u0_7 (.int v_length) (.int v_top) (.int v_at) (.int v_wrong) u0_12 (.ref q2) u0_14 (.int v_ruleSize) (.int v_isAsked) (.ref q3) u0_18 u0_19 u0_20 u0_21 u0_22 u0_23 u0_24 u0_25 u0_26 u0_27 u0_28 u0_29 u0_30 u0_31 u0_32 u0_33 u0_34 u0_35 u0_36 u0_37 u0_38 u0_39 u0_40, aI cy q1 37 (upd v_now p2.toNatClampNeg p3), aB cy q2 40 v_rule, aI cy q3 7 v_asked]) E hS 1 rfl g24 rfl dX11_act_127 (fun H locs hS => ?_)
                refine lv_iconst (v := 1) hx hb dX11_act_128 (by decide) ?_
                obtain rfl := Option.some.inj h
                exact rt_n E rfl hQ (u0_7) hS dX11_act_129
              · have h := it_neg c23 h
                refine lv_iconst (v := 0) hx hb dX11_act_119 (by decide) ?_
                obtain rfl := Option.some.inj h
                exact rt_n E rfl hQ (u0_7) hS dX11_act_120
            · have h := it_neg c21 h
              rcases Decidable.em (p1 = 116) with c25 | c25
              · have h := it_pos c25 h
                refine lv_tableIn (off := 55) (tgt := 56) hx hb dX11_act_1 (by rw [c25]; decide) (by rw [c25]; decide) (by rw [c25]; rfl) (by decide) ?_
                refine lv_aload_n hx hb dX11_act_56 rfl (lv_at hl 0 rfl) ?_
                refine lv_iload_n hx hb dX11_act_57 rfl (lv_at hl 2 rfl) ?_
                refine lv_iload_n hx hb dX11_act_58 rfl (lv_at hl 3 rfl) ?_
                obtain ⟨y59, e26, h⟩ := bd_some h
                refine ct_V (ws' := fun _ => [oX11 q0 (.ref q1) (.int v_people) u0_2 u0_3 u0_4 u0_5 u0_6 u0_7 (.int v_length) (.int v_top) (.int v_at) (.int v_wrong) u0_12 (.ref q2) u0_14 (.int v_ruleSize) (.int v_isAsked) (.ref q3) u0_18 u0_19 u0_20 u0_21 u0_22 u0_23 u0_24 u0_25 u0_26 u0_27 u0_28 u0_29 u0_30 u0_31 u0_32 u0_33 u0_34 u0_35 u0_36 u0_37 u0_38 u0_39 u0_40, aI cy q1 37 v_now, aB cy q2 40 v_rule, aI cy q3 7 v_asked]) (st' := [.int y59]) (rest := []) E hS vlX11_260 (c_X11_areTwo (l := l) (D := D) (cy := cy) (q0 := q0) (u0_0 := .ref q1) (u0_2 := u0_2) (u0_3 := u0_3) (u0_4 := u0_4) (u0_5 := u0_5) (u0_6 := u0_6) (u0_7 := u0_7) (u0_8 := .int v_length) (u0_9 := .int v_top) (u0_10 := .int v_at) (u0_11 := .int v_wrong) (u0_12 := u0_12) (u0_13 := .ref q2) (u0_14 := u0_14) (u0_15 := .int v_ruleSize) (u0_16 := .int v_isAsked) (u0_17 := .ref q3) (u0_18 := u0_18) (u0_19 := u0_19) (u0_20 := u0_20) (u0_21 := u0_21) (u0_22 := u0_22) (u0_23 := u0_23) (u0_24 := u0_24) (u0_25 := u0_25) (u0_26 := u0_26) (u0_27 := u0_27) (u0_28 := u0_28) (u0_29 := u0_29) (u0_30 := u0_30) (u0_31 := u0_31) (u0_32 := u0_32) (u0_33 := u0_33) (u0_34 := u0_34) (u0_35 := u0_35) (u0_36 := u0_36) (u0_37 := u0_37) (u0_38 := u0_38) (u0_39 := u0_39) (u0_40 := u0_40) (v_people := v_people) (p1 := p2) (p2 := p3) (r := y59) e26) [0] rfl rfl (fun _ => rfl) (fun _ => rfl) rfl rfl rfl rfl (Nat.le_of_ble_eq_true rfl) hl.1 (by rw [hRf]; exact Nat.le_of_ble_eq_true rfl) (by rw [hRl]; exact Nat.le_of_ble_eq_true rfl) ⟨Nat.zero_le _, Nat.zero_le _⟩ dX11_act_59 rfl (fun H locs _ hS => ?_)
                refine lv_if_ne (tgt := 67) hx hb dX11_act_62 (by decide) (fun c27 => ?_) (fun c27 => ?_)
                · have h := it_neg c27 h
                  refine lv_aload_n hx hb dX11_act_67 rfl (lv_at hl 0 rfl) ?_
                  refine r_get E frX11_9 hS 0 rfl rfl dX11_act_68 ?_
                  refine lv_bipush (v := 28) hx hb dX11_act_71 (by decide) ?_
                  refine lv_iload_n hx hb dX11_act_73 rfl (lv_at hl 2 rfl) ?_
                  refine lv_iadd hx hb dX11_act_74 ?_
                  refine lv_dup2_11 hx hb dX11_act_75 rfl rfl ?_
                  obtain ⟨g28, h⟩ := gi_some h
                  refine r_iald E hS 1 rfl g28 dX11_act_76 ?_
                  refine lv_iconst (v := 1) hx hb dX11_act_77 (by decide) ?_
                  refine lv_iload_n hx hb dX11_act_78 rfl (lv_at hl 3 rfl) ?_
                  refine lv_ishl hx hb dX11_act_79 ?_
                  refine lv_ixor hx hb dX11_act_80 ?_
                  obtain ⟨g29, h⟩ := gi_some h
                  refine r_iast (ws' := [oX11 q0 (.ref q1) (.int v_people) u0_2 u0_3 u0_4 u0_5 u0_6 u0_7 (.int v_length) (.int v_top) (.int v_at) (.int v_wrong) u0_12 (.ref q2) u0_14 (.int v_ruleSize) (.int v_isAsked) (.ref q3) u0_18 u0_19 u0_20 u0_21 u0_22 u0_23 u0_24 u0_25 u0_26 u0_27 u0_28 u0_29 u0_30 u0_31 u0_32 u0_33 u0_34 u0_35 u0_36 u0_37 u0_38 u0_39 u0_40, aI cy q1 37 (upd v_now ((28 : Int32) + p2).toNatClampNeg ((v_now ((28 : Int32) + p2).toNatClampNeg) ^^^ ((1 : Int32) <<< (p3 &&& 31)))), aB cy q2 40 v_rule, aI cy q3 7 v_asked]) E hS 1 rfl g29 rfl dX11_act_81 (fun H locs hS => ?_)
                  refine lv_iconst (v := 1) hx hb dX11_act_82 (by decide) ?_
                  obtain rfl := Option.some.inj h
                  exact rt_n E rfl hQ (u0_7) hS dX11_act_83
                · have h := it_pos c27 h
                  refine lv_iconst (v := 0) hx hb dX11_act_65 (by decide) ?_
                  obtain rfl := Option.some.inj h
                  exact rt_n E rfl hQ (u0_7) hS dX11_act_66
              · have h := it_neg c25 h
                have ht : p1.toInt < 110 ∨ (116 : Int) < p1.toInt := by
                  refine tb_neg (fun k h1 h2 => ?_)
                  have hh : k = 110 ∨ k = 111 ∨ k = 112 ∨ k = 113 ∨ k = 114 ∨ k = 115 ∨ k = 116 := by omega
                  rcases hh with rfl | rfl | rfl | rfl | rfl | rfl | rfl
                  · exact c1
                  · exact c4
                  · exact c8
                  · exact c13
                  · exact c17
                  · exact c21
                  · exact c25
                refine lv_tableOut (tgt := 130) hx hb dX11_act_1 ht (by decide) ?_
                refine lv_aload_n hx hb dX11_act_130 rfl (lv_at hl 0 rfl) ?_
                refine lv_iload_n hx hb dX11_act_131 rfl (lv_at hl 2 rfl) ?_
                obtain ⟨y132, e30, h⟩ := bd_some h
                refine ct_V (ws' := fun _ => [oX11 q0 (.ref q1) (.int v_people) u0_2 u0_3 u0_4 u0_5 u0_6 u0_7 (.int v_length) (.int v_top) (.int v_at) (.int v_wrong) u0_12 (.ref q2) u0_14 (.int v_ruleSize) (.int v_isAsked) (.ref q3) u0_18 u0_19 u0_20 u0_21 u0_22 u0_23 u0_24 u0_25 u0_26 u0_27 u0_28 u0_29 u0_30 u0_31 u0_32 u0_33 u0_34 u0_35 u0_36 u0_37 u0_38 u0_39 u0_40, aI cy q1 37 v_now, aB cy q2 40 v_rule, aI cy q3 7 v_asked]) (st' := [.int y132]) (rest := []) E hS vlX11_272 (c_X11_refusesLeave (l := l) (D := D) (cy := cy) (q0 := q0) (q1 := q1) (u0_2 := u0_2) (u0_3 := u0_3) (u0_4 := u0_4) (u0_5 := u0_5) (u0_6 := u0_6) (u0_7 := u0_7) (u0_8 := .int v_length) (u0_9 := .int v_top) (u0_10 := .int v_at) (u0_11 := .int v_wrong) (u0_12 := u0_12) (u0_13 := .ref q2) (u0_14 := u0_14) (u0_15 := .int v_ruleSize) (u0_16 := .int v_isAsked) (u0_17 := .ref q3) (u0_18 := u0_18) (u0_19 := u0_19) (u0_20 := u0_20) (u0_21 := u0_21) (u0_22 := u0_22) (u0_23 := u0_23) (u0_24 := u0_24) (u0_25 := u0_25) (u0_26 := u0_26) (u0_27 := u0_27) (u0_28 := u0_28) (u0_29 := u0_29) (u0_30 := u0_30) (u0_31 := u0_31) (u0_32 := u0_32) (u0_33 := u0_33) (u0_34 := u0_34) (u0_35 := u0_35) (u0_36 := u0_36) (u0_37 := u0_37) (u0_38 := u0_38) (u0_39 := u0_39) (u0_40 := u0_40) (v_people := v_people) (v_now := v_now) (p1 := p2) (r := y132) e30) [0, 1] rfl rfl (fun _ => rfl) (fun _ => rfl) rfl rfl rfl rfl (Nat.le_of_ble_eq_true rfl) hl.1 (by rw [hRf]; exact Nat.le_of_ble_eq_true rfl) (by rw [hRl]; exact Nat.le_of_ble_eq_true rfl) ⟨Nat.zero_le _, Nat.zero_le _⟩ dX11_act_132 rfl (fun H locs _ hS => ?_)
                refine lv_if_ge (tgt := 140) hx hb dX11_act_135 (by decide) (fun c31 => ?_) (fun c31 => ?_)
                · have h := it_pos c31 h
                  refine lv_aload_n hx hb dX11_act_140 rfl (lv_at hl 0 rfl) ?_
                  refine lv_aload_n hx hb dX11_act_141 rfl (lv_at hl 0 rfl) ?_
                  refine r_get E frX11_9 hS 0 rfl rfl dX11_act_142 ?_
                  refine lv_iload_n hx hb dX11_act_145 rfl (lv_at hl 2 rfl) ?_
                  obtain ⟨y146, e32, h⟩ := bd_some h
                  refine ct_V (ws' := fun _ => [oX11 q0 (.ref q1) (.int v_people) u0_2 u0_3 u0_4 u0_5 u0_6 u0_7 (.int v_length) (.int v_top) (.int v_at) (.int v_wrong) u0_12 (.ref q2) u0_14 (.int v_ruleSize) (.int v_isAsked) (.ref q3) u0_18 u0_19 u0_20 u0_21 u0_22 u0_23 u0_24 u0_25 u0_26 u0_27 u0_28 u0_29 u0_30 u0_31 u0_32 u0_33 u0_34 u0_35 u0_36 u0_37 u0_38 u0_39 u0_40, aI cy q1 37 y146, aB cy q2 40 v_rule, aI cy q3 7 v_asked]) (st' := []) (rest := []) E hS vlX11_275 (c_X11_goAway (l := l) (D := D) (cy := cy) (q0 := q0) (q1 := q1) (u0_0 := .ref q1) (u0_2 := u0_2) (u0_3 := u0_3) (u0_4 := u0_4) (u0_5 := u0_5) (u0_6 := u0_6) (u0_7 := u0_7) (u0_8 := .int v_length) (u0_9 := .int v_top) (u0_10 := .int v_at) (u0_11 := .int v_wrong) (u0_12 := u0_12) (u0_13 := .ref q2) (u0_14 := u0_14) (u0_15 := .int v_ruleSize) (u0_16 := .int v_isAsked) (u0_17 := .ref q3) (u0_18 := u0_18) (u0_19 := u0_19) (u0_20 := u0_20) (u0_21 := u0_21) (u0_22 := u0_22) (u0_23 := u0_23) (u0_24 := u0_24) (u0_25 := u0_25) (u0_26 := u0_26) (u0_27 := u0_27) (u0_28 := u0_28) (u0_29 := u0_29) (u0_30 := u0_30) (u0_31 := u0_31) (u0_32 := u0_32) (u0_33 := u0_33) (u0_34 := u0_34) (u0_35 := u0_35) (u0_36 := u0_36) (u0_37 := u0_37) (u0_38 := u0_38) (u0_39 := u0_39) (u0_40 := u0_40) (v_people := v_people) (nw1_ := 37) (w1_ := v_now) (p2 := p2) (r := y146) e32) [0, 1] rfl rfl (fun _ => rfl) (fun _ => rfl) rfl rfl rfl rfl (Nat.le_of_ble_eq_true rfl) hl.1 (by rw [hRf]; exact Nat.le_of_ble_eq_true rfl) (by rw [hRl]; exact Nat.le_of_ble_eq_true rfl) ⟨Nat.zero_le _, Nat.zero_le _⟩ dX11_act_146 rfl (fun H locs _ hS => ?_)
                  refine lv_iconst (v := 1) hx hb dX11_act_149 (by decide) ?_
                  obtain rfl := Option.some.inj h
                  exact rt_n E rfl hQ (u0_7) hS dX11_act_150
                · have h := it_neg c31 h
                  refine lv_iconst (v := 0) hx hb dX11_act_138 (by decide) ?_
                  obtain rfl := Option.some.inj h
                  exact rt_n E rfl hQ (u0_7) hS dX11_act_139
set_option maxHeartbeats 4000000 in
set_option maxRecDepth 100000 in
theorem c_X11_week {l : Launch} {D : va_G} {cy : Nat → ClassId} (q0 : Nat) (q1 : Nat) (q2 : Nat) (q3 : Nat) (q4 : Nat) (q5 : Nat) (q6 : Nat) (q7 : Nat) (q8 : Nat) (u0_7 : Value) (u0_12 : Value) (u0_14 : Value) (u0_21 : Value) (u0_23 : Value) (u0_24 : Value) (u0_25 : Value) (u0_26 : Value) (u0_27 : Value) (u0_28 : Value) (u0_29 : Value) (u0_30 : Value) (u0_31 : Value) (u0_32 : Value) (u0_33 : Value) (u0_34 : Value) (u0_35 : Value) (u0_36 : Value) (u0_37 : Value) (u0_38 : Value) (u0_39 : Value) (u0_40 : Value) (v_people : Int32) (v_typed : Int32) (v_rowMany : Int32) (v_thrown : Int32) (v_length : Int32) (v_top : Int32) (v_at : Int32) (v_wrong : Int32) (v_ruleSize : Int32) (v_isAsked : Int32) (v_undoMany : Int32) (v_now : Nat → Int32) (v_text : Nat → Int32) (v_row : Nat → Int64) (v_rule : Nat → Int32) (v_asked : Nat → Int32) (v_undos : Nat → Int32) (v_aside : Nat → Int32) (v_acts : Nat → Int32) (r : Int32 × Int32 × Int32 × Int32 × Int32 × Int32 × Int32 × Int32 × Int32 × Int32 × (Nat → Int32) × (Nat → Int64) × (Nat → Int32) × (Nat → Int32) × (Nat → Int32) × (Nat → Int32)) (h : X11_week v_people v_typed v_rowMany v_ruleSize v_isAsked v_undoMany v_now v_text v_row v_rule v_asked v_undos v_aside v_acts = some r) : Ct l yX11_week cX11_week 3 (some .int) 112 2673 D cy [.ref q0] [oX11 q0 (.ref q1) (.int v_people) (.ref q2) (.int v_typed) (.ref q3) (.int v_rowMany) (.int v_thrown) u0_7 (.int v_length) (.int v_top) (.int v_at) (.int v_wrong) u0_12 (.ref q4) u0_14 (.int v_ruleSize) (.int v_isAsked) (.ref q5) (.ref q6) (.int v_undoMany) (.ref q7) u0_21 (.ref q8) u0_23 u0_24 u0_25 u0_26 u0_27 u0_28 u0_29 u0_30 u0_31 u0_32 u0_33 u0_34 u0_35 u0_36 u0_37 u0_38 u0_39 u0_40, aI cy q1 37 v_now, aB cy q2 80 v_text, aJ cy q3 16 v_row, aB cy q4 40 v_rule, aI cy q5 7 v_asked, aI cy q6 444 v_undos, aI cy q7 37 v_aside, aI cy q8 240 v_acts] (fun rv => [oX11 q0 (.ref q1) (.int v_people) (.ref q2) (.int r.2.1) (.ref q3) (.int r.2.2.1) (.int r.2.2.2.1) rv (.int r.2.2.2.2.1) (.int r.2.2.2.2.2.1) (.int r.2.2.2.2.2.2.1) (.int r.2.2.2.2.2.2.2.1) u0_12 (.ref q4) u0_14 (.int v_ruleSize) (.int r.2.2.2.2.2.2.2.2.1) (.ref q5) (.ref q6) (.int r.2.2.2.2.2.2.2.2.2.1) (.ref q7) u0_21 (.ref q8) u0_23 u0_24 u0_25 u0_26 u0_27 u0_28 u0_29 u0_30 u0_31 u0_32 u0_33 u0_34 u0_35 u0_36 u0_37 u0_38 u0_39 u0_40, aI cy q1 37 r.2.2.2.2.2.2.2.2.2.2.1, aB cy q2 80 v_text, aJ cy q3 16 r.2.2.2.2.2.2.2.2.2.2.2.1, aB cy q4 40 v_rule, aI cy q5 7 r.2.2.2.2.2.2.2.2.2.2.2.2.1, aI cy q6 444 r.2.2.2.2.2.2.2.2.2.2.2.2.2.1, aI cy q7 37 r.2.2.2.2.2.2.2.2.2.2.2.2.2.2.1, aI cy q8 240 r.2.2.2.2.2.2.2.2.2.2.2.2.2.2.2]) (some (.int r.1)) := by
  refine Ct.mk kX11_week (by decide +kernel) (Nat.le_of_ble_eq_true rfl) ?_
  intro p e s m below meth c A ls args R Q hRf hRl hQ E H locs hS hl
  have hx := E.x
  have hb := E.b
  have hl : lv_has ls 3 [(0, .ref q0)] := hl
  unfold X11_week at h
  refine lv_aload_n hx hb dX11_week_0 rfl (lv_at hl 0 rfl) ?_
  refine lv_iconst (v := 0) hx hb dX11_week_1 (by decide) ?_
  refine r_put (ws' := [oX11 q0 (.ref q1) (.int v_people) (.ref q2) (.int v_typed) (.ref q3) (.int v_rowMany) (.int (0 : Int32)) u0_7 (.int v_length) (.int v_top) (.int v_at) (.int v_wrong) u0_12 (.ref q4) u0_14 (.int v_ruleSize) (.int v_isAsked) (.ref q5) (.ref q6) (.int v_undoMany) (.ref q7) u0_21 (.ref q8) u0_23 u0_24 u0_25 u0_26 u0_27 u0_28 u0_29 u0_30 u0_31 u0_32 u0_33 u0_34 u0_35 u0_36 u0_37 u0_38 u0_39 u0_40, aI cy q1 37 v_now, aB cy q2 80 v_text, aJ cy q3 16 v_row, aB cy q4 40 v_rule, aI cy q5 7 v_asked, aI cy q6 444 v_undos, aI cy q7 37 v_aside, aI cy q8 240 v_acts]) E frX11_85 hS 0 rfl (Nat.le_of_ble_eq_true rfl) rfl rfl rfl rfl dX11_week_2 (fun H locs hS => ?_)
  refine lv_aload_n hx hb dX11_week_5 rfl (lv_at hl 0 rfl) ?_
  refine lv_bipush (v := 60) hx hb dX11_week_6 (by decide) ?_
  refine ct_V (ws' := fun _ => [oX11 q0 (.ref q1) (.int v_people) (.ref q2) (.int ((X11_beginText v_typed (60 : Int32)).1)) (.ref q3) (.int v_rowMany) (.int (0 : Int32)) (.ref q2) (.int ((X11_beginText v_typed (60 : Int32)).2.1)) (.int ((X11_beginText v_typed (60 : Int32)).2.2.1)) (.int ((X11_beginText v_typed (60 : Int32)).2.2.2.1)) (.int ((X11_beginText v_typed (60 : Int32)).2.2.2.2)) u0_12 (.ref q4) u0_14 (.int v_ruleSize) (.int v_isAsked) (.ref q5) (.ref q6) (.int v_undoMany) (.ref q7) u0_21 (.ref q8) u0_23 u0_24 u0_25 u0_26 u0_27 u0_28 u0_29 u0_30 u0_31 u0_32 u0_33 u0_34 u0_35 u0_36 u0_37 u0_38 u0_39 u0_40, aI cy q1 37 v_now, aB cy q2 80 v_text, aJ cy q3 16 v_row, aB cy q4 40 v_rule, aI cy q5 7 v_asked, aI cy q6 444 v_undos, aI cy q7 37 v_aside, aI cy q8 240 v_acts]) (st' := []) (rest := []) E hS vlX11_151 (c_X11_beginText (l := l) (D := D) (cy := cy) (q0 := q0) (u0_0 := .ref q1) (u0_1 := .int v_people) (z0_2 := q2) (u0_4 := .ref q3) (u0_5 := .int v_rowMany) (u0_6 := .int (0 : Int32)) (u0_7 := u0_7) (u0_12 := u0_12) (u0_13 := .ref q4) (u0_14 := u0_14) (u0_15 := .int v_ruleSize) (u0_16 := .int v_isAsked) (u0_17 := .ref q5) (u0_18 := .ref q6) (u0_19 := .int v_undoMany) (u0_20 := .ref q7) (u0_21 := u0_21) (u0_22 := .ref q8) (u0_23 := u0_23) (u0_24 := u0_24) (u0_25 := u0_25) (u0_26 := u0_26) (u0_27 := u0_27) (u0_28 := u0_28) (u0_29 := u0_29) (u0_30 := u0_30) (u0_31 := u0_31) (u0_32 := u0_32) (u0_33 := u0_33) (u0_34 := u0_34) (u0_35 := u0_35) (u0_36 := u0_36) (u0_37 := u0_37) (u0_38 := u0_38) (u0_39 := u0_39) (u0_40 := u0_40) (v_typed := v_typed) (v_length := v_length) (v_top := v_top) (v_at := v_at) (v_wrong := v_wrong) (p1 := (60 : Int32)) (r := (X11_beginText v_typed (60 : Int32))) rfl) [0] rfl rfl (fun _ => rfl) (fun _ => rfl) rfl rfl rfl rfl (Nat.le_of_ble_eq_true rfl) hl.1 (by rw [hRf]; exact Nat.le_of_ble_eq_true rfl) (by rw [hRl]; exact Nat.le_of_ble_eq_true rfl) ⟨Nat.zero_le _, Nat.zero_le _⟩ dX11_week_8 rfl (fun H locs _ hS => ?_)
  refine lv_iconst (v := 0) hx hb dX11_week_11 (by decide) ?_
  refine lv_istore_n (lv' := [(1, .int (0 : Int32)), (0, .ref q0)]) hx hb dX11_week_12 rfl hl (by decide) rfl (fun ls hl => ?_)
  have hL13 : ∀ (n : Nat) (x13_0 : Int32) (x13_1 : Int32) (x13_2 : Int32) (x13_3 : Nat → Int32) (y13 : Int32 × Int32 × Int32 × (Nat → Int32)) (H : Heap) (locs : List Loc) (ls : Array Slot), lp (fun x13 => X11_week_s13 v_typed v_text x13.1 x13.2.1 x13.2.2.1 x13.2.2.2) n (x13_0, x13_1, x13_2, x13_3) = some y13 → Sv D A s.heap [oX11 q0 (.ref q1) (.int v_people) (.ref q2) (.int ((X11_beginText v_typed (60 : Int32)).1)) (.ref q3) (.int v_rowMany) (.int (0 : Int32)) (.ref q2) (.int ((X11_beginText v_typed (60 : Int32)).2.1)) (.int ((X11_beginText v_typed (60 : Int32)).2.2.1)) (.int x13_1) (.int x13_2) u0_12 (.ref q4) u0_14 (.int v_ruleSize) (.int v_isAsked) (.ref q5) (.ref q6) (.int v_undoMany) (.ref q7) u0_21 (.ref q8) u0_23 u0_24 u0_25 u0_26 u0_27 u0_28 u0_29 u0_30 u0_31 u0_32 u0_33 u0_34 u0_35 u0_36 u0_37 u0_38 u0_39 u0_40, aI cy q1 37 v_now, aB cy q2 80 v_text, aJ cy q3 16 v_row, aB cy q4 40 v_rule, aI cy q5 7 v_asked, aI cy q6 444 v_undos, aI cy q7 37 v_aside, aI cy q8 240 x13_3] H locs → lv_has ls 3 [(0, .ref q0), (1, .int x13_0)] → ( ∀ (y13_0 : Int32) (y13_1 : Int32) (y13_2 : Int32) (y13_3 : Nat → Int32), (y13_0, y13_1, y13_2, y13_3) = y13 → ∀ (H : Heap) (locs : List Loc) (ls : Array Slot), Sv D A s.heap [oX11 q0 (.ref q1) (.int v_people) (.ref q2) (.int ((X11_beginText v_typed (60 : Int32)).1)) (.ref q3) (.int v_rowMany) (.int (0 : Int32)) (.ref q2) (.int ((X11_beginText v_typed (60 : Int32)).2.1)) (.int ((X11_beginText v_typed (60 : Int32)).2.2.1)) (.int y13_1) (.int y13_2) u0_12 (.ref q4) u0_14 (.int v_ruleSize) (.int v_isAsked) (.ref q5) (.ref q6) (.int v_undoMany) (.ref q7) u0_21 (.ref q8) u0_23 u0_24 u0_25 u0_26 u0_27 u0_28 u0_29 u0_30 u0_31 u0_32 u0_33 u0_34 u0_35 u0_36 u0_37 u0_38 u0_39 u0_40, aI cy q1 37 v_now, aB cy q2 80 v_text, aJ cy q3 16 v_row, aB cy q4 40 v_rule, aI cy q5 7 v_asked, aI cy q6 444 v_undos, aI cy q7 37 v_aside, aI cy q8 240 y13_3] H locs → lv_has ls 3 [(0, .ref q0), (1, .int y13_0)] → W p l e R s m args below meth c H locs 0 0 Q (F0 m 44 ls [])) → W p l e R s m args below meth c H locs 0 0 Q (F0 m 13 ls []) := by
    intro n
    induction n with
    | zero =>
      intro x13_0 x13_1 x13_2 x13_3 y13 H locs ls h
      exact lp_zero h
    | succ n ih13 =>
      intro x13_0 x13_1 x13_2 x13_3 y13 H locs ls h hS hl hk13_0
      obtain ⟨z13, h, hz13a, hz13b⟩ := lp_succ h
      have h : X11_week_s13 v_typed v_text x13_0 x13_1 x13_2 x13_3 = some z13 := h
      unfold X11_week_s13 at h
      refine lv_aload_n hx hb dX11_week_13 rfl (lv_at hl 0 rfl) ?_
      refine ct_V (ws' := fun _ => [oX11 q0 (.ref q1) (.int v_people) (.ref q2) (.int ((X11_beginText v_typed (60 : Int32)).1)) (.ref q3) (.int v_rowMany) (.int (0 : Int32)) (.ref q2) (.int ((X11_beginText v_typed (60 : Int32)).2.1)) (.int ((X11_beginText v_typed (60 : Int32)).2.2.1)) (.int x13_1) (.int x13_2) u0_12 (.ref q4) u0_14 (.int v_ruleSize) (.int v_isAsked) (.ref q5) (.ref q6) (.int v_undoMany) (.ref q7) u0_21 (.ref q8) u0_23 u0_24 u0_25 u0_26 u0_27 u0_28 u0_29 u0_30 u0_31 u0_32 u0_33 u0_34 u0_35 u0_36 u0_37 u0_38 u0_39 u0_40, aI cy q1 37 v_now, aB cy q2 80 v_text, aJ cy q3 16 v_row, aB cy q4 40 v_rule, aI cy q5 7 v_asked, aI cy q6 444 v_undos, aI cy q7 37 v_aside, aI cy q8 240 x13_3]) (st' := [.int (X11_fine x13_2)]) (rest := []) E hS vlX11_125 (c_X11_fine (l := l) (D := D) (cy := cy) (q0 := q0) (u0_0 := .ref q1) (u0_1 := .int v_people) (u0_2 := .ref q2) (u0_3 := .int ((X11_beginText v_typed (60 : Int32)).1)) (u0_4 := .ref q3) (u0_5 := .int v_rowMany) (u0_6 := .int (0 : Int32)) (u0_7 := .ref q2) (u0_8 := .int ((X11_beginText v_typed (60 : Int32)).2.1)) (u0_9 := .int ((X11_beginText v_typed (60 : Int32)).2.2.1)) (u0_10 := .int x13_1) (u0_12 := u0_12) (u0_13 := .ref q4) (u0_14 := u0_14) (u0_15 := .int v_ruleSize) (u0_16 := .int v_isAsked) (u0_17 := .ref q5) (u0_18 := .ref q6) (u0_19 := .int v_undoMany) (u0_20 := .ref q7) (u0_21 := u0_21) (u0_22 := .ref q8) (u0_23 := u0_23) (u0_24 := u0_24) (u0_25 := u0_25) (u0_26 := u0_26) (u0_27 := u0_27) (u0_28 := u0_28) (u0_29 := u0_29) (u0_30 := u0_30) (u0_31 := u0_31) (u0_32 := u0_32) (u0_33 := u0_33) (u0_34 := u0_34) (u0_35 := u0_35) (u0_36 := u0_36) (u0_37 := u0_37) (u0_38 := u0_38) (u0_39 := u0_39) (u0_40 := u0_40) (v_wrong := x13_2) (r := (X11_fine x13_2)) rfl) [0] rfl rfl (fun _ => rfl) (fun _ => rfl) rfl rfl rfl rfl (Nat.le_of_ble_eq_true rfl) hl.1 (by rw [hRf]; exact Nat.le_of_ble_eq_true rfl) (by rw [hRl]; exact Nat.le_of_ble_eq_true rfl) ⟨Nat.zero_le _, Nat.zero_le _⟩ dX11_week_14 rfl (fun H locs _ hS => ?_)
      refine lv_if_eq (tgt := 44) hx hb dX11_week_17 (by decide) (fun c1 => ?_) (fun c1 => ?_)
      · have h := it_pos c1 h
        exact hk13_0 x13_0 x13_1 x13_2 x13_3 (hz13b _ (Option.some.inj h).symm)  H locs ls hS (lv_sub hl [0, 1] rfl)
      · have h := it_neg c1 h
        refine lv_aload_n hx hb dX11_week_20 rfl (lv_at hl 0 rfl) ?_
        refine r_get E frX11_115 hS 0 rfl rfl dX11_week_21 ?_
        refine lv_aload_n hx hb dX11_week_24 rfl (lv_at hl 0 rfl) ?_
        refine r_get E frX11_109 hS 0 rfl rfl dX11_week_25 ?_
        refine lv_icmp_ge (tgt := 44) hx hb dX11_week_28 (by decide) (fun c2 => ?_) (fun c2 => ?_)
        · have h := it_pos c2 h
          exact hk13_0 x13_0 x13_1 x13_2 x13_3 (hz13b _ (Option.some.inj h).symm)  H locs ls hS (lv_sub hl [0, 1] rfl)
        · have h := it_neg c2 h
          refine lv_aload_n hx hb dX11_week_31 rfl (lv_at hl 0 rfl) ?_
          refine lv_iconst (v := 3) hx hb dX11_week_32 (by decide) ?_
          refine lv_iload_n hx hb dX11_week_33 rfl (lv_at hl 1 rfl) ?_
          refine lv_imul hx hb dX11_week_34 ?_
          obtain ⟨y35, e3, h⟩ := bd_some h
          refine ct_V (ws' := fun _ => [oX11 q0 (.ref q1) (.int v_people) (.ref q2) (.int ((X11_beginText v_typed (60 : Int32)).1)) (.ref q3) (.int v_rowMany) (.int (0 : Int32)) (.ref q2) (.int ((X11_beginText v_typed (60 : Int32)).2.1)) (.int ((X11_beginText v_typed (60 : Int32)).2.2.1)) (.int y35.1) (.int y35.2.1) u0_12 (.ref q4) u0_14 (.int v_ruleSize) (.int v_isAsked) (.ref q5) (.ref q6) (.int v_undoMany) (.ref q7) u0_21 (.ref q8) u0_23 u0_24 u0_25 u0_26 u0_27 u0_28 u0_29 u0_30 u0_31 u0_32 u0_33 u0_34 u0_35 u0_36 u0_37 u0_38 u0_39 u0_40, aI cy q1 37 v_now, aB cy q2 80 v_text, aJ cy q3 16 v_row, aB cy q4 40 v_rule, aI cy q5 7 v_asked, aI cy q6 444 v_undos, aI cy q7 37 v_aside, aI cy q8 240 y35.2.2]) (st' := []) (rest := []) E hS vlX11_279 (c_X11_readAct (l := l) (D := D) (cy := cy) (q0 := q0) (q1 := q2) (q2 := q8) (u0_0 := .ref q1) (u0_1 := .int v_people) (u0_2 := .ref q2) (u0_3 := .int ((X11_beginText v_typed (60 : Int32)).1)) (u0_4 := .ref q3) (u0_5 := .int v_rowMany) (u0_6 := .int (0 : Int32)) (u0_12 := u0_12) (u0_13 := .ref q4) (u0_14 := u0_14) (u0_15 := .int v_ruleSize) (u0_16 := .int v_isAsked) (u0_17 := .ref q5) (u0_18 := .ref q6) (u0_19 := .int v_undoMany) (u0_20 := .ref q7) (u0_21 := u0_21) (u0_23 := u0_23) (u0_24 := u0_24) (u0_25 := u0_25) (u0_26 := u0_26) (u0_27 := u0_27) (u0_28 := u0_28) (u0_29 := u0_29) (u0_30 := u0_30) (u0_31 := u0_31) (u0_32 := u0_32) (u0_33 := u0_33) (u0_34 := u0_34) (u0_35 := u0_35) (u0_36 := u0_36) (u0_37 := u0_37) (u0_38 := u0_38) (u0_39 := u0_39) (u0_40 := u0_40) (v_length := (X11_beginText v_typed (60 : Int32)).2.1) (v_top := (X11_beginText v_typed (60 : Int32)).2.2.1) (v_at := x13_1) (v_wrong := x13_2) (nv_read := 80) (v_read := v_text) (v_acts := x13_3) (p1 := ((3 : Int32) * x13_0)) (r := y35) e3) [0, 2, 8] rfl rfl (fun _ => rfl) (fun _ => rfl) rfl rfl rfl rfl (Nat.le_of_ble_eq_true rfl) hl.1 (by rw [hRf]; exact Nat.le_of_ble_eq_true rfl) (by rw [hRl]; exact Nat.le_of_ble_eq_true rfl) ⟨Nat.zero_le _, Nat.zero_le _⟩ dX11_week_35 rfl (fun H locs _ hS => ?_)
          refine lv_iinc (v := (x13_0 + (1 : Int32))) (lv' := [(1, .int (x13_0 + (1 : Int32))), (0, .ref q0)]) hx hb dX11_week_38 hl (k := 1) rfl rfl (by decide) rfl (fun ls hl => ?_)
          refine lv_goto (tgt := 13) hx hb dX11_week_41 (by decide) ?_
          exact ih13 (x13_0 + (1 : Int32)) y35.1 y35.2.1 y35.2.2 y13  H locs ls (hz13a _ (Option.some.inj h).symm) hS (lv_sub hl [1, 0] rfl) hk13_0
  obtain ⟨y13, e13, h⟩ := bd_some h
  refine hL13 1000 (0 : Int32) ((X11_beginText v_typed (60 : Int32)).2.2.2.1) ((X11_beginText v_typed (60 : Int32)).2.2.2.2) v_acts y13  H locs ls e13 hS (lv_sub hl [1, 0] rfl) (fun y13_0 y13_1 y13_2 y13_3 ey13 H locs ls hS hl => ?_)
  subst ey13
  have h := un_r h
  have h := un_r h
  have h := un_r h
  refine lv_aload_n hx hb dX11_week_44 rfl (lv_at hl 0 rfl) ?_
  obtain ⟨y45, e4, h⟩ := bd_some h
  refine ct_V (ws' := fun _ => [oX11 q0 (.ref q1) (.int v_people) (.ref q2) (.int ((X11_beginText v_typed (60 : Int32)).1)) (.ref q3) (.int v_rowMany) (.int (0 : Int32)) (.ref q2) (.int ((X11_beginText v_typed (60 : Int32)).2.1)) (.int ((X11_beginText v_typed (60 : Int32)).2.2.1)) (.int y13_1) (.int y45.2) u0_12 (.ref q4) u0_14 (.int v_ruleSize) (.int v_isAsked) (.ref q5) (.ref q6) (.int v_undoMany) (.ref q7) u0_21 (.ref q8) u0_23 u0_24 u0_25 u0_26 u0_27 u0_28 u0_29 u0_30 u0_31 u0_32 u0_33 u0_34 u0_35 u0_36 u0_37 u0_38 u0_39 u0_40, aI cy q1 37 v_now, aB cy q2 80 v_text, aJ cy q3 16 v_row, aB cy q4 40 v_rule, aI cy q5 7 v_asked, aI cy q6 444 v_undos, aI cy q7 37 v_aside, aI cy q8 240 y13_3]) (st' := [.int y45.1]) (rest := []) E hS vlX11_154 (c_X11_wasRight (l := l) (D := D) (cy := cy) (q0 := q0) (u0_0 := .ref q1) (u0_1 := .int v_people) (u0_2 := .ref q2) (u0_3 := .int ((X11_beginText v_typed (60 : Int32)).1)) (u0_4 := .ref q3) (u0_5 := .int v_rowMany) (u0_6 := .int (0 : Int32)) (u0_7 := .ref q2) (u0_9 := .int ((X11_beginText v_typed (60 : Int32)).2.2.1)) (u0_12 := u0_12) (u0_13 := .ref q4) (u0_14 := u0_14) (u0_15 := .int v_ruleSize) (u0_16 := .int v_isAsked) (u0_17 := .ref q5) (u0_18 := .ref q6) (u0_19 := .int v_undoMany) (u0_20 := .ref q7) (u0_21 := u0_21) (u0_22 := .ref q8) (u0_23 := u0_23) (u0_24 := u0_24) (u0_25 := u0_25) (u0_26 := u0_26) (u0_27 := u0_27) (u0_28 := u0_28) (u0_29 := u0_29) (u0_30 := u0_30) (u0_31 := u0_31) (u0_32 := u0_32) (u0_33 := u0_33) (u0_34 := u0_34) (u0_35 := u0_35) (u0_36 := u0_36) (u0_37 := u0_37) (u0_38 := u0_38) (u0_39 := u0_39) (u0_40 := u0_40) (v_length := (X11_beginText v_typed (60 : Int32)).2.1) (v_at := y13_1) (v_wrong := y13_2) (r := y45) e4) [0] rfl rfl (fun _ => rfl) (fun _ => rfl) rfl rfl rfl rfl (Nat.le_of_ble_eq_true rfl) hl.1 (by rw [hRf]; exact Nat.le_of_ble_eq_true rfl) (by rw [hRl]; exact Nat.le_of_ble_eq_true rfl) ⟨Nat.zero_le _, Nat.zero_le _⟩ dX11_week_45 rfl (fun H locs _ hS => ?_)
  refine lv_if_ne (tgt := 58) hx hb dX11_week_48 (by decide) (fun c5 => ?_) (fun c5 => ?_)
  · have h := it_neg c5 h
    refine lv_aload_n hx hb dX11_week_58 rfl (lv_at hl 0 rfl) ?_
    refine r_get E frX11_9 hS 0 rfl rfl dX11_week_59 ?_
    refine lv_aload_n hx hb dX11_week_62 rfl (lv_at hl 0 rfl) ?_
    refine r_get E frX11_36 hS 0 rfl rfl dX11_week_63 ?_
    refine lv_iconst (v := 0) hx hb dX11_week_66 (by decide) ?_
    obtain ⟨y67, e6, h⟩ := bd_some h
    refine ct_S (ws' := fun _ => [oX11 q0 (.ref q1) (.int v_people) (.ref q2) (.int ((X11_beginText v_typed (60 : Int32)).1)) (.ref q3) (.int v_rowMany) (.int (0 : Int32)) (.ref q2) (.int ((X11_beginText v_typed (60 : Int32)).2.1)) (.int ((X11_beginText v_typed (60 : Int32)).2.2.1)) (.int y13_1) (.int y45.2) u0_12 (.ref q4) u0_14 (.int v_ruleSize) (.int v_isAsked) (.ref q5) (.ref q6) (.int v_undoMany) (.ref q7) u0_21 (.ref q8) u0_23 u0_24 u0_25 u0_26 u0_27 u0_28 u0_29 u0_30 u0_31 u0_32 u0_33 u0_34 u0_35 u0_36 u0_37 u0_38 u0_39 u0_40, aI cy q1 37 v_now, aB cy q2 80 v_text, aJ cy q3 16 v_row, aB cy q4 40 v_rule, aI cy q5 7 v_asked, aI cy q6 444 v_undos, aI cy q7 37 y67, aI cy q8 240 y13_3]) (st' := []) (rest := []) E hS slX11_235 (c_X11_lay (l := l) (D := D) (cy := cy) (q0 := q1) (q1 := q7) (nw1_ := 37) (w1_ := v_now) (nw2_ := 37) (w2_ := v_aside) (p2 := (0 : Int32)) (r := y67) e6) [1, 7] rfl rfl (fun _ => rfl) (fun _ => rfl) rfl rfl (Nat.le_of_ble_eq_true rfl) hl.1 (by rw [hRf]; exact Nat.le_of_ble_eq_true rfl) (by rw [hRl]; exact Nat.le_of_ble_eq_true rfl) ⟨Nat.zero_le _, Nat.zero_le _⟩ dX11_week_67 rfl (fun H locs _ hS => ?_)
    refine lv_iconst (v := 0) hx hb dX11_week_70 (by decide) ?_
    refine lv_istore_n (lv' := [(2, .int (0 : Int32)), (0, .ref q0), (1, .int y13_0)]) hx hb dX11_week_71 rfl hl (by decide) rfl (fun ls hl => ?_)
    have hL72 : ∀ (n : Nat) (x72_0 : Int32) (x72_1 : Int32) (x72_2 : Int32) (x72_3 : Int32) (x72_4 : Int32) (x72_5 : Int32) (x72_6 : Nat → Int32) (x72_7 : Nat → Int32) (y72 : Int32 × Int32 × Int32 × Int32 × Int32 × Int32 × (Nat → Int32) × (Nat → Int32)) (rv72_0 : Value) (H : Heap) (locs : List Loc) (ls : Array Slot), lp (fun x72 => X11_week_s72 v_people v_ruleSize v_rule y13_0 y13_3 x72.1 x72.2.1 x72.2.2.1 x72.2.2.2.1 x72.2.2.2.2.1 x72.2.2.2.2.2.1 x72.2.2.2.2.2.2.1 x72.2.2.2.2.2.2.2) n (x72_0, x72_1, x72_2, x72_3, x72_4, x72_5, x72_6, x72_7) = some y72 → Sv D A s.heap [oX11 q0 (.ref q1) (.int v_people) (.ref q2) (.int ((X11_beginText v_typed (60 : Int32)).1)) (.ref q3) (.int v_rowMany) (.int (0 : Int32)) rv72_0 (.int x72_1) (.int x72_2) (.int x72_3) (.int x72_4) u0_12 (.ref q4) u0_14 (.int v_ruleSize) (.int x72_5) (.ref q5) (.ref q6) (.int v_undoMany) (.ref q7) u0_21 (.ref q8) u0_23 u0_24 u0_25 u0_26 u0_27 u0_28 u0_29 u0_30 u0_31 u0_32 u0_33 u0_34 u0_35 u0_36 u0_37 u0_38 u0_39 u0_40, aI cy q1 37 x72_6, aB cy q2 80 v_text, aJ cy q3 16 v_row, aB cy q4 40 v_rule, aI cy q5 7 x72_7, aI cy q6 444 v_undos, aI cy q7 37 y67, aI cy q8 240 y13_3] H locs → lv_has ls 3 [(0, .ref q0), (1, .int y13_0), (2, .int x72_0)] → ( ∀ (y72_0 : Int32) (y72_1 : Int32) (y72_2 : Int32) (y72_3 : Int32) (y72_4 : Int32) (y72_5 : Int32) (y72_6 : Nat → Int32) (y72_7 : Nat → Int32), (y72_0, y72_1, y72_2, y72_3, y72_4, y72_5, y72_6, y72_7) = y72 → ∀ (rv72_0 : Value), ∀ (H : Heap) (locs : List Loc) (ls : Array Slot), Sv D A s.heap [oX11 q0 (.ref q1) (.int v_people) (.ref q2) (.int ((X11_beginText v_typed (60 : Int32)).1)) (.ref q3) (.int v_rowMany) (.int (0 : Int32)) rv72_0 (.int y72_1) (.int y72_2) (.int y72_3) (.int y72_4) u0_12 (.ref q4) u0_14 (.int v_ruleSize) (.int y72_5) (.ref q5) (.ref q6) (.int v_undoMany) (.ref q7) u0_21 (.ref q8) u0_23 u0_24 u0_25 u0_26 u0_27 u0_28 u0_29 u0_30 u0_31 u0_32 u0_33 u0_34 u0_35 u0_36 u0_37 u0_38 u0_39 u0_40, aI cy q1 37 y72_6, aB cy q2 80 v_text, aJ cy q3 16 v_row, aB cy q4 40 v_rule, aI cy q5 7 y72_7, aI cy q6 444 v_undos, aI cy q7 37 y67, aI cy q8 240 y13_3] H locs → lv_has ls 3 [(0, .ref q0), (1, .int y13_0), (2, .int y72_0)] → W p l e R s m args below meth c H locs 0 0 Q (F0 m 118 ls [])) → W p l e R s m args below meth c H locs 0 0 Q (F0 m 72 ls []) := by
      intro n
      induction n with
      | zero =>
        intro x72_0 x72_1 x72_2 x72_3 x72_4 x72_5 x72_6 x72_7 y72 rv72_0 H locs ls h
        exact lp_zero h
      | succ n ih72 =>
        intro x72_0 x72_1 x72_2 x72_3 x72_4 x72_5 x72_6 x72_7 y72 rv72_0 H locs ls h hS hl hk72_0
        obtain ⟨z72, h, hz72a, hz72b⟩ := lp_succ h
        have h : X11_week_s72 v_people v_ruleSize v_rule y13_0 y13_3 x72_0 x72_1 x72_2 x72_3 x72_4 x72_5 x72_6 x72_7 = some z72 := h
        unfold X11_week_s72 at h
        refine lv_iload_n hx hb dX11_week_72 rfl (lv_at hl 2 rfl) ?_
        refine lv_iload_n hx hb dX11_week_73 rfl (lv_at hl 1 rfl) ?_
        refine lv_icmp_ge (tgt := 118) hx hb dX11_week_74 (by decide) (fun c7 => ?_) (fun c7 => ?_)
        · have h := it_pos c7 h
          exact hk72_0 x72_0 x72_1 x72_2 x72_3 x72_4 x72_5 x72_6 x72_7 (hz72b _ (Option.some.inj h).symm) rv72_0 H locs ls hS (lv_sub hl [0, 1, 2] rfl)
        · have h := it_neg c7 h
          refine lv_aload_n hx hb dX11_week_77 rfl (lv_at hl 0 rfl) ?_
          refine lv_aload_n hx hb dX11_week_78 rfl (lv_at hl 0 rfl) ?_
          refine r_get E frX11_42 hS 0 rfl rfl dX11_week_79 ?_
          refine lv_iconst (v := 3) hx hb dX11_week_82 (by decide) ?_
          refine lv_iload_n hx hb dX11_week_83 rfl (lv_at hl 2 rfl) ?_
          refine lv_imul hx hb dX11_week_84 ?_
          obtain ⟨g8, h⟩ := gi_some h
          refine r_iald E hS 8 rfl g8 dX11_week_85 ?_
          refine lv_aload_n hx hb dX11_week_86 rfl (lv_at hl 0 rfl) ?_
          refine r_get E frX11_42 hS 0 rfl rfl dX11_week_87 ?_
          refine lv_iconst (v := 3) hx hb dX11_week_90 (by decide) ?_
          refine lv_iload_n hx hb dX11_week_91 rfl (lv_at hl 2 rfl) ?_
          refine lv_imul hx hb dX11_week_92 ?_
          refine lv_iconst (v := 1) hx hb dX11_week_93 (by decide) ?_
          refine lv_iadd hx hb dX11_week_94 ?_
          obtain ⟨g9, h⟩ := gi_some h
          refine r_iald E hS 8 rfl g9 dX11_week_95 ?_
          refine lv_aload_n hx hb dX11_week_96 rfl (lv_at hl 0 rfl) ?_
          refine r_get E frX11_42 hS 0 rfl rfl dX11_week_97 ?_
          refine lv_iconst (v := 3) hx hb dX11_week_100 (by decide) ?_
          refine lv_iload_n hx hb dX11_week_101 rfl (lv_at hl 2 rfl) ?_
          refine lv_imul hx hb dX11_week_102 ?_
          refine lv_iconst (v := 2) hx hb dX11_week_103 (by decide) ?_
          refine lv_iadd hx hb dX11_week_104 ?_
          obtain ⟨g10, h⟩ := gi_some h
          refine r_iald E hS 8 rfl g10 dX11_week_105 ?_
          obtain ⟨y106, e11, h⟩ := bd_some h
          refine ct_V (ws' := fun rc12 => [oX11 q0 (.ref q1) (.int v_people) (.ref q2) (.int ((X11_beginText v_typed (60 : Int32)).1)) (.ref q3) (.int v_rowMany) (.int (0 : Int32)) rc12 (.int y106.2.1) (.int y106.2.2.1) (.int y106.2.2.2.1) (.int y106.2.2.2.2.1) u0_12 (.ref q4) u0_14 (.int v_ruleSize) (.int y106.2.2.2.2.2.1) (.ref q5) (.ref q6) (.int v_undoMany) (.ref q7) u0_21 (.ref q8) u0_23 u0_24 u0_25 u0_26 u0_27 u0_28 u0_29 u0_30 u0_31 u0_32 u0_33 u0_34 u0_35 u0_36 u0_37 u0_38 u0_39 u0_40, aI cy q1 37 y106.2.2.2.2.2.2.1, aB cy q2 80 v_text, aJ cy q3 16 v_row, aB cy q4 40 v_rule, aI cy q5 7 y106.2.2.2.2.2.2.2, aI cy q6 444 v_undos, aI cy q7 37 y67, aI cy q8 240 y13_3]) (st' := [.int y106.1]) (rest := []) E hS vlX11_282 (c_X11_act (l := l) (D := D) (cy := cy) (q0 := q0) (q1 := q1) (q2 := q4) (q3 := q5) (u0_2 := .ref q2) (u0_3 := .int ((X11_beginText v_typed (60 : Int32)).1)) (u0_4 := .ref q3) (u0_5 := .int v_rowMany) (u0_6 := .int (0 : Int32)) (u0_7 := rv72_0) (u0_12 := u0_12) (u0_14 := u0_14) (u0_18 := .ref q6) (u0_19 := .int v_undoMany) (u0_20 := .ref q7) (u0_21 := u0_21) (u0_22 := .ref q8) (u0_23 := u0_23) (u0_24 := u0_24) (u0_25 := u0_25) (u0_26 := u0_26) (u0_27 := u0_27) (u0_28 := u0_28) (u0_29 := u0_29) (u0_30 := u0_30) (u0_31 := u0_31) (u0_32 := u0_32) (u0_33 := u0_33) (u0_34 := u0_34) (u0_35 := u0_35) (u0_36 := u0_36) (u0_37 := u0_37) (u0_38 := u0_38) (u0_39 := u0_39) (u0_40 := u0_40) (v_people := v_people) (v_length := x72_1) (v_top := x72_2) (v_at := x72_3) (v_wrong := x72_4) (v_ruleSize := v_ruleSize) (v_isAsked := x72_5) (v_now := x72_6) (v_rule := v_rule) (v_asked := x72_7) (p1 := (y13_3 ((3 : Int32) * x72_0).toNatClampNeg)) (p2 := (y13_3 (((3 : Int32) * x72_0) + (1 : Int32)).toNatClampNeg)) (p3 := (y13_3 (((3 : Int32) * x72_0) + (2 : Int32)).toNatClampNeg)) (r := y106) e11) [0, 1, 4, 5] rfl rfl (fun _ => rfl) (fun _ => rfl) rfl rfl rfl rfl (Nat.le_of_ble_eq_true rfl) hl.1 (by rw [hRf]; exact Nat.le_of_ble_eq_true rfl) (by rw [hRl]; exact Nat.le_of_ble_eq_true rfl) ⟨Nat.zero_le _, Nat.zero_le _⟩ dX11_week_106 rfl (fun H locs rc12 hS => ?_)
          refine lv_if_eq (tgt := 118) hx hb dX11_week_109 (by decide) (fun c13 => ?_) (fun c13 => ?_)
          · have h := it_pos c13 h
            exact hk72_0 x72_0 y106.2.1 y106.2.2.1 y106.2.2.2.1 y106.2.2.2.2.1 y106.2.2.2.2.2.1 y106.2.2.2.2.2.2.1 y106.2.2.2.2.2.2.2 (hz72b _ (Option.some.inj h).symm) rc12 H locs ls hS (lv_sub hl [0, 1, 2] rfl)
          · have h := it_neg c13 h
            refine lv_iinc (v := (x72_0 + (1 : Int32))) (lv' := [(2, .int (x72_0 + (1 : Int32))), (0, .ref q0), (1, .int y13_0)]) hx hb dX11_week_112 hl (k := 2) rfl rfl (by decide) rfl (fun ls hl => ?_)
            refine lv_goto (tgt := 72) hx hb dX11_week_115 (by decide) ?_
            exact ih72 (x72_0 + (1 : Int32)) y106.2.1 y106.2.2.1 y106.2.2.2.1 y106.2.2.2.2.1 y106.2.2.2.2.2.1 y106.2.2.2.2.2.2.1 y106.2.2.2.2.2.2.2 y72 rc12 H locs ls (hz72a _ (Option.some.inj h).symm) hS (lv_sub hl [1, 2, 0] rfl) hk72_0
    obtain ⟨y72, e72, h⟩ := bd_some h
    refine hL72 1000 (0 : Int32) ((X11_beginText v_typed (60 : Int32)).2.1) ((X11_beginText v_typed (60 : Int32)).2.2.1) y13_1 y45.2 v_isAsked v_now v_asked y72 (.ref q2) H locs ls e72 hS (lv_sub hl [1, 2, 0] rfl) (fun y72_0 y72_1 y72_2 y72_3 y72_4 y72_5 y72_6 y72_7 ey72 rw72_0 H locs ls hS hl => ?_)
    subst ey72
    have h := un_r h
    have h := un_r h
    have h := un_r h
    have h := un_r h
    have h := un_r h
    have h := un_r h
    have h := un_r h
    refine lv_iload_n hx hb dX11_week_118 rfl (lv_at hl 2 rfl) ?_
    have hJ130 : ∀ (j130_v_undoMany : Int32) (j130_v_undos : Nat → Int32) (H : Heap) (locs : List Loc) (ls : Array Slot), X11_week_k130 v_typed v_row y13_0 y13_3 y67 y72_0 y72_1 y72_2 y72_3 y72_4 y72_5 y72_6 y72_7 j130_v_undoMany j130_v_undos = some r → Sv D A s.heap [oX11 q0 (.ref q1) (.int v_people) (.ref q2) (.int ((X11_beginText v_typed (60 : Int32)).1)) (.ref q3) (.int v_rowMany) (.int (0 : Int32)) rw72_0 (.int y72_1) (.int y72_2) (.int y72_3) (.int y72_4) u0_12 (.ref q4) u0_14 (.int v_ruleSize) (.int y72_5) (.ref q5) (.ref q6) (.int j130_v_undoMany) (.ref q7) u0_21 (.ref q8) u0_23 u0_24 u0_25 u0_26 u0_27 u0_28 u0_29 u0_30 u0_31 u0_32 u0_33 u0_34 u0_35 u0_36 u0_37 u0_38 u0_39 u0_40, aI cy q1 37 y72_6, aB cy q2 80 v_text, aJ cy q3 16 v_row, aB cy q4 40 v_rule, aI cy q5 7 y72_7, aI cy q6 444 j130_v_undos, aI cy q7 37 y67, aI cy q8 240 y13_3] H locs → lv_has ls 3 [(0, .ref q0), (1, .int y13_0), (2, .int y72_0)] → W p l e R s m args below meth c H locs 0 0 Q (F0 m 130 ls []) := by
      intro j130_v_undoMany j130_v_undos H locs ls h hS hl
      unfold X11_week_k130 at h
      refine lv_aload_n hx hb dX11_week_130 rfl (lv_at hl 0 rfl) ?_
      refine lv_iconst (v := 0) hx hb dX11_week_131 (by decide) ?_
      refine r_put (ws' := [oX11 q0 (.ref q1) (.int v_people) (.ref q2) (.int ((X11_beginText v_typed (60 : Int32)).1)) (.ref q3) (.int (0 : Int32)) (.int (0 : Int32)) rw72_0 (.int y72_1) (.int y72_2) (.int y72_3) (.int y72_4) u0_12 (.ref q4) u0_14 (.int v_ruleSize) (.int y72_5) (.ref q5) (.ref q6) (.int j130_v_undoMany) (.ref q7) u0_21 (.ref q8) u0_23 u0_24 u0_25 u0_26 u0_27 u0_28 u0_29 u0_30 u0_31 u0_32 u0_33 u0_34 u0_35 u0_36 u0_37 u0_38 u0_39 u0_40, aI cy q1 37 y72_6, aB cy q2 80 v_text, aJ cy q3 16 v_row, aB cy q4 40 v_rule, aI cy q5 7 y72_7, aI cy q6 444 j130_v_undos, aI cy q7 37 y67, aI cy q8 240 y13_3]) E frX11_89 hS 0 rfl (Nat.le_of_ble_eq_true rfl) rfl rfl rfl rfl dX11_week_132 (fun H locs hS => ?_)
      refine lv_aload_n hx hb dX11_week_135 rfl (lv_at hl 0 rfl) ?_
      refine lv_iload_n hx hb dX11_week_136 rfl (lv_at hl 2 rfl) ?_
      refine lv_iload_n hx hb dX11_week_137 rfl (lv_at hl 1 rfl) ?_
      have hJ146 : ∀ (s146_1 : Int64) (ls : Array Slot), s146_1 = (if y13_0 ≤ y72_0 then (0 : Int64) else (1 : Int64)) → lv_has ls 3 [(0, .ref q0), (2, .int y72_0)] → W p l e R s m args below meth c H locs 0 0 Q (F0 m 146 ls [.long s146_1, .ref q0]) := by
        intro s146_1 ls es146_1 hl
        subst es146_1
        obtain ⟨y146, e14, h⟩ := bd_some h
        refine ct_V (ws' := fun _ => [oX11 q0 (.ref q1) (.int v_people) (.ref q2) (.int ((X11_beginText v_typed (60 : Int32)).1)) (.ref q3) (.int y146.1) (.int (0 : Int32)) rw72_0 (.int y72_1) (.int y72_2) (.int y72_3) (.int y72_4) u0_12 (.ref q4) u0_14 (.int v_ruleSize) (.int y72_5) (.ref q5) (.ref q6) (.int j130_v_undoMany) (.ref q7) u0_21 (.ref q8) u0_23 u0_24 u0_25 u0_26 u0_27 u0_28 u0_29 u0_30 u0_31 u0_32 u0_33 u0_34 u0_35 u0_36 u0_37 u0_38 u0_39 u0_40, aI cy q1 37 y72_6, aB cy q2 80 v_text, aJ cy q3 16 y146.2, aB cy q4 40 v_rule, aI cy q5 7 y72_7, aI cy q6 444 j130_v_undos, aI cy q7 37 y67, aI cy q8 240 y13_3]) (st' := []) (rest := []) E hS vlX11_256 (c_X11_tell (l := l) (D := D) (cy := cy) (q0 := q0) (q1 := q3) (u0_0 := .ref q1) (u0_1 := .int v_people) (u0_2 := .ref q2) (u0_3 := .int ((X11_beginText v_typed (60 : Int32)).1)) (u0_6 := .int (0 : Int32)) (u0_7 := rw72_0) (u0_8 := .int y72_1) (u0_9 := .int y72_2) (u0_10 := .int y72_3) (u0_11 := .int y72_4) (u0_12 := u0_12) (u0_13 := .ref q4) (u0_14 := u0_14) (u0_15 := .int v_ruleSize) (u0_16 := .int y72_5) (u0_17 := .ref q5) (u0_18 := .ref q6) (u0_19 := .int j130_v_undoMany) (u0_20 := .ref q7) (u0_21 := u0_21) (u0_22 := .ref q8) (u0_23 := u0_23) (u0_24 := u0_24) (u0_25 := u0_25) (u0_26 := u0_26) (u0_27 := u0_27) (u0_28 := u0_28) (u0_29 := u0_29) (u0_30 := u0_30) (u0_31 := u0_31) (u0_32 := u0_32) (u0_33 := u0_33) (u0_34 := u0_34) (u0_35 := u0_35) (u0_36 := u0_36) (u0_37 := u0_37) (u0_38 := u0_38) (u0_39 := u0_39) (u0_40 := u0_40) (v_rowMany := (0 : Int32)) (v_row := v_row) (p1 := (if y13_0 ≤ y72_0 then (0 : Int64) else (1 : Int64))) (r := y146) e14) [0, 3] rfl rfl (fun _ => rfl) (fun _ => rfl) rfl rfl rfl rfl (Nat.le_of_ble_eq_true rfl) hl.1 (by rw [hRf]; exact Nat.le_of_ble_eq_true rfl) (by rw [hRl]; exact Nat.le_of_ble_eq_true rfl) ⟨Nat.zero_le _, Nat.zero_le _⟩ dX11_week_146 rfl (fun H locs _ hS => ?_)
        refine lv_aload_n hx hb dX11_week_149 rfl (lv_at hl 0 rfl) ?_
        refine lv_aload_n hx hb dX11_week_150 rfl (lv_at hl 0 rfl) ?_
        refine r_get E frX11_9 hS 0 rfl rfl dX11_week_151 ?_
        refine lv_bipush (v := 36) hx hb dX11_week_154 (by decide) ?_
        obtain ⟨g15, h⟩ := gi_some h
        refine r_iald E hS 1 rfl g15 dX11_week_156 ?_
        refine lv_i2l (v := ((y72_6 (36 : Int32).toNatClampNeg).toInt64)) hx hb dX11_week_157 rfl ?_
        obtain ⟨y158, e16, h⟩ := bd_some h
        refine ct_V (ws' := fun _ => [oX11 q0 (.ref q1) (.int v_people) (.ref q2) (.int ((X11_beginText v_typed (60 : Int32)).1)) (.ref q3) (.int y158.1) (.int (0 : Int32)) rw72_0 (.int y72_1) (.int y72_2) (.int y72_3) (.int y72_4) u0_12 (.ref q4) u0_14 (.int v_ruleSize) (.int y72_5) (.ref q5) (.ref q6) (.int j130_v_undoMany) (.ref q7) u0_21 (.ref q8) u0_23 u0_24 u0_25 u0_26 u0_27 u0_28 u0_29 u0_30 u0_31 u0_32 u0_33 u0_34 u0_35 u0_36 u0_37 u0_38 u0_39 u0_40, aI cy q1 37 y72_6, aB cy q2 80 v_text, aJ cy q3 16 y158.2, aB cy q4 40 v_rule, aI cy q5 7 y72_7, aI cy q6 444 j130_v_undos, aI cy q7 37 y67, aI cy q8 240 y13_3]) (st' := []) (rest := []) E hS vlX11_256 (c_X11_tell (l := l) (D := D) (cy := cy) (q0 := q0) (q1 := q3) (u0_0 := .ref q1) (u0_1 := .int v_people) (u0_2 := .ref q2) (u0_3 := .int ((X11_beginText v_typed (60 : Int32)).1)) (u0_6 := .int (0 : Int32)) (u0_7 := rw72_0) (u0_8 := .int y72_1) (u0_9 := .int y72_2) (u0_10 := .int y72_3) (u0_11 := .int y72_4) (u0_12 := u0_12) (u0_13 := .ref q4) (u0_14 := u0_14) (u0_15 := .int v_ruleSize) (u0_16 := .int y72_5) (u0_17 := .ref q5) (u0_18 := .ref q6) (u0_19 := .int j130_v_undoMany) (u0_20 := .ref q7) (u0_21 := u0_21) (u0_22 := .ref q8) (u0_23 := u0_23) (u0_24 := u0_24) (u0_25 := u0_25) (u0_26 := u0_26) (u0_27 := u0_27) (u0_28 := u0_28) (u0_29 := u0_29) (u0_30 := u0_30) (u0_31 := u0_31) (u0_32 := u0_32) (u0_33 := u0_33) (u0_34 := u0_34) (u0_35 := u0_35) (u0_36 := u0_36) (u0_37 := u0_37) (u0_38 := u0_38) (u0_39 := u0_39) (u0_40 := u0_40) (v_rowMany := y146.1) (v_row := y146.2) (p1 := ((y72_6 (36 : Int32).toNatClampNeg).toInt64)) (r := y158) e16) [0, 3] rfl rfl (fun _ => rfl) (fun _ => rfl) rfl rfl rfl rfl (Nat.le_of_ble_eq_true rfl) hl.1 (by rw [hRf]; exact Nat.le_of_ble_eq_true rfl) (by rw [hRl]; exact Nat.le_of_ble_eq_true rfl) ⟨Nat.zero_le _, Nat.zero_le _⟩ dX11_week_158 rfl (fun H locs _ hS => ?_)
        refine lv_iload_n hx hb dX11_week_161 rfl (lv_at hl 1 rfl) ?_
        obtain rfl := Option.some.inj h
        exact rt_i E hQ (rw72_0) hS dX11_week_162
      refine lv_icmp_ge (tgt := 145) hx hb dX11_week_138 (by decide) (fun c17 => ?_) (fun c17 => ?_)
      · refine lv_lconst (v := 0) hx hb dX11_week_145 (by decide) ?_
        exact hJ146 _ ls ((if_pos c17)).symm (lv_sub hl [0, 2] rfl)
      · refine lv_lconst (v := 1) hx hb dX11_week_141 (by decide) ?_
        refine lv_goto (tgt := 146) hx hb dX11_week_142 (by decide) ?_
        exact hJ146 _ ls ((if_neg c17)).symm (lv_sub hl [0, 2] rfl)
    refine lv_if_le (tgt := 130) hx hb dX11_week_119 (by decide) (fun c18 => ?_) (fun c18 => ?_)
    · have h := it_pos c18 h
      exact hJ130 v_undoMany v_undos  H locs ls h hS (lv_sub hl [0, 1, 2] rfl)
    · have h := it_neg c18 h
      refine lv_aload_n hx hb dX11_week_122 rfl (lv_at hl 0 rfl) ?_
      refine lv_aload_n hx hb dX11_week_123 rfl (lv_at hl 0 rfl) ?_
      refine r_get E frX11_36 hS 0 rfl rfl dX11_week_124 ?_
      obtain ⟨y127, e19, h⟩ := bd_some h
      refine ct_V (ws' := fun _ => [oX11 q0 (.ref q1) (.int v_people) (.ref q2) (.int ((X11_beginText v_typed (60 : Int32)).1)) (.ref q3) (.int v_rowMany) (.int (0 : Int32)) rw72_0 (.int y72_1) (.int y72_2) (.int y72_3) (.int y72_4) u0_12 (.ref q4) u0_14 (.int v_ruleSize) (.int y72_5) (.ref q5) (.ref q6) (.int y127.1) (.ref q7) u0_21 (.ref q8) u0_23 u0_24 u0_25 u0_26 u0_27 u0_28 u0_29 u0_30 u0_31 u0_32 u0_33 u0_34 u0_35 u0_36 u0_37 u0_38 u0_39 u0_40, aI cy q1 37 y72_6, aB cy q2 80 v_text, aJ cy q3 16 v_row, aB cy q4 40 v_rule, aI cy q5 7 y72_7, aI cy q6 444 y127.2, aI cy q7 37 y67, aI cy q8 240 y13_3]) (st' := []) (rest := []) E hS vlX11_249 (c_X11_remember (l := l) (D := D) (cy := cy) (q0 := q0) (q1 := q6) (q2 := q7) (u0_0 := .ref q1) (u0_1 := .int v_people) (u0_2 := .ref q2) (u0_3 := .int ((X11_beginText v_typed (60 : Int32)).1)) (u0_4 := .ref q3) (u0_5 := .int v_rowMany) (u0_6 := .int (0 : Int32)) (u0_7 := rw72_0) (u0_8 := .int y72_1) (u0_9 := .int y72_2) (u0_10 := .int y72_3) (u0_11 := .int y72_4) (u0_12 := u0_12) (u0_13 := .ref q4) (u0_14 := u0_14) (u0_15 := .int v_ruleSize) (u0_16 := .int y72_5) (u0_17 := .ref q5) (u0_20 := .ref q7) (u0_21 := u0_21) (u0_22 := .ref q8) (u0_23 := u0_23) (u0_24 := u0_24) (u0_25 := u0_25) (u0_26 := u0_26) (u0_27 := u0_27) (u0_28 := u0_28) (u0_29 := u0_29) (u0_30 := u0_30) (u0_31 := u0_31) (u0_32 := u0_32) (u0_33 := u0_33) (u0_34 := u0_34) (u0_35 := u0_35) (u0_36 := u0_36) (u0_37 := u0_37) (u0_38 := u0_38) (u0_39 := u0_39) (u0_40 := u0_40) (v_undoMany := v_undoMany) (v_undos := v_undos) (nw1_ := 37) (w1_ := y67) (r := y127) e19) [0, 6, 7] rfl rfl (fun _ => rfl) (fun _ => rfl) rfl rfl rfl rfl (Nat.le_of_ble_eq_true rfl) hl.1 (by rw [hRf]; exact Nat.le_of_ble_eq_true rfl) (by rw [hRl]; exact Nat.le_of_ble_eq_true rfl) ⟨Nat.zero_le _, Nat.zero_le _⟩ dX11_week_127 rfl (fun H locs _ hS => ?_)
      exact hJ130 y127.1 y127.2  H locs ls h hS (lv_sub hl [0, 1, 2] rfl)
  · have h := it_pos c5 h
    refine lv_iconst (v := -1) hx hb dX11_week_51 (by decide) ?_
    refine lv_aload_n hx hb dX11_week_52 rfl (lv_at hl 0 rfl) ?_
    refine r_get E frX11_118 hS 0 rfl rfl dX11_week_53 ?_
    refine lv_isub hx hb dX11_week_56 ?_
    obtain rfl := Option.some.inj h
    exact rt_i E hQ (.ref q2) hS dX11_week_57
set_option maxHeartbeats 4000000 in
set_option maxRecDepth 100000 in
theorem c_X11_undo {l : Launch} {D : va_G} {cy : Nat → ClassId} (q0 : Nat) (q1 : Nat) (q2 : Nat) (u0_1 : Value) (u0_2 : Value) (u0_3 : Value) (u0_4 : Value) (u0_5 : Value) (u0_7 : Value) (u0_8 : Value) (u0_9 : Value) (u0_10 : Value) (u0_11 : Value) (u0_12 : Value) (u0_13 : Value) (u0_14 : Value) (u0_15 : Value) (u0_16 : Value) (u0_17 : Value) (u0_20 : Value) (u0_21 : Value) (u0_22 : Value) (u0_23 : Value) (u0_24 : Value) (u0_25 : Value) (u0_26 : Value) (u0_27 : Value) (u0_28 : Value) (u0_29 : Value) (u0_30 : Value) (u0_31 : Value) (u0_32 : Value) (u0_33 : Value) (u0_34 : Value) (u0_35 : Value) (u0_36 : Value) (u0_37 : Value) (u0_38 : Value) (u0_39 : Value) (u0_40 : Value) (v_thrown : Int32) (v_undoMany : Int32) (v_now : Nat → Int32) (v_undos : Nat → Int32) (r : Int32 × Int32 × Int32 × (Nat → Int32)) (h : X11_undo v_undoMany v_now v_undos = some r) : Ct l yX11_undo cX11_undo 2 (some .int) 0 0 D cy [.ref q0] [oX11 q0 (.ref q1) u0_1 u0_2 u0_3 u0_4 u0_5 (.int v_thrown) u0_7 u0_8 u0_9 u0_10 u0_11 u0_12 u0_13 u0_14 u0_15 u0_16 u0_17 (.ref q2) (.int v_undoMany) u0_20 u0_21 u0_22 u0_23 u0_24 u0_25 u0_26 u0_27 u0_28 u0_29 u0_30 u0_31 u0_32 u0_33 u0_34 u0_35 u0_36 u0_37 u0_38 u0_39 u0_40, aI cy q1 37 v_now, aI cy q2 444 v_undos] (fun _ => [oX11 q0 (.ref q1) u0_1 u0_2 u0_3 u0_4 u0_5 (.int r.2.1) u0_7 u0_8 u0_9 u0_10 u0_11 u0_12 u0_13 u0_14 u0_15 u0_16 u0_17 (.ref q2) (.int r.2.2.1) u0_20 u0_21 u0_22 u0_23 u0_24 u0_25 u0_26 u0_27 u0_28 u0_29 u0_30 u0_31 u0_32 u0_33 u0_34 u0_35 u0_36 u0_37 u0_38 u0_39 u0_40, aI cy q1 37 r.2.2.2, aI cy q2 444 v_undos]) (some (.int r.1)) := by
  refine Ct.mk kX11_undo (by decide +kernel) (Nat.le_of_ble_eq_true rfl) ?_
  intro p e s m below meth c A ls args R Q hRf hRl hQ E H locs hS hl
  have hx := E.x
  have hb := E.b
  have hl : lv_has ls 2 [(0, .ref q0)] := hl
  unfold X11_undo at h
  refine lv_aload_n hx hb dX11_undo_0 rfl (lv_at hl 0 rfl) ?_
  refine lv_iconst (v := 0) hx hb dX11_undo_1 (by decide) ?_
  refine r_put (ws' := [oX11 q0 (.ref q1) u0_1 u0_2 u0_3 u0_4 u0_5 (.int (0 : Int32)) u0_7 u0_8 u0_9 u0_10 u0_11 u0_12 u0_13 u0_14 u0_15 u0_16 u0_17 (.ref q2) (.int v_undoMany) u0_20 u0_21 u0_22 u0_23 u0_24 u0_25 u0_26 u0_27 u0_28 u0_29 u0_30 u0_31 u0_32 u0_33 u0_34 u0_35 u0_36 u0_37 u0_38 u0_39 u0_40, aI cy q1 37 v_now, aI cy q2 444 v_undos]) E frX11_85 hS 0 rfl (Nat.le_of_ble_eq_true rfl) rfl rfl rfl rfl dX11_undo_2 (fun H locs hS => ?_)
  refine lv_aload_n hx hb dX11_undo_5 rfl (lv_at hl 0 rfl) ?_
  refine r_get E frX11_145 hS 0 rfl rfl dX11_undo_6 ?_
  refine lv_if_ne (tgt := 14) hx hb dX11_undo_9 (by decide) (fun c1 => ?_) (fun c1 => ?_)
  · have h := it_neg c1 h
    refine lv_aload_n hx hb dX11_undo_14 rfl (lv_at hl 0 rfl) ?_
    refine lv_dup hx hb dX11_undo_15 rfl ?_
    refine r_get E frX11_145 hS 0 rfl rfl dX11_undo_16 ?_
    refine lv_iconst (v := 1) hx hb dX11_undo_19 (by decide) ?_
    refine lv_isub hx hb dX11_undo_20 ?_
    refine r_put (ws' := [oX11 q0 (.ref q1) u0_1 u0_2 u0_3 u0_4 u0_5 (.int (0 : Int32)) u0_7 u0_8 u0_9 u0_10 u0_11 u0_12 u0_13 u0_14 u0_15 u0_16 u0_17 (.ref q2) (.int (v_undoMany - (1 : Int32))) u0_20 u0_21 u0_22 u0_23 u0_24 u0_25 u0_26 u0_27 u0_28 u0_29 u0_30 u0_31 u0_32 u0_33 u0_34 u0_35 u0_36 u0_37 u0_38 u0_39 u0_40, aI cy q1 37 v_now, aI cy q2 444 v_undos]) E frX11_145 hS 0 rfl (Nat.le_of_ble_eq_true rfl) rfl rfl rfl rfl dX11_undo_21 (fun H locs hS => ?_)
    refine lv_iconst (v := 0) hx hb dX11_undo_24 (by decide) ?_
    refine lv_istore_n (lv' := [(1, .int (0 : Int32)), (0, .ref q0)]) hx hb dX11_undo_25 rfl hl (by decide) rfl (fun ls hl => ?_)
    have hL26 : ∀ (n : Nat) (x26_0 : Int32) (x26_1 : Nat → Int32) (y26 : (Nat → Int32)) (H : Heap) (locs : List Loc) (ls : Array Slot), lp (fun x26 => X11_undo_s26 v_undoMany v_undos x26.1 x26.2) n (x26_0, x26_1) = some y26 → Sv D A s.heap [oX11 q0 (.ref q1) u0_1 u0_2 u0_3 u0_4 u0_5 (.int (0 : Int32)) u0_7 u0_8 u0_9 u0_10 u0_11 u0_12 u0_13 u0_14 u0_15 u0_16 u0_17 (.ref q2) (.int (v_undoMany - (1 : Int32))) u0_20 u0_21 u0_22 u0_23 u0_24 u0_25 u0_26 u0_27 u0_28 u0_29 u0_30 u0_31 u0_32 u0_33 u0_34 u0_35 u0_36 u0_37 u0_38 u0_39 u0_40, aI cy q1 37 x26_1, aI cy q2 444 v_undos] H locs → lv_has ls 2 [(0, .ref q0), (1, .int x26_0)] → ( ∀ (y26_0 : Nat → Int32), y26_0 = y26 → ∀ (H : Heap) (locs : List Loc) (ls : Array Slot), Sv D A s.heap [oX11 q0 (.ref q1) u0_1 u0_2 u0_3 u0_4 u0_5 (.int (0 : Int32)) u0_7 u0_8 u0_9 u0_10 u0_11 u0_12 u0_13 u0_14 u0_15 u0_16 u0_17 (.ref q2) (.int (v_undoMany - (1 : Int32))) u0_20 u0_21 u0_22 u0_23 u0_24 u0_25 u0_26 u0_27 u0_28 u0_29 u0_30 u0_31 u0_32 u0_33 u0_34 u0_35 u0_36 u0_37 u0_38 u0_39 u0_40, aI cy q1 37 y26_0, aI cy q2 444 v_undos] H locs → lv_has ls 2 [(0, .ref q0)] → W p l e R s m args below meth c H locs 0 0 Q (F0 m 58 ls [])) → W p l e R s m args below meth c H locs 0 0 Q (F0 m 26 ls []) := by
      intro n
      induction n with
      | zero =>
        intro x26_0 x26_1 y26 H locs ls h
        exact lp_zero h
      | succ n ih26 =>
        intro x26_0 x26_1 y26 H locs ls h hS hl hk26_0
        obtain ⟨z26, h, hz26a, hz26b⟩ := lp_succ h
        have h : X11_undo_s26 v_undoMany v_undos x26_0 x26_1 = some z26 := h
        unfold X11_undo_s26 at h
        refine lv_iload_n hx hb dX11_undo_26 rfl (lv_at hl 1 rfl) ?_
        refine lv_bipush (v := 37) hx hb dX11_undo_27 (by decide) ?_
        refine lv_icmp_ge (tgt := 58) hx hb dX11_undo_29 (by decide) (fun c2 => ?_) (fun c2 => ?_)
        · have h := it_pos c2 h
          exact hk26_0 x26_1 (hz26b _ (Option.some.inj h).symm)  H locs ls hS (lv_sub hl [0] rfl)
        · have h := it_neg c2 h
          refine lv_aload_n hx hb dX11_undo_32 rfl (lv_at hl 0 rfl) ?_
          refine r_get E frX11_9 hS 0 rfl rfl dX11_undo_33 ?_
          refine lv_iload_n hx hb dX11_undo_36 rfl (lv_at hl 1 rfl) ?_
          refine lv_aload_n hx hb dX11_undo_37 rfl (lv_at hl 0 rfl) ?_
          refine r_get E frX11_33 hS 0 rfl rfl dX11_undo_38 ?_
          refine lv_bipush (v := 37) hx hb dX11_undo_41 (by decide) ?_
          refine lv_aload_n hx hb dX11_undo_43 rfl (lv_at hl 0 rfl) ?_
          refine r_get E frX11_145 hS 0 rfl rfl dX11_undo_44 ?_
          refine lv_imul hx hb dX11_undo_47 ?_
          refine lv_iload_n hx hb dX11_undo_48 rfl (lv_at hl 1 rfl) ?_
          refine lv_iadd hx hb dX11_undo_49 ?_
          obtain ⟨g3, h⟩ := gi_some h
          refine r_iald E hS 2 rfl g3 dX11_undo_50 ?_
          obtain ⟨g4, h⟩ := gi_some h
          refine r_iast (ws' := [oX11 q0 (.ref q1) u0_1 u0_2 u0_3 u0_4 u0_5 (.int (0 : Int32)) u0_7 u0_8 u0_9 u0_10 u0_11 u0_12 u0_13 u0_14 u0_15 u0_16 u0_17 (.ref q2) (.int (v_undoMany - (1 : Int32))) u0_20 u0_21 u0_22 u0_23 u0_24 u0_25 u0_26 u0_27 u0_28 u0_29 u0_30 u0_31 u0_32 u0_33 u0_34 u0_35 u0_36 u0_37 u0_38 u0_39 u0_40, aI cy q1 37 (upd x26_1 x26_0.toNatClampNeg (v_undos (((37 : Int32) * (v_undoMany - (1 : Int32))) + x26_0).toNatClampNeg)), aI cy q2 444 v_undos]) E hS 1 rfl g4 rfl dX11_undo_51 (fun H locs hS => ?_)
          refine lv_iinc (v := (x26_0 + (1 : Int32))) (lv' := [(1, .int (x26_0 + (1 : Int32))), (0, .ref q0)]) hx hb dX11_undo_52 hl (k := 1) rfl rfl (by decide) rfl (fun ls hl => ?_)
          refine lv_goto (tgt := 26) hx hb dX11_undo_55 (by decide) ?_
          exact ih26 (x26_0 + (1 : Int32)) (upd x26_1 x26_0.toNatClampNeg (v_undos (((37 : Int32) * (v_undoMany - (1 : Int32))) + x26_0).toNatClampNeg)) y26  H locs ls (hz26a _ (Option.some.inj h).symm) hS (lv_sub hl [1, 0] rfl) hk26_0
    obtain ⟨y26, e26, h⟩ := bd_some h
    refine hL26 1000 (0 : Int32) v_now y26  H locs ls e26 hS (lv_sub hl [1, 0] rfl) (fun y26_0 ey26 H locs ls hS hl => ?_)
    subst ey26
    refine lv_aload_n hx hb dX11_undo_58 rfl (lv_at hl 0 rfl) ?_
    refine r_get E frX11_145 hS 0 rfl rfl dX11_undo_59 ?_
    obtain rfl := Option.some.inj h
    exact rt_i E hQ (.null) hS dX11_undo_62
  · have h := it_pos c1 h
    refine lv_iconst (v := -1) hx hb dX11_undo_12 (by decide) ?_
    obtain rfl := Option.some.inj h
    exact rt_i E hQ (.null) hS dX11_undo_13
set_option maxHeartbeats 4000000 in
set_option maxRecDepth 100000 in
theorem c_X11_wakes {l : Launch} {D : va_G} {cy : Nat → ClassId} (q0 : Nat) (q1 : Nat) (q2 : Nat) (q3 : Nat) (q4 : Nat) (u0_2 : Value) (u0_3 : Value) (u0_7 : Value) (u0_12 : Value) (u0_14 : Value) (u0_18 : Value) (u0_19 : Value) (u0_20 : Value) (u0_21 : Value) (u0_22 : Value) (u0_23 : Value) (u0_24 : Value) (u0_25 : Value) (u0_26 : Value) (u0_27 : Value) (u0_28 : Value) (u0_29 : Value) (u0_30 : Value) (u0_31 : Value) (u0_32 : Value) (u0_33 : Value) (u0_34 : Value) (u0_35 : Value) (u0_36 : Value) (u0_37 : Value) (u0_38 : Value) (u0_39 : Value) (u0_40 : Value) (v_people : Int32) (v_rowMany : Int32) (v_thrown : Int32) (v_length : Int32) (v_top : Int32) (v_at : Int32) (v_wrong : Int32) (v_ruleSize : Int32) (v_isAsked : Int32) (v_now : Nat → Int32) (v_row : Nat → Int64) (v_rule : Nat → Int32) (v_asked : Nat → Int32) (r : Int32 × Int32 × Int32 × Int32 × Int32 × Int32 × Int32 × Int32 × (Nat → Int64) × (Nat → Int32)) (h : X11_wakes v_people v_length v_top v_at v_wrong v_ruleSize v_isAsked v_now v_row v_rule v_asked = some r) : Ct l yX11_wakes cX11_wakes 2 (some .int) 109 2603 D cy [.ref q0] [oX11 q0 (.ref q1) (.int v_people) u0_2 u0_3 (.ref q2) (.int v_rowMany) (.int v_thrown) u0_7 (.int v_length) (.int v_top) (.int v_at) (.int v_wrong) u0_12 (.ref q3) u0_14 (.int v_ruleSize) (.int v_isAsked) (.ref q4) u0_18 u0_19 u0_20 u0_21 u0_22 u0_23 u0_24 u0_25 u0_26 u0_27 u0_28 u0_29 u0_30 u0_31 u0_32 u0_33 u0_34 u0_35 u0_36 u0_37 u0_38 u0_39 u0_40, aI cy q1 37 v_now, aJ cy q2 16 v_row, aB cy q3 40 v_rule, aI cy q4 7 v_asked] (fun rv => [oX11 q0 (.ref q1) (.int v_people) u0_2 u0_3 (.ref q2) (.int r.2.1) (.int r.2.2.1) rv (.int r.2.2.2.1) (.int r.2.2.2.2.1) (.int r.2.2.2.2.2.1) (.int r.2.2.2.2.2.2.1) u0_12 (.ref q3) u0_14 (.int v_ruleSize) (.int r.2.2.2.2.2.2.2.1) (.ref q4) u0_18 u0_19 u0_20 u0_21 u0_22 u0_23 u0_24 u0_25 u0_26 u0_27 u0_28 u0_29 u0_30 u0_31 u0_32 u0_33 u0_34 u0_35 u0_36 u0_37 u0_38 u0_39 u0_40, aI cy q1 37 v_now, aJ cy q2 16 r.2.2.2.2.2.2.2.2.1, aB cy q3 40 v_rule, aI cy q4 7 r.2.2.2.2.2.2.2.2.2]) (some (.int r.1)) := by
  refine Ct.mk kX11_wakes (by decide +kernel) (Nat.le_of_ble_eq_true rfl) ?_
  intro p e s m below meth c A ls args R Q hRf hRl hQ E H locs hS hl
  have hx := E.x
  have hb := E.b
  have hl : lv_has ls 2 [(0, .ref q0)] := hl
  unfold X11_wakes at h
  refine lv_aload_n hx hb dX11_wakes_0 rfl (lv_at hl 0 rfl) ?_
  refine lv_iconst (v := 0) hx hb dX11_wakes_1 (by decide) ?_
  refine r_put (ws' := [oX11 q0 (.ref q1) (.int v_people) u0_2 u0_3 (.ref q2) (.int v_rowMany) (.int (0 : Int32)) u0_7 (.int v_length) (.int v_top) (.int v_at) (.int v_wrong) u0_12 (.ref q3) u0_14 (.int v_ruleSize) (.int v_isAsked) (.ref q4) u0_18 u0_19 u0_20 u0_21 u0_22 u0_23 u0_24 u0_25 u0_26 u0_27 u0_28 u0_29 u0_30 u0_31 u0_32 u0_33 u0_34 u0_35 u0_36 u0_37 u0_38 u0_39 u0_40, aI cy q1 37 v_now, aJ cy q2 16 v_row, aB cy q3 40 v_rule, aI cy q4 7 v_asked]) E frX11_85 hS 0 rfl (Nat.le_of_ble_eq_true rfl) rfl rfl rfl rfl dX11_wakes_2 (fun H locs hS => ?_)
  refine lv_aload_n hx hb dX11_wakes_5 rfl (lv_at hl 0 rfl) ?_
  refine lv_aload_n hx hb dX11_wakes_6 rfl (lv_at hl 0 rfl) ?_
  refine r_get E frX11_9 hS 0 rfl rfl dX11_wakes_7 ?_
  obtain ⟨y10, e1, h⟩ := bd_some h
  refine ct_V (ws' := fun rc2 => [oX11 q0 (.ref q1) (.int v_people) u0_2 u0_3 (.ref q2) (.int v_rowMany) (.int (0 : Int32)) rc2 (.int y10.2.1) (.int y10.2.2.1) (.int y10.2.2.2.1) (.int y10.2.2.2.2.1) u0_12 (.ref q3) u0_14 (.int v_ruleSize) (.int y10.2.2.2.2.2.1) (.ref q4) u0_18 u0_19 u0_20 u0_21 u0_22 u0_23 u0_24 u0_25 u0_26 u0_27 u0_28 u0_29 u0_30 u0_31 u0_32 u0_33 u0_34 u0_35 u0_36 u0_37 u0_38 u0_39 u0_40, aI cy q1 37 v_now, aJ cy q2 16 v_row, aB cy q3 40 v_rule, aI cy q4 7 y10.2.2.2.2.2.2]) (st' := [.int y10.1]) (rest := []) E hS vlX11_239 (c_X11_awake (l := l) (D := D) (cy := cy) (q0 := q0) (q1 := q3) (q2 := q4) (q3 := q1) (u0_0 := .ref q1) (u0_2 := u0_2) (u0_3 := u0_3) (u0_4 := .ref q2) (u0_5 := .int v_rowMany) (u0_6 := .int (0 : Int32)) (u0_7 := u0_7) (u0_12 := u0_12) (u0_14 := u0_14) (u0_18 := u0_18) (u0_19 := u0_19) (u0_20 := u0_20) (u0_21 := u0_21) (u0_22 := u0_22) (u0_23 := u0_23) (u0_24 := u0_24) (u0_25 := u0_25) (u0_26 := u0_26) (u0_27 := u0_27) (u0_28 := u0_28) (u0_29 := u0_29) (u0_30 := u0_30) (u0_31 := u0_31) (u0_32 := u0_32) (u0_33 := u0_33) (u0_34 := u0_34) (u0_35 := u0_35) (u0_36 := u0_36) (u0_37 := u0_37) (u0_38 := u0_38) (u0_39 := u0_39) (u0_40 := u0_40) (v_people := v_people) (v_length := v_length) (v_top := v_top) (v_at := v_at) (v_wrong := v_wrong) (v_ruleSize := v_ruleSize) (v_isAsked := v_isAsked) (v_rule := v_rule) (v_asked := v_asked) (nw1_ := 37) (w1_ := v_now) (r := y10) e1) [0, 3, 4, 1] rfl rfl (fun _ => rfl) (fun _ => rfl) rfl rfl rfl rfl (Nat.le_of_ble_eq_true rfl) hl.1 (by rw [hRf]; exact Nat.le_of_ble_eq_true rfl) (by rw [hRl]; exact Nat.le_of_ble_eq_true rfl) ⟨Nat.zero_le _, Nat.zero_le _⟩ dX11_wakes_10 rfl (fun H locs rc2 hS => ?_)
  refine lv_istore_n (lv' := [(1, .int y10.1), (0, .ref q0)]) hx hb dX11_wakes_13 rfl hl (by decide) rfl (fun ls hl => ?_)
  refine lv_aload_n hx hb dX11_wakes_14 rfl (lv_at hl 1 rfl) ?_
  refine lv_iconst (v := 0) hx hb dX11_wakes_15 (by decide) ?_
  refine r_put (ws' := [oX11 q0 (.ref q1) (.int v_people) u0_2 u0_3 (.ref q2) (.int (0 : Int32)) (.int (0 : Int32)) rc2 (.int y10.2.1) (.int y10.2.2.1) (.int y10.2.2.2.1) (.int y10.2.2.2.2.1) u0_12 (.ref q3) u0_14 (.int v_ruleSize) (.int y10.2.2.2.2.2.1) (.ref q4) u0_18 u0_19 u0_20 u0_21 u0_22 u0_23 u0_24 u0_25 u0_26 u0_27 u0_28 u0_29 u0_30 u0_31 u0_32 u0_33 u0_34 u0_35 u0_36 u0_37 u0_38 u0_39 u0_40, aI cy q1 37 v_now, aJ cy q2 16 v_row, aB cy q3 40 v_rule, aI cy q4 7 y10.2.2.2.2.2.2]) E frX11_89 hS 0 rfl (Nat.le_of_ble_eq_true rfl) rfl rfl rfl rfl dX11_wakes_16 (fun H locs hS => ?_)
  refine lv_aload_n hx hb dX11_wakes_19 rfl (lv_at hl 1 rfl) ?_
  refine lv_iload_n hx hb dX11_wakes_20 rfl (lv_at hl 0 rfl) ?_
  refine ct_S (ws' := fun _ => [oX11 q0 (.ref q1) (.int v_people) u0_2 u0_3 (.ref q2) (.int (0 : Int32)) (.int (0 : Int32)) rc2 (.int y10.2.1) (.int y10.2.2.1) (.int y10.2.2.2.1) (.int y10.2.2.2.2.1) u0_12 (.ref q3) u0_14 (.int v_ruleSize) (.int y10.2.2.2.2.2.1) (.ref q4) u0_18 u0_19 u0_20 u0_21 u0_22 u0_23 u0_24 u0_25 u0_26 u0_27 u0_28 u0_29 u0_30 u0_31 u0_32 u0_33 u0_34 u0_35 u0_36 u0_37 u0_38 u0_39 u0_40, aI cy q1 37 v_now, aJ cy q2 16 v_row, aB cy q3 40 v_rule, aI cy q4 7 y10.2.2.2.2.2.2]) (st' := [.int (J6_bitCount_0f7a4 y10.1), .ref q0]) (rest := [.ref q0]) E hS slX11_204 (c_J6_bitCount_0f7a4 (l := l) (D := D) (cy := cy) (p0 := y10.1) (r := (J6_bitCount_0f7a4 y10.1)) rfl) [] rfl rfl (fun _ => rfl) (fun _ => rfl) rfl rfl (Nat.le_of_ble_eq_true rfl) hl.1 (by rw [hRf]; exact Nat.le_of_ble_eq_true rfl) (by rw [hRl]; exact Nat.le_of_ble_eq_true rfl) ⟨Nat.zero_le _, Nat.zero_le _⟩ dX11_wakes_21 rfl (fun H locs _ hS => ?_)
  refine lv_i2l (v := ((J6_bitCount_0f7a4 y10.1).toInt64)) hx hb dX11_wakes_24 rfl ?_
  obtain ⟨y25, e3, h⟩ := bd_some h
  refine ct_V (ws' := fun _ => [oX11 q0 (.ref q1) (.int v_people) u0_2 u0_3 (.ref q2) (.int y25.1) (.int (0 : Int32)) rc2 (.int y10.2.1) (.int y10.2.2.1) (.int y10.2.2.2.1) (.int y10.2.2.2.2.1) u0_12 (.ref q3) u0_14 (.int v_ruleSize) (.int y10.2.2.2.2.2.1) (.ref q4) u0_18 u0_19 u0_20 u0_21 u0_22 u0_23 u0_24 u0_25 u0_26 u0_27 u0_28 u0_29 u0_30 u0_31 u0_32 u0_33 u0_34 u0_35 u0_36 u0_37 u0_38 u0_39 u0_40, aI cy q1 37 v_now, aJ cy q2 16 y25.2, aB cy q3 40 v_rule, aI cy q4 7 y10.2.2.2.2.2.2]) (st' := []) (rest := []) E hS vlX11_256 (c_X11_tell (l := l) (D := D) (cy := cy) (q0 := q0) (q1 := q2) (u0_0 := .ref q1) (u0_1 := .int v_people) (u0_2 := u0_2) (u0_3 := u0_3) (u0_6 := .int (0 : Int32)) (u0_7 := rc2) (u0_8 := .int y10.2.1) (u0_9 := .int y10.2.2.1) (u0_10 := .int y10.2.2.2.1) (u0_11 := .int y10.2.2.2.2.1) (u0_12 := u0_12) (u0_13 := .ref q3) (u0_14 := u0_14) (u0_15 := .int v_ruleSize) (u0_16 := .int y10.2.2.2.2.2.1) (u0_17 := .ref q4) (u0_18 := u0_18) (u0_19 := u0_19) (u0_20 := u0_20) (u0_21 := u0_21) (u0_22 := u0_22) (u0_23 := u0_23) (u0_24 := u0_24) (u0_25 := u0_25) (u0_26 := u0_26) (u0_27 := u0_27) (u0_28 := u0_28) (u0_29 := u0_29) (u0_30 := u0_30) (u0_31 := u0_31) (u0_32 := u0_32) (u0_33 := u0_33) (u0_34 := u0_34) (u0_35 := u0_35) (u0_36 := u0_36) (u0_37 := u0_37) (u0_38 := u0_38) (u0_39 := u0_39) (u0_40 := u0_40) (v_rowMany := (0 : Int32)) (v_row := v_row) (p1 := ((J6_bitCount_0f7a4 y10.1).toInt64)) (r := y25) e3) [0, 2] rfl rfl (fun _ => rfl) (fun _ => rfl) rfl rfl rfl rfl (Nat.le_of_ble_eq_true rfl) hl.1 (by rw [hRf]; exact Nat.le_of_ble_eq_true rfl) (by rw [hRl]; exact Nat.le_of_ble_eq_true rfl) ⟨Nat.zero_le _, Nat.zero_le _⟩ dX11_wakes_25 rfl (fun H locs _ hS => ?_)
  refine lv_aload_n hx hb dX11_wakes_28 rfl (lv_at hl 1 rfl) ?_
  refine lv_aload_n hx hb dX11_wakes_29 rfl (lv_at hl 1 rfl) ?_
  refine lv_aload_n hx hb dX11_wakes_30 rfl (lv_at hl 1 rfl) ?_
  refine r_get E frX11_9 hS 0 rfl rfl dX11_wakes_31 ?_
  refine lv_iload_n hx hb dX11_wakes_34 rfl (lv_at hl 0 rfl) ?_
  obtain ⟨y35, e4, h⟩ := bd_some h
  refine ct_V (ws' := fun _ => [oX11 q0 (.ref q1) (.int v_people) u0_2 u0_3 (.ref q2) (.int y25.1) (.int (0 : Int32)) rc2 (.int y10.2.1) (.int y10.2.2.1) (.int y10.2.2.2.1) (.int y10.2.2.2.2.1) u0_12 (.ref q3) u0_14 (.int v_ruleSize) (.int y10.2.2.2.2.2.1) (.ref q4) u0_18 u0_19 u0_20 u0_21 u0_22 u0_23 u0_24 u0_25 u0_26 u0_27 u0_28 u0_29 u0_30 u0_31 u0_32 u0_33 u0_34 u0_35 u0_36 u0_37 u0_38 u0_39 u0_40, aI cy q1 37 v_now, aJ cy q2 16 y25.2, aB cy q3 40 v_rule, aI cy q4 7 y10.2.2.2.2.2.2]) (st' := [.int y35, .ref q0]) (rest := [.ref q0]) E hS vlX11_243 (c_X11_unmet (l := l) (D := D) (cy := cy) (q0 := q0) (q1 := q1) (u0_0 := .ref q1) (u0_2 := u0_2) (u0_3 := u0_3) (u0_4 := .ref q2) (u0_5 := .int y25.1) (u0_6 := .int (0 : Int32)) (u0_7 := rc2) (u0_8 := .int y10.2.1) (u0_9 := .int y10.2.2.1) (u0_10 := .int y10.2.2.2.1) (u0_11 := .int y10.2.2.2.2.1) (u0_12 := u0_12) (u0_13 := .ref q3) (u0_14 := u0_14) (u0_15 := .int v_ruleSize) (u0_16 := .int y10.2.2.2.2.2.1) (u0_17 := .ref q4) (u0_18 := u0_18) (u0_19 := u0_19) (u0_20 := u0_20) (u0_21 := u0_21) (u0_22 := u0_22) (u0_23 := u0_23) (u0_24 := u0_24) (u0_25 := u0_25) (u0_26 := u0_26) (u0_27 := u0_27) (u0_28 := u0_28) (u0_29 := u0_29) (u0_30 := u0_30) (u0_31 := u0_31) (u0_32 := u0_32) (u0_33 := u0_33) (u0_34 := u0_34) (u0_35 := u0_35) (u0_36 := u0_36) (u0_37 := u0_37) (u0_38 := u0_38) (u0_39 := u0_39) (u0_40 := u0_40) (v_people := v_people) (nw1_ := 37) (w1_ := v_now) (p2 := y10.1) (r := y35) e4) [0, 1] rfl rfl (fun _ => rfl) (fun _ => rfl) rfl rfl rfl rfl (Nat.le_of_ble_eq_true rfl) hl.1 (by rw [hRf]; exact Nat.le_of_ble_eq_true rfl) (by rw [hRl]; exact Nat.le_of_ble_eq_true rfl) ⟨Nat.zero_le _, Nat.zero_le _⟩ dX11_wakes_35 rfl (fun H locs _ hS => ?_)
  refine lv_i2l (v := (y35.toInt64)) hx hb dX11_wakes_38 rfl ?_
  obtain ⟨y39, e5, h⟩ := bd_some h
  refine ct_V (ws' := fun _ => [oX11 q0 (.ref q1) (.int v_people) u0_2 u0_3 (.ref q2) (.int y39.1) (.int (0 : Int32)) rc2 (.int y10.2.1) (.int y10.2.2.1) (.int y10.2.2.2.1) (.int y10.2.2.2.2.1) u0_12 (.ref q3) u0_14 (.int v_ruleSize) (.int y10.2.2.2.2.2.1) (.ref q4) u0_18 u0_19 u0_20 u0_21 u0_22 u0_23 u0_24 u0_25 u0_26 u0_27 u0_28 u0_29 u0_30 u0_31 u0_32 u0_33 u0_34 u0_35 u0_36 u0_37 u0_38 u0_39 u0_40, aI cy q1 37 v_now, aJ cy q2 16 y39.2, aB cy q3 40 v_rule, aI cy q4 7 y10.2.2.2.2.2.2]) (st' := []) (rest := []) E hS vlX11_256 (c_X11_tell (l := l) (D := D) (cy := cy) (q0 := q0) (q1 := q2) (u0_0 := .ref q1) (u0_1 := .int v_people) (u0_2 := u0_2) (u0_3 := u0_3) (u0_6 := .int (0 : Int32)) (u0_7 := rc2) (u0_8 := .int y10.2.1) (u0_9 := .int y10.2.2.1) (u0_10 := .int y10.2.2.2.1) (u0_11 := .int y10.2.2.2.2.1) (u0_12 := u0_12) (u0_13 := .ref q3) (u0_14 := u0_14) (u0_15 := .int v_ruleSize) (u0_16 := .int y10.2.2.2.2.2.1) (u0_17 := .ref q4) (u0_18 := u0_18) (u0_19 := u0_19) (u0_20 := u0_20) (u0_21 := u0_21) (u0_22 := u0_22) (u0_23 := u0_23) (u0_24 := u0_24) (u0_25 := u0_25) (u0_26 := u0_26) (u0_27 := u0_27) (u0_28 := u0_28) (u0_29 := u0_29) (u0_30 := u0_30) (u0_31 := u0_31) (u0_32 := u0_32) (u0_33 := u0_33) (u0_34 := u0_34) (u0_35 := u0_35) (u0_36 := u0_36) (u0_37 := u0_37) (u0_38 := u0_38) (u0_39 := u0_39) (u0_40 := u0_40) (v_rowMany := y25.1) (v_row := y25.2) (p1 := (y35.toInt64)) (r := y39) e5) [0, 2] rfl rfl (fun _ => rfl) (fun _ => rfl) rfl rfl rfl rfl (Nat.le_of_ble_eq_true rfl) hl.1 (by rw [hRf]; exact Nat.le_of_ble_eq_true rfl) (by rw [hRl]; exact Nat.le_of_ble_eq_true rfl) ⟨Nat.zero_le _, Nat.zero_le _⟩ dX11_wakes_39 rfl (fun H locs _ hS => ?_)
  refine lv_iload_n hx hb dX11_wakes_42 rfl (lv_at hl 0 rfl) ?_
  obtain rfl := Option.some.inj h
  exact rt_i E hQ (rc2) hS dX11_wakes_43
set_option maxHeartbeats 4000000 in
set_option maxRecDepth 100000 in
theorem c_X11_later {l : Launch} {D : va_G} {cy : Nat → ClassId} (q0 : Nat) (q1 : Nat) (q2 : Nat) (q3 : Nat) (q4 : Nat) (q5 : Nat) (u0_2 : Value) (u0_3 : Value) (u0_7 : Value) (u0_12 : Value) (u0_14 : Value) (u0_18 : Value) (u0_19 : Value) (u0_20 : Value) (u0_22 : Value) (u0_23 : Value) (u0_24 : Value) (u0_25 : Value) (u0_26 : Value) (u0_27 : Value) (u0_28 : Value) (u0_29 : Value) (u0_30 : Value) (u0_31 : Value) (u0_32 : Value) (u0_33 : Value) (u0_34 : Value) (u0_35 : Value) (u0_36 : Value) (u0_37 : Value) (u0_38 : Value) (u0_39 : Value) (u0_40 : Value) (v_people : Int32) (v_rowMany : Int32) (v_thrown : Int32) (v_length : Int32) (v_top : Int32) (v_at : Int32) (v_wrong : Int32) (v_ruleSize : Int32) (v_isAsked : Int32) (v_now : Nat → Int32) (v_row : Nat → Int64) (v_rule : Nat → Int32) (v_asked : Nat → Int32) (v_then : Nat → Int32) (p1 : Int32) (p2 : Int32) (r : Int32 × Int32 × Int32 × Int32 × Int32 × Int32 × Int32 × Int32 × (Nat → Int64) × (Nat → Int32) × (Nat → Int32)) (h : X11_later v_people v_rowMany v_length v_top v_at v_wrong v_ruleSize v_isAsked v_now v_row v_rule v_asked v_then p1 p2 = some r) : Ct l yX11_later cX11_later 5 (some .int) 110 2626 D cy [.ref q0, .int p1, .int p2] [oX11 q0 (.ref q1) (.int v_people) u0_2 u0_3 (.ref q2) (.int v_rowMany) (.int v_thrown) u0_7 (.int v_length) (.int v_top) (.int v_at) (.int v_wrong) u0_12 (.ref q3) u0_14 (.int v_ruleSize) (.int v_isAsked) (.ref q4) u0_18 u0_19 u0_20 (.ref q5) u0_22 u0_23 u0_24 u0_25 u0_26 u0_27 u0_28 u0_29 u0_30 u0_31 u0_32 u0_33 u0_34 u0_35 u0_36 u0_37 u0_38 u0_39 u0_40, aI cy q1 37 v_now, aJ cy q2 16 v_row, aB cy q3 40 v_rule, aI cy q4 7 v_asked, aI cy q5 37 v_then] (fun rv => [oX11 q0 (.ref q1) (.int v_people) u0_2 u0_3 (.ref q2) (.int r.2.1) (.int r.2.2.1) rv (.int r.2.2.2.1) (.int r.2.2.2.2.1) (.int r.2.2.2.2.2.1) (.int r.2.2.2.2.2.2.1) u0_12 (.ref q3) u0_14 (.int v_ruleSize) (.int r.2.2.2.2.2.2.2.1) (.ref q4) u0_18 u0_19 u0_20 (.ref q5) u0_22 u0_23 u0_24 u0_25 u0_26 u0_27 u0_28 u0_29 u0_30 u0_31 u0_32 u0_33 u0_34 u0_35 u0_36 u0_37 u0_38 u0_39 u0_40, aI cy q1 37 v_now, aJ cy q2 16 r.2.2.2.2.2.2.2.2.1, aB cy q3 40 v_rule, aI cy q4 7 r.2.2.2.2.2.2.2.2.2.1, aI cy q5 37 r.2.2.2.2.2.2.2.2.2.2]) (some (.int r.1)) := by
  refine Ct.mk kX11_later (by decide +kernel) (Nat.le_of_ble_eq_true rfl) ?_
  intro p e s m below meth c A ls args R Q hRf hRl hQ E H locs hS hl
  have hx := E.x
  have hb := E.b
  have hl : lv_has ls 5 [(0, .ref q0), (1, .int p1), (2, .int p2)] := hl
  unfold X11_later at h
  refine lv_aload_n hx hb dX11_later_0 rfl (lv_at hl 0 rfl) ?_
  refine lv_iconst (v := 0) hx hb dX11_later_1 (by decide) ?_
  refine r_put (ws' := [oX11 q0 (.ref q1) (.int v_people) u0_2 u0_3 (.ref q2) (.int v_rowMany) (.int (0 : Int32)) u0_7 (.int v_length) (.int v_top) (.int v_at) (.int v_wrong) u0_12 (.ref q3) u0_14 (.int v_ruleSize) (.int v_isAsked) (.ref q4) u0_18 u0_19 u0_20 (.ref q5) u0_22 u0_23 u0_24 u0_25 u0_26 u0_27 u0_28 u0_29 u0_30 u0_31 u0_32 u0_33 u0_34 u0_35 u0_36 u0_37 u0_38 u0_39 u0_40, aI cy q1 37 v_now, aJ cy q2 16 v_row, aB cy q3 40 v_rule, aI cy q4 7 v_asked, aI cy q5 37 v_then]) E frX11_85 hS 0 rfl (Nat.le_of_ble_eq_true rfl) rfl rfl rfl rfl dX11_later_2 (fun H locs hS => ?_)
  refine lv_aload_n hx hb dX11_later_5 rfl (lv_at hl 0 rfl) ?_
  refine lv_iload_n hx hb dX11_later_6 rfl (lv_at hl 1 rfl) ?_
  obtain ⟨y7, e1, h⟩ := bd_some h
  refine ct_V (ws' := fun _ => [oX11 q0 (.ref q1) (.int v_people) u0_2 u0_3 (.ref q2) (.int v_rowMany) (.int (0 : Int32)) u0_7 (.int v_length) (.int v_top) (.int v_at) (.int v_wrong) u0_12 (.ref q3) u0_14 (.int v_ruleSize) (.int v_isAsked) (.ref q4) u0_18 u0_19 u0_20 (.ref q5) u0_22 u0_23 u0_24 u0_25 u0_26 u0_27 u0_28 u0_29 u0_30 u0_31 u0_32 u0_33 u0_34 u0_35 u0_36 u0_37 u0_38 u0_39 u0_40, aI cy q1 37 v_now, aJ cy q2 16 v_row, aB cy q3 40 v_rule, aI cy q4 7 v_asked, aI cy q5 37 v_then]) (st' := [.int y7]) (rest := []) E hS vlX11_99 (c_X11_isOne (l := l) (D := D) (cy := cy) (q0 := q0) (u0_0 := .ref q1) (u0_2 := u0_2) (u0_3 := u0_3) (u0_4 := .ref q2) (u0_5 := .int v_rowMany) (u0_6 := .int (0 : Int32)) (u0_7 := u0_7) (u0_8 := .int v_length) (u0_9 := .int v_top) (u0_10 := .int v_at) (u0_11 := .int v_wrong) (u0_12 := u0_12) (u0_13 := .ref q3) (u0_14 := u0_14) (u0_15 := .int v_ruleSize) (u0_16 := .int v_isAsked) (u0_17 := .ref q4) (u0_18 := u0_18) (u0_19 := u0_19) (u0_20 := u0_20) (u0_21 := .ref q5) (u0_22 := u0_22) (u0_23 := u0_23) (u0_24 := u0_24) (u0_25 := u0_25) (u0_26 := u0_26) (u0_27 := u0_27) (u0_28 := u0_28) (u0_29 := u0_29) (u0_30 := u0_30) (u0_31 := u0_31) (u0_32 := u0_32) (u0_33 := u0_33) (u0_34 := u0_34) (u0_35 := u0_35) (u0_36 := u0_36) (u0_37 := u0_37) (u0_38 := u0_38) (u0_39 := u0_39) (u0_40 := u0_40) (v_people := v_people) (p1 := p1) (r := y7) e1) [0] rfl rfl (fun _ => rfl) (fun _ => rfl) rfl rfl rfl rfl (Nat.le_of_ble_eq_true rfl) hl.1 (by rw [hRf]; exact Nat.le_of_ble_eq_true rfl) (by rw [hRl]; exact Nat.le_of_ble_eq_true rfl) ⟨Nat.zero_le _, Nat.zero_le _⟩ dX11_later_7 rfl (fun H locs _ hS => ?_)
  refine lv_if_eq (tgt := 23) hx hb dX11_later_10 (by decide) (fun c2 => ?_) (fun c2 => ?_)
  · have h := it_pos c2 h
    refine lv_iconst (v := -1) hx hb dX11_later_23 (by decide) ?_
    obtain rfl := Option.some.inj h
    exact rt_i E hQ (u0_7) hS dX11_later_24
  · have h := it_neg c2 h
    refine lv_iload_n hx hb dX11_later_13 rfl (lv_at hl 2 rfl) ?_
    refine lv_iconst (v := 0) hx hb dX11_later_14 (by decide) ?_
    refine lv_bipush (v := 99) hx hb dX11_later_15 (by decide) ?_
    refine ct_S (ws' := fun _ => [oX11 q0 (.ref q1) (.int v_people) u0_2 u0_3 (.ref q2) (.int v_rowMany) (.int (0 : Int32)) u0_7 (.int v_length) (.int v_top) (.int v_at) (.int v_wrong) u0_12 (.ref q3) u0_14 (.int v_ruleSize) (.int v_isAsked) (.ref q4) u0_18 u0_19 u0_20 (.ref q5) u0_22 u0_23 u0_24 u0_25 u0_26 u0_27 u0_28 u0_29 u0_30 u0_31 u0_32 u0_33 u0_34 u0_35 u0_36 u0_37 u0_38 u0_39 u0_40, aI cy q1 37 v_now, aJ cy q2 16 v_row, aB cy q3 40 v_rule, aI cy q4 7 v_asked, aI cy q5 37 v_then]) (st' := [.int (X11_in p2 (0 : Int32) (99 : Int32))]) (rest := []) E hS slX11_95 (c_X11_in (l := l) (D := D) (cy := cy) (p0 := p2) (p1 := (0 : Int32)) (p2 := (99 : Int32)) (r := (X11_in p2 (0 : Int32) (99 : Int32))) rfl) [] rfl rfl (fun _ => rfl) (fun _ => rfl) rfl rfl (Nat.le_of_ble_eq_true rfl) hl.1 (by rw [hRf]; exact Nat.le_of_ble_eq_true rfl) (by rw [hRl]; exact Nat.le_of_ble_eq_true rfl) ⟨Nat.zero_le _, Nat.zero_le _⟩ dX11_later_17 rfl (fun H locs _ hS => ?_)
    refine lv_if_ne (tgt := 25) hx hb dX11_later_20 (by decide) (fun c3 => ?_) (fun c3 => ?_)
    · have h := it_neg c3 h
      refine lv_aload_n hx hb dX11_later_25 rfl (lv_at hl 0 rfl) ?_
      refine r_get E frX11_9 hS 0 rfl rfl dX11_later_26 ?_
      refine lv_aload_n hx hb dX11_later_29 rfl (lv_at hl 0 rfl) ?_
      refine r_get E frX11_39 hS 0 rfl rfl dX11_later_30 ?_
      refine lv_iconst (v := 0) hx hb dX11_later_33 (by decide) ?_
      obtain ⟨y34, e4, h⟩ := bd_some h
      refine ct_S (ws' := fun _ => [oX11 q0 (.ref q1) (.int v_people) u0_2 u0_3 (.ref q2) (.int v_rowMany) (.int (0 : Int32)) u0_7 (.int v_length) (.int v_top) (.int v_at) (.int v_wrong) u0_12 (.ref q3) u0_14 (.int v_ruleSize) (.int v_isAsked) (.ref q4) u0_18 u0_19 u0_20 (.ref q5) u0_22 u0_23 u0_24 u0_25 u0_26 u0_27 u0_28 u0_29 u0_30 u0_31 u0_32 u0_33 u0_34 u0_35 u0_36 u0_37 u0_38 u0_39 u0_40, aI cy q1 37 v_now, aJ cy q2 16 v_row, aB cy q3 40 v_rule, aI cy q4 7 v_asked, aI cy q5 37 y34]) (st' := []) (rest := []) E hS slX11_235 (c_X11_lay (l := l) (D := D) (cy := cy) (q0 := q1) (q1 := q5) (nw1_ := 37) (w1_ := v_now) (nw2_ := 37) (w2_ := v_then) (p2 := (0 : Int32)) (r := y34) e4) [1, 5] rfl rfl (fun _ => rfl) (fun _ => rfl) rfl rfl (Nat.le_of_ble_eq_true rfl) hl.1 (by rw [hRf]; exact Nat.le_of_ble_eq_true rfl) (by rw [hRl]; exact Nat.le_of_ble_eq_true rfl) ⟨Nat.zero_le _, Nat.zero_le _⟩ dX11_later_34 rfl (fun H locs _ hS => ?_)
      refine lv_iconst (v := 0) hx hb dX11_later_37 (by decide) ?_
      refine lv_istore_n (lv' := [(3, .int (0 : Int32)), (0, .ref q0), (1, .int p1), (2, .int p2)]) hx hb dX11_later_38 rfl hl (by decide) rfl (fun ls hl => ?_)
      refine lv_iconst (v := 0) hx hb dX11_later_39 (by decide) ?_
      refine lv_istore (lv' := [(4, .int (0 : Int32)), (3, .int (0 : Int32)), (0, .ref q0), (1, .int p1), (2, .int p2)]) hx hb dX11_later_40 hl (by decide) rfl (fun ls hl => ?_)
      have hL42 : ∀ (n : Nat) (x42_0 : Int32) (x42_1 : Int32) (x42_2 : Int32) (x42_3 : Int32) (x42_4 : Int32) (x42_5 : Int32) (x42_6 : Int32) (x42_7 : Nat → Int32) (x42_8 : Nat → Int32) (y42 : Int32 × Int32 × Int32 × Int32 × Int32 × Int32 × (Nat → Int32) × (Nat → Int32)) (rv42_0 : Value) (H : Heap) (locs : List Loc) (ls : Array Slot), lp (fun x42 => X11_later_s42 v_people v_ruleSize v_rule p1 p2 x42.1 x42.2.1 x42.2.2.1 x42.2.2.2.1 x42.2.2.2.2.1 x42.2.2.2.2.2.1 x42.2.2.2.2.2.2.1 x42.2.2.2.2.2.2.2.1 x42.2.2.2.2.2.2.2.2) n (x42_0, x42_1, x42_2, x42_3, x42_4, x42_5, x42_6, x42_7, x42_8) = some y42 → Sv D A s.heap [oX11 q0 (.ref q1) (.int v_people) u0_2 u0_3 (.ref q2) (.int v_rowMany) (.int (0 : Int32)) rv42_0 (.int x42_2) (.int x42_3) (.int x42_4) (.int x42_5) u0_12 (.ref q3) u0_14 (.int v_ruleSize) (.int x42_6) (.ref q4) u0_18 u0_19 u0_20 (.ref q5) u0_22 u0_23 u0_24 u0_25 u0_26 u0_27 u0_28 u0_29 u0_30 u0_31 u0_32 u0_33 u0_34 u0_35 u0_36 u0_37 u0_38 u0_39 u0_40, aI cy q1 37 v_now, aJ cy q2 16 v_row, aB cy q3 40 v_rule, aI cy q4 7 x42_7, aI cy q5 37 x42_8] H locs → lv_has ls 5 [(0, .ref q0), (1, .int p1), (2, .int p2), (3, .int x42_0), (4, .int x42_1)] → ( ∀ (y42_0 : Int32) (y42_1 : Int32) (y42_2 : Int32) (y42_3 : Int32) (y42_4 : Int32) (y42_5 : Int32) (y42_6 : Nat → Int32) (y42_7 : Nat → Int32), (y42_0, y42_1, y42_2, y42_3, y42_4, y42_5, y42_6, y42_7) = y42 → ∀ (rv42_0 : Value), ∀ (H : Heap) (locs : List Loc) (ls : Array Slot), Sv D A s.heap [oX11 q0 (.ref q1) (.int v_people) u0_2 u0_3 (.ref q2) (.int v_rowMany) (.int (0 : Int32)) rv42_0 (.int y42_1) (.int y42_2) (.int y42_3) (.int y42_4) u0_12 (.ref q3) u0_14 (.int v_ruleSize) (.int y42_5) (.ref q4) u0_18 u0_19 u0_20 (.ref q5) u0_22 u0_23 u0_24 u0_25 u0_26 u0_27 u0_28 u0_29 u0_30 u0_31 u0_32 u0_33 u0_34 u0_35 u0_36 u0_37 u0_38 u0_39 u0_40, aI cy q1 37 v_now, aJ cy q2 16 v_row, aB cy q3 40 v_rule, aI cy q4 7 y42_6, aI cy q5 37 y42_7] H locs → lv_has ls 5 [(0, .ref q0), (1, .int p1), (3, .int y42_0)] → W p l e R s m args below meth c H locs 0 0 Q (F0 m 77 ls [])) → W p l e R s m args below meth c H locs 0 0 Q (F0 m 42 ls []) := by
        intro n
        induction n with
        | zero =>
          intro x42_0 x42_1 x42_2 x42_3 x42_4 x42_5 x42_6 x42_7 x42_8 y42 rv42_0 H locs ls h
          exact lp_zero h
        | succ n ih42 =>
          intro x42_0 x42_1 x42_2 x42_3 x42_4 x42_5 x42_6 x42_7 x42_8 y42 rv42_0 H locs ls h hS hl hk42_0
          obtain ⟨z42, h, hz42a, hz42b⟩ := lp_succ h
          have h : X11_later_s42 v_people v_ruleSize v_rule p1 p2 x42_0 x42_1 x42_2 x42_3 x42_4 x42_5 x42_6 x42_7 x42_8 = some z42 := h
          unfold X11_later_s42 at h
          refine lv_iload hx hb dX11_later_42 (lv_at hl 4 rfl) ?_
          refine lv_iload_n hx hb dX11_later_44 rfl (lv_at hl 2 rfl) ?_
          refine lv_icmp_ge (tgt := 77) hx hb dX11_later_45 (by decide) (fun c5 => ?_) (fun c5 => ?_)
          · have h := it_pos c5 h
            exact hk42_0 x42_0 x42_2 x42_3 x42_4 x42_5 x42_6 x42_7 x42_8 (hz42b _ (Option.some.inj h).symm) rv42_0 H locs ls hS (lv_sub hl [0, 1, 3] rfl)
          · have h := it_neg c5 h
            refine lv_iload_n hx hb dX11_later_48 rfl (lv_at hl 3 rfl) ?_
            refine lv_aload_n hx hb dX11_later_49 rfl (lv_at hl 0 rfl) ?_
            refine lv_aload_n hx hb dX11_later_50 rfl (lv_at hl 0 rfl) ?_
            refine r_get E frX11_39 hS 0 rfl rfl dX11_later_51 ?_
            obtain ⟨y54, e6, h⟩ := bd_some h
            refine ct_V (ws' := fun rc7 => [oX11 q0 (.ref q1) (.int v_people) u0_2 u0_3 (.ref q2) (.int v_rowMany) (.int (0 : Int32)) rc7 (.int y54.2.1) (.int y54.2.2.1) (.int y54.2.2.2.1) (.int y54.2.2.2.2.1) u0_12 (.ref q3) u0_14 (.int v_ruleSize) (.int y54.2.2.2.2.2.1) (.ref q4) u0_18 u0_19 u0_20 (.ref q5) u0_22 u0_23 u0_24 u0_25 u0_26 u0_27 u0_28 u0_29 u0_30 u0_31 u0_32 u0_33 u0_34 u0_35 u0_36 u0_37 u0_38 u0_39 u0_40, aI cy q1 37 v_now, aJ cy q2 16 v_row, aB cy q3 40 v_rule, aI cy q4 7 y54.2.2.2.2.2.2.1, aI cy q5 37 y54.2.2.2.2.2.2.2]) (st' := [.int y54.1, .int x42_0]) (rest := [.int x42_0]) E hS vlX11_246 (c_X11_goMorning (l := l) (D := D) (cy := cy) (q0 := q0) (q1 := q3) (q2 := q4) (q3 := q5) (u0_0 := .ref q1) (u0_2 := u0_2) (u0_3 := u0_3) (u0_4 := .ref q2) (u0_5 := .int v_rowMany) (u0_6 := .int (0 : Int32)) (u0_7 := rv42_0) (u0_12 := u0_12) (u0_14 := u0_14) (u0_18 := u0_18) (u0_19 := u0_19) (u0_20 := u0_20) (u0_21 := .ref q5) (u0_22 := u0_22) (u0_23 := u0_23) (u0_24 := u0_24) (u0_25 := u0_25) (u0_26 := u0_26) (u0_27 := u0_27) (u0_28 := u0_28) (u0_29 := u0_29) (u0_30 := u0_30) (u0_31 := u0_31) (u0_32 := u0_32) (u0_33 := u0_33) (u0_34 := u0_34) (u0_35 := u0_35) (u0_36 := u0_36) (u0_37 := u0_37) (u0_38 := u0_38) (u0_39 := u0_39) (u0_40 := u0_40) (v_people := v_people) (v_length := x42_2) (v_top := x42_3) (v_at := x42_4) (v_wrong := x42_5) (v_ruleSize := v_ruleSize) (v_isAsked := x42_6) (v_rule := v_rule) (v_asked := x42_7) (nw1_ := 37) (w1_ := x42_8) (r := y54) e6) [0, 3, 4, 5] rfl rfl (fun _ => rfl) (fun _ => rfl) rfl rfl rfl rfl (Nat.le_of_ble_eq_true rfl) hl.1 (by rw [hRf]; exact Nat.le_of_ble_eq_true rfl) (by rw [hRl]; exact Nat.le_of_ble_eq_true rfl) ⟨Nat.zero_le _, Nat.zero_le _⟩ dX11_later_54 rfl (fun H locs rc7 hS => ?_)
            refine lv_iload_n hx hb dX11_later_57 rfl (lv_at hl 1 rfl) ?_
            refine ct_S (ws' := fun _ => [oX11 q0 (.ref q1) (.int v_people) u0_2 u0_3 (.ref q2) (.int v_rowMany) (.int (0 : Int32)) rc7 (.int y54.2.1) (.int y54.2.2.1) (.int y54.2.2.2.1) (.int y54.2.2.2.2.1) u0_12 (.ref q3) u0_14 (.int v_ruleSize) (.int y54.2.2.2.2.2.1) (.ref q4) u0_18 u0_19 u0_20 (.ref q5) u0_22 u0_23 u0_24 u0_25 u0_26 u0_27 u0_28 u0_29 u0_30 u0_31 u0_32 u0_33 u0_34 u0_35 u0_36 u0_37 u0_38 u0_39 u0_40, aI cy q1 37 v_now, aJ cy q2 16 v_row, aB cy q3 40 v_rule, aI cy q4 7 y54.2.2.2.2.2.2.1, aI cy q5 37 y54.2.2.2.2.2.2.2]) (st' := [.int (X11_has y54.1 p1), .int x42_0]) (rest := [.int x42_0]) E hS slX11_196 (c_X11_has (l := l) (D := D) (cy := cy) (p0 := y54.1) (p1 := p1) (r := (X11_has y54.1 p1)) rfl) [] rfl rfl (fun _ => rfl) (fun _ => rfl) rfl rfl (Nat.le_of_ble_eq_true rfl) hl.1 (by rw [hRf]; exact Nat.le_of_ble_eq_true rfl) (by rw [hRl]; exact Nat.le_of_ble_eq_true rfl) ⟨Nat.zero_le _, Nat.zero_le _⟩ dX11_later_58 rfl (fun H locs _ hS => ?_)
            have hJ69 : ∀ (s69_1 : Int32) (ls : Array Slot), s69_1 = (if (X11_has y54.1 p1) = 0 then (0 : Int32) else (1 : Int32)) → lv_has ls 5 [(0, .ref q0), (1, .int p1), (2, .int p2), (4, .int x42_1)] → W p l e R s m args below meth c H locs 0 0 Q (F0 m 69 ls [.int s69_1, .int x42_0]) := by
              intro s69_1 ls es69_1 hl
              subst es69_1
              refine lv_iadd hx hb dX11_later_69 ?_
              refine lv_istore_n (lv' := [(3, .int (x42_0 + (if (X11_has y54.1 p1) = 0 then (0 : Int32) else (1 : Int32)))), (0, .ref q0), (1, .int p1), (2, .int p2), (4, .int x42_1)]) hx hb dX11_later_70 rfl hl (by decide) rfl (fun ls hl => ?_)
              refine lv_iinc (v := (x42_1 + (1 : Int32))) (lv' := [(4, .int (x42_1 + (1 : Int32))), (3, .int (x42_0 + (if (X11_has y54.1 p1) = 0 then (0 : Int32) else (1 : Int32)))), (0, .ref q0), (1, .int p1), (2, .int p2)]) hx hb dX11_later_71 hl (k := 4) rfl rfl (by decide) rfl (fun ls hl => ?_)
              refine lv_goto (tgt := 42) hx hb dX11_later_74 (by decide) ?_
              exact ih42 (x42_0 + (if (X11_has y54.1 p1) = 0 then (0 : Int32) else (1 : Int32))) (x42_1 + (1 : Int32)) y54.2.1 y54.2.2.1 y54.2.2.2.1 y54.2.2.2.2.1 y54.2.2.2.2.2.1 y54.2.2.2.2.2.2.1 y54.2.2.2.2.2.2.2 y42 rc7 H locs ls (hz42a _ (Option.some.inj h).symm) hS (lv_sub hl [2, 3, 4, 1, 0] rfl) hk42_0
            refine lv_if_eq (tgt := 68) hx hb dX11_later_61 (by decide) (fun c8 => ?_) (fun c8 => ?_)
            · refine lv_iconst (v := 0) hx hb dX11_later_68 (by decide) ?_
              exact hJ69 _ ls ((if_pos c8)).symm (lv_sub hl [0, 1, 2, 4] rfl)
            · refine lv_iconst (v := 1) hx hb dX11_later_64 (by decide) ?_
              refine lv_goto (tgt := 69) hx hb dX11_later_65 (by decide) ?_
              exact hJ69 _ ls ((if_neg c8)).symm (lv_sub hl [0, 1, 2, 4] rfl)
      obtain ⟨y42, e42, h⟩ := bd_some h
      refine hL42 1000 (0 : Int32) (0 : Int32) v_length v_top v_at v_wrong v_isAsked v_asked y34 y42 u0_7 H locs ls e42 hS (lv_sub hl [2, 3, 4, 1, 0] rfl) (fun y42_0 y42_1 y42_2 y42_3 y42_4 y42_5 y42_6 y42_7 ey42 rw42_0 H locs ls hS hl => ?_)
      subst ey42
      have h := un_r h
      have h := un_r h
      have h := un_r h
      have h := un_r h
      have h := un_r h
      have h := un_r h
      have h := un_r h
      refine lv_aload_n hx hb dX11_later_77 rfl (lv_at hl 0 rfl) ?_
      refine lv_iconst (v := 0) hx hb dX11_later_78 (by decide) ?_
      refine r_put (ws' := [oX11 q0 (.ref q1) (.int v_people) u0_2 u0_3 (.ref q2) (.int (0 : Int32)) (.int (0 : Int32)) rw42_0 (.int y42_1) (.int y42_2) (.int y42_3) (.int y42_4) u0_12 (.ref q3) u0_14 (.int v_ruleSize) (.int y42_5) (.ref q4) u0_18 u0_19 u0_20 (.ref q5) u0_22 u0_23 u0_24 u0_25 u0_26 u0_27 u0_28 u0_29 u0_30 u0_31 u0_32 u0_33 u0_34 u0_35 u0_36 u0_37 u0_38 u0_39 u0_40, aI cy q1 37 v_now, aJ cy q2 16 v_row, aB cy q3 40 v_rule, aI cy q4 7 y42_6, aI cy q5 37 y42_7]) E frX11_89 hS 0 rfl (Nat.le_of_ble_eq_true rfl) rfl rfl rfl rfl dX11_later_79 (fun H locs hS => ?_)
      refine lv_aload_n hx hb dX11_later_82 rfl (lv_at hl 0 rfl) ?_
      refine lv_iload_n hx hb dX11_later_83 rfl (lv_at hl 2 rfl) ?_
      refine lv_i2l (v := (y42_0.toInt64)) hx hb dX11_later_84 rfl ?_
      obtain ⟨y85, e9, h⟩ := bd_some h
      refine ct_V (ws' := fun _ => [oX11 q0 (.ref q1) (.int v_people) u0_2 u0_3 (.ref q2) (.int y85.1) (.int (0 : Int32)) rw42_0 (.int y42_1) (.int y42_2) (.int y42_3) (.int y42_4) u0_12 (.ref q3) u0_14 (.int v_ruleSize) (.int y42_5) (.ref q4) u0_18 u0_19 u0_20 (.ref q5) u0_22 u0_23 u0_24 u0_25 u0_26 u0_27 u0_28 u0_29 u0_30 u0_31 u0_32 u0_33 u0_34 u0_35 u0_36 u0_37 u0_38 u0_39 u0_40, aI cy q1 37 v_now, aJ cy q2 16 y85.2, aB cy q3 40 v_rule, aI cy q4 7 y42_6, aI cy q5 37 y42_7]) (st' := []) (rest := []) E hS vlX11_256 (c_X11_tell (l := l) (D := D) (cy := cy) (q0 := q0) (q1 := q2) (u0_0 := .ref q1) (u0_1 := .int v_people) (u0_2 := u0_2) (u0_3 := u0_3) (u0_6 := .int (0 : Int32)) (u0_7 := rw42_0) (u0_8 := .int y42_1) (u0_9 := .int y42_2) (u0_10 := .int y42_3) (u0_11 := .int y42_4) (u0_12 := u0_12) (u0_13 := .ref q3) (u0_14 := u0_14) (u0_15 := .int v_ruleSize) (u0_16 := .int y42_5) (u0_17 := .ref q4) (u0_18 := u0_18) (u0_19 := u0_19) (u0_20 := u0_20) (u0_21 := .ref q5) (u0_22 := u0_22) (u0_23 := u0_23) (u0_24 := u0_24) (u0_25 := u0_25) (u0_26 := u0_26) (u0_27 := u0_27) (u0_28 := u0_28) (u0_29 := u0_29) (u0_30 := u0_30) (u0_31 := u0_31) (u0_32 := u0_32) (u0_33 := u0_33) (u0_34 := u0_34) (u0_35 := u0_35) (u0_36 := u0_36) (u0_37 := u0_37) (u0_38 := u0_38) (u0_39 := u0_39) (u0_40 := u0_40) (v_rowMany := (0 : Int32)) (v_row := v_row) (p1 := (y42_0.toInt64)) (r := y85) e9) [0, 2] rfl rfl (fun _ => rfl) (fun _ => rfl) rfl rfl rfl rfl (Nat.le_of_ble_eq_true rfl) hl.1 (by rw [hRf]; exact Nat.le_of_ble_eq_true rfl) (by rw [hRl]; exact Nat.le_of_ble_eq_true rfl) ⟨Nat.zero_le _, Nat.zero_le _⟩ dX11_later_85 rfl (fun H locs _ hS => ?_)
      refine lv_aload_n hx hb dX11_later_88 rfl (lv_at hl 0 rfl) ?_
      refine lv_aload_n hx hb dX11_later_89 rfl (lv_at hl 0 rfl) ?_
      refine lv_aload_n hx hb dX11_later_90 rfl (lv_at hl 0 rfl) ?_
      refine r_get E frX11_39 hS 0 rfl rfl dX11_later_91 ?_
      obtain ⟨y94, e10, h⟩ := bd_some h
      refine ct_V (ws' := fun rc11 => [oX11 q0 (.ref q1) (.int v_people) u0_2 u0_3 (.ref q2) (.int y85.1) (.int (0 : Int32)) rc11 (.int y94.2.1) (.int y94.2.2.1) (.int y94.2.2.2.1) (.int y94.2.2.2.2.1) u0_12 (.ref q3) u0_14 (.int v_ruleSize) (.int y94.2.2.2.2.2.1) (.ref q4) u0_18 u0_19 u0_20 (.ref q5) u0_22 u0_23 u0_24 u0_25 u0_26 u0_27 u0_28 u0_29 u0_30 u0_31 u0_32 u0_33 u0_34 u0_35 u0_36 u0_37 u0_38 u0_39 u0_40, aI cy q1 37 v_now, aJ cy q2 16 y85.2, aB cy q3 40 v_rule, aI cy q4 7 y94.2.2.2.2.2.2, aI cy q5 37 y42_7]) (st' := [.int y94.1, .ref q0]) (rest := [.ref q0]) E hS vlX11_239 (c_X11_awake (l := l) (D := D) (cy := cy) (q0 := q0) (q1 := q3) (q2 := q4) (q3 := q5) (u0_0 := .ref q1) (u0_2 := u0_2) (u0_3 := u0_3) (u0_4 := .ref q2) (u0_5 := .int y85.1) (u0_6 := .int (0 : Int32)) (u0_7 := rw42_0) (u0_12 := u0_12) (u0_14 := u0_14) (u0_18 := u0_18) (u0_19 := u0_19) (u0_20 := u0_20) (u0_21 := .ref q5) (u0_22 := u0_22) (u0_23 := u0_23) (u0_24 := u0_24) (u0_25 := u0_25) (u0_26 := u0_26) (u0_27 := u0_27) (u0_28 := u0_28) (u0_29 := u0_29) (u0_30 := u0_30) (u0_31 := u0_31) (u0_32 := u0_32) (u0_33 := u0_33) (u0_34 := u0_34) (u0_35 := u0_35) (u0_36 := u0_36) (u0_37 := u0_37) (u0_38 := u0_38) (u0_39 := u0_39) (u0_40 := u0_40) (v_people := v_people) (v_length := y42_1) (v_top := y42_2) (v_at := y42_3) (v_wrong := y42_4) (v_ruleSize := v_ruleSize) (v_isAsked := y42_5) (v_rule := v_rule) (v_asked := y42_6) (nw1_ := 37) (w1_ := y42_7) (r := y94) e10) [0, 3, 4, 5] rfl rfl (fun _ => rfl) (fun _ => rfl) rfl rfl rfl rfl (Nat.le_of_ble_eq_true rfl) hl.1 (by rw [hRf]; exact Nat.le_of_ble_eq_true rfl) (by rw [hRl]; exact Nat.le_of_ble_eq_true rfl) ⟨Nat.zero_le _, Nat.zero_le _⟩ dX11_later_94 rfl (fun H locs rc11 hS => ?_)
      refine lv_i2l (v := (y94.1.toInt64)) hx hb dX11_later_97 rfl ?_
      obtain ⟨y98, e12, h⟩ := bd_some h
      refine ct_V (ws' := fun _ => [oX11 q0 (.ref q1) (.int v_people) u0_2 u0_3 (.ref q2) (.int y98.1) (.int (0 : Int32)) rc11 (.int y94.2.1) (.int y94.2.2.1) (.int y94.2.2.2.1) (.int y94.2.2.2.2.1) u0_12 (.ref q3) u0_14 (.int v_ruleSize) (.int y94.2.2.2.2.2.1) (.ref q4) u0_18 u0_19 u0_20 (.ref q5) u0_22 u0_23 u0_24 u0_25 u0_26 u0_27 u0_28 u0_29 u0_30 u0_31 u0_32 u0_33 u0_34 u0_35 u0_36 u0_37 u0_38 u0_39 u0_40, aI cy q1 37 v_now, aJ cy q2 16 y98.2, aB cy q3 40 v_rule, aI cy q4 7 y94.2.2.2.2.2.2, aI cy q5 37 y42_7]) (st' := []) (rest := []) E hS vlX11_256 (c_X11_tell (l := l) (D := D) (cy := cy) (q0 := q0) (q1 := q2) (u0_0 := .ref q1) (u0_1 := .int v_people) (u0_2 := u0_2) (u0_3 := u0_3) (u0_6 := .int (0 : Int32)) (u0_7 := rc11) (u0_8 := .int y94.2.1) (u0_9 := .int y94.2.2.1) (u0_10 := .int y94.2.2.2.1) (u0_11 := .int y94.2.2.2.2.1) (u0_12 := u0_12) (u0_13 := .ref q3) (u0_14 := u0_14) (u0_15 := .int v_ruleSize) (u0_16 := .int y94.2.2.2.2.2.1) (u0_17 := .ref q4) (u0_18 := u0_18) (u0_19 := u0_19) (u0_20 := u0_20) (u0_21 := .ref q5) (u0_22 := u0_22) (u0_23 := u0_23) (u0_24 := u0_24) (u0_25 := u0_25) (u0_26 := u0_26) (u0_27 := u0_27) (u0_28 := u0_28) (u0_29 := u0_29) (u0_30 := u0_30) (u0_31 := u0_31) (u0_32 := u0_32) (u0_33 := u0_33) (u0_34 := u0_34) (u0_35 := u0_35) (u0_36 := u0_36) (u0_37 := u0_37) (u0_38 := u0_38) (u0_39 := u0_39) (u0_40 := u0_40) (v_rowMany := y85.1) (v_row := y85.2) (p1 := (y94.1.toInt64)) (r := y98) e12) [0, 2] rfl rfl (fun _ => rfl) (fun _ => rfl) rfl rfl rfl rfl (Nat.le_of_ble_eq_true rfl) hl.1 (by rw [hRf]; exact Nat.le_of_ble_eq_true rfl) (by rw [hRl]; exact Nat.le_of_ble_eq_true rfl) ⟨Nat.zero_le _, Nat.zero_le _⟩ dX11_later_98 rfl (fun H locs _ hS => ?_)
      refine lv_aload_n hx hb dX11_later_101 rfl (lv_at hl 0 rfl) ?_
      refine r_get E frX11_39 hS 0 rfl rfl dX11_later_102 ?_
      refine lv_bipush (v := 14) hx hb dX11_later_105 (by decide) ?_
      refine lv_iload_n hx hb dX11_later_107 rfl (lv_at hl 1 rfl) ?_
      refine lv_iadd hx hb dX11_later_108 ?_
      obtain ⟨g13, h⟩ := gi_some h
      refine r_iald E hS 5 rfl g13 dX11_later_109 ?_
      obtain rfl := Option.some.inj h
      exact rt_i E hQ (rc11) hS dX11_later_110
    · have h := it_pos c3 h
      refine lv_iconst (v := -1) hx hb dX11_later_23 (by decide) ?_
      obtain rfl := Option.some.inj h
      exact rt_i E hQ (u0_7) hS dX11_later_24
set_option maxHeartbeats 4000000 in
set_option maxRecDepth 100000 in
theorem c_X11_when {l : Launch} {D : va_G} {cy : Nat → ClassId} (q0 : Nat) (q1 : Nat) (q2 : Nat) (q3 : Nat) (q4 : Nat) (q5 : Nat) (u0_2 : Value) (u0_3 : Value) (u0_7 : Value) (u0_12 : Value) (u0_14 : Value) (u0_18 : Value) (u0_19 : Value) (u0_20 : Value) (u0_22 : Value) (u0_23 : Value) (u0_24 : Value) (u0_25 : Value) (u0_26 : Value) (u0_27 : Value) (u0_28 : Value) (u0_29 : Value) (u0_30 : Value) (u0_31 : Value) (u0_32 : Value) (u0_33 : Value) (u0_34 : Value) (u0_35 : Value) (u0_36 : Value) (u0_37 : Value) (u0_38 : Value) (u0_39 : Value) (u0_40 : Value) (v_people : Int32) (v_rowMany : Int32) (v_thrown : Int32) (v_length : Int32) (v_top : Int32) (v_at : Int32) (v_wrong : Int32) (v_ruleSize : Int32) (v_isAsked : Int32) (v_now : Nat → Int32) (v_row : Nat → Int64) (v_rule : Nat → Int32) (v_asked : Nat → Int32) (v_then : Nat → Int32) (p1 : Int32) (r : Int32 × Int32 × Int32 × Int32 × Int32 × Int32 × Int32 × Int32 × (Nat → Int64) × (Nat → Int32) × (Nat → Int32)) (h : X11_when v_people v_rowMany v_length v_top v_at v_wrong v_ruleSize v_isAsked v_now v_row v_rule v_asked v_then p1 = some r) : Ct l yX11_when cX11_when 5 (some .int) 110 2626 D cy [.ref q0, .int p1] [oX11 q0 (.ref q1) (.int v_people) u0_2 u0_3 (.ref q2) (.int v_rowMany) (.int v_thrown) u0_7 (.int v_length) (.int v_top) (.int v_at) (.int v_wrong) u0_12 (.ref q3) u0_14 (.int v_ruleSize) (.int v_isAsked) (.ref q4) u0_18 u0_19 u0_20 (.ref q5) u0_22 u0_23 u0_24 u0_25 u0_26 u0_27 u0_28 u0_29 u0_30 u0_31 u0_32 u0_33 u0_34 u0_35 u0_36 u0_37 u0_38 u0_39 u0_40, aI cy q1 37 v_now, aJ cy q2 16 v_row, aB cy q3 40 v_rule, aI cy q4 7 v_asked, aI cy q5 37 v_then] (fun rv => [oX11 q0 (.ref q1) (.int v_people) u0_2 u0_3 (.ref q2) (.int r.2.1) (.int r.2.2.1) rv (.int r.2.2.2.1) (.int r.2.2.2.2.1) (.int r.2.2.2.2.2.1) (.int r.2.2.2.2.2.2.1) u0_12 (.ref q3) u0_14 (.int v_ruleSize) (.int r.2.2.2.2.2.2.2.1) (.ref q4) u0_18 u0_19 u0_20 (.ref q5) u0_22 u0_23 u0_24 u0_25 u0_26 u0_27 u0_28 u0_29 u0_30 u0_31 u0_32 u0_33 u0_34 u0_35 u0_36 u0_37 u0_38 u0_39 u0_40, aI cy q1 37 v_now, aJ cy q2 16 r.2.2.2.2.2.2.2.2.1, aB cy q3 40 v_rule, aI cy q4 7 r.2.2.2.2.2.2.2.2.2.1, aI cy q5 37 r.2.2.2.2.2.2.2.2.2.2]) (some (.int r.1)) := by
  refine Ct.mk kX11_when (by decide +kernel) (Nat.le_of_ble_eq_true rfl) ?_
  intro p e s m below meth c A ls args R Q hRf hRl hQ E H locs hS hl
  have hx := E.x
  have hb := E.b
  have hl : lv_has ls 5 [(0, .ref q0), (1, .int p1)] := hl
  unfold X11_when at h
  refine lv_aload_n hx hb dX11_when_0 rfl (lv_at hl 0 rfl) ?_
  refine lv_iconst (v := 0) hx hb dX11_when_1 (by decide) ?_
  refine r_put (ws' := [oX11 q0 (.ref q1) (.int v_people) u0_2 u0_3 (.ref q2) (.int v_rowMany) (.int (0 : Int32)) u0_7 (.int v_length) (.int v_top) (.int v_at) (.int v_wrong) u0_12 (.ref q3) u0_14 (.int v_ruleSize) (.int v_isAsked) (.ref q4) u0_18 u0_19 u0_20 (.ref q5) u0_22 u0_23 u0_24 u0_25 u0_26 u0_27 u0_28 u0_29 u0_30 u0_31 u0_32 u0_33 u0_34 u0_35 u0_36 u0_37 u0_38 u0_39 u0_40, aI cy q1 37 v_now, aJ cy q2 16 v_row, aB cy q3 40 v_rule, aI cy q4 7 v_asked, aI cy q5 37 v_then]) E frX11_85 hS 0 rfl (Nat.le_of_ble_eq_true rfl) rfl rfl rfl rfl dX11_when_2 (fun H locs hS => ?_)
  refine lv_aload_n hx hb dX11_when_5 rfl (lv_at hl 0 rfl) ?_
  refine lv_iload_n hx hb dX11_when_6 rfl (lv_at hl 1 rfl) ?_
  obtain ⟨y7, e1, h⟩ := bd_some h
  refine ct_V (ws' := fun _ => [oX11 q0 (.ref q1) (.int v_people) u0_2 u0_3 (.ref q2) (.int v_rowMany) (.int (0 : Int32)) u0_7 (.int v_length) (.int v_top) (.int v_at) (.int v_wrong) u0_12 (.ref q3) u0_14 (.int v_ruleSize) (.int v_isAsked) (.ref q4) u0_18 u0_19 u0_20 (.ref q5) u0_22 u0_23 u0_24 u0_25 u0_26 u0_27 u0_28 u0_29 u0_30 u0_31 u0_32 u0_33 u0_34 u0_35 u0_36 u0_37 u0_38 u0_39 u0_40, aI cy q1 37 v_now, aJ cy q2 16 v_row, aB cy q3 40 v_rule, aI cy q4 7 v_asked, aI cy q5 37 v_then]) (st' := [.int y7]) (rest := []) E hS vlX11_99 (c_X11_isOne (l := l) (D := D) (cy := cy) (q0 := q0) (u0_0 := .ref q1) (u0_2 := u0_2) (u0_3 := u0_3) (u0_4 := .ref q2) (u0_5 := .int v_rowMany) (u0_6 := .int (0 : Int32)) (u0_7 := u0_7) (u0_8 := .int v_length) (u0_9 := .int v_top) (u0_10 := .int v_at) (u0_11 := .int v_wrong) (u0_12 := u0_12) (u0_13 := .ref q3) (u0_14 := u0_14) (u0_15 := .int v_ruleSize) (u0_16 := .int v_isAsked) (u0_17 := .ref q4) (u0_18 := u0_18) (u0_19 := u0_19) (u0_20 := u0_20) (u0_21 := .ref q5) (u0_22 := u0_22) (u0_23 := u0_23) (u0_24 := u0_24) (u0_25 := u0_25) (u0_26 := u0_26) (u0_27 := u0_27) (u0_28 := u0_28) (u0_29 := u0_29) (u0_30 := u0_30) (u0_31 := u0_31) (u0_32 := u0_32) (u0_33 := u0_33) (u0_34 := u0_34) (u0_35 := u0_35) (u0_36 := u0_36) (u0_37 := u0_37) (u0_38 := u0_38) (u0_39 := u0_39) (u0_40 := u0_40) (v_people := v_people) (p1 := p1) (r := y7) e1) [0] rfl rfl (fun _ => rfl) (fun _ => rfl) rfl rfl rfl rfl (Nat.le_of_ble_eq_true rfl) hl.1 (by rw [hRf]; exact Nat.le_of_ble_eq_true rfl) (by rw [hRl]; exact Nat.le_of_ble_eq_true rfl) ⟨Nat.zero_le _, Nat.zero_le _⟩ dX11_when_7 rfl (fun H locs _ hS => ?_)
  refine lv_if_ne (tgt := 15) hx hb dX11_when_10 (by decide) (fun c2 => ?_) (fun c2 => ?_)
  · have h := it_neg c2 h
    refine lv_aload_n hx hb dX11_when_15 rfl (lv_at hl 0 rfl) ?_
    refine r_get E frX11_9 hS 0 rfl rfl dX11_when_16 ?_
    refine lv_aload_n hx hb dX11_when_19 rfl (lv_at hl 0 rfl) ?_
    refine r_get E frX11_39 hS 0 rfl rfl dX11_when_20 ?_
    refine lv_iconst (v := 0) hx hb dX11_when_23 (by decide) ?_
    obtain ⟨y24, e3, h⟩ := bd_some h
    refine ct_S (ws' := fun _ => [oX11 q0 (.ref q1) (.int v_people) u0_2 u0_3 (.ref q2) (.int v_rowMany) (.int (0 : Int32)) u0_7 (.int v_length) (.int v_top) (.int v_at) (.int v_wrong) u0_12 (.ref q3) u0_14 (.int v_ruleSize) (.int v_isAsked) (.ref q4) u0_18 u0_19 u0_20 (.ref q5) u0_22 u0_23 u0_24 u0_25 u0_26 u0_27 u0_28 u0_29 u0_30 u0_31 u0_32 u0_33 u0_34 u0_35 u0_36 u0_37 u0_38 u0_39 u0_40, aI cy q1 37 v_now, aJ cy q2 16 v_row, aB cy q3 40 v_rule, aI cy q4 7 v_asked, aI cy q5 37 y24]) (st' := []) (rest := []) E hS slX11_235 (c_X11_lay (l := l) (D := D) (cy := cy) (q0 := q1) (q1 := q5) (nw1_ := 37) (w1_ := v_now) (nw2_ := 37) (w2_ := v_then) (p2 := (0 : Int32)) (r := y24) e3) [1, 5] rfl rfl (fun _ => rfl) (fun _ => rfl) rfl rfl (Nat.le_of_ble_eq_true rfl) hl.1 (by rw [hRf]; exact Nat.le_of_ble_eq_true rfl) (by rw [hRl]; exact Nat.le_of_ble_eq_true rfl) ⟨Nat.zero_le _, Nat.zero_le _⟩ dX11_when_24 rfl (fun H locs _ hS => ?_)
    refine lv_bipush (v := -2) hx hb dX11_when_27 (by decide) ?_
    refine lv_istore_n (lv' := [(2, .int (-2 : Int32)), (0, .ref q0), (1, .int p1)]) hx hb dX11_when_29 rfl hl (by decide) rfl (fun ls hl => ?_)
    refine lv_iconst (v := 0) hx hb dX11_when_30 (by decide) ?_
    refine lv_istore_n (lv' := [(3, .int (0 : Int32)), (2, .int (-2 : Int32)), (0, .ref q0), (1, .int p1)]) hx hb dX11_when_31 rfl hl (by decide) rfl (fun ls hl => ?_)
    refine lv_iconst (v := 1) hx hb dX11_when_32 (by decide) ?_
    refine lv_istore (lv' := [(4, .int (1 : Int32)), (3, .int (0 : Int32)), (2, .int (-2 : Int32)), (0, .ref q0), (1, .int p1)]) hx hb dX11_when_33 hl (by decide) rfl (fun ls hl => ?_)
    have hL35 : ∀ (n : Nat) (x35_0 : Int32) (x35_1 : Int32) (x35_2 : Int32) (x35_3 : Int32) (x35_4 : Int32) (x35_5 : Int32) (x35_6 : Int32) (x35_7 : Int32) (x35_8 : Nat → Int32) (x35_9 : Nat → Int32) (y35 : Int32 × Int32 × Int32 × Int32 × Int32 × Int32 × Int32 × (Nat → Int32) × (Nat → Int32)) (rv35_0 : Value) (H : Heap) (locs : List Loc) (ls : Array Slot), lp (fun x35 => X11_when_s35 v_people v_ruleSize v_rule p1 x35.1 x35.2.1 x35.2.2.1 x35.2.2.2.1 x35.2.2.2.2.1 x35.2.2.2.2.2.1 x35.2.2.2.2.2.2.1 x35.2.2.2.2.2.2.2.1 x35.2.2.2.2.2.2.2.2.1 x35.2.2.2.2.2.2.2.2.2) n (x35_0, x35_1, x35_2, x35_3, x35_4, x35_5, x35_6, x35_7, x35_8, x35_9) = some y35 → Sv D A s.heap [oX11 q0 (.ref q1) (.int v_people) u0_2 u0_3 (.ref q2) (.int v_rowMany) (.int (0 : Int32)) rv35_0 (.int x35_3) (.int x35_4) (.int x35_5) (.int x35_6) u0_12 (.ref q3) u0_14 (.int v_ruleSize) (.int x35_7) (.ref q4) u0_18 u0_19 u0_20 (.ref q5) u0_22 u0_23 u0_24 u0_25 u0_26 u0_27 u0_28 u0_29 u0_30 u0_31 u0_32 u0_33 u0_34 u0_35 u0_36 u0_37 u0_38 u0_39 u0_40, aI cy q1 37 v_now, aJ cy q2 16 v_row, aB cy q3 40 v_rule, aI cy q4 7 x35_8, aI cy q5 37 x35_9] H locs → lv_has ls 5 [(0, .ref q0), (1, .int p1), (2, .int x35_0), (3, .int x35_1), (4, .int x35_2)] → ( ∀ (y35_0 : Int32) (y35_1 : Int32) (y35_2 : Int32) (y35_3 : Int32) (y35_4 : Int32) (y35_5 : Int32) (y35_6 : Int32) (y35_7 : Nat → Int32) (y35_8 : Nat → Int32), (y35_0, y35_1, y35_2, y35_3, y35_4, y35_5, y35_6, y35_7, y35_8) = y35 → ∀ (rv35_0 : Value), ∀ (H : Heap) (locs : List Loc) (ls : Array Slot), Sv D A s.heap [oX11 q0 (.ref q1) (.int v_people) u0_2 u0_3 (.ref q2) (.int v_rowMany) (.int (0 : Int32)) rv35_0 (.int y35_2) (.int y35_3) (.int y35_4) (.int y35_5) u0_12 (.ref q3) u0_14 (.int v_ruleSize) (.int y35_6) (.ref q4) u0_18 u0_19 u0_20 (.ref q5) u0_22 u0_23 u0_24 u0_25 u0_26 u0_27 u0_28 u0_29 u0_30 u0_31 u0_32 u0_33 u0_34 u0_35 u0_36 u0_37 u0_38 u0_39 u0_40, aI cy q1 37 v_now, aJ cy q2 16 v_row, aB cy q3 40 v_rule, aI cy q4 7 y35_7, aI cy q5 37 y35_8] H locs → lv_has ls 5 [(0, .ref q0), (2, .int y35_0), (3, .int y35_1)] → W p l e R s m args below meth c H locs 0 0 Q (F0 m 82 ls [])) → W p l e R s m args below meth c H locs 0 0 Q (F0 m 35 ls []) := by
      intro n
      induction n with
      | zero =>
        intro x35_0 x35_1 x35_2 x35_3 x35_4 x35_5 x35_6 x35_7 x35_8 x35_9 y35 rv35_0 H locs ls h
        exact lp_zero h
      | succ n ih35 =>
        intro x35_0 x35_1 x35_2 x35_3 x35_4 x35_5 x35_6 x35_7 x35_8 x35_9 y35 rv35_0 H locs ls h hS hl hk35_0
        obtain ⟨z35, h, hz35a, hz35b⟩ := lp_succ h
        have h : X11_when_s35 v_people v_ruleSize v_rule p1 x35_0 x35_1 x35_2 x35_3 x35_4 x35_5 x35_6 x35_7 x35_8 x35_9 = some z35 := h
        unfold X11_when_s35 at h
        refine lv_iload hx hb dX11_when_35 (lv_at hl 4 rfl) ?_
        refine lv_bipush (v := 99) hx hb dX11_when_37 (by decide) ?_
        refine lv_icmp_gt (tgt := 82) hx hb dX11_when_39 (by decide) (fun c4 => ?_) (fun c4 => ?_)
        · have h := it_pos c4 h
          exact hk35_0 x35_0 x35_1 x35_3 x35_4 x35_5 x35_6 x35_7 x35_8 x35_9 (hz35b _ (Option.some.inj h).symm) rv35_0 H locs ls hS (lv_sub hl [0, 2, 3] rfl)
        · have h := it_neg c4 h
          refine lv_aload_n hx hb dX11_when_42 rfl (lv_at hl 0 rfl) ?_
          refine lv_aload_n hx hb dX11_when_43 rfl (lv_at hl 0 rfl) ?_
          refine r_get E frX11_39 hS 0 rfl rfl dX11_when_44 ?_
          obtain ⟨y47, e5, h⟩ := bd_some h
          refine ct_V (ws' := fun rc6 => [oX11 q0 (.ref q1) (.int v_people) u0_2 u0_3 (.ref q2) (.int v_rowMany) (.int (0 : Int32)) rc6 (.int y47.2.1) (.int y47.2.2.1) (.int y47.2.2.2.1) (.int y47.2.2.2.2.1) u0_12 (.ref q3) u0_14 (.int v_ruleSize) (.int y47.2.2.2.2.2.1) (.ref q4) u0_18 u0_19 u0_20 (.ref q5) u0_22 u0_23 u0_24 u0_25 u0_26 u0_27 u0_28 u0_29 u0_30 u0_31 u0_32 u0_33 u0_34 u0_35 u0_36 u0_37 u0_38 u0_39 u0_40, aI cy q1 37 v_now, aJ cy q2 16 v_row, aB cy q3 40 v_rule, aI cy q4 7 y47.2.2.2.2.2.2.1, aI cy q5 37 y47.2.2.2.2.2.2.2]) (st' := [.int y47.1]) (rest := []) E hS vlX11_246 (c_X11_goMorning (l := l) (D := D) (cy := cy) (q0 := q0) (q1 := q3) (q2 := q4) (q3 := q5) (u0_0 := .ref q1) (u0_2 := u0_2) (u0_3 := u0_3) (u0_4 := .ref q2) (u0_5 := .int v_rowMany) (u0_6 := .int (0 : Int32)) (u0_7 := rv35_0) (u0_12 := u0_12) (u0_14 := u0_14) (u0_18 := u0_18) (u0_19 := u0_19) (u0_20 := u0_20) (u0_21 := .ref q5) (u0_22 := u0_22) (u0_23 := u0_23) (u0_24 := u0_24) (u0_25 := u0_25) (u0_26 := u0_26) (u0_27 := u0_27) (u0_28 := u0_28) (u0_29 := u0_29) (u0_30 := u0_30) (u0_31 := u0_31) (u0_32 := u0_32) (u0_33 := u0_33) (u0_34 := u0_34) (u0_35 := u0_35) (u0_36 := u0_36) (u0_37 := u0_37) (u0_38 := u0_38) (u0_39 := u0_39) (u0_40 := u0_40) (v_people := v_people) (v_length := x35_3) (v_top := x35_4) (v_at := x35_5) (v_wrong := x35_6) (v_ruleSize := v_ruleSize) (v_isAsked := x35_7) (v_rule := v_rule) (v_asked := x35_8) (nw1_ := 37) (w1_ := x35_9) (r := y47) e5) [0, 3, 4, 5] rfl rfl (fun _ => rfl) (fun _ => rfl) rfl rfl rfl rfl (Nat.le_of_ble_eq_true rfl) hl.1 (by rw [hRf]; exact Nat.le_of_ble_eq_true rfl) (by rw [hRl]; exact Nat.le_of_ble_eq_true rfl) ⟨Nat.zero_le _, Nat.zero_le _⟩ dX11_when_47 rfl (fun H locs rc6 hS => ?_)
          refine lv_iload_n hx hb dX11_when_50 rfl (lv_at hl 1 rfl) ?_
          refine ct_S (ws' := fun _ => [oX11 q0 (.ref q1) (.int v_people) u0_2 u0_3 (.ref q2) (.int v_rowMany) (.int (0 : Int32)) rc6 (.int y47.2.1) (.int y47.2.2.1) (.int y47.2.2.2.1) (.int y47.2.2.2.2.1) u0_12 (.ref q3) u0_14 (.int v_ruleSize) (.int y47.2.2.2.2.2.1) (.ref q4) u0_18 u0_19 u0_20 (.ref q5) u0_22 u0_23 u0_24 u0_25 u0_26 u0_27 u0_28 u0_29 u0_30 u0_31 u0_32 u0_33 u0_34 u0_35 u0_36 u0_37 u0_38 u0_39 u0_40, aI cy q1 37 v_now, aJ cy q2 16 v_row, aB cy q3 40 v_rule, aI cy q4 7 y47.2.2.2.2.2.2.1, aI cy q5 37 y47.2.2.2.2.2.2.2]) (st' := [.int (X11_has y47.1 p1)]) (rest := []) E hS slX11_196 (c_X11_has (l := l) (D := D) (cy := cy) (p0 := y47.1) (p1 := p1) (r := (X11_has y47.1 p1)) rfl) [] rfl rfl (fun _ => rfl) (fun _ => rfl) rfl rfl (Nat.le_of_ble_eq_true rfl) hl.1 (by rw [hRf]; exact Nat.le_of_ble_eq_true rfl) (by rw [hRl]; exact Nat.le_of_ble_eq_true rfl) ⟨Nat.zero_le _, Nat.zero_le _⟩ dX11_when_51 rfl (fun H locs _ hS => ?_)
          have hJ76 : ∀ (s76_l2 : Int32) (s76_l3 : Int32) (ls : Array Slot), s76_l2 = (if (X11_has y47.1 p1) = 0 then x35_0 else (if x35_0 = (-2 : Int32) then x35_2 else x35_0)) → s76_l3 = (if (X11_has y47.1 p1) = 0 then x35_1 else (x35_1 + (1 : Int32))) → lv_has ls 5 [(0, .ref q0), (1, .int p1), (2, .int s76_l2), (3, .int s76_l3), (4, .int x35_2)] → W p l e R s m args below meth c H locs 0 0 Q (F0 m 76 ls []) := by
            intro s76_l2 s76_l3 ls es76_l2 es76_l3 hl
            subst es76_l2
            subst es76_l3
            refine lv_iinc (v := (x35_2 + (1 : Int32))) (lv' := [(4, .int (x35_2 + (1 : Int32))), (0, .ref q0), (1, .int p1), (2, .int (if (X11_has y47.1 p1) = 0 then x35_0 else (if x35_0 = (-2 : Int32) then x35_2 else x35_0))), (3, .int (if (X11_has y47.1 p1) = 0 then x35_1 else (x35_1 + (1 : Int32))))]) hx hb dX11_when_76 hl (k := 4) rfl rfl (by decide) rfl (fun ls hl => ?_)
            refine lv_goto (tgt := 35) hx hb dX11_when_79 (by decide) ?_
            exact ih35 (if (X11_has y47.1 p1) = 0 then x35_0 else (if x35_0 = (-2 : Int32) then x35_2 else x35_0)) (if (X11_has y47.1 p1) = 0 then x35_1 else (x35_1 + (1 : Int32))) (x35_2 + (1 : Int32)) y47.2.1 y47.2.2.1 y47.2.2.2.1 y47.2.2.2.2.1 y47.2.2.2.2.2.1 y47.2.2.2.2.2.2.1 y47.2.2.2.2.2.2.2 y35 rc6 H locs ls (hz35a _ (Option.some.inj h).symm) hS (lv_sub hl [1, 2, 3, 4, 0] rfl) hk35_0
          refine lv_if_ne (tgt := 60) hx hb dX11_when_54 (by decide) (fun c7 => ?_) (fun c7 => ?_)
          · refine lv_iload_n hx hb dX11_when_60 rfl (lv_at hl 2 rfl) ?_
            refine lv_bipush (v := -2) hx hb dX11_when_61 (by decide) ?_
            refine lv_icmp_ne (tgt := 71) hx hb dX11_when_63 (by decide) (fun c8 => ?_) (fun c8 => ?_)
            · refine lv_iload_n hx hb dX11_when_71 rfl (lv_at hl 2 rfl) ?_
              refine lv_istore_n (lv' := [(2, .int x35_0), (0, .ref q0), (1, .int p1), (3, .int x35_1), (4, .int x35_2)]) hx hb dX11_when_72 rfl hl (by decide) rfl (fun ls hl => ?_)
              refine lv_iinc (v := (x35_1 + (1 : Int32))) (lv' := [(3, .int (x35_1 + (1 : Int32))), (2, .int x35_0), (0, .ref q0), (1, .int p1), (4, .int x35_2)]) hx hb dX11_when_73 hl (k := 3) rfl rfl (by decide) rfl (fun ls hl => ?_)
              exact hJ76 _ _ ls (((if_neg c7).trans (if_neg c8))).symm ((if_neg c7)).symm (lv_sub hl [2, 3, 1, 0, 4] rfl)
            · refine lv_iload hx hb dX11_when_66 (lv_at hl 4 rfl) ?_
              refine lv_goto (tgt := 72) hx hb dX11_when_68 (by decide) ?_
              refine lv_istore_n (lv' := [(2, .int x35_2), (0, .ref q0), (1, .int p1), (3, .int x35_1), (4, .int x35_2)]) hx hb dX11_when_72 rfl hl (by decide) rfl (fun ls hl => ?_)
              refine lv_iinc (v := (x35_1 + (1 : Int32))) (lv' := [(3, .int (x35_1 + (1 : Int32))), (2, .int x35_2), (0, .ref q0), (1, .int p1), (4, .int x35_2)]) hx hb dX11_when_73 hl (k := 3) rfl rfl (by decide) rfl (fun ls hl => ?_)
              exact hJ76 _ _ ls (((if_neg c7).trans (if_pos c8))).symm ((if_neg c7)).symm (lv_sub hl [2, 3, 1, 0, 4] rfl)
          · refine lv_goto (tgt := 76) hx hb dX11_when_57 (by decide) ?_
            exact hJ76 _ _ ls ((if_pos c7)).symm ((if_pos c7)).symm (lv_sub hl [0, 1, 2, 3, 4] rfl)
    obtain ⟨y35, e35, h⟩ := bd_some h
    refine hL35 1000 (-2 : Int32) (0 : Int32) (1 : Int32) v_length v_top v_at v_wrong v_isAsked v_asked y24 y35 u0_7 H locs ls e35 hS (lv_sub hl [3, 4, 2, 1, 0] rfl) (fun y35_0 y35_1 y35_2 y35_3 y35_4 y35_5 y35_6 y35_7 y35_8 ey35 rw35_0 H locs ls hS hl => ?_)
    subst ey35
    have h := un_r h
    have h := un_r h
    have h := un_r h
    have h := un_r h
    have h := un_r h
    have h := un_r h
    have h := un_r h
    have h := un_r h
    refine lv_iload_n hx hb dX11_when_82 rfl (lv_at hl 1 rfl) ?_
    refine lv_bipush (v := -2) hx hb dX11_when_83 (by decide) ?_
    refine lv_icmp_ne (tgt := 91) hx hb dX11_when_85 (by decide) (fun c9 => ?_) (fun c9 => ?_)
    · have h := it_neg c9 h
      refine lv_aload_n hx hb dX11_when_91 rfl (lv_at hl 0 rfl) ?_
      refine lv_iconst (v := 0) hx hb dX11_when_92 (by decide) ?_
      refine r_put (ws' := [oX11 q0 (.ref q1) (.int v_people) u0_2 u0_3 (.ref q2) (.int (0 : Int32)) (.int (0 : Int32)) rw35_0 (.int y35_2) (.int y35_3) (.int y35_4) (.int y35_5) u0_12 (.ref q3) u0_14 (.int v_ruleSize) (.int y35_6) (.ref q4) u0_18 u0_19 u0_20 (.ref q5) u0_22 u0_23 u0_24 u0_25 u0_26 u0_27 u0_28 u0_29 u0_30 u0_31 u0_32 u0_33 u0_34 u0_35 u0_36 u0_37 u0_38 u0_39 u0_40, aI cy q1 37 v_now, aJ cy q2 16 v_row, aB cy q3 40 v_rule, aI cy q4 7 y35_7, aI cy q5 37 y35_8]) E frX11_89 hS 0 rfl (Nat.le_of_ble_eq_true rfl) rfl rfl rfl rfl dX11_when_93 (fun H locs hS => ?_)
      refine lv_aload_n hx hb dX11_when_96 rfl (lv_at hl 0 rfl) ?_
      refine lv_iload_n hx hb dX11_when_97 rfl (lv_at hl 2 rfl) ?_
      refine lv_i2l (v := (y35_1.toInt64)) hx hb dX11_when_98 rfl ?_
      obtain ⟨y99, e10, h⟩ := bd_some h
      refine ct_V (ws' := fun _ => [oX11 q0 (.ref q1) (.int v_people) u0_2 u0_3 (.ref q2) (.int y99.1) (.int (0 : Int32)) rw35_0 (.int y35_2) (.int y35_3) (.int y35_4) (.int y35_5) u0_12 (.ref q3) u0_14 (.int v_ruleSize) (.int y35_6) (.ref q4) u0_18 u0_19 u0_20 (.ref q5) u0_22 u0_23 u0_24 u0_25 u0_26 u0_27 u0_28 u0_29 u0_30 u0_31 u0_32 u0_33 u0_34 u0_35 u0_36 u0_37 u0_38 u0_39 u0_40, aI cy q1 37 v_now, aJ cy q2 16 y99.2, aB cy q3 40 v_rule, aI cy q4 7 y35_7, aI cy q5 37 y35_8]) (st' := []) (rest := []) E hS vlX11_256 (c_X11_tell (l := l) (D := D) (cy := cy) (q0 := q0) (q1 := q2) (u0_0 := .ref q1) (u0_1 := .int v_people) (u0_2 := u0_2) (u0_3 := u0_3) (u0_6 := .int (0 : Int32)) (u0_7 := rw35_0) (u0_8 := .int y35_2) (u0_9 := .int y35_3) (u0_10 := .int y35_4) (u0_11 := .int y35_5) (u0_12 := u0_12) (u0_13 := .ref q3) (u0_14 := u0_14) (u0_15 := .int v_ruleSize) (u0_16 := .int y35_6) (u0_17 := .ref q4) (u0_18 := u0_18) (u0_19 := u0_19) (u0_20 := u0_20) (u0_21 := .ref q5) (u0_22 := u0_22) (u0_23 := u0_23) (u0_24 := u0_24) (u0_25 := u0_25) (u0_26 := u0_26) (u0_27 := u0_27) (u0_28 := u0_28) (u0_29 := u0_29) (u0_30 := u0_30) (u0_31 := u0_31) (u0_32 := u0_32) (u0_33 := u0_33) (u0_34 := u0_34) (u0_35 := u0_35) (u0_36 := u0_36) (u0_37 := u0_37) (u0_38 := u0_38) (u0_39 := u0_39) (u0_40 := u0_40) (v_rowMany := (0 : Int32)) (v_row := v_row) (p1 := (y35_1.toInt64)) (r := y99) e10) [0, 2] rfl rfl (fun _ => rfl) (fun _ => rfl) rfl rfl rfl rfl (Nat.le_of_ble_eq_true rfl) hl.1 (by rw [hRf]; exact Nat.le_of_ble_eq_true rfl) (by rw [hRl]; exact Nat.le_of_ble_eq_true rfl) ⟨Nat.zero_le _, Nat.zero_le _⟩ dX11_when_99 rfl (fun H locs _ hS => ?_)
      refine lv_iload_n hx hb dX11_when_102 rfl (lv_at hl 1 rfl) ?_
      obtain rfl := Option.some.inj h
      exact rt_i E hQ (rw35_0) hS dX11_when_103
    · have h := it_pos c9 h
      refine lv_bipush (v := -2) hx hb dX11_when_88 (by decide) ?_
      obtain rfl := Option.some.inj h
      exact rt_i E hQ (rw35_0) hS dX11_when_90
  · have h := it_pos c2 h
    refine lv_iconst (v := -1) hx hb dX11_when_13 (by decide) ?_
    obtain rfl := Option.some.inj h
    exact rt_i E hQ (u0_7) hS dX11_when_14
set_option maxHeartbeats 4000000 in
set_option maxRecDepth 100000 in
theorem c_X11_quiet {l : Launch} {D : va_G} {cy : Nat → ClassId} (q0 : Nat) (q1 : Nat) (q2 : Nat) (q3 : Nat) (q4 : Nat) (q5 : Nat) (u0_2 : Value) (u0_3 : Value) (u0_7 : Value) (u0_12 : Value) (u0_14 : Value) (u0_18 : Value) (u0_19 : Value) (u0_20 : Value) (u0_22 : Value) (u0_23 : Value) (u0_24 : Value) (u0_25 : Value) (u0_26 : Value) (u0_27 : Value) (u0_28 : Value) (u0_29 : Value) (u0_30 : Value) (u0_31 : Value) (u0_32 : Value) (u0_33 : Value) (u0_34 : Value) (u0_35 : Value) (u0_36 : Value) (u0_37 : Value) (u0_38 : Value) (u0_39 : Value) (u0_40 : Value) (v_people : Int32) (v_rowMany : Int32) (v_thrown : Int32) (v_length : Int32) (v_top : Int32) (v_at : Int32) (v_wrong : Int32) (v_ruleSize : Int32) (v_isAsked : Int32) (v_now : Nat → Int32) (v_row : Nat → Int64) (v_rule : Nat → Int32) (v_asked : Nat → Int32) (v_then : Nat → Int32) (r : Int32 × Int32 × Int32 × Int32 × Int32 × Int32 × Int32 × Int32 × (Nat → Int64) × (Nat → Int32) × (Nat → Int32)) (h : X11_quiet v_people v_rowMany v_length v_top v_at v_wrong v_ruleSize v_isAsked v_now v_row v_rule v_asked v_then = some r) : Ct l yX11_quiet cX11_quiet 4 (some .int) 110 2626 D cy [.ref q0] [oX11 q0 (.ref q1) (.int v_people) u0_2 u0_3 (.ref q2) (.int v_rowMany) (.int v_thrown) u0_7 (.int v_length) (.int v_top) (.int v_at) (.int v_wrong) u0_12 (.ref q3) u0_14 (.int v_ruleSize) (.int v_isAsked) (.ref q4) u0_18 u0_19 u0_20 (.ref q5) u0_22 u0_23 u0_24 u0_25 u0_26 u0_27 u0_28 u0_29 u0_30 u0_31 u0_32 u0_33 u0_34 u0_35 u0_36 u0_37 u0_38 u0_39 u0_40, aI cy q1 37 v_now, aJ cy q2 16 v_row, aB cy q3 40 v_rule, aI cy q4 7 v_asked, aI cy q5 37 v_then] (fun rv => [oX11 q0 (.ref q1) (.int v_people) u0_2 u0_3 (.ref q2) (.int r.2.1) (.int r.2.2.1) rv (.int r.2.2.2.1) (.int r.2.2.2.2.1) (.int r.2.2.2.2.2.1) (.int r.2.2.2.2.2.2.1) u0_12 (.ref q3) u0_14 (.int v_ruleSize) (.int r.2.2.2.2.2.2.2.1) (.ref q4) u0_18 u0_19 u0_20 (.ref q5) u0_22 u0_23 u0_24 u0_25 u0_26 u0_27 u0_28 u0_29 u0_30 u0_31 u0_32 u0_33 u0_34 u0_35 u0_36 u0_37 u0_38 u0_39 u0_40, aI cy q1 37 v_now, aJ cy q2 16 r.2.2.2.2.2.2.2.2.1, aB cy q3 40 v_rule, aI cy q4 7 r.2.2.2.2.2.2.2.2.2.1, aI cy q5 37 r.2.2.2.2.2.2.2.2.2.2]) (some (.int r.1)) := by
  refine Ct.mk kX11_quiet (by decide +kernel) (Nat.le_of_ble_eq_true rfl) ?_
  intro p e s m below meth c A ls args R Q hRf hRl hQ E H locs hS hl
  have hx := E.x
  have hb := E.b
  have hl : lv_has ls 4 [(0, .ref q0)] := hl
  unfold X11_quiet at h
  refine lv_aload_n hx hb dX11_quiet_0 rfl (lv_at hl 0 rfl) ?_
  refine lv_iconst (v := 0) hx hb dX11_quiet_1 (by decide) ?_
  refine r_put (ws' := [oX11 q0 (.ref q1) (.int v_people) u0_2 u0_3 (.ref q2) (.int v_rowMany) (.int (0 : Int32)) u0_7 (.int v_length) (.int v_top) (.int v_at) (.int v_wrong) u0_12 (.ref q3) u0_14 (.int v_ruleSize) (.int v_isAsked) (.ref q4) u0_18 u0_19 u0_20 (.ref q5) u0_22 u0_23 u0_24 u0_25 u0_26 u0_27 u0_28 u0_29 u0_30 u0_31 u0_32 u0_33 u0_34 u0_35 u0_36 u0_37 u0_38 u0_39 u0_40, aI cy q1 37 v_now, aJ cy q2 16 v_row, aB cy q3 40 v_rule, aI cy q4 7 v_asked, aI cy q5 37 v_then]) E frX11_85 hS 0 rfl (Nat.le_of_ble_eq_true rfl) rfl rfl rfl rfl dX11_quiet_2 (fun H locs hS => ?_)
  refine lv_aload_n hx hb dX11_quiet_5 rfl (lv_at hl 0 rfl) ?_
  refine r_get E frX11_9 hS 0 rfl rfl dX11_quiet_6 ?_
  refine lv_aload_n hx hb dX11_quiet_9 rfl (lv_at hl 0 rfl) ?_
  refine r_get E frX11_39 hS 0 rfl rfl dX11_quiet_10 ?_
  refine lv_iconst (v := 0) hx hb dX11_quiet_13 (by decide) ?_
  obtain ⟨y14, e1, h⟩ := bd_some h
  refine ct_S (ws' := fun _ => [oX11 q0 (.ref q1) (.int v_people) u0_2 u0_3 (.ref q2) (.int v_rowMany) (.int (0 : Int32)) u0_7 (.int v_length) (.int v_top) (.int v_at) (.int v_wrong) u0_12 (.ref q3) u0_14 (.int v_ruleSize) (.int v_isAsked) (.ref q4) u0_18 u0_19 u0_20 (.ref q5) u0_22 u0_23 u0_24 u0_25 u0_26 u0_27 u0_28 u0_29 u0_30 u0_31 u0_32 u0_33 u0_34 u0_35 u0_36 u0_37 u0_38 u0_39 u0_40, aI cy q1 37 v_now, aJ cy q2 16 v_row, aB cy q3 40 v_rule, aI cy q4 7 v_asked, aI cy q5 37 y14]) (st' := []) (rest := []) E hS slX11_235 (c_X11_lay (l := l) (D := D) (cy := cy) (q0 := q1) (q1 := q5) (nw1_ := 37) (w1_ := v_now) (nw2_ := 37) (w2_ := v_then) (p2 := (0 : Int32)) (r := y14) e1) [1, 5] rfl rfl (fun _ => rfl) (fun _ => rfl) rfl rfl (Nat.le_of_ble_eq_true rfl) hl.1 (by rw [hRf]; exact Nat.le_of_ble_eq_true rfl) (by rw [hRl]; exact Nat.le_of_ble_eq_true rfl) ⟨Nat.zero_le _, Nat.zero_le _⟩ dX11_quiet_14 rfl (fun H locs _ hS => ?_)
  refine lv_bipush (v := -2) hx hb dX11_quiet_17 (by decide) ?_
  refine lv_istore_n (lv' := [(1, .int (-2 : Int32)), (0, .ref q0)]) hx hb dX11_quiet_19 rfl hl (by decide) rfl (fun ls hl => ?_)
  refine lv_iconst (v := 0) hx hb dX11_quiet_20 (by decide) ?_
  refine lv_istore_n (lv' := [(2, .int (0 : Int32)), (1, .int (-2 : Int32)), (0, .ref q0)]) hx hb dX11_quiet_21 rfl hl (by decide) rfl (fun ls hl => ?_)
  refine lv_iconst (v := 1) hx hb dX11_quiet_22 (by decide) ?_
  refine lv_istore_n (lv' := [(3, .int (1 : Int32)), (2, .int (0 : Int32)), (1, .int (-2 : Int32)), (0, .ref q0)]) hx hb dX11_quiet_23 rfl hl (by decide) rfl (fun ls hl => ?_)
  have hL24 : ∀ (n : Nat) (x24_0 : Int32) (x24_1 : Int32) (x24_2 : Int32) (x24_3 : Int32) (x24_4 : Int32) (x24_5 : Int32) (x24_6 : Int32) (x24_7 : Int32) (x24_8 : Nat → Int32) (x24_9 : Nat → Int32) (y24 : Int32 × Int32 × Int32 × Int32 × Int32 × Int32 × Int32 × (Nat → Int32) × (Nat → Int32)) (rv24_0 : Value) (H : Heap) (locs : List Loc) (ls : Array Slot), lp (fun x24 => X11_quiet_s24 v_people v_ruleSize v_rule x24.1 x24.2.1 x24.2.2.1 x24.2.2.2.1 x24.2.2.2.2.1 x24.2.2.2.2.2.1 x24.2.2.2.2.2.2.1 x24.2.2.2.2.2.2.2.1 x24.2.2.2.2.2.2.2.2.1 x24.2.2.2.2.2.2.2.2.2) n (x24_0, x24_1, x24_2, x24_3, x24_4, x24_5, x24_6, x24_7, x24_8, x24_9) = some y24 → Sv D A s.heap [oX11 q0 (.ref q1) (.int v_people) u0_2 u0_3 (.ref q2) (.int v_rowMany) (.int (0 : Int32)) rv24_0 (.int x24_3) (.int x24_4) (.int x24_5) (.int x24_6) u0_12 (.ref q3) u0_14 (.int v_ruleSize) (.int x24_7) (.ref q4) u0_18 u0_19 u0_20 (.ref q5) u0_22 u0_23 u0_24 u0_25 u0_26 u0_27 u0_28 u0_29 u0_30 u0_31 u0_32 u0_33 u0_34 u0_35 u0_36 u0_37 u0_38 u0_39 u0_40, aI cy q1 37 v_now, aJ cy q2 16 v_row, aB cy q3 40 v_rule, aI cy q4 7 x24_8, aI cy q5 37 x24_9] H locs → lv_has ls 4 [(0, .ref q0), (1, .int x24_0), (2, .int x24_1), (3, .int x24_2)] → ( ∀ (y24_0 : Int32) (y24_1 : Int32) (y24_2 : Int32) (y24_3 : Int32) (y24_4 : Int32) (y24_5 : Int32) (y24_6 : Int32) (y24_7 : Nat → Int32) (y24_8 : Nat → Int32), (y24_0, y24_1, y24_2, y24_3, y24_4, y24_5, y24_6, y24_7, y24_8) = y24 → ∀ (rv24_0 : Value), ∀ (H : Heap) (locs : List Loc) (ls : Array Slot), Sv D A s.heap [oX11 q0 (.ref q1) (.int v_people) u0_2 u0_3 (.ref q2) (.int v_rowMany) (.int (0 : Int32)) rv24_0 (.int y24_2) (.int y24_3) (.int y24_4) (.int y24_5) u0_12 (.ref q3) u0_14 (.int v_ruleSize) (.int y24_6) (.ref q4) u0_18 u0_19 u0_20 (.ref q5) u0_22 u0_23 u0_24 u0_25 u0_26 u0_27 u0_28 u0_29 u0_30 u0_31 u0_32 u0_33 u0_34 u0_35 u0_36 u0_37 u0_38 u0_39 u0_40, aI cy q1 37 v_now, aJ cy q2 16 v_row, aB cy q3 40 v_rule, aI cy q4 7 y24_7, aI cy q5 37 y24_8] H locs → lv_has ls 4 [(0, .ref q0), (1, .int y24_0), (2, .int y24_1)] → W p l e R s m args below meth c H locs 0 0 Q (F0 m 65 ls [])) → W p l e R s m args below meth c H locs 0 0 Q (F0 m 24 ls []) := by
    intro n
    induction n with
    | zero =>
      intro x24_0 x24_1 x24_2 x24_3 x24_4 x24_5 x24_6 x24_7 x24_8 x24_9 y24 rv24_0 H locs ls h
      exact lp_zero h
    | succ n ih24 =>
      intro x24_0 x24_1 x24_2 x24_3 x24_4 x24_5 x24_6 x24_7 x24_8 x24_9 y24 rv24_0 H locs ls h hS hl hk24_0
      obtain ⟨z24, h, hz24a, hz24b⟩ := lp_succ h
      have h : X11_quiet_s24 v_people v_ruleSize v_rule x24_0 x24_1 x24_2 x24_3 x24_4 x24_5 x24_6 x24_7 x24_8 x24_9 = some z24 := h
      unfold X11_quiet_s24 at h
      refine lv_iload_n hx hb dX11_quiet_24 rfl (lv_at hl 3 rfl) ?_
      refine lv_bipush (v := 99) hx hb dX11_quiet_25 (by decide) ?_
      refine lv_icmp_gt (tgt := 65) hx hb dX11_quiet_27 (by decide) (fun c2 => ?_) (fun c2 => ?_)
      · have h := it_pos c2 h
        exact hk24_0 x24_0 x24_1 x24_3 x24_4 x24_5 x24_6 x24_7 x24_8 x24_9 (hz24b _ (Option.some.inj h).symm) rv24_0 H locs ls hS (lv_sub hl [0, 1, 2] rfl)
      · have h := it_neg c2 h
        refine lv_aload_n hx hb dX11_quiet_30 rfl (lv_at hl 0 rfl) ?_
        refine lv_aload_n hx hb dX11_quiet_31 rfl (lv_at hl 0 rfl) ?_
        refine r_get E frX11_39 hS 0 rfl rfl dX11_quiet_32 ?_
        obtain ⟨y35, e3, h⟩ := bd_some h
        refine ct_V (ws' := fun rc4 => [oX11 q0 (.ref q1) (.int v_people) u0_2 u0_3 (.ref q2) (.int v_rowMany) (.int (0 : Int32)) rc4 (.int y35.2.1) (.int y35.2.2.1) (.int y35.2.2.2.1) (.int y35.2.2.2.2.1) u0_12 (.ref q3) u0_14 (.int v_ruleSize) (.int y35.2.2.2.2.2.1) (.ref q4) u0_18 u0_19 u0_20 (.ref q5) u0_22 u0_23 u0_24 u0_25 u0_26 u0_27 u0_28 u0_29 u0_30 u0_31 u0_32 u0_33 u0_34 u0_35 u0_36 u0_37 u0_38 u0_39 u0_40, aI cy q1 37 v_now, aJ cy q2 16 v_row, aB cy q3 40 v_rule, aI cy q4 7 y35.2.2.2.2.2.2.1, aI cy q5 37 y35.2.2.2.2.2.2.2]) (st' := [.int y35.1]) (rest := []) E hS vlX11_246 (c_X11_goMorning (l := l) (D := D) (cy := cy) (q0 := q0) (q1 := q3) (q2 := q4) (q3 := q5) (u0_0 := .ref q1) (u0_2 := u0_2) (u0_3 := u0_3) (u0_4 := .ref q2) (u0_5 := .int v_rowMany) (u0_6 := .int (0 : Int32)) (u0_7 := rv24_0) (u0_12 := u0_12) (u0_14 := u0_14) (u0_18 := u0_18) (u0_19 := u0_19) (u0_20 := u0_20) (u0_21 := .ref q5) (u0_22 := u0_22) (u0_23 := u0_23) (u0_24 := u0_24) (u0_25 := u0_25) (u0_26 := u0_26) (u0_27 := u0_27) (u0_28 := u0_28) (u0_29 := u0_29) (u0_30 := u0_30) (u0_31 := u0_31) (u0_32 := u0_32) (u0_33 := u0_33) (u0_34 := u0_34) (u0_35 := u0_35) (u0_36 := u0_36) (u0_37 := u0_37) (u0_38 := u0_38) (u0_39 := u0_39) (u0_40 := u0_40) (v_people := v_people) (v_length := x24_3) (v_top := x24_4) (v_at := x24_5) (v_wrong := x24_6) (v_ruleSize := v_ruleSize) (v_isAsked := x24_7) (v_rule := v_rule) (v_asked := x24_8) (nw1_ := 37) (w1_ := x24_9) (r := y35) e3) [0, 3, 4, 5] rfl rfl (fun _ => rfl) (fun _ => rfl) rfl rfl rfl rfl (Nat.le_of_ble_eq_true rfl) hl.1 (by rw [hRf]; exact Nat.le_of_ble_eq_true rfl) (by rw [hRl]; exact Nat.le_of_ble_eq_true rfl) ⟨Nat.zero_le _, Nat.zero_le _⟩ dX11_quiet_35 rfl (fun H locs rc4 hS => ?_)
        have hJ59 : ∀ (s59_l1 : Int32) (s59_l2 : Int32) (ls : Array Slot), s59_l1 = (if y35.1 = 0 then (if x24_0 = (-2 : Int32) then x24_2 else x24_0) else x24_0) → s59_l2 = (if y35.1 = 0 then (x24_1 + (1 : Int32)) else x24_1) → lv_has ls 4 [(0, .ref q0), (1, .int s59_l1), (2, .int s59_l2), (3, .int x24_2)] → W p l e R s m args below meth c H locs 0 0 Q (F0 m 59 ls []) := by
          intro s59_l1 s59_l2 ls es59_l1 es59_l2 hl
          subst es59_l1
          subst es59_l2
          refine lv_iinc (v := (x24_2 + (1 : Int32))) (lv' := [(3, .int (x24_2 + (1 : Int32))), (0, .ref q0), (1, .int (if y35.1 = 0 then (if x24_0 = (-2 : Int32) then x24_2 else x24_0) else x24_0)), (2, .int (if y35.1 = 0 then (x24_1 + (1 : Int32)) else x24_1))]) hx hb dX11_quiet_59 hl (k := 3) rfl rfl (by decide) rfl (fun ls hl => ?_)
          refine lv_goto (tgt := 24) hx hb dX11_quiet_62 (by decide) ?_
          exact ih24 (if y35.1 = 0 then (if x24_0 = (-2 : Int32) then x24_2 else x24_0) else x24_0) (if y35.1 = 0 then (x24_1 + (1 : Int32)) else x24_1) (x24_2 + (1 : Int32)) y35.2.1 y35.2.2.1 y35.2.2.2.1 y35.2.2.2.2.1 y35.2.2.2.2.2.1 y35.2.2.2.2.2.2.1 y35.2.2.2.2.2.2.2 y24 rc4 H locs ls (hz24a _ (Option.some.inj h).symm) hS (lv_sub hl [1, 2, 3, 0] rfl) hk24_0
        refine lv_if_eq (tgt := 44) hx hb dX11_quiet_38 (by decide) (fun c5 => ?_) (fun c5 => ?_)
        · refine lv_iload_n hx hb dX11_quiet_44 rfl (lv_at hl 1 rfl) ?_
          refine lv_bipush (v := -2) hx hb dX11_quiet_45 (by decide) ?_
          refine lv_icmp_ne (tgt := 54) hx hb dX11_quiet_47 (by decide) (fun c6 => ?_) (fun c6 => ?_)
          · refine lv_iload_n hx hb dX11_quiet_54 rfl (lv_at hl 1 rfl) ?_
            refine lv_istore_n (lv' := [(1, .int x24_0), (0, .ref q0), (2, .int x24_1), (3, .int x24_2)]) hx hb dX11_quiet_55 rfl hl (by decide) rfl (fun ls hl => ?_)
            refine lv_iinc (v := (x24_1 + (1 : Int32))) (lv' := [(2, .int (x24_1 + (1 : Int32))), (1, .int x24_0), (0, .ref q0), (3, .int x24_2)]) hx hb dX11_quiet_56 hl (k := 2) rfl rfl (by decide) rfl (fun ls hl => ?_)
            exact hJ59 _ _ ls (((if_pos c5).trans (if_neg c6))).symm ((if_pos c5)).symm (lv_sub hl [2, 1, 0, 3] rfl)
          · refine lv_iload_n hx hb dX11_quiet_50 rfl (lv_at hl 3 rfl) ?_
            refine lv_goto (tgt := 55) hx hb dX11_quiet_51 (by decide) ?_
            refine lv_istore_n (lv' := [(1, .int x24_2), (0, .ref q0), (2, .int x24_1), (3, .int x24_2)]) hx hb dX11_quiet_55 rfl hl (by decide) rfl (fun ls hl => ?_)
            refine lv_iinc (v := (x24_1 + (1 : Int32))) (lv' := [(2, .int (x24_1 + (1 : Int32))), (1, .int x24_2), (0, .ref q0), (3, .int x24_2)]) hx hb dX11_quiet_56 hl (k := 2) rfl rfl (by decide) rfl (fun ls hl => ?_)
            exact hJ59 _ _ ls (((if_pos c5).trans (if_pos c6))).symm ((if_pos c5)).symm (lv_sub hl [2, 1, 0, 3] rfl)
        · refine lv_goto (tgt := 59) hx hb dX11_quiet_41 (by decide) ?_
          exact hJ59 _ _ ls ((if_neg c5)).symm ((if_neg c5)).symm (lv_sub hl [0, 1, 2, 3] rfl)
  obtain ⟨y24, e24, h⟩ := bd_some h
  refine hL24 1000 (-2 : Int32) (0 : Int32) (1 : Int32) v_length v_top v_at v_wrong v_isAsked v_asked y14 y24 u0_7 H locs ls e24 hS (lv_sub hl [3, 2, 1, 0] rfl) (fun y24_0 y24_1 y24_2 y24_3 y24_4 y24_5 y24_6 y24_7 y24_8 ey24 rw24_0 H locs ls hS hl => ?_)
  subst ey24
  have h := un_r h
  have h := un_r h
  have h := un_r h
  have h := un_r h
  have h := un_r h
  have h := un_r h
  have h := un_r h
  have h := un_r h
  refine lv_iload_n hx hb dX11_quiet_65 rfl (lv_at hl 1 rfl) ?_
  refine lv_bipush (v := -2) hx hb dX11_quiet_66 (by decide) ?_
  refine lv_icmp_ne (tgt := 74) hx hb dX11_quiet_68 (by decide) (fun c7 => ?_) (fun c7 => ?_)
  · have h := it_neg c7 h
    refine lv_aload_n hx hb dX11_quiet_74 rfl (lv_at hl 0 rfl) ?_
    refine lv_iconst (v := 0) hx hb dX11_quiet_75 (by decide) ?_
    refine r_put (ws' := [oX11 q0 (.ref q1) (.int v_people) u0_2 u0_3 (.ref q2) (.int (0 : Int32)) (.int (0 : Int32)) rw24_0 (.int y24_2) (.int y24_3) (.int y24_4) (.int y24_5) u0_12 (.ref q3) u0_14 (.int v_ruleSize) (.int y24_6) (.ref q4) u0_18 u0_19 u0_20 (.ref q5) u0_22 u0_23 u0_24 u0_25 u0_26 u0_27 u0_28 u0_29 u0_30 u0_31 u0_32 u0_33 u0_34 u0_35 u0_36 u0_37 u0_38 u0_39 u0_40, aI cy q1 37 v_now, aJ cy q2 16 v_row, aB cy q3 40 v_rule, aI cy q4 7 y24_7, aI cy q5 37 y24_8]) E frX11_89 hS 0 rfl (Nat.le_of_ble_eq_true rfl) rfl rfl rfl rfl dX11_quiet_76 (fun H locs hS => ?_)
    refine lv_aload_n hx hb dX11_quiet_79 rfl (lv_at hl 0 rfl) ?_
    refine lv_iload_n hx hb dX11_quiet_80 rfl (lv_at hl 2 rfl) ?_
    refine lv_i2l (v := (y24_1.toInt64)) hx hb dX11_quiet_81 rfl ?_
    obtain ⟨y82, e8, h⟩ := bd_some h
    refine ct_V (ws' := fun _ => [oX11 q0 (.ref q1) (.int v_people) u0_2 u0_3 (.ref q2) (.int y82.1) (.int (0 : Int32)) rw24_0 (.int y24_2) (.int y24_3) (.int y24_4) (.int y24_5) u0_12 (.ref q3) u0_14 (.int v_ruleSize) (.int y24_6) (.ref q4) u0_18 u0_19 u0_20 (.ref q5) u0_22 u0_23 u0_24 u0_25 u0_26 u0_27 u0_28 u0_29 u0_30 u0_31 u0_32 u0_33 u0_34 u0_35 u0_36 u0_37 u0_38 u0_39 u0_40, aI cy q1 37 v_now, aJ cy q2 16 y82.2, aB cy q3 40 v_rule, aI cy q4 7 y24_7, aI cy q5 37 y24_8]) (st' := []) (rest := []) E hS vlX11_256 (c_X11_tell (l := l) (D := D) (cy := cy) (q0 := q0) (q1 := q2) (u0_0 := .ref q1) (u0_1 := .int v_people) (u0_2 := u0_2) (u0_3 := u0_3) (u0_6 := .int (0 : Int32)) (u0_7 := rw24_0) (u0_8 := .int y24_2) (u0_9 := .int y24_3) (u0_10 := .int y24_4) (u0_11 := .int y24_5) (u0_12 := u0_12) (u0_13 := .ref q3) (u0_14 := u0_14) (u0_15 := .int v_ruleSize) (u0_16 := .int y24_6) (u0_17 := .ref q4) (u0_18 := u0_18) (u0_19 := u0_19) (u0_20 := u0_20) (u0_21 := .ref q5) (u0_22 := u0_22) (u0_23 := u0_23) (u0_24 := u0_24) (u0_25 := u0_25) (u0_26 := u0_26) (u0_27 := u0_27) (u0_28 := u0_28) (u0_29 := u0_29) (u0_30 := u0_30) (u0_31 := u0_31) (u0_32 := u0_32) (u0_33 := u0_33) (u0_34 := u0_34) (u0_35 := u0_35) (u0_36 := u0_36) (u0_37 := u0_37) (u0_38 := u0_38) (u0_39 := u0_39) (u0_40 := u0_40) (v_rowMany := (0 : Int32)) (v_row := v_row) (p1 := (y24_1.toInt64)) (r := y82) e8) [0, 2] rfl rfl (fun _ => rfl) (fun _ => rfl) rfl rfl rfl rfl (Nat.le_of_ble_eq_true rfl) hl.1 (by rw [hRf]; exact Nat.le_of_ble_eq_true rfl) (by rw [hRl]; exact Nat.le_of_ble_eq_true rfl) ⟨Nat.zero_le _, Nat.zero_le _⟩ dX11_quiet_82 rfl (fun H locs _ hS => ?_)
    refine lv_iload_n hx hb dX11_quiet_85 rfl (lv_at hl 1 rfl) ?_
    obtain rfl := Option.some.inj h
    exact rt_i E hQ (rw24_0) hS dX11_quiet_86
  · have h := it_pos c7 h
    refine lv_bipush (v := -2) hx hb dX11_quiet_71 (by decide) ?_
    obtain rfl := Option.some.inj h
    exact rt_i E hQ (rw24_0) hS dX11_quiet_73

