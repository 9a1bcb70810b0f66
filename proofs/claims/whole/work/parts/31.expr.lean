theorem X11_expr_e0 (n : Nat) (v_length : Int32) (v_top : Int32) (v_at : Int32) (v_wrong : Int32) (v_isAsked : Int32) (nv_read : Nat) (v_read : Nat → Int32) (v_asked : Nat → Int32) (p1 : Int32) : X11_expr (n + 1) 0 v_length v_top v_at v_wrong v_isAsked nv_read v_read v_asked p1 = X11_expr_b0 (X11_expr n) v_length v_top v_at v_wrong v_isAsked nv_read v_read v_asked p1 := by
  rw [X11_expr]
  exact if_pos rfl
theorem X11_expr_e1 (n : Nat) (v_length : Int32) (v_top : Int32) (v_at : Int32) (v_wrong : Int32) (v_isAsked : Int32) (nv_read : Nat) (v_read : Nat → Int32) (v_asked : Nat → Int32) (p1 : Int32) : X11_expr (n + 1) 1 v_length v_top v_at v_wrong v_isAsked nv_read v_read v_asked p1 = X11_expr_b1 (X11_expr n) v_length v_top v_at v_wrong v_isAsked nv_read v_read v_asked p1 := by
  rw [X11_expr]
  exact (if_neg (by decide)).trans (if_pos rfl)
theorem X11_expr_e2 (n : Nat) (v_length : Int32) (v_top : Int32) (v_at : Int32) (v_wrong : Int32) (v_isAsked : Int32) (nv_read : Nat) (v_read : Nat → Int32) (v_asked : Nat → Int32) (p1 : Int32) : X11_expr (n + 1) 2 v_length v_top v_at v_wrong v_isAsked nv_read v_read v_asked p1 = X11_expr_b2 (X11_expr n) v_length v_top v_at v_wrong v_isAsked nv_read v_read v_asked p1 := by
  rw [X11_expr]
  exact (if_neg (by decide)).trans ((if_neg (by decide)).trans (if_pos rfl))
theorem X11_expr_e3 (n : Nat) (v_length : Int32) (v_top : Int32) (v_at : Int32) (v_wrong : Int32) (v_isAsked : Int32) (nv_read : Nat) (v_read : Nat → Int32) (v_asked : Nat → Int32) (p1 : Int32) : X11_expr (n + 1) 3 v_length v_top v_at v_wrong v_isAsked nv_read v_read v_asked p1 = X11_expr_b3 (X11_expr n) v_length v_top v_at v_wrong v_isAsked nv_read v_read v_asked p1 := by
  rw [X11_expr]
  exact (if_neg (by decide)).trans ((if_neg (by decide)).trans (if_neg (by decide)))
theorem X11_expr_z {C : Prop} {k : Nat} {v_length : Int32} {v_top : Int32} {v_at : Int32} {v_wrong : Int32} {v_isAsked : Int32} {nv_read : Nat} {v_read : Nat → Int32} {v_asked : Nat → Int32} {p1 : Int32} {r : Int32 × Int32 × Int32} (h : X11_expr 0 k v_length v_top v_at v_wrong v_isAsked nv_read v_read v_asked p1 = some r) : C := by
  rw [X11_expr] at h
  cases h
set_option maxHeartbeats 8000000 in
set_option maxRecDepth 100000 in
theorem g_X11_expr {l : Launch} {D : va_G} {cy : Nat → ClassId} : ∀ n : Nat, (∀ (q0 : Nat) (q1 : Nat) (q2 : Nat) (u0_0 : Value) (u0_1 : Value) (u0_2 : Value) (u0_3 : Value) (u0_4 : Value) (u0_5 : Value) (u0_6 : Value) (u0_12 : Value) (u0_13 : Value) (u0_14 : Value) (u0_15 : Value) (u0_18 : Value) (u0_19 : Value) (u0_20 : Value) (u0_21 : Value) (u0_22 : Value) (u0_23 : Value) (u0_24 : Value) (u0_25 : Value) (u0_26 : Value) (u0_27 : Value) (u0_28 : Value) (u0_29 : Value) (u0_30 : Value) (u0_31 : Value) (u0_32 : Value) (u0_33 : Value) (u0_34 : Value) (u0_35 : Value) (u0_36 : Value) (u0_37 : Value) (u0_38 : Value) (u0_39 : Value) (u0_40 : Value) (v_length : Int32) (v_top : Int32) (v_at : Int32) (v_wrong : Int32) (v_isAsked : Int32) (nv_read : Nat) (v_read : Nat → Int32) (v_asked : Nat → Int32) (p1 : Int32) (r : Int32 × Int32 × Int32), X11_expr n 0 v_length v_top v_at v_wrong v_isAsked nv_read v_read v_asked p1 = some r → Ct l yX11_held cX11_held 3 (some .int) (4 + n) (86 + n * 24) D cy [.ref q0, .int p1] [oX11 q0 u0_0 u0_1 u0_2 u0_3 u0_4 u0_5 u0_6 (.ref q1) (.int v_length) (.int v_top) (.int v_at) (.int v_wrong) u0_12 u0_13 u0_14 u0_15 (.int v_isAsked) (.ref q2) u0_18 u0_19 u0_20 u0_21 u0_22 u0_23 u0_24 u0_25 u0_26 u0_27 u0_28 u0_29 u0_30 u0_31 u0_32 u0_33 u0_34 u0_35 u0_36 u0_37 u0_38 u0_39 u0_40, aB cy q1 nv_read v_read, aI cy q2 7 v_asked] (fun _ => [oX11 q0 u0_0 u0_1 u0_2 u0_3 u0_4 u0_5 u0_6 (.ref q1) (.int v_length) (.int v_top) (.int r.2.1) (.int r.2.2) u0_12 u0_13 u0_14 u0_15 (.int v_isAsked) (.ref q2) u0_18 u0_19 u0_20 u0_21 u0_22 u0_23 u0_24 u0_25 u0_26 u0_27 u0_28 u0_29 u0_30 u0_31 u0_32 u0_33 u0_34 u0_35 u0_36 u0_37 u0_38 u0_39 u0_40, aB cy q1 nv_read v_read, aI cy q2 7 v_asked]) (some (.int r.1))) ∧ (∀ (q0 : Nat) (q1 : Nat) (q2 : Nat) (u0_0 : Value) (u0_1 : Value) (u0_2 : Value) (u0_3 : Value) (u0_4 : Value) (u0_5 : Value) (u0_6 : Value) (u0_12 : Value) (u0_13 : Value) (u0_14 : Value) (u0_15 : Value) (u0_18 : Value) (u0_19 : Value) (u0_20 : Value) (u0_21 : Value) (u0_22 : Value) (u0_23 : Value) (u0_24 : Value) (u0_25 : Value) (u0_26 : Value) (u0_27 : Value) (u0_28 : Value) (u0_29 : Value) (u0_30 : Value) (u0_31 : Value) (u0_32 : Value) (u0_33 : Value) (u0_34 : Value) (u0_35 : Value) (u0_36 : Value) (u0_37 : Value) (u0_38 : Value) (u0_39 : Value) (u0_40 : Value) (v_length : Int32) (v_top : Int32) (v_at : Int32) (v_wrong : Int32) (v_isAsked : Int32) (nv_read : Nat) (v_read : Nat → Int32) (v_asked : Nat → Int32) (p1 : Int32) (r : Int32 × Int32 × Int32), X11_expr n 1 v_length v_top v_at v_wrong v_isAsked nv_read v_read v_asked p1 = some r → Ct l yX11_sum cX11_sum 5 (some .int) (4 + n) (86 + n * 24) D cy [.ref q0, .int p1] [oX11 q0 u0_0 u0_1 u0_2 u0_3 u0_4 u0_5 u0_6 (.ref q1) (.int v_length) (.int v_top) (.int v_at) (.int v_wrong) u0_12 u0_13 u0_14 u0_15 (.int v_isAsked) (.ref q2) u0_18 u0_19 u0_20 u0_21 u0_22 u0_23 u0_24 u0_25 u0_26 u0_27 u0_28 u0_29 u0_30 u0_31 u0_32 u0_33 u0_34 u0_35 u0_36 u0_37 u0_38 u0_39 u0_40, aB cy q1 nv_read v_read, aI cy q2 7 v_asked] (fun _ => [oX11 q0 u0_0 u0_1 u0_2 u0_3 u0_4 u0_5 u0_6 (.ref q1) (.int v_length) (.int v_top) (.int r.2.1) (.int r.2.2) u0_12 u0_13 u0_14 u0_15 (.int v_isAsked) (.ref q2) u0_18 u0_19 u0_20 u0_21 u0_22 u0_23 u0_24 u0_25 u0_26 u0_27 u0_28 u0_29 u0_30 u0_31 u0_32 u0_33 u0_34 u0_35 u0_36 u0_37 u0_38 u0_39 u0_40, aB cy q1 nv_read v_read, aI cy q2 7 v_asked]) (some (.int r.1))) ∧ (∀ (q0 : Nat) (q1 : Nat) (q2 : Nat) (u0_0 : Value) (u0_1 : Value) (u0_2 : Value) (u0_3 : Value) (u0_4 : Value) (u0_5 : Value) (u0_6 : Value) (u0_12 : Value) (u0_13 : Value) (u0_14 : Value) (u0_15 : Value) (u0_18 : Value) (u0_19 : Value) (u0_20 : Value) (u0_21 : Value) (u0_22 : Value) (u0_23 : Value) (u0_24 : Value) (u0_25 : Value) (u0_26 : Value) (u0_27 : Value) (u0_28 : Value) (u0_29 : Value) (u0_30 : Value) (u0_31 : Value) (u0_32 : Value) (u0_33 : Value) (u0_34 : Value) (u0_35 : Value) (u0_36 : Value) (u0_37 : Value) (u0_38 : Value) (u0_39 : Value) (u0_40 : Value) (v_length : Int32) (v_top : Int32) (v_at : Int32) (v_wrong : Int32) (v_isAsked : Int32) (nv_read : Nat) (v_read : Nat → Int32) (v_asked : Nat → Int32) (p1 : Int32) (r : Int32 × Int32 × Int32), X11_expr n 2 v_length v_top v_at v_wrong v_isAsked nv_read v_read v_asked p1 = some r → Ct l yX11_product cX11_product 5 (some .int) (4 + n) (86 + n * 24) D cy [.ref q0, .int p1] [oX11 q0 u0_0 u0_1 u0_2 u0_3 u0_4 u0_5 u0_6 (.ref q1) (.int v_length) (.int v_top) (.int v_at) (.int v_wrong) u0_12 u0_13 u0_14 u0_15 (.int v_isAsked) (.ref q2) u0_18 u0_19 u0_20 u0_21 u0_22 u0_23 u0_24 u0_25 u0_26 u0_27 u0_28 u0_29 u0_30 u0_31 u0_32 u0_33 u0_34 u0_35 u0_36 u0_37 u0_38 u0_39 u0_40, aB cy q1 nv_read v_read, aI cy q2 7 v_asked] (fun _ => [oX11 q0 u0_0 u0_1 u0_2 u0_3 u0_4 u0_5 u0_6 (.ref q1) (.int v_length) (.int v_top) (.int r.2.1) (.int r.2.2) u0_12 u0_13 u0_14 u0_15 (.int v_isAsked) (.ref q2) u0_18 u0_19 u0_20 u0_21 u0_22 u0_23 u0_24 u0_25 u0_26 u0_27 u0_28 u0_29 u0_30 u0_31 u0_32 u0_33 u0_34 u0_35 u0_36 u0_37 u0_38 u0_39 u0_40, aB cy q1 nv_read v_read, aI cy q2 7 v_asked]) (some (.int r.1))) ∧ (∀ (q0 : Nat) (q1 : Nat) (q2 : Nat) (u0_0 : Value) (u0_1 : Value) (u0_2 : Value) (u0_3 : Value) (u0_4 : Value) (u0_5 : Value) (u0_6 : Value) (u0_12 : Value) (u0_13 : Value) (u0_14 : Value) (u0_15 : Value) (u0_18 : Value) (u0_19 : Value) (u0_20 : Value) (u0_21 : Value) (u0_22 : Value) (u0_23 : Value) (u0_24 : Value) (u0_25 : Value) (u0_26 : Value) (u0_27 : Value) (u0_28 : Value) (u0_29 : Value) (u0_30 : Value) (u0_31 : Value) (u0_32 : Value) (u0_33 : Value) (u0_34 : Value) (u0_35 : Value) (u0_36 : Value) (u0_37 : Value) (u0_38 : Value) (u0_39 : Value) (u0_40 : Value) (v_length : Int32) (v_top : Int32) (v_at : Int32) (v_wrong : Int32) (v_isAsked : Int32) (nv_read : Nat) (v_read : Nat → Int32) (v_asked : Nat → Int32) (p1 : Int32) (r : Int32 × Int32 × Int32), X11_expr n 3 v_length v_top v_at v_wrong v_isAsked nv_read v_read v_asked p1 = some r → Ct l yX11_thing cX11_thing 4 (some .int) (4 + n) (86 + n * 24) D cy [.ref q0, .int p1] [oX11 q0 u0_0 u0_1 u0_2 u0_3 u0_4 u0_5 u0_6 (.ref q1) (.int v_length) (.int v_top) (.int v_at) (.int v_wrong) u0_12 u0_13 u0_14 u0_15 (.int v_isAsked) (.ref q2) u0_18 u0_19 u0_20 u0_21 u0_22 u0_23 u0_24 u0_25 u0_26 u0_27 u0_28 u0_29 u0_30 u0_31 u0_32 u0_33 u0_34 u0_35 u0_36 u0_37 u0_38 u0_39 u0_40, aB cy q1 nv_read v_read, aI cy q2 7 v_asked] (fun _ => [oX11 q0 u0_0 u0_1 u0_2 u0_3 u0_4 u0_5 u0_6 (.ref q1) (.int v_length) (.int v_top) (.int r.2.1) (.int r.2.2) u0_12 u0_13 u0_14 u0_15 (.int v_isAsked) (.ref q2) u0_18 u0_19 u0_20 u0_21 u0_22 u0_23 u0_24 u0_25 u0_26 u0_27 u0_28 u0_29 u0_30 u0_31 u0_32 u0_33 u0_34 u0_35 u0_36 u0_37 u0_38 u0_39 u0_40, aB cy q1 nv_read v_read, aI cy q2 7 v_asked]) (some (.int r.1))) := by
  intro n
  induction n with
  | zero =>
    exact ⟨fun _ _ _ _ _ _ _ _ _ _ _ _ _ _ _ _ _ _ _ _ _ _ _ _ _ _ _ _ _ _ _ _ _ _ _ _ _ _ _ _ _ _ _ _ _ _ _ h => X11_expr_z h, fun _ _ _ _ _ _ _ _ _ _ _ _ _ _ _ _ _ _ _ _ _ _ _ _ _ _ _ _ _ _ _ _ _ _ _ _ _ _ _ _ _ _ _ _ _ _ _ h => X11_expr_z h, fun _ _ _ _ _ _ _ _ _ _ _ _ _ _ _ _ _ _ _ _ _ _ _ _ _ _ _ _ _ _ _ _ _ _ _ _ _ _ _ _ _ _ _ _ _ _ _ h => X11_expr_z h, fun _ _ _ _ _ _ _ _ _ _ _ _ _ _ _ _ _ _ _ _ _ _ _ _ _ _ _ _ _ _ _ _ _ _ _ _ _ _ _ _ _ _ _ _ _ _ _ h => X11_expr_z h⟩
  | succ n ih =>
    obtain ⟨ih0, ih1, ih2, ih3⟩ := ih
    refine ⟨?_, ?_, ?_, ?_⟩
    · intro q0 q1 q2 u0_0 u0_1 u0_2 u0_3 u0_4 u0_5 u0_6 u0_12 u0_13 u0_14 u0_15 u0_18 u0_19 u0_20 u0_21 u0_22 u0_23 u0_24 u0_25 u0_26 u0_27 u0_28 u0_29 u0_30 u0_31 u0_32 u0_33 u0_34 u0_35 u0_36 u0_37 u0_38 u0_39 u0_40 v_length v_top v_at v_wrong v_isAsked nv_read v_read v_asked p1 r h
      rw [X11_expr_e0] at h
      generalize X11_expr n = rec at ih0 ih1 ih2 ih3 h
      unfold X11_expr_b0 at h
      refine Ct.mk kX11_held (by decide +kernel) (Nat.le_of_ble_eq_true rfl) ?_
      intro p e s m below meth c A ls args R Q hRf hRl hQ E H locs hS hl
      have hx := E.x
      have hb := E.b
      have hl : lv_has ls 3 [(0, .ref q0), (1, .int p1)] := hl
      refine lv_aload_n hx hb dX11_held_0 rfl (lv_at hl 0 rfl) ?_
      refine lv_iload_n hx hb dX11_held_1 rfl (lv_at hl 1 rfl) ?_
      obtain ⟨y2, e1, h⟩ := bd_some h
      refine ct_V (ws' := fun _ => [oX11 q0 u0_0 u0_1 u0_2 u0_3 u0_4 u0_5 u0_6 (.ref q1) (.int v_length) (.int v_top) (.int y2.2.1) (.int y2.2.2) u0_12 u0_13 u0_14 u0_15 (.int v_isAsked) (.ref q2) u0_18 u0_19 u0_20 u0_21 u0_22 u0_23 u0_24 u0_25 u0_26 u0_27 u0_28 u0_29 u0_30 u0_31 u0_32 u0_33 u0_34 u0_35 u0_36 u0_37 u0_38 u0_39 u0_40, aB cy q1 nv_read v_read, aI cy q2 7 v_asked]) (st' := [.int y2.1]) (rest := []) E hS vlX11_163 (ih1 q0 q1 q2 u0_0 u0_1 u0_2 u0_3 u0_4 u0_5 u0_6 u0_12 u0_13 u0_14 u0_15 u0_18 u0_19 u0_20 u0_21 u0_22 u0_23 u0_24 u0_25 u0_26 u0_27 u0_28 u0_29 u0_30 u0_31 u0_32 u0_33 u0_34 u0_35 u0_36 u0_37 u0_38 u0_39 u0_40 v_length v_top v_at v_wrong v_isAsked nv_read v_read v_asked p1 y2 e1) [0, 1, 2] rfl rfl (fun _ => rfl) (fun _ => rfl) rfl rfl rfl rfl (Nat.le_of_ble_eq_true rfl) hl.1 (by rw [hRf]; omega) (by rw [hRl]; omega) ⟨Nat.zero_le _, Nat.zero_le _⟩ dX11_held_2 rfl (fun H locs _ hS => ?_)
      refine lv_istore_n (lv' := [(2, .int y2.1), (0, .ref q0), (1, .int p1)]) hx hb dX11_held_5 rfl hl (by decide) rfl (fun ls hl => ?_)
      refine lv_aload_n hx hb dX11_held_6 rfl (lv_at hl 1 rfl) ?_
      refine lv_bipush (v := 60) hx hb dX11_held_7 (by decide) ?_
      obtain ⟨y9, e2, h⟩ := bd_some h
      refine ct_V (ws' := fun _ => [oX11 q0 u0_0 u0_1 u0_2 u0_3 u0_4 u0_5 u0_6 (.ref q1) (.int v_length) (.int v_top) (.int y9.2) (.int y2.2.2) u0_12 u0_13 u0_14 u0_15 (.int v_isAsked) (.ref q2) u0_18 u0_19 u0_20 u0_21 u0_22 u0_23 u0_24 u0_25 u0_26 u0_27 u0_28 u0_29 u0_30 u0_31 u0_32 u0_33 u0_34 u0_35 u0_36 u0_37 u0_38 u0_39 u0_40, aB cy q1 nv_read v_read, aI cy q2 7 v_asked]) (st' := [.int y9.1]) (rest := []) E hS vlX11_133 (c_X11_passes (l := l) (D := D) (cy := cy) (q0 := q0) (q1 := q1) (u0_0 := u0_0) (u0_1 := u0_1) (u0_2 := u0_2) (u0_3 := u0_3) (u0_4 := u0_4) (u0_5 := u0_5) (u0_6 := u0_6) (u0_12 := u0_12) (u0_13 := u0_13) (u0_14 := u0_14) (u0_15 := u0_15) (u0_16 := .int v_isAsked) (u0_17 := .ref q2) (u0_18 := u0_18) (u0_19 := u0_19) (u0_20 := u0_20) (u0_21 := u0_21) (u0_22 := u0_22) (u0_23 := u0_23) (u0_24 := u0_24) (u0_25 := u0_25) (u0_26 := u0_26) (u0_27 := u0_27) (u0_28 := u0_28) (u0_29 := u0_29) (u0_30 := u0_30) (u0_31 := u0_31) (u0_32 := u0_32) (u0_33 := u0_33) (u0_34 := u0_34) (u0_35 := u0_35) (u0_36 := u0_36) (u0_37 := u0_37) (u0_38 := u0_38) (u0_39 := u0_39) (u0_40 := u0_40) (v_length := v_length) (v_top := v_top) (v_at := y2.2.1) (v_wrong := y2.2.2) (nv_read := nv_read) (v_read := v_read) (p1 := (60 : Int32)) (r := y9) e2) [0, 1] rfl rfl (fun _ => rfl) (fun _ => rfl) rfl rfl rfl rfl (Nat.le_of_ble_eq_true rfl) hl.1 (by rw [hRf]; omega) (by rw [hRl]; omega) ⟨Nat.zero_le _, Nat.zero_le _⟩ dX11_held_9 rfl (fun H locs _ hS => ?_)
      refine lv_if_eq (tgt := 30) hx hb dX11_held_12 (by decide) (fun c3 => ?_) (fun c3 => ?_)
      · have h := it_pos c3 h
        refine lv_aload_n hx hb dX11_held_30 rfl (lv_at hl 1 rfl) ?_
        refine lv_bipush (v := 62) hx hb dX11_held_31 (by decide) ?_
        obtain ⟨y33, e4, h⟩ := bd_some h
        refine ct_V (ws' := fun _ => [oX11 q0 u0_0 u0_1 u0_2 u0_3 u0_4 u0_5 u0_6 (.ref q1) (.int v_length) (.int v_top) (.int y33.2) (.int y2.2.2) u0_12 u0_13 u0_14 u0_15 (.int v_isAsked) (.ref q2) u0_18 u0_19 u0_20 u0_21 u0_22 u0_23 u0_24 u0_25 u0_26 u0_27 u0_28 u0_29 u0_30 u0_31 u0_32 u0_33 u0_34 u0_35 u0_36 u0_37 u0_38 u0_39 u0_40, aB cy q1 nv_read v_read, aI cy q2 7 v_asked]) (st' := [.int y33.1]) (rest := []) E hS vlX11_133 (c_X11_passes (l := l) (D := D) (cy := cy) (q0 := q0) (q1 := q1) (u0_0 := u0_0) (u0_1 := u0_1) (u0_2 := u0_2) (u0_3 := u0_3) (u0_4 := u0_4) (u0_5 := u0_5) (u0_6 := u0_6) (u0_12 := u0_12) (u0_13 := u0_13) (u0_14 := u0_14) (u0_15 := u0_15) (u0_16 := .int v_isAsked) (u0_17 := .ref q2) (u0_18 := u0_18) (u0_19 := u0_19) (u0_20 := u0_20) (u0_21 := u0_21) (u0_22 := u0_22) (u0_23 := u0_23) (u0_24 := u0_24) (u0_25 := u0_25) (u0_26 := u0_26) (u0_27 := u0_27) (u0_28 := u0_28) (u0_29 := u0_29) (u0_30 := u0_30) (u0_31 := u0_31) (u0_32 := u0_32) (u0_33 := u0_33) (u0_34 := u0_34) (u0_35 := u0_35) (u0_36 := u0_36) (u0_37 := u0_37) (u0_38 := u0_38) (u0_39 := u0_39) (u0_40 := u0_40) (v_length := v_length) (v_top := v_top) (v_at := y9.2) (v_wrong := y2.2.2) (nv_read := nv_read) (v_read := v_read) (p1 := (62 : Int32)) (r := y33) e4) [0, 1] rfl rfl (fun _ => rfl) (fun _ => rfl) rfl rfl rfl rfl (Nat.le_of_ble_eq_true rfl) hl.1 (by rw [hRf]; omega) (by rw [hRl]; omega) ⟨Nat.zero_le _, Nat.zero_le _⟩ dX11_held_33 rfl (fun H locs _ hS => ?_)
        refine lv_if_eq (tgt := 54) hx hb dX11_held_36 (by decide) (fun c5 => ?_) (fun c5 => ?_)
        · have h := it_pos c5 h
          refine lv_aload_n hx hb dX11_held_54 rfl (lv_at hl 1 rfl) ?_
          refine lv_bipush (v := 61) hx hb dX11_held_55 (by decide) ?_
          obtain ⟨y57, e6, h⟩ := bd_some h
          refine ct_V (ws' := fun _ => [oX11 q0 u0_0 u0_1 u0_2 u0_3 u0_4 u0_5 u0_6 (.ref q1) (.int v_length) (.int v_top) (.int y57.2) (.int y2.2.2) u0_12 u0_13 u0_14 u0_15 (.int v_isAsked) (.ref q2) u0_18 u0_19 u0_20 u0_21 u0_22 u0_23 u0_24 u0_25 u0_26 u0_27 u0_28 u0_29 u0_30 u0_31 u0_32 u0_33 u0_34 u0_35 u0_36 u0_37 u0_38 u0_39 u0_40, aB cy q1 nv_read v_read, aI cy q2 7 v_asked]) (st' := [.int y57.1]) (rest := []) E hS vlX11_133 (c_X11_passes (l := l) (D := D) (cy := cy) (q0 := q0) (q1 := q1) (u0_0 := u0_0) (u0_1 := u0_1) (u0_2 := u0_2) (u0_3 := u0_3) (u0_4 := u0_4) (u0_5 := u0_5) (u0_6 := u0_6) (u0_12 := u0_12) (u0_13 := u0_13) (u0_14 := u0_14) (u0_15 := u0_15) (u0_16 := .int v_isAsked) (u0_17 := .ref q2) (u0_18 := u0_18) (u0_19 := u0_19) (u0_20 := u0_20) (u0_21 := u0_21) (u0_22 := u0_22) (u0_23 := u0_23) (u0_24 := u0_24) (u0_25 := u0_25) (u0_26 := u0_26) (u0_27 := u0_27) (u0_28 := u0_28) (u0_29 := u0_29) (u0_30 := u0_30) (u0_31 := u0_31) (u0_32 := u0_32) (u0_33 := u0_33) (u0_34 := u0_34) (u0_35 := u0_35) (u0_36 := u0_36) (u0_37 := u0_37) (u0_38 := u0_38) (u0_39 := u0_39) (u0_40 := u0_40) (v_length := v_length) (v_top := v_top) (v_at := y33.2) (v_wrong := y2.2.2) (nv_read := nv_read) (v_read := v_read) (p1 := (61 : Int32)) (r := y57) e6) [0, 1] rfl rfl (fun _ => rfl) (fun _ => rfl) rfl rfl rfl rfl (Nat.le_of_ble_eq_true rfl) hl.1 (by rw [hRf]; omega) (by rw [hRl]; omega) ⟨Nat.zero_le _, Nat.zero_le _⟩ dX11_held_57 rfl (fun H locs _ hS => ?_)
          refine lv_if_eq (tgt := 78) hx hb dX11_held_60 (by decide) (fun c7 => ?_) (fun c7 => ?_)
          · have h := it_pos c7 h
            refine lv_iload_n hx hb dX11_held_78 rfl (lv_at hl 0 rfl) ?_
            obtain rfl := Option.some.inj h
            exact rt_i E hQ (.null) hS dX11_held_79
          · have h := it_neg c7 h
            refine lv_iload_n hx hb dX11_held_63 rfl (lv_at hl 0 rfl) ?_
            refine lv_aload_n hx hb dX11_held_64 rfl (lv_at hl 1 rfl) ?_
            refine lv_iload_n hx hb dX11_held_65 rfl (lv_at hl 2 rfl) ?_
            obtain ⟨y66, e8, h⟩ := bd_some h
            refine ct_V (ws' := fun _ => [oX11 q0 u0_0 u0_1 u0_2 u0_3 u0_4 u0_5 u0_6 (.ref q1) (.int v_length) (.int v_top) (.int y66.2.1) (.int y66.2.2) u0_12 u0_13 u0_14 u0_15 (.int v_isAsked) (.ref q2) u0_18 u0_19 u0_20 u0_21 u0_22 u0_23 u0_24 u0_25 u0_26 u0_27 u0_28 u0_29 u0_30 u0_31 u0_32 u0_33 u0_34 u0_35 u0_36 u0_37 u0_38 u0_39 u0_40, aB cy q1 nv_read v_read, aI cy q2 7 v_asked]) (st' := [.int y66.1, .int y2.1]) (rest := [.int y2.1]) E hS vlX11_163 (ih1 q0 q1 q2 u0_0 u0_1 u0_2 u0_3 u0_4 u0_5 u0_6 u0_12 u0_13 u0_14 u0_15 u0_18 u0_19 u0_20 u0_21 u0_22 u0_23 u0_24 u0_25 u0_26 u0_27 u0_28 u0_29 u0_30 u0_31 u0_32 u0_33 u0_34 u0_35 u0_36 u0_37 u0_38 u0_39 u0_40 v_length v_top y57.2 y2.2.2 v_isAsked nv_read v_read v_asked p1 y66 e8) [0, 1, 2] rfl rfl (fun _ => rfl) (fun _ => rfl) rfl rfl rfl rfl (Nat.le_of_ble_eq_true rfl) hl.1 (by rw [hRf]; omega) (by rw [hRl]; omega) ⟨Nat.zero_le _, Nat.zero_le _⟩ dX11_held_66 rfl (fun H locs _ hS => ?_)
            have hJ77 : ∀ (s77_0 : Int32) (ls : Array Slot), s77_0 = (if y2.1 = y66.1 then (1 : Int32) else (0 : Int32)) → lv_has ls 3 [] → W p l e R s m args below meth c H locs 0 0 Q (F0 m 77 ls [.int s77_0]) := by
              intro s77_0 ls es77_0 hl
              subst es77_0
              obtain rfl := Option.some.inj h
              exact rt_i E hQ (.null) hS dX11_held_77
            refine lv_icmp_ne (tgt := 76) hx hb dX11_held_69 (by decide) (fun c9 => ?_) (fun c9 => ?_)
            · refine lv_iconst (v := 0) hx hb dX11_held_76 (by decide) ?_
              exact hJ77 _ ls ((if_neg c9)).symm (lv_sub hl [] rfl)
            · refine lv_iconst (v := 1) hx hb dX11_held_72 (by decide) ?_
              refine lv_goto (tgt := 77) hx hb dX11_held_73 (by decide) ?_
              exact hJ77 _ ls ((if_pos c9)).symm (lv_sub hl [] rfl)
        · have h := it_neg c5 h
          refine lv_iload_n hx hb dX11_held_39 rfl (lv_at hl 0 rfl) ?_
          refine lv_aload_n hx hb dX11_held_40 rfl (lv_at hl 1 rfl) ?_
          refine lv_iload_n hx hb dX11_held_41 rfl (lv_at hl 2 rfl) ?_
          obtain ⟨y42, e10, h⟩ := bd_some h
          refine ct_V (ws' := fun _ => [oX11 q0 u0_0 u0_1 u0_2 u0_3 u0_4 u0_5 u0_6 (.ref q1) (.int v_length) (.int v_top) (.int y42.2.1) (.int y42.2.2) u0_12 u0_13 u0_14 u0_15 (.int v_isAsked) (.ref q2) u0_18 u0_19 u0_20 u0_21 u0_22 u0_23 u0_24 u0_25 u0_26 u0_27 u0_28 u0_29 u0_30 u0_31 u0_32 u0_33 u0_34 u0_35 u0_36 u0_37 u0_38 u0_39 u0_40, aB cy q1 nv_read v_read, aI cy q2 7 v_asked]) (st' := [.int y42.1, .int y2.1]) (rest := [.int y2.1]) E hS vlX11_163 (ih1 q0 q1 q2 u0_0 u0_1 u0_2 u0_3 u0_4 u0_5 u0_6 u0_12 u0_13 u0_14 u0_15 u0_18 u0_19 u0_20 u0_21 u0_22 u0_23 u0_24 u0_25 u0_26 u0_27 u0_28 u0_29 u0_30 u0_31 u0_32 u0_33 u0_34 u0_35 u0_36 u0_37 u0_38 u0_39 u0_40 v_length v_top y33.2 y2.2.2 v_isAsked nv_read v_read v_asked p1 y42 e10) [0, 1, 2] rfl rfl (fun _ => rfl) (fun _ => rfl) rfl rfl rfl rfl (Nat.le_of_ble_eq_true rfl) hl.1 (by rw [hRf]; omega) (by rw [hRl]; omega) ⟨Nat.zero_le _, Nat.zero_le _⟩ dX11_held_42 rfl (fun H locs _ hS => ?_)
          have hJ53 : ∀ (s53_0 : Int32) (ls : Array Slot), s53_0 = (if y2.1 ≤ y42.1 then (0 : Int32) else (1 : Int32)) → lv_has ls 3 [] → W p l e R s m args below meth c H locs 0 0 Q (F0 m 53 ls [.int s53_0]) := by
            intro s53_0 ls es53_0 hl
            subst es53_0
            obtain rfl := Option.some.inj h
            exact rt_i E hQ (.null) hS dX11_held_53
          refine lv_icmp_le (tgt := 52) hx hb dX11_held_45 (by decide) (fun c11 => ?_) (fun c11 => ?_)
          · refine lv_iconst (v := 0) hx hb dX11_held_52 (by decide) ?_
            exact hJ53 _ ls ((if_pos c11)).symm (lv_sub hl [] rfl)
          · refine lv_iconst (v := 1) hx hb dX11_held_48 (by decide) ?_
            refine lv_goto (tgt := 53) hx hb dX11_held_49 (by decide) ?_
            exact hJ53 _ ls ((if_neg c11)).symm (lv_sub hl [] rfl)
      · have h := it_neg c3 h
        refine lv_iload_n hx hb dX11_held_15 rfl (lv_at hl 0 rfl) ?_
        refine lv_aload_n hx hb dX11_held_16 rfl (lv_at hl 1 rfl) ?_
        refine lv_iload_n hx hb dX11_held_17 rfl (lv_at hl 2 rfl) ?_
        obtain ⟨y18, e12, h⟩ := bd_some h
        refine ct_V (ws' := fun _ => [oX11 q0 u0_0 u0_1 u0_2 u0_3 u0_4 u0_5 u0_6 (.ref q1) (.int v_length) (.int v_top) (.int y18.2.1) (.int y18.2.2) u0_12 u0_13 u0_14 u0_15 (.int v_isAsked) (.ref q2) u0_18 u0_19 u0_20 u0_21 u0_22 u0_23 u0_24 u0_25 u0_26 u0_27 u0_28 u0_29 u0_30 u0_31 u0_32 u0_33 u0_34 u0_35 u0_36 u0_37 u0_38 u0_39 u0_40, aB cy q1 nv_read v_read, aI cy q2 7 v_asked]) (st' := [.int y18.1, .int y2.1]) (rest := [.int y2.1]) E hS vlX11_163 (ih1 q0 q1 q2 u0_0 u0_1 u0_2 u0_3 u0_4 u0_5 u0_6 u0_12 u0_13 u0_14 u0_15 u0_18 u0_19 u0_20 u0_21 u0_22 u0_23 u0_24 u0_25 u0_26 u0_27 u0_28 u0_29 u0_30 u0_31 u0_32 u0_33 u0_34 u0_35 u0_36 u0_37 u0_38 u0_39 u0_40 v_length v_top y9.2 y2.2.2 v_isAsked nv_read v_read v_asked p1 y18 e12) [0, 1, 2] rfl rfl (fun _ => rfl) (fun _ => rfl) rfl rfl rfl rfl (Nat.le_of_ble_eq_true rfl) hl.1 (by rw [hRf]; omega) (by rw [hRl]; omega) ⟨Nat.zero_le _, Nat.zero_le _⟩ dX11_held_18 rfl (fun H locs _ hS => ?_)
        have hJ29 : ∀ (s29_0 : Int32) (ls : Array Slot), s29_0 = (if y18.1 ≤ y2.1 then (0 : Int32) else (1 : Int32)) → lv_has ls 3 [] → W p l e R s m args below meth c H locs 0 0 Q (F0 m 29 ls [.int s29_0]) := by
          intro s29_0 ls es29_0 hl
          subst es29_0
          obtain rfl := Option.some.inj h
          exact rt_i E hQ (.null) hS dX11_held_29
        refine lv_icmp_ge (tgt := 28) hx hb dX11_held_21 (by decide) (fun c13 => ?_) (fun c13 => ?_)
        · refine lv_iconst (v := 0) hx hb dX11_held_28 (by decide) ?_
          exact hJ29 _ ls ((if_pos c13)).symm (lv_sub hl [] rfl)
        · refine lv_iconst (v := 1) hx hb dX11_held_24 (by decide) ?_
          refine lv_goto (tgt := 29) hx hb dX11_held_25 (by decide) ?_
          exact hJ29 _ ls ((if_neg c13)).symm (lv_sub hl [] rfl)
    · intro q0 q1 q2 u0_0 u0_1 u0_2 u0_3 u0_4 u0_5 u0_6 u0_12 u0_13 u0_14 u0_15 u0_18 u0_19 u0_20 u0_21 u0_22 u0_23 u0_24 u0_25 u0_26 u0_27 u0_28 u0_29 u0_30 u0_31 u0_32 u0_33 u0_34 u0_35 u0_36 u0_37 u0_38 u0_39 u0_40 v_length v_top v_at v_wrong v_isAsked nv_read v_read v_asked p1 r h
      rw [X11_expr_e1] at h
      generalize X11_expr n = rec at ih0 ih1 ih2 ih3 h
      unfold X11_expr_b1 at h
      refine Ct.mk kX11_sum (by decide +kernel) (Nat.le_of_ble_eq_true rfl) ?_
      intro p e s m below meth c A ls args R Q hRf hRl hQ E H locs hS hl
      have hx := E.x
      have hb := E.b
      have hl : lv_has ls 5 [(0, .ref q0), (1, .int p1)] := hl
      refine lv_aload_n hx hb dX11_sum_0 rfl (lv_at hl 0 rfl) ?_
      refine lv_iload_n hx hb dX11_sum_1 rfl (lv_at hl 1 rfl) ?_
      obtain ⟨y2, e1, h⟩ := bd_some h
      refine ct_V (ws' := fun _ => [oX11 q0 u0_0 u0_1 u0_2 u0_3 u0_4 u0_5 u0_6 (.ref q1) (.int v_length) (.int v_top) (.int y2.2.1) (.int y2.2.2) u0_12 u0_13 u0_14 u0_15 (.int v_isAsked) (.ref q2) u0_18 u0_19 u0_20 u0_21 u0_22 u0_23 u0_24 u0_25 u0_26 u0_27 u0_28 u0_29 u0_30 u0_31 u0_32 u0_33 u0_34 u0_35 u0_36 u0_37 u0_38 u0_39 u0_40, aB cy q1 nv_read v_read, aI cy q2 7 v_asked]) (st' := [.int y2.1]) (rest := []) E hS vlX11_167 (ih2 q0 q1 q2 u0_0 u0_1 u0_2 u0_3 u0_4 u0_5 u0_6 u0_12 u0_13 u0_14 u0_15 u0_18 u0_19 u0_20 u0_21 u0_22 u0_23 u0_24 u0_25 u0_26 u0_27 u0_28 u0_29 u0_30 u0_31 u0_32 u0_33 u0_34 u0_35 u0_36 u0_37 u0_38 u0_39 u0_40 v_length v_top v_at v_wrong v_isAsked nv_read v_read v_asked p1 y2 e1) [0, 1, 2] rfl rfl (fun _ => rfl) (fun _ => rfl) rfl rfl rfl rfl (Nat.le_of_ble_eq_true rfl) hl.1 (by rw [hRf]; omega) (by rw [hRl]; omega) ⟨Nat.zero_le _, Nat.zero_le _⟩ dX11_sum_2 rfl (fun H locs _ hS => ?_)
      refine lv_istore_n (lv' := [(2, .int y2.1), (0, .ref q0), (1, .int p1)]) hx hb dX11_sum_5 rfl hl (by decide) rfl (fun ls hl => ?_)
      have hL6 : ∀ (n : Nat) (x6_0 : Int32) (x6_1 : Int32) (x6_2 : Int32) (y6 : Int32 × Int32 × Int32) (H : Heap) (locs : List Loc) (ls : Array Slot), lp (fun x6 => X11_sum_s6 rec v_length v_top v_isAsked nv_read v_read v_asked p1 x6.1 x6.2.1 x6.2.2) n (x6_0, x6_1, x6_2) = some y6 → Sv D A s.heap [oX11 q0 u0_0 u0_1 u0_2 u0_3 u0_4 u0_5 u0_6 (.ref q1) (.int v_length) (.int v_top) (.int x6_1) (.int x6_2) u0_12 u0_13 u0_14 u0_15 (.int v_isAsked) (.ref q2) u0_18 u0_19 u0_20 u0_21 u0_22 u0_23 u0_24 u0_25 u0_26 u0_27 u0_28 u0_29 u0_30 u0_31 u0_32 u0_33 u0_34 u0_35 u0_36 u0_37 u0_38 u0_39 u0_40, aB cy q1 nv_read v_read, aI cy q2 7 v_asked] H locs → lv_has ls 5 [(0, .ref q0), (1, .int p1), (2, .int x6_0)] → ( ∀ (y6_0 : Int32) (y6_1 : Int32) (y6_2 : Int32), (y6_0, y6_1, y6_2) = y6 → ∀ (H : Heap) (locs : List Loc) (ls : Array Slot), Sv D A s.heap [oX11 q0 u0_0 u0_1 u0_2 u0_3 u0_4 u0_5 u0_6 (.ref q1) (.int v_length) (.int v_top) (.int y6_1) (.int y6_2) u0_12 u0_13 u0_14 u0_15 (.int v_isAsked) (.ref q2) u0_18 u0_19 u0_20 u0_21 u0_22 u0_23 u0_24 u0_25 u0_26 u0_27 u0_28 u0_29 u0_30 u0_31 u0_32 u0_33 u0_34 u0_35 u0_36 u0_37 u0_38 u0_39 u0_40, aB cy q1 nv_read v_read, aI cy q2 7 v_asked] H locs → lv_has ls 5 [(2, .int y6_0)] → W p l e R s m args below meth c H locs 0 0 Q (F0 m 82 ls [])) → W p l e R s m args below meth c H locs 0 0 Q (F0 m 6 ls []) := by
        intro n
        induction n with
        | zero =>
          intro x6_0 x6_1 x6_2 y6 H locs ls h
          exact lp_zero h
        | succ n ih6 =>
          intro x6_0 x6_1 x6_2 y6 H locs ls h hS hl hk6_0
          obtain ⟨z6, h, hz6a, hz6b⟩ := lp_succ h
          have h : X11_sum_s6 rec v_length v_top v_isAsked nv_read v_read v_asked p1 x6_0 x6_1 x6_2 = some z6 := h
          unfold X11_sum_s6 at h
          refine lv_aload_n hx hb dX11_sum_6 rfl (lv_at hl 0 rfl) ?_
          refine ct_V (ws' := fun _ => [oX11 q0 u0_0 u0_1 u0_2 u0_3 u0_4 u0_5 u0_6 (.ref q1) (.int v_length) (.int v_top) (.int x6_1) (.int x6_2) u0_12 u0_13 u0_14 u0_15 (.int v_isAsked) (.ref q2) u0_18 u0_19 u0_20 u0_21 u0_22 u0_23 u0_24 u0_25 u0_26 u0_27 u0_28 u0_29 u0_30 u0_31 u0_32 u0_33 u0_34 u0_35 u0_36 u0_37 u0_38 u0_39 u0_40, aB cy q1 nv_read v_read, aI cy q2 7 v_asked]) (st' := [.int (X11_fine x6_2)]) (rest := []) E hS vlX11_125 (c_X11_fine (l := l) (D := D) (cy := cy) (q0 := q0) (u0_0 := u0_0) (u0_1 := u0_1) (u0_2 := u0_2) (u0_3 := u0_3) (u0_4 := u0_4) (u0_5 := u0_5) (u0_6 := u0_6) (u0_7 := .ref q1) (u0_8 := .int v_length) (u0_9 := .int v_top) (u0_10 := .int x6_1) (u0_12 := u0_12) (u0_13 := u0_13) (u0_14 := u0_14) (u0_15 := u0_15) (u0_16 := .int v_isAsked) (u0_17 := .ref q2) (u0_18 := u0_18) (u0_19 := u0_19) (u0_20 := u0_20) (u0_21 := u0_21) (u0_22 := u0_22) (u0_23 := u0_23) (u0_24 := u0_24) (u0_25 := u0_25) (u0_26 := u0_26) (u0_27 := u0_27) (u0_28 := u0_28) (u0_29 := u0_29) (u0_30 := u0_30) (u0_31 := u0_31) (u0_32 := u0_32) (u0_33 := u0_33) (u0_34 := u0_34) (u0_35 := u0_35) (u0_36 := u0_36) (u0_37 := u0_37) (u0_38 := u0_38) (u0_39 := u0_39) (u0_40 := u0_40) (v_wrong := x6_2) (r := (X11_fine x6_2)) rfl) [0] rfl rfl (fun _ => rfl) (fun _ => rfl) rfl rfl rfl rfl (Nat.le_of_ble_eq_true rfl) hl.1 (by rw [hRf]; omega) (by rw [hRl]; omega) ⟨Nat.zero_le _, Nat.zero_le _⟩ dX11_sum_7 rfl (fun H locs _ hS => ?_)
          refine lv_if_eq (tgt := 82) hx hb dX11_sum_10 (by decide) (fun c2 => ?_) (fun c2 => ?_)
          · have h := it_pos c2 h
            exact hk6_0 x6_0 x6_1 x6_2 (hz6b _ (Option.some.inj h).symm)  H locs ls hS (lv_sub hl [2] rfl)
          · have h := it_neg c2 h
            refine lv_aload_n hx hb dX11_sum_13 rfl (lv_at hl 0 rfl) ?_
            obtain ⟨y14, e3, h⟩ := bd_some h
            refine ct_V (ws' := fun _ => [oX11 q0 u0_0 u0_1 u0_2 u0_3 u0_4 u0_5 u0_6 (.ref q1) (.int v_length) (.int v_top) (.int x6_1) (.int x6_2) u0_12 u0_13 u0_14 u0_15 (.int v_isAsked) (.ref q2) u0_18 u0_19 u0_20 u0_21 u0_22 u0_23 u0_24 u0_25 u0_26 u0_27 u0_28 u0_29 u0_30 u0_31 u0_32 u0_33 u0_34 u0_35 u0_36 u0_37 u0_38 u0_39 u0_40, aB cy q1 nv_read v_read, aI cy q2 7 v_asked]) (st' := [.int y14]) (rest := []) E hS vlX11_129 (c_X11_here (l := l) (D := D) (cy := cy) (q0 := q0) (q1 := q1) (u0_0 := u0_0) (u0_1 := u0_1) (u0_2 := u0_2) (u0_3 := u0_3) (u0_4 := u0_4) (u0_5 := u0_5) (u0_6 := u0_6) (u0_11 := .int x6_2) (u0_12 := u0_12) (u0_13 := u0_13) (u0_14 := u0_14) (u0_15 := u0_15) (u0_16 := .int v_isAsked) (u0_17 := .ref q2) (u0_18 := u0_18) (u0_19 := u0_19) (u0_20 := u0_20) (u0_21 := u0_21) (u0_22 := u0_22) (u0_23 := u0_23) (u0_24 := u0_24) (u0_25 := u0_25) (u0_26 := u0_26) (u0_27 := u0_27) (u0_28 := u0_28) (u0_29 := u0_29) (u0_30 := u0_30) (u0_31 := u0_31) (u0_32 := u0_32) (u0_33 := u0_33) (u0_34 := u0_34) (u0_35 := u0_35) (u0_36 := u0_36) (u0_37 := u0_37) (u0_38 := u0_38) (u0_39 := u0_39) (u0_40 := u0_40) (v_length := v_length) (v_top := v_top) (v_at := x6_1) (nv_read := nv_read) (v_read := v_read) (r := y14) e3) [0, 1] rfl rfl (fun _ => rfl) (fun _ => rfl) rfl rfl rfl rfl (Nat.le_of_ble_eq_true rfl) hl.1 (by rw [hRf]; omega) (by rw [hRl]; omega) ⟨Nat.zero_le _, Nat.zero_le _⟩ dX11_sum_14 rfl (fun H locs _ hS => ?_)
            refine lv_bipush (v := 43) hx hb dX11_sum_17 (by decide) ?_
            have hJ31 : ∀ (H : Heap) (locs : List Loc) (ls : Array Slot), X11_sum_k31 rec v_length v_top v_isAsked nv_read v_read v_asked p1 x6_0 x6_1 x6_2 = some z6 → Sv D A s.heap [oX11 q0 u0_0 u0_1 u0_2 u0_3 u0_4 u0_5 u0_6 (.ref q1) (.int v_length) (.int v_top) (.int x6_1) (.int x6_2) u0_12 u0_13 u0_14 u0_15 (.int v_isAsked) (.ref q2) u0_18 u0_19 u0_20 u0_21 u0_22 u0_23 u0_24 u0_25 u0_26 u0_27 u0_28 u0_29 u0_30 u0_31 u0_32 u0_33 u0_34 u0_35 u0_36 u0_37 u0_38 u0_39 u0_40, aB cy q1 nv_read v_read, aI cy q2 7 v_asked] H locs → lv_has ls 5 [(0, .ref q0), (1, .int p1), (2, .int x6_0)] → W p l e R s m args below meth c H locs 0 0 Q (F0 m 31 ls []) := by
              intro H locs ls h hS hl
              unfold X11_sum_k31 at h
              refine lv_aload_n hx hb dX11_sum_31 rfl (lv_at hl 0 rfl) ?_
              obtain ⟨y32, e4, h⟩ := bd_some h
              refine ct_V (ws' := fun _ => [oX11 q0 u0_0 u0_1 u0_2 u0_3 u0_4 u0_5 u0_6 (.ref q1) (.int v_length) (.int v_top) (.int x6_1) (.int x6_2) u0_12 u0_13 u0_14 u0_15 (.int v_isAsked) (.ref q2) u0_18 u0_19 u0_20 u0_21 u0_22 u0_23 u0_24 u0_25 u0_26 u0_27 u0_28 u0_29 u0_30 u0_31 u0_32 u0_33 u0_34 u0_35 u0_36 u0_37 u0_38 u0_39 u0_40, aB cy q1 nv_read v_read, aI cy q2 7 v_asked]) (st' := [.int y32]) (rest := []) E hS vlX11_129 (c_X11_here (l := l) (D := D) (cy := cy) (q0 := q0) (q1 := q1) (u0_0 := u0_0) (u0_1 := u0_1) (u0_2 := u0_2) (u0_3 := u0_3) (u0_4 := u0_4) (u0_5 := u0_5) (u0_6 := u0_6) (u0_11 := .int x6_2) (u0_12 := u0_12) (u0_13 := u0_13) (u0_14 := u0_14) (u0_15 := u0_15) (u0_16 := .int v_isAsked) (u0_17 := .ref q2) (u0_18 := u0_18) (u0_19 := u0_19) (u0_20 := u0_20) (u0_21 := u0_21) (u0_22 := u0_22) (u0_23 := u0_23) (u0_24 := u0_24) (u0_25 := u0_25) (u0_26 := u0_26) (u0_27 := u0_27) (u0_28 := u0_28) (u0_29 := u0_29) (u0_30 := u0_30) (u0_31 := u0_31) (u0_32 := u0_32) (u0_33 := u0_33) (u0_34 := u0_34) (u0_35 := u0_35) (u0_36 := u0_36) (u0_37 := u0_37) (u0_38 := u0_38) (u0_39 := u0_39) (u0_40 := u0_40) (v_length := v_length) (v_top := v_top) (v_at := x6_1) (nv_read := nv_read) (v_read := v_read) (r := y32) e4) [0, 1] rfl rfl (fun _ => rfl) (fun _ => rfl) rfl rfl rfl rfl (Nat.le_of_ble_eq_true rfl) hl.1 (by rw [hRf]; omega) (by rw [hRl]; omega) ⟨Nat.zero_le _, Nat.zero_le _⟩ dX11_sum_32 rfl (fun H locs _ hS => ?_)
              refine lv_bipush (v := 43) hx hb dX11_sum_35 (by decide) ?_
              have hJ45 : ∀ (s45_0 : Int32) (ls : Array Slot), s45_0 = (if y32 = (43 : Int32) then (1 : Int32) else (0 : Int32)) → lv_has ls 5 [(0, .ref q0), (1, .int p1), (2, .int x6_0)] → W p l e R s m args below meth c H locs 0 0 Q (F0 m 45 ls [.int s45_0]) := by
                intro s45_0 ls es45_0 hl
                subst es45_0
                refine lv_istore_n (lv' := [(3, .int (if y32 = (43 : Int32) then (1 : Int32) else (0 : Int32))), (0, .ref q0), (1, .int p1), (2, .int x6_0)]) hx hb dX11_sum_45 rfl hl (by decide) rfl (fun ls hl => ?_)
                refine lv_aload_n hx hb dX11_sum_46 rfl (lv_at hl 1 rfl) ?_
                refine lv_dup hx hb dX11_sum_47 rfl ?_
                refine r_get E frX11_115 hS 0 rfl rfl dX11_sum_48 ?_
                refine lv_iconst (v := 1) hx hb dX11_sum_51 (by decide) ?_
                refine lv_iadd hx hb dX11_sum_52 ?_
                refine r_put (ws' := [oX11 q0 u0_0 u0_1 u0_2 u0_3 u0_4 u0_5 u0_6 (.ref q1) (.int v_length) (.int v_top) (.int (x6_1 + (1 : Int32))) (.int x6_2) u0_12 u0_13 u0_14 u0_15 (.int v_isAsked) (.ref q2) u0_18 u0_19 u0_20 u0_21 u0_22 u0_23 u0_24 u0_25 u0_26 u0_27 u0_28 u0_29 u0_30 u0_31 u0_32 u0_33 u0_34 u0_35 u0_36 u0_37 u0_38 u0_39 u0_40, aB cy q1 nv_read v_read, aI cy q2 7 v_asked]) E frX11_115 hS 0 rfl (Nat.le_of_ble_eq_true rfl) rfl rfl rfl rfl dX11_sum_53 (fun H locs hS => ?_)
                refine lv_aload_n hx hb dX11_sum_56 rfl (lv_at hl 1 rfl) ?_
                refine lv_iload_n hx hb dX11_sum_57 rfl (lv_at hl 2 rfl) ?_
                obtain ⟨y58, e5, h⟩ := bd_some h
                refine ct_V (ws' := fun _ => [oX11 q0 u0_0 u0_1 u0_2 u0_3 u0_4 u0_5 u0_6 (.ref q1) (.int v_length) (.int v_top) (.int y58.2.1) (.int y58.2.2) u0_12 u0_13 u0_14 u0_15 (.int v_isAsked) (.ref q2) u0_18 u0_19 u0_20 u0_21 u0_22 u0_23 u0_24 u0_25 u0_26 u0_27 u0_28 u0_29 u0_30 u0_31 u0_32 u0_33 u0_34 u0_35 u0_36 u0_37 u0_38 u0_39 u0_40, aB cy q1 nv_read v_read, aI cy q2 7 v_asked]) (st' := [.int y58.1]) (rest := []) E hS vlX11_167 (ih2 q0 q1 q2 u0_0 u0_1 u0_2 u0_3 u0_4 u0_5 u0_6 u0_12 u0_13 u0_14 u0_15 u0_18 u0_19 u0_20 u0_21 u0_22 u0_23 u0_24 u0_25 u0_26 u0_27 u0_28 u0_29 u0_30 u0_31 u0_32 u0_33 u0_34 u0_35 u0_36 u0_37 u0_38 u0_39 u0_40 v_length v_top (x6_1 + (1 : Int32)) x6_2 v_isAsked nv_read v_read v_asked p1 y58 e5) [0, 1, 2] rfl rfl (fun _ => rfl) (fun _ => rfl) rfl rfl rfl rfl (Nat.le_of_ble_eq_true rfl) hl.1 (by rw [hRf]; omega) (by rw [hRl]; omega) ⟨Nat.zero_le _, Nat.zero_le _⟩ dX11_sum_58 rfl (fun H locs _ hS => ?_)
                refine lv_istore (lv' := [(4, .int y58.1), (3, .int (if y32 = (43 : Int32) then (1 : Int32) else (0 : Int32))), (0, .ref q0), (1, .int p1), (2, .int x6_0)]) hx hb dX11_sum_61 hl (by decide) rfl (fun ls hl => ?_)
                refine lv_iload_n hx hb dX11_sum_63 rfl (lv_at hl 1 rfl) ?_
                have hJ78 : ∀ (s78_0 : Int32) (ls : Array Slot), s78_0 = (if (if y32 = (43 : Int32) then (1 : Int32) else (0 : Int32)) = 0 then (x6_0 - y58.1) else (x6_0 + y58.1)) → lv_has ls 5 [(0, .ref q0), (1, .int p1)] → W p l e R s m args below meth c H locs 0 0 Q (F0 m 78 ls [.int s78_0]) := by
                  intro s78_0 ls es78_0 hl
                  subst es78_0
                  refine lv_istore_n (lv' := [(2, .int (if (if y32 = (43 : Int32) then (1 : Int32) else (0 : Int32)) = 0 then (x6_0 - y58.1) else (x6_0 + y58.1))), (0, .ref q0), (1, .int p1)]) hx hb dX11_sum_78 rfl hl (by decide) rfl (fun ls hl => ?_)
                  refine lv_goto (tgt := 6) hx hb dX11_sum_79 (by decide) ?_
                  exact ih6 (if (if y32 = (43 : Int32) then (1 : Int32) else (0 : Int32)) = 0 then (x6_0 - y58.1) else (x6_0 + y58.1)) y58.2.1 y58.2.2 y6  H locs ls (hz6a _ (Option.some.inj h).symm) hS (lv_sub hl [1, 2, 0] rfl) hk6_0
                refine lv_if_eq (tgt := 74) hx hb dX11_sum_64 (by decide) (fun c6 => ?_) (fun c6 => ?_)
                · refine lv_iload_n hx hb dX11_sum_74 rfl (lv_at hl 4 rfl) ?_
                  refine lv_iload hx hb dX11_sum_75 (lv_at hl 0 rfl) ?_
                  refine lv_isub hx hb dX11_sum_77 ?_
                  exact hJ78 _ ls ((if_pos c6)).symm (lv_sub hl [2, 3] rfl)
                · refine lv_iload_n hx hb dX11_sum_67 rfl (lv_at hl 4 rfl) ?_
                  refine lv_iload hx hb dX11_sum_68 (lv_at hl 0 rfl) ?_
                  refine lv_iadd hx hb dX11_sum_70 ?_
                  refine lv_goto (tgt := 78) hx hb dX11_sum_71 (by decide) ?_
                  exact hJ78 _ ls ((if_neg c6)).symm (lv_sub hl [2, 3] rfl)
              refine lv_icmp_ne (tgt := 44) hx hb dX11_sum_37 (by decide) (fun c7 => ?_) (fun c7 => ?_)
              · refine lv_iconst (v := 0) hx hb dX11_sum_44 (by decide) ?_
                exact hJ45 _ ls ((if_neg c7)).symm (lv_sub hl [0, 1, 2] rfl)
              · refine lv_iconst (v := 1) hx hb dX11_sum_40 (by decide) ?_
                refine lv_goto (tgt := 45) hx hb dX11_sum_41 (by decide) ?_
                exact hJ45 _ ls ((if_pos c7)).symm (lv_sub hl [0, 1, 2] rfl)
            refine lv_icmp_eq (tgt := 31) hx hb dX11_sum_19 (by decide) (fun c8 => ?_) (fun c8 => ?_)
            · have h := it_pos c8 h
              exact hJ31   H locs ls h hS (lv_sub hl [0, 1, 2] rfl)
            · have h := it_neg c8 h
              refine lv_aload_n hx hb dX11_sum_22 rfl (lv_at hl 0 rfl) ?_
              obtain ⟨y23, e9, h⟩ := bd_some h
              refine ct_V (ws' := fun _ => [oX11 q0 u0_0 u0_1 u0_2 u0_3 u0_4 u0_5 u0_6 (.ref q1) (.int v_length) (.int v_top) (.int x6_1) (.int x6_2) u0_12 u0_13 u0_14 u0_15 (.int v_isAsked) (.ref q2) u0_18 u0_19 u0_20 u0_21 u0_22 u0_23 u0_24 u0_25 u0_26 u0_27 u0_28 u0_29 u0_30 u0_31 u0_32 u0_33 u0_34 u0_35 u0_36 u0_37 u0_38 u0_39 u0_40, aB cy q1 nv_read v_read, aI cy q2 7 v_asked]) (st' := [.int y23]) (rest := []) E hS vlX11_129 (c_X11_here (l := l) (D := D) (cy := cy) (q0 := q0) (q1 := q1) (u0_0 := u0_0) (u0_1 := u0_1) (u0_2 := u0_2) (u0_3 := u0_3) (u0_4 := u0_4) (u0_5 := u0_5) (u0_6 := u0_6) (u0_11 := .int x6_2) (u0_12 := u0_12) (u0_13 := u0_13) (u0_14 := u0_14) (u0_15 := u0_15) (u0_16 := .int v_isAsked) (u0_17 := .ref q2) (u0_18 := u0_18) (u0_19 := u0_19) (u0_20 := u0_20) (u0_21 := u0_21) (u0_22 := u0_22) (u0_23 := u0_23) (u0_24 := u0_24) (u0_25 := u0_25) (u0_26 := u0_26) (u0_27 := u0_27) (u0_28 := u0_28) (u0_29 := u0_29) (u0_30 := u0_30) (u0_31 := u0_31) (u0_32 := u0_32) (u0_33 := u0_33) (u0_34 := u0_34) (u0_35 := u0_35) (u0_36 := u0_36) (u0_37 := u0_37) (u0_38 := u0_38) (u0_39 := u0_39) (u0_40 := u0_40) (v_length := v_length) (v_top := v_top) (v_at := x6_1) (nv_read := nv_read) (v_read := v_read) (r := y23) e9) [0, 1] rfl rfl (fun _ => rfl) (fun _ => rfl) rfl rfl rfl rfl (Nat.le_of_ble_eq_true rfl) hl.1 (by rw [hRf]; omega) (by rw [hRl]; omega) ⟨Nat.zero_le _, Nat.zero_le _⟩ dX11_sum_23 rfl (fun H locs _ hS => ?_)
              refine lv_bipush (v := 45) hx hb dX11_sum_26 (by decide) ?_
              refine lv_icmp_ne (tgt := 82) hx hb dX11_sum_28 (by decide) (fun c10 => ?_) (fun c10 => ?_)
              · have h := it_neg c10 h
                exact hk6_0 x6_0 x6_1 x6_2 (hz6b _ (Option.some.inj h).symm)  H locs ls hS (lv_sub hl [2] rfl)
              · have h := it_pos c10 h
                exact hJ31   H locs ls h hS (lv_sub hl [0, 1, 2] rfl)
      obtain ⟨y6, e6, h⟩ := bd_some h
      refine hL6 1000 y2.1 y2.2.1 y2.2.2 y6  H locs ls e6 hS (lv_sub hl [1, 2, 0] rfl) (fun y6_0 y6_1 y6_2 ey6 H locs ls hS hl => ?_)
      subst ey6
      have h := un_r h
      have h := un_r h
      refine lv_iload_n hx hb dX11_sum_82 rfl (lv_at hl 0 rfl) ?_
      obtain rfl := Option.some.inj h
      exact rt_i E hQ (.null) hS dX11_sum_83
    · intro q0 q1 q2 u0_0 u0_1 u0_2 u0_3 u0_4 u0_5 u0_6 u0_12 u0_13 u0_14 u0_15 u0_18 u0_19 u0_20 u0_21 u0_22 u0_23 u0_24 u0_25 u0_26 u0_27 u0_28 u0_29 u0_30 u0_31 u0_32 u0_33 u0_34 u0_35 u0_36 u0_37 u0_38 u0_39 u0_40 v_length v_top v_at v_wrong v_isAsked nv_read v_read v_asked p1 r h
      rw [X11_expr_e2] at h
      generalize X11_expr n = rec at ih0 ih1 ih2 ih3 h
      unfold X11_expr_b2 at h
      refine Ct.mk kX11_product (by decide +kernel) (Nat.le_of_ble_eq_true rfl) ?_
      intro p e s m below meth c A ls args R Q hRf hRl hQ E H locs hS hl
      have hx := E.x
      have hb := E.b
      have hl : lv_has ls 5 [(0, .ref q0), (1, .int p1)] := hl
      refine lv_aload_n hx hb dX11_product_0 rfl (lv_at hl 0 rfl) ?_
      refine lv_iload_n hx hb dX11_product_1 rfl (lv_at hl 1 rfl) ?_
      obtain ⟨y2, e1, h⟩ := bd_some h
      refine ct_V (ws' := fun _ => [oX11 q0 u0_0 u0_1 u0_2 u0_3 u0_4 u0_5 u0_6 (.ref q1) (.int v_length) (.int v_top) (.int y2.2.1) (.int y2.2.2) u0_12 u0_13 u0_14 u0_15 (.int v_isAsked) (.ref q2) u0_18 u0_19 u0_20 u0_21 u0_22 u0_23 u0_24 u0_25 u0_26 u0_27 u0_28 u0_29 u0_30 u0_31 u0_32 u0_33 u0_34 u0_35 u0_36 u0_37 u0_38 u0_39 u0_40, aB cy q1 nv_read v_read, aI cy q2 7 v_asked]) (st' := [.int y2.1]) (rest := []) E hS vlX11_170 (ih3 q0 q1 q2 u0_0 u0_1 u0_2 u0_3 u0_4 u0_5 u0_6 u0_12 u0_13 u0_14 u0_15 u0_18 u0_19 u0_20 u0_21 u0_22 u0_23 u0_24 u0_25 u0_26 u0_27 u0_28 u0_29 u0_30 u0_31 u0_32 u0_33 u0_34 u0_35 u0_36 u0_37 u0_38 u0_39 u0_40 v_length v_top v_at v_wrong v_isAsked nv_read v_read v_asked p1 y2 e1) [0, 1, 2] rfl rfl (fun _ => rfl) (fun _ => rfl) rfl rfl rfl rfl (Nat.le_of_ble_eq_true rfl) hl.1 (by rw [hRf]; omega) (by rw [hRl]; omega) ⟨Nat.zero_le _, Nat.zero_le _⟩ dX11_product_2 rfl (fun H locs _ hS => ?_)
      refine lv_istore_n (lv' := [(2, .int y2.1), (0, .ref q0), (1, .int p1)]) hx hb dX11_product_5 rfl hl (by decide) rfl (fun ls hl => ?_)
      have hL6 : ∀ (n : Nat) (x6_0 : Int32) (x6_1 : Int32) (x6_2 : Int32) (y6 : Int32 × Int32 × Int32) (H : Heap) (locs : List Loc) (ls : Array Slot), lp (fun x6 => X11_product_s6 rec v_length v_top v_isAsked nv_read v_read v_asked p1 x6.1 x6.2.1 x6.2.2) n (x6_0, x6_1, x6_2) = some y6 → Sv D A s.heap [oX11 q0 u0_0 u0_1 u0_2 u0_3 u0_4 u0_5 u0_6 (.ref q1) (.int v_length) (.int v_top) (.int x6_1) (.int x6_2) u0_12 u0_13 u0_14 u0_15 (.int v_isAsked) (.ref q2) u0_18 u0_19 u0_20 u0_21 u0_22 u0_23 u0_24 u0_25 u0_26 u0_27 u0_28 u0_29 u0_30 u0_31 u0_32 u0_33 u0_34 u0_35 u0_36 u0_37 u0_38 u0_39 u0_40, aB cy q1 nv_read v_read, aI cy q2 7 v_asked] H locs → lv_has ls 5 [(0, .ref q0), (1, .int p1), (2, .int x6_0)] → ( ∀ (y6_0 : Int32) (y6_1 : Int32) (y6_2 : Int32), (y6_0, y6_1, y6_2) = y6 → ∀ (H : Heap) (locs : List Loc) (ls : Array Slot), Sv D A s.heap [oX11 q0 u0_0 u0_1 u0_2 u0_3 u0_4 u0_5 u0_6 (.ref q1) (.int v_length) (.int v_top) (.int y6_1) (.int y6_2) u0_12 u0_13 u0_14 u0_15 (.int v_isAsked) (.ref q2) u0_18 u0_19 u0_20 u0_21 u0_22 u0_23 u0_24 u0_25 u0_26 u0_27 u0_28 u0_29 u0_30 u0_31 u0_32 u0_33 u0_34 u0_35 u0_36 u0_37 u0_38 u0_39 u0_40, aB cy q1 nv_read v_read, aI cy q2 7 v_asked] H locs → lv_has ls 5 [(2, .int y6_0)] → W p l e R s m args below meth c H locs 0 0 Q (F0 m 91 ls [])) → W p l e R s m args below meth c H locs 0 0 Q (F0 m 6 ls []) := by
        intro n
        induction n with
        | zero =>
          intro x6_0 x6_1 x6_2 y6 H locs ls h
          exact lp_zero h
        | succ n ih6 =>
          intro x6_0 x6_1 x6_2 y6 H locs ls h hS hl hk6_0
          obtain ⟨z6, h, hz6a, hz6b⟩ := lp_succ h
          have h : X11_product_s6 rec v_length v_top v_isAsked nv_read v_read v_asked p1 x6_0 x6_1 x6_2 = some z6 := h
          unfold X11_product_s6 at h
          refine lv_aload_n hx hb dX11_product_6 rfl (lv_at hl 0 rfl) ?_
          refine ct_V (ws' := fun _ => [oX11 q0 u0_0 u0_1 u0_2 u0_3 u0_4 u0_5 u0_6 (.ref q1) (.int v_length) (.int v_top) (.int x6_1) (.int x6_2) u0_12 u0_13 u0_14 u0_15 (.int v_isAsked) (.ref q2) u0_18 u0_19 u0_20 u0_21 u0_22 u0_23 u0_24 u0_25 u0_26 u0_27 u0_28 u0_29 u0_30 u0_31 u0_32 u0_33 u0_34 u0_35 u0_36 u0_37 u0_38 u0_39 u0_40, aB cy q1 nv_read v_read, aI cy q2 7 v_asked]) (st' := [.int (X11_fine x6_2)]) (rest := []) E hS vlX11_125 (c_X11_fine (l := l) (D := D) (cy := cy) (q0 := q0) (u0_0 := u0_0) (u0_1 := u0_1) (u0_2 := u0_2) (u0_3 := u0_3) (u0_4 := u0_4) (u0_5 := u0_5) (u0_6 := u0_6) (u0_7 := .ref q1) (u0_8 := .int v_length) (u0_9 := .int v_top) (u0_10 := .int x6_1) (u0_12 := u0_12) (u0_13 := u0_13) (u0_14 := u0_14) (u0_15 := u0_15) (u0_16 := .int v_isAsked) (u0_17 := .ref q2) (u0_18 := u0_18) (u0_19 := u0_19) (u0_20 := u0_20) (u0_21 := u0_21) (u0_22 := u0_22) (u0_23 := u0_23) (u0_24 := u0_24) (u0_25 := u0_25) (u0_26 := u0_26) (u0_27 := u0_27) (u0_28 := u0_28) (u0_29 := u0_29) (u0_30 := u0_30) (u0_31 := u0_31) (u0_32 := u0_32) (u0_33 := u0_33) (u0_34 := u0_34) (u0_35 := u0_35) (u0_36 := u0_36) (u0_37 := u0_37) (u0_38 := u0_38) (u0_39 := u0_39) (u0_40 := u0_40) (v_wrong := x6_2) (r := (X11_fine x6_2)) rfl) [0] rfl rfl (fun _ => rfl) (fun _ => rfl) rfl rfl rfl rfl (Nat.le_of_ble_eq_true rfl) hl.1 (by rw [hRf]; omega) (by rw [hRl]; omega) ⟨Nat.zero_le _, Nat.zero_le _⟩ dX11_product_7 rfl (fun H locs _ hS => ?_)
          refine lv_if_eq (tgt := 91) hx hb dX11_product_10 (by decide) (fun c2 => ?_) (fun c2 => ?_)
          · have h := it_pos c2 h
            exact hk6_0 x6_0 x6_1 x6_2 (hz6b _ (Option.some.inj h).symm)  H locs ls hS (lv_sub hl [2] rfl)
          · have h := it_neg c2 h
            refine lv_aload_n hx hb dX11_product_13 rfl (lv_at hl 0 rfl) ?_
            obtain ⟨y14, e3, h⟩ := bd_some h
            refine ct_V (ws' := fun _ => [oX11 q0 u0_0 u0_1 u0_2 u0_3 u0_4 u0_5 u0_6 (.ref q1) (.int v_length) (.int v_top) (.int x6_1) (.int x6_2) u0_12 u0_13 u0_14 u0_15 (.int v_isAsked) (.ref q2) u0_18 u0_19 u0_20 u0_21 u0_22 u0_23 u0_24 u0_25 u0_26 u0_27 u0_28 u0_29 u0_30 u0_31 u0_32 u0_33 u0_34 u0_35 u0_36 u0_37 u0_38 u0_39 u0_40, aB cy q1 nv_read v_read, aI cy q2 7 v_asked]) (st' := [.int y14]) (rest := []) E hS vlX11_129 (c_X11_here (l := l) (D := D) (cy := cy) (q0 := q0) (q1 := q1) (u0_0 := u0_0) (u0_1 := u0_1) (u0_2 := u0_2) (u0_3 := u0_3) (u0_4 := u0_4) (u0_5 := u0_5) (u0_6 := u0_6) (u0_11 := .int x6_2) (u0_12 := u0_12) (u0_13 := u0_13) (u0_14 := u0_14) (u0_15 := u0_15) (u0_16 := .int v_isAsked) (u0_17 := .ref q2) (u0_18 := u0_18) (u0_19 := u0_19) (u0_20 := u0_20) (u0_21 := u0_21) (u0_22 := u0_22) (u0_23 := u0_23) (u0_24 := u0_24) (u0_25 := u0_25) (u0_26 := u0_26) (u0_27 := u0_27) (u0_28 := u0_28) (u0_29 := u0_29) (u0_30 := u0_30) (u0_31 := u0_31) (u0_32 := u0_32) (u0_33 := u0_33) (u0_34 := u0_34) (u0_35 := u0_35) (u0_36 := u0_36) (u0_37 := u0_37) (u0_38 := u0_38) (u0_39 := u0_39) (u0_40 := u0_40) (v_length := v_length) (v_top := v_top) (v_at := x6_1) (nv_read := nv_read) (v_read := v_read) (r := y14) e3) [0, 1] rfl rfl (fun _ => rfl) (fun _ => rfl) rfl rfl rfl rfl (Nat.le_of_ble_eq_true rfl) hl.1 (by rw [hRf]; omega) (by rw [hRl]; omega) ⟨Nat.zero_le _, Nat.zero_le _⟩ dX11_product_14 rfl (fun H locs _ hS => ?_)
            refine lv_bipush (v := 42) hx hb dX11_product_17 (by decide) ?_
            have hJ31 : ∀ (H : Heap) (locs : List Loc) (ls : Array Slot), X11_product_k31 rec v_length v_top v_isAsked nv_read v_read v_asked p1 x6_0 x6_1 x6_2 = some z6 → Sv D A s.heap [oX11 q0 u0_0 u0_1 u0_2 u0_3 u0_4 u0_5 u0_6 (.ref q1) (.int v_length) (.int v_top) (.int x6_1) (.int x6_2) u0_12 u0_13 u0_14 u0_15 (.int v_isAsked) (.ref q2) u0_18 u0_19 u0_20 u0_21 u0_22 u0_23 u0_24 u0_25 u0_26 u0_27 u0_28 u0_29 u0_30 u0_31 u0_32 u0_33 u0_34 u0_35 u0_36 u0_37 u0_38 u0_39 u0_40, aB cy q1 nv_read v_read, aI cy q2 7 v_asked] H locs → lv_has ls 5 [(0, .ref q0), (1, .int p1), (2, .int x6_0)] → W p l e R s m args below meth c H locs 0 0 Q (F0 m 31 ls []) := by
              intro H locs ls h hS hl
              unfold X11_product_k31 at h
              refine lv_aload_n hx hb dX11_product_31 rfl (lv_at hl 0 rfl) ?_
              obtain ⟨y32, e4, h⟩ := bd_some h
              refine ct_V (ws' := fun _ => [oX11 q0 u0_0 u0_1 u0_2 u0_3 u0_4 u0_5 u0_6 (.ref q1) (.int v_length) (.int v_top) (.int x6_1) (.int x6_2) u0_12 u0_13 u0_14 u0_15 (.int v_isAsked) (.ref q2) u0_18 u0_19 u0_20 u0_21 u0_22 u0_23 u0_24 u0_25 u0_26 u0_27 u0_28 u0_29 u0_30 u0_31 u0_32 u0_33 u0_34 u0_35 u0_36 u0_37 u0_38 u0_39 u0_40, aB cy q1 nv_read v_read, aI cy q2 7 v_asked]) (st' := [.int y32]) (rest := []) E hS vlX11_129 (c_X11_here (l := l) (D := D) (cy := cy) (q0 := q0) (q1 := q1) (u0_0 := u0_0) (u0_1 := u0_1) (u0_2 := u0_2) (u0_3 := u0_3) (u0_4 := u0_4) (u0_5 := u0_5) (u0_6 := u0_6) (u0_11 := .int x6_2) (u0_12 := u0_12) (u0_13 := u0_13) (u0_14 := u0_14) (u0_15 := u0_15) (u0_16 := .int v_isAsked) (u0_17 := .ref q2) (u0_18 := u0_18) (u0_19 := u0_19) (u0_20 := u0_20) (u0_21 := u0_21) (u0_22 := u0_22) (u0_23 := u0_23) (u0_24 := u0_24) (u0_25 := u0_25) (u0_26 := u0_26) (u0_27 := u0_27) (u0_28 := u0_28) (u0_29 := u0_29) (u0_30 := u0_30) (u0_31 := u0_31) (u0_32 := u0_32) (u0_33 := u0_33) (u0_34 := u0_34) (u0_35 := u0_35) (u0_36 := u0_36) (u0_37 := u0_37) (u0_38 := u0_38) (u0_39 := u0_39) (u0_40 := u0_40) (v_length := v_length) (v_top := v_top) (v_at := x6_1) (nv_read := nv_read) (v_read := v_read) (r := y32) e4) [0, 1] rfl rfl (fun _ => rfl) (fun _ => rfl) rfl rfl rfl rfl (Nat.le_of_ble_eq_true rfl) hl.1 (by rw [hRf]; omega) (by rw [hRl]; omega) ⟨Nat.zero_le _, Nat.zero_le _⟩ dX11_product_32 rfl (fun H locs _ hS => ?_)
              refine lv_bipush (v := 42) hx hb dX11_product_35 (by decide) ?_
              have hJ45 : ∀ (s45_0 : Int32) (ls : Array Slot), s45_0 = (if y32 = (42 : Int32) then (1 : Int32) else (0 : Int32)) → lv_has ls 5 [(0, .ref q0), (1, .int p1), (2, .int x6_0)] → W p l e R s m args below meth c H locs 0 0 Q (F0 m 45 ls [.int s45_0]) := by
                intro s45_0 ls es45_0 hl
                subst es45_0
                refine lv_istore_n (lv' := [(3, .int (if y32 = (42 : Int32) then (1 : Int32) else (0 : Int32))), (0, .ref q0), (1, .int p1), (2, .int x6_0)]) hx hb dX11_product_45 rfl hl (by decide) rfl (fun ls hl => ?_)
                refine lv_aload_n hx hb dX11_product_46 rfl (lv_at hl 1 rfl) ?_
                refine lv_dup hx hb dX11_product_47 rfl ?_
                refine r_get E frX11_115 hS 0 rfl rfl dX11_product_48 ?_
                refine lv_iconst (v := 1) hx hb dX11_product_51 (by decide) ?_
                refine lv_iadd hx hb dX11_product_52 ?_
                refine r_put (ws' := [oX11 q0 u0_0 u0_1 u0_2 u0_3 u0_4 u0_5 u0_6 (.ref q1) (.int v_length) (.int v_top) (.int (x6_1 + (1 : Int32))) (.int x6_2) u0_12 u0_13 u0_14 u0_15 (.int v_isAsked) (.ref q2) u0_18 u0_19 u0_20 u0_21 u0_22 u0_23 u0_24 u0_25 u0_26 u0_27 u0_28 u0_29 u0_30 u0_31 u0_32 u0_33 u0_34 u0_35 u0_36 u0_37 u0_38 u0_39 u0_40, aB cy q1 nv_read v_read, aI cy q2 7 v_asked]) E frX11_115 hS 0 rfl (Nat.le_of_ble_eq_true rfl) rfl rfl rfl rfl dX11_product_53 (fun H locs hS => ?_)
                refine lv_aload_n hx hb dX11_product_56 rfl (lv_at hl 1 rfl) ?_
                refine lv_iload_n hx hb dX11_product_57 rfl (lv_at hl 2 rfl) ?_
                obtain ⟨y58, e5, h⟩ := bd_some h
                refine ct_V (ws' := fun _ => [oX11 q0 u0_0 u0_1 u0_2 u0_3 u0_4 u0_5 u0_6 (.ref q1) (.int v_length) (.int v_top) (.int y58.2.1) (.int y58.2.2) u0_12 u0_13 u0_14 u0_15 (.int v_isAsked) (.ref q2) u0_18 u0_19 u0_20 u0_21 u0_22 u0_23 u0_24 u0_25 u0_26 u0_27 u0_28 u0_29 u0_30 u0_31 u0_32 u0_33 u0_34 u0_35 u0_36 u0_37 u0_38 u0_39 u0_40, aB cy q1 nv_read v_read, aI cy q2 7 v_asked]) (st' := [.int y58.1]) (rest := []) E hS vlX11_170 (ih3 q0 q1 q2 u0_0 u0_1 u0_2 u0_3 u0_4 u0_5 u0_6 u0_12 u0_13 u0_14 u0_15 u0_18 u0_19 u0_20 u0_21 u0_22 u0_23 u0_24 u0_25 u0_26 u0_27 u0_28 u0_29 u0_30 u0_31 u0_32 u0_33 u0_34 u0_35 u0_36 u0_37 u0_38 u0_39 u0_40 v_length v_top (x6_1 + (1 : Int32)) x6_2 v_isAsked nv_read v_read v_asked p1 y58 e5) [0, 1, 2] rfl rfl (fun _ => rfl) (fun _ => rfl) rfl rfl rfl rfl (Nat.le_of_ble_eq_true rfl) hl.1 (by rw [hRf]; omega) (by rw [hRl]; omega) ⟨Nat.zero_le _, Nat.zero_le _⟩ dX11_product_58 rfl (fun H locs _ hS => ?_)
                refine lv_istore (lv' := [(4, .int y58.1), (3, .int (if y32 = (42 : Int32) then (1 : Int32) else (0 : Int32))), (0, .ref q0), (1, .int p1), (2, .int x6_0)]) hx hb dX11_product_61 hl (by decide) rfl (fun ls hl => ?_)
                refine lv_iload_n hx hb dX11_product_63 rfl (lv_at hl 1 rfl) ?_
                refine lv_if_eq (tgt := 74) hx hb dX11_product_64 (by decide) (fun c6 => ?_) (fun c6 => ?_)
                · have h := it_pos c6 h
                  refine lv_iload hx hb dX11_product_74 (lv_at hl 0 rfl) ?_
                  refine lv_if_ne (tgt := 83) hx hb dX11_product_76 (by decide) (fun c7 => ?_) (fun c7 => ?_)
                  · have h := it_neg c7 h
                    refine lv_iload_n hx hb dX11_product_83 rfl (lv_at hl 4 rfl) ?_
                    refine lv_iload hx hb dX11_product_84 (lv_at hl 0 rfl) ?_
                    obtain ⟨g8, h⟩ := gz_some h
                    refine lv_idiv hx hb dX11_product_86 g8 ?_
                    refine lv_istore_n (lv' := [(2, .int (x6_0 / y58.1)), (4, .int y58.1), (3, .int (if y32 = (42 : Int32) then (1 : Int32) else (0 : Int32))), (0, .ref q0), (1, .int p1)]) hx hb dX11_product_87 rfl hl (by decide) rfl (fun ls hl => ?_)
                    refine lv_goto (tgt := 6) hx hb dX11_product_88 (by decide) ?_
                    exact ih6 (x6_0 / y58.1) y58.2.1 y58.2.2 y6  H locs ls (hz6a _ (Option.some.inj h).symm) hS (lv_sub hl [3, 4, 0] rfl) hk6_0
                  · have h := it_pos c7 h
                    refine lv_iconst (v := 0) hx hb dX11_product_79 (by decide) ?_
                    refine lv_goto (tgt := 87) hx hb dX11_product_80 (by decide) ?_
                    refine lv_istore_n (lv' := [(2, .int (0 : Int32)), (4, .int y58.1), (3, .int (if y32 = (42 : Int32) then (1 : Int32) else (0 : Int32))), (0, .ref q0), (1, .int p1)]) hx hb dX11_product_87 rfl hl (by decide) rfl (fun ls hl => ?_)
                    refine lv_goto (tgt := 6) hx hb dX11_product_88 (by decide) ?_
                    exact ih6 (0 : Int32) y58.2.1 y58.2.2 y6  H locs ls (hz6a _ (Option.some.inj h).symm) hS (lv_sub hl [3, 4, 0] rfl) hk6_0
                · have h := it_neg c6 h
                  refine lv_iload_n hx hb dX11_product_67 rfl (lv_at hl 4 rfl) ?_
                  refine lv_iload hx hb dX11_product_68 (lv_at hl 0 rfl) ?_
                  refine lv_imul hx hb dX11_product_70 ?_
                  refine lv_goto (tgt := 87) hx hb dX11_product_71 (by decide) ?_
                  refine lv_istore_n (lv' := [(2, .int (x6_0 * y58.1)), (4, .int y58.1), (3, .int (if y32 = (42 : Int32) then (1 : Int32) else (0 : Int32))), (0, .ref q0), (1, .int p1)]) hx hb dX11_product_87 rfl hl (by decide) rfl (fun ls hl => ?_)
                  refine lv_goto (tgt := 6) hx hb dX11_product_88 (by decide) ?_
                  exact ih6 (x6_0 * y58.1) y58.2.1 y58.2.2 y6  H locs ls (hz6a _ (Option.some.inj h).symm) hS (lv_sub hl [3, 4, 0] rfl) hk6_0
              refine lv_icmp_ne (tgt := 44) hx hb dX11_product_37 (by decide) (fun c9 => ?_) (fun c9 => ?_)
              · refine lv_iconst (v := 0) hx hb dX11_product_44 (by decide) ?_
                exact hJ45 _ ls ((if_neg c9)).symm (lv_sub hl [0, 1, 2] rfl)
              · refine lv_iconst (v := 1) hx hb dX11_product_40 (by decide) ?_
                refine lv_goto (tgt := 45) hx hb dX11_product_41 (by decide) ?_
                exact hJ45 _ ls ((if_pos c9)).symm (lv_sub hl [0, 1, 2] rfl)
            refine lv_icmp_eq (tgt := 31) hx hb dX11_product_19 (by decide) (fun c10 => ?_) (fun c10 => ?_)
            · have h := it_pos c10 h
              exact hJ31   H locs ls h hS (lv_sub hl [0, 1, 2] rfl)
            · have h := it_neg c10 h
              refine lv_aload_n hx hb dX11_product_22 rfl (lv_at hl 0 rfl) ?_
              obtain ⟨y23, e11, h⟩ := bd_some h
              refine ct_V (ws' := fun _ => [oX11 q0 u0_0 u0_1 u0_2 u0_3 u0_4 u0_5 u0_6 (.ref q1) (.int v_length) (.int v_top) (.int x6_1) (.int x6_2) u0_12 u0_13 u0_14 u0_15 (.int v_isAsked) (.ref q2) u0_18 u0_19 u0_20 u0_21 u0_22 u0_23 u0_24 u0_25 u0_26 u0_27 u0_28 u0_29 u0_30 u0_31 u0_32 u0_33 u0_34 u0_35 u0_36 u0_37 u0_38 u0_39 u0_40, aB cy q1 nv_read v_read, aI cy q2 7 v_asked]) (st' := [.int y23]) (rest := []) E hS vlX11_129 (c_X11_here (l := l) (D := D) (cy := cy) (q0 := q0) (q1 := q1) (u0_0 := u0_0) (u0_1 := u0_1) (u0_2 := u0_2) (u0_3 := u0_3) (u0_4 := u0_4) (u0_5 := u0_5) (u0_6 := u0_6) (u0_11 := .int x6_2) (u0_12 := u0_12) (u0_13 := u0_13) (u0_14 := u0_14) (u0_15 := u0_15) (u0_16 := .int v_isAsked) (u0_17 := .ref q2) (u0_18 := u0_18) (u0_19 := u0_19) (u0_20 := u0_20) (u0_21 := u0_21) (u0_22 := u0_22) (u0_23 := u0_23) (u0_24 := u0_24) (u0_25 := u0_25) (u0_26 := u0_26) (u0_27 := u0_27) (u0_28 := u0_28) (u0_29 := u0_29) (u0_30 := u0_30) (u0_31 := u0_31) (u0_32 := u0_32) (u0_33 := u0_33) (u0_34 := u0_34) (u0_35 := u0_35) (u0_36 := u0_36) (u0_37 := u0_37) (u0_38 := u0_38) (u0_39 := u0_39) (u0_40 := u0_40) (v_length := v_length) (v_top := v_top) (v_at := x6_1) (nv_read := nv_read) (v_read := v_read) (r := y23) e11) [0, 1] rfl rfl (fun _ => rfl) (fun _ => rfl) rfl rfl rfl rfl (Nat.le_of_ble_eq_true rfl) hl.1 (by rw [hRf]; omega) (by rw [hRl]; omega) ⟨Nat.zero_le _, Nat.zero_le _⟩ dX11_product_23 rfl (fun H locs _ hS => ?_)
              refine lv_bipush (v := 47) hx hb dX11_product_26 (by decide) ?_
              refine lv_icmp_ne (tgt := 91) hx hb dX11_product_28 (by decide) (fun c12 => ?_) (fun c12 => ?_)
              · have h := it_neg c12 h
                exact hk6_0 x6_0 x6_1 x6_2 (hz6b _ (Option.some.inj h).symm)  H locs ls hS (lv_sub hl [2] rfl)
              · have h := it_pos c12 h
                exact hJ31   H locs ls h hS (lv_sub hl [0, 1, 2] rfl)
      obtain ⟨y6, e6, h⟩ := bd_some h
      refine hL6 1000 y2.1 y2.2.1 y2.2.2 y6  H locs ls e6 hS (lv_sub hl [1, 2, 0] rfl) (fun y6_0 y6_1 y6_2 ey6 H locs ls hS hl => ?_)
      subst ey6
      have h := un_r h
      have h := un_r h
      refine lv_iload_n hx hb dX11_product_91 rfl (lv_at hl 0 rfl) ?_
      obtain rfl := Option.some.inj h
      exact rt_i E hQ (.null) hS dX11_product_92
    · intro q0 q1 q2 u0_0 u0_1 u0_2 u0_3 u0_4 u0_5 u0_6 u0_12 u0_13 u0_14 u0_15 u0_18 u0_19 u0_20 u0_21 u0_22 u0_23 u0_24 u0_25 u0_26 u0_27 u0_28 u0_29 u0_30 u0_31 u0_32 u0_33 u0_34 u0_35 u0_36 u0_37 u0_38 u0_39 u0_40 v_length v_top v_at v_wrong v_isAsked nv_read v_read v_asked p1 r h
      rw [X11_expr_e3] at h
      generalize X11_expr n = rec at ih0 ih1 ih2 ih3 h
      unfold X11_expr_b3 at h
      refine Ct.mk kX11_thing (by decide +kernel) (Nat.le_of_ble_eq_true rfl) ?_
      intro p e s m below meth c A ls args R Q hRf hRl hQ E H locs hS hl
      have hx := E.x
      have hb := E.b
      have hl : lv_has ls 4 [(0, .ref q0), (1, .int p1)] := hl
      refine lv_aload_n hx hb dX11_thing_0 rfl (lv_at hl 0 rfl) ?_
      refine lv_bipush (v := 45) hx hb dX11_thing_1 (by decide) ?_
      obtain ⟨y3, e1, h⟩ := bd_some h
      refine ct_V (ws' := fun _ => [oX11 q0 u0_0 u0_1 u0_2 u0_3 u0_4 u0_5 u0_6 (.ref q1) (.int v_length) (.int v_top) (.int y3.2) (.int v_wrong) u0_12 u0_13 u0_14 u0_15 (.int v_isAsked) (.ref q2) u0_18 u0_19 u0_20 u0_21 u0_22 u0_23 u0_24 u0_25 u0_26 u0_27 u0_28 u0_29 u0_30 u0_31 u0_32 u0_33 u0_34 u0_35 u0_36 u0_37 u0_38 u0_39 u0_40, aB cy q1 nv_read v_read, aI cy q2 7 v_asked]) (st' := [.int y3.1]) (rest := []) E hS vlX11_133 (c_X11_passes (l := l) (D := D) (cy := cy) (q0 := q0) (q1 := q1) (u0_0 := u0_0) (u0_1 := u0_1) (u0_2 := u0_2) (u0_3 := u0_3) (u0_4 := u0_4) (u0_5 := u0_5) (u0_6 := u0_6) (u0_12 := u0_12) (u0_13 := u0_13) (u0_14 := u0_14) (u0_15 := u0_15) (u0_16 := .int v_isAsked) (u0_17 := .ref q2) (u0_18 := u0_18) (u0_19 := u0_19) (u0_20 := u0_20) (u0_21 := u0_21) (u0_22 := u0_22) (u0_23 := u0_23) (u0_24 := u0_24) (u0_25 := u0_25) (u0_26 := u0_26) (u0_27 := u0_27) (u0_28 := u0_28) (u0_29 := u0_29) (u0_30 := u0_30) (u0_31 := u0_31) (u0_32 := u0_32) (u0_33 := u0_33) (u0_34 := u0_34) (u0_35 := u0_35) (u0_36 := u0_36) (u0_37 := u0_37) (u0_38 := u0_38) (u0_39 := u0_39) (u0_40 := u0_40) (v_length := v_length) (v_top := v_top) (v_at := v_at) (v_wrong := v_wrong) (nv_read := nv_read) (v_read := v_read) (p1 := (45 : Int32)) (r := y3) e1) [0, 1] rfl rfl (fun _ => rfl) (fun _ => rfl) rfl rfl rfl rfl (Nat.le_of_ble_eq_true rfl) hl.1 (by rw [hRf]; omega) (by rw [hRl]; omega) ⟨Nat.zero_le _, Nat.zero_le _⟩ dX11_thing_3 rfl (fun H locs _ hS => ?_)
      refine lv_if_eq (tgt := 16) hx hb dX11_thing_6 (by decide) (fun c2 => ?_) (fun c2 => ?_)
      · have h := it_pos c2 h
        refine lv_aload_n hx hb dX11_thing_16 rfl (lv_at hl 0 rfl) ?_
        refine ct_V (ws' := fun _ => [oX11 q0 u0_0 u0_1 u0_2 u0_3 u0_4 u0_5 u0_6 (.ref q1) (.int v_length) (.int v_top) (.int y3.2) (.int v_wrong) u0_12 u0_13 u0_14 u0_15 (.int v_isAsked) (.ref q2) u0_18 u0_19 u0_20 u0_21 u0_22 u0_23 u0_24 u0_25 u0_26 u0_27 u0_28 u0_29 u0_30 u0_31 u0_32 u0_33 u0_34 u0_35 u0_36 u0_37 u0_38 u0_39 u0_40, aB cy q1 nv_read v_read, aI cy q2 7 v_asked]) (st' := [.int (X11_fine v_wrong)]) (rest := []) E hS vlX11_125 (c_X11_fine (l := l) (D := D) (cy := cy) (q0 := q0) (u0_0 := u0_0) (u0_1 := u0_1) (u0_2 := u0_2) (u0_3 := u0_3) (u0_4 := u0_4) (u0_5 := u0_5) (u0_6 := u0_6) (u0_7 := .ref q1) (u0_8 := .int v_length) (u0_9 := .int v_top) (u0_10 := .int y3.2) (u0_12 := u0_12) (u0_13 := u0_13) (u0_14 := u0_14) (u0_15 := u0_15) (u0_16 := .int v_isAsked) (u0_17 := .ref q2) (u0_18 := u0_18) (u0_19 := u0_19) (u0_20 := u0_20) (u0_21 := u0_21) (u0_22 := u0_22) (u0_23 := u0_23) (u0_24 := u0_24) (u0_25 := u0_25) (u0_26 := u0_26) (u0_27 := u0_27) (u0_28 := u0_28) (u0_29 := u0_29) (u0_30 := u0_30) (u0_31 := u0_31) (u0_32 := u0_32) (u0_33 := u0_33) (u0_34 := u0_34) (u0_35 := u0_35) (u0_36 := u0_36) (u0_37 := u0_37) (u0_38 := u0_38) (u0_39 := u0_39) (u0_40 := u0_40) (v_wrong := v_wrong) (r := (X11_fine v_wrong)) rfl) [0] rfl rfl (fun _ => rfl) (fun _ => rfl) rfl rfl rfl rfl (Nat.le_of_ble_eq_true rfl) hl.1 (by rw [hRf]; omega) (by rw [hRl]; omega) ⟨Nat.zero_le _, Nat.zero_le _⟩ dX11_thing_17 rfl (fun H locs _ hS => ?_)
        refine lv_if_ne (tgt := 25) hx hb dX11_thing_20 (by decide) (fun c3 => ?_) (fun c3 => ?_)
        · have h := it_neg c3 h
          refine lv_aload_n hx hb dX11_thing_25 rfl (lv_at hl 0 rfl) ?_
          obtain ⟨y26, e4, h⟩ := bd_some h
          refine ct_V (ws' := fun _ => [oX11 q0 u0_0 u0_1 u0_2 u0_3 u0_4 u0_5 u0_6 (.ref q1) (.int v_length) (.int v_top) (.int y3.2) (.int v_wrong) u0_12 u0_13 u0_14 u0_15 (.int v_isAsked) (.ref q2) u0_18 u0_19 u0_20 u0_21 u0_22 u0_23 u0_24 u0_25 u0_26 u0_27 u0_28 u0_29 u0_30 u0_31 u0_32 u0_33 u0_34 u0_35 u0_36 u0_37 u0_38 u0_39 u0_40, aB cy q1 nv_read v_read, aI cy q2 7 v_asked]) (st' := [.int y26]) (rest := []) E hS vlX11_129 (c_X11_here (l := l) (D := D) (cy := cy) (q0 := q0) (q1 := q1) (u0_0 := u0_0) (u0_1 := u0_1) (u0_2 := u0_2) (u0_3 := u0_3) (u0_4 := u0_4) (u0_5 := u0_5) (u0_6 := u0_6) (u0_11 := .int v_wrong) (u0_12 := u0_12) (u0_13 := u0_13) (u0_14 := u0_14) (u0_15 := u0_15) (u0_16 := .int v_isAsked) (u0_17 := .ref q2) (u0_18 := u0_18) (u0_19 := u0_19) (u0_20 := u0_20) (u0_21 := u0_21) (u0_22 := u0_22) (u0_23 := u0_23) (u0_24 := u0_24) (u0_25 := u0_25) (u0_26 := u0_26) (u0_27 := u0_27) (u0_28 := u0_28) (u0_29 := u0_29) (u0_30 := u0_30) (u0_31 := u0_31) (u0_32 := u0_32) (u0_33 := u0_33) (u0_34 := u0_34) (u0_35 := u0_35) (u0_36 := u0_36) (u0_37 := u0_37) (u0_38 := u0_38) (u0_39 := u0_39) (u0_40 := u0_40) (v_length := v_length) (v_top := v_top) (v_at := y3.2) (nv_read := nv_read) (v_read := v_read) (r := y26) e4) [0, 1] rfl rfl (fun _ => rfl) (fun _ => rfl) rfl rfl rfl rfl (Nat.le_of_ble_eq_true rfl) hl.1 (by rw [hRf]; omega) (by rw [hRl]; omega) ⟨Nat.zero_le _, Nat.zero_le _⟩ dX11_thing_26 rfl (fun H locs _ hS => ?_)
          refine lv_istore_n (lv' := [(2, .int y26), (0, .ref q0), (1, .int p1)]) hx hb dX11_thing_29 rfl hl (by decide) rfl (fun ls hl => ?_)
          refine lv_iload_n hx hb dX11_thing_30 rfl (lv_at hl 0 rfl) ?_
          refine lv_bipush (v := 40) hx hb dX11_thing_31 (by decide) ?_
          have hJ67 : ∀ (H : Heap) (locs : List Loc) (ls : Array Slot), X11_thing_k67 v_length v_top v_wrong v_isAsked nv_read v_read v_asked y3 y26 = some r → Sv D A s.heap [oX11 q0 u0_0 u0_1 u0_2 u0_3 u0_4 u0_5 u0_6 (.ref q1) (.int v_length) (.int v_top) (.int y3.2) (.int v_wrong) u0_12 u0_13 u0_14 u0_15 (.int v_isAsked) (.ref q2) u0_18 u0_19 u0_20 u0_21 u0_22 u0_23 u0_24 u0_25 u0_26 u0_27 u0_28 u0_29 u0_30 u0_31 u0_32 u0_33 u0_34 u0_35 u0_36 u0_37 u0_38 u0_39 u0_40, aB cy q1 nv_read v_read, aI cy q2 7 v_asked] H locs → lv_has ls 4 [(0, .ref q0), (2, .int y26)] → W p l e R s m args below meth c H locs 0 0 Q (F0 m 67 ls []) := by
            intro H locs ls h hS hl
            unfold X11_thing_k67 at h
            refine lv_iload_n hx hb dX11_thing_67 rfl (lv_at hl 1 rfl) ?_
            refine lv_bipush (v := 48) hx hb dX11_thing_68 (by decide) ?_
            refine lv_bipush (v := 57) hx hb dX11_thing_70 (by decide) ?_
            refine ct_S (ws' := fun _ => [oX11 q0 u0_0 u0_1 u0_2 u0_3 u0_4 u0_5 u0_6 (.ref q1) (.int v_length) (.int v_top) (.int y3.2) (.int v_wrong) u0_12 u0_13 u0_14 u0_15 (.int v_isAsked) (.ref q2) u0_18 u0_19 u0_20 u0_21 u0_22 u0_23 u0_24 u0_25 u0_26 u0_27 u0_28 u0_29 u0_30 u0_31 u0_32 u0_33 u0_34 u0_35 u0_36 u0_37 u0_38 u0_39 u0_40, aB cy q1 nv_read v_read, aI cy q2 7 v_asked]) (st' := [.int (X11_in y26 (48 : Int32) (57 : Int32))]) (rest := []) E hS slX11_95 (c_X11_in (l := l) (D := D) (cy := cy) (p0 := y26) (p1 := (48 : Int32)) (p2 := (57 : Int32)) (r := (X11_in y26 (48 : Int32) (57 : Int32))) rfl) [] rfl rfl (fun _ => rfl) (fun _ => rfl) rfl rfl (Nat.le_of_ble_eq_true rfl) hl.1 (by rw [hRf]; omega) (by rw [hRl]; omega) ⟨Nat.zero_le _, Nat.zero_le _⟩ dX11_thing_72 rfl (fun H locs _ hS => ?_)
            refine lv_if_eq (tgt := 84) hx hb dX11_thing_75 (by decide) (fun c5 => ?_) (fun c5 => ?_)
            · have h := it_pos c5 h
              refine lv_iload_n hx hb dX11_thing_84 rfl (lv_at hl 1 rfl) ?_
              refine ct_S (ws' := fun _ => [oX11 q0 u0_0 u0_1 u0_2 u0_3 u0_4 u0_5 u0_6 (.ref q1) (.int v_length) (.int v_top) (.int y3.2) (.int v_wrong) u0_12 u0_13 u0_14 u0_15 (.int v_isAsked) (.ref q2) u0_18 u0_19 u0_20 u0_21 u0_22 u0_23 u0_24 u0_25 u0_26 u0_27 u0_28 u0_29 u0_30 u0_31 u0_32 u0_33 u0_34 u0_35 u0_36 u0_37 u0_38 u0_39 u0_40, aB cy q1 nv_read v_read, aI cy q2 7 v_asked]) (st' := [.int (X11_letterOf y26)]) (rest := []) E hS slX11_183 (c_X11_letterOf (l := l) (D := D) (cy := cy) (p0 := y26) (r := (X11_letterOf y26)) rfl) [] rfl rfl (fun _ => rfl) (fun _ => rfl) rfl rfl (Nat.le_of_ble_eq_true rfl) hl.1 (by rw [hRf]; omega) (by rw [hRl]; omega) ⟨Nat.zero_le _, Nat.zero_le _⟩ dX11_thing_85 rfl (fun H locs _ hS => ?_)
              refine lv_iconst (v := -1) hx hb dX11_thing_88 (by decide) ?_
              refine lv_icmp_ne (tgt := 102) hx hb dX11_thing_89 (by decide) (fun c6 => ?_) (fun c6 => ?_)
              · have h := it_neg c6 h
                refine lv_aload_n hx hb dX11_thing_102 rfl (lv_at hl 0 rfl) ?_
                refine lv_dup hx hb dX11_thing_103 rfl ?_
                refine r_get E frX11_115 hS 0 rfl rfl dX11_thing_104 ?_
                refine lv_iconst (v := 1) hx hb dX11_thing_107 (by decide) ?_
                refine lv_iadd hx hb dX11_thing_108 ?_
                refine r_put (ws' := [oX11 q0 u0_0 u0_1 u0_2 u0_3 u0_4 u0_5 u0_6 (.ref q1) (.int v_length) (.int v_top) (.int (y3.2 + (1 : Int32))) (.int v_wrong) u0_12 u0_13 u0_14 u0_15 (.int v_isAsked) (.ref q2) u0_18 u0_19 u0_20 u0_21 u0_22 u0_23 u0_24 u0_25 u0_26 u0_27 u0_28 u0_29 u0_30 u0_31 u0_32 u0_33 u0_34 u0_35 u0_36 u0_37 u0_38 u0_39 u0_40, aB cy q1 nv_read v_read, aI cy q2 7 v_asked]) E frX11_115 hS 0 rfl (Nat.le_of_ble_eq_true rfl) rfl rfl rfl rfl dX11_thing_109 (fun H locs hS => ?_)
                refine lv_aload_n hx hb dX11_thing_112 rfl (lv_at hl 0 rfl) ?_
                refine r_get E frX11_186 hS 0 rfl rfl dX11_thing_113 ?_
                refine lv_if_eq (tgt := 131) hx hb dX11_thing_116 (by decide) (fun c7 => ?_) (fun c7 => ?_)
                · have h := it_pos c7 h
                  refine lv_iconst (v := 0) hx hb dX11_thing_131 (by decide) ?_
                  obtain rfl := Option.some.inj h
                  exact rt_i E hQ (.null) hS dX11_thing_132
                · have h := it_neg c7 h
                  refine lv_aload_n hx hb dX11_thing_119 rfl (lv_at hl 0 rfl) ?_
                  refine r_get E frX11_30 hS 0 rfl rfl dX11_thing_120 ?_
                  refine lv_iload_n hx hb dX11_thing_123 rfl (lv_at hl 1 rfl) ?_
                  refine ct_S (ws' := fun _ => [oX11 q0 u0_0 u0_1 u0_2 u0_3 u0_4 u0_5 u0_6 (.ref q1) (.int v_length) (.int v_top) (.int (y3.2 + (1 : Int32))) (.int v_wrong) u0_12 u0_13 u0_14 u0_15 (.int v_isAsked) (.ref q2) u0_18 u0_19 u0_20 u0_21 u0_22 u0_23 u0_24 u0_25 u0_26 u0_27 u0_28 u0_29 u0_30 u0_31 u0_32 u0_33 u0_34 u0_35 u0_36 u0_37 u0_38 u0_39 u0_40, aB cy q1 nv_read v_read, aI cy q2 7 v_asked]) (st' := [.int (X11_letterOf y26), .ref q2]) (rest := [.ref q2]) E hS slX11_183 (c_X11_letterOf (l := l) (D := D) (cy := cy) (p0 := y26) (r := (X11_letterOf y26)) rfl) [] rfl rfl (fun _ => rfl) (fun _ => rfl) rfl rfl (Nat.le_of_ble_eq_true rfl) hl.1 (by rw [hRf]; omega) (by rw [hRl]; omega) ⟨Nat.zero_le _, Nat.zero_le _⟩ dX11_thing_124 rfl (fun H locs _ hS => ?_)
                  obtain ⟨g8, h⟩ := gi_some h
                  refine r_iald E hS 2 rfl g8 dX11_thing_127 ?_
                  refine lv_goto (tgt := 132) hx hb dX11_thing_128 (by decide) ?_
                  obtain rfl := Option.some.inj h
                  exact rt_i E hQ (.null) hS dX11_thing_132
              · have h := it_pos c6 h
                refine lv_aload_n hx hb dX11_thing_92 rfl (lv_at hl 0 rfl) ?_
                refine lv_aload_n hx hb dX11_thing_93 rfl (lv_at hl 0 rfl) ?_
                refine r_get E frX11_115 hS 0 rfl rfl dX11_thing_94 ?_
                refine ct_V (ws' := fun _ => [oX11 q0 u0_0 u0_1 u0_2 u0_3 u0_4 u0_5 u0_6 (.ref q1) (.int v_length) (.int v_top) (.int y3.2) (.int (X11_fault v_wrong y3.2)) u0_12 u0_13 u0_14 u0_15 (.int v_isAsked) (.ref q2) u0_18 u0_19 u0_20 u0_21 u0_22 u0_23 u0_24 u0_25 u0_26 u0_27 u0_28 u0_29 u0_30 u0_31 u0_32 u0_33 u0_34 u0_35 u0_36 u0_37 u0_38 u0_39 u0_40, aB cy q1 nv_read v_read, aI cy q2 7 v_asked]) (st' := []) (rest := []) E hS vlX11_137 (c_X11_fault (l := l) (D := D) (cy := cy) (q0 := q0) (u0_0 := u0_0) (u0_1 := u0_1) (u0_2 := u0_2) (u0_3 := u0_3) (u0_4 := u0_4) (u0_5 := u0_5) (u0_6 := u0_6) (u0_7 := .ref q1) (u0_8 := .int v_length) (u0_9 := .int v_top) (u0_10 := .int y3.2) (u0_12 := u0_12) (u0_13 := u0_13) (u0_14 := u0_14) (u0_15 := u0_15) (u0_16 := .int v_isAsked) (u0_17 := .ref q2) (u0_18 := u0_18) (u0_19 := u0_19) (u0_20 := u0_20) (u0_21 := u0_21) (u0_22 := u0_22) (u0_23 := u0_23) (u0_24 := u0_24) (u0_25 := u0_25) (u0_26 := u0_26) (u0_27 := u0_27) (u0_28 := u0_28) (u0_29 := u0_29) (u0_30 := u0_30) (u0_31 := u0_31) (u0_32 := u0_32) (u0_33 := u0_33) (u0_34 := u0_34) (u0_35 := u0_35) (u0_36 := u0_36) (u0_37 := u0_37) (u0_38 := u0_38) (u0_39 := u0_39) (u0_40 := u0_40) (v_wrong := v_wrong) (p1 := y3.2) (r := (X11_fault v_wrong y3.2)) rfl) [0] rfl rfl (fun _ => rfl) (fun _ => rfl) rfl rfl rfl rfl (Nat.le_of_ble_eq_true rfl) hl.1 (by rw [hRf]; omega) (by rw [hRl]; omega) ⟨Nat.zero_le _, Nat.zero_le _⟩ dX11_thing_97 rfl (fun H locs _ hS => ?_)
                refine lv_iconst (v := 0) hx hb dX11_thing_100 (by decide) ?_
                obtain rfl := Option.some.inj h
                exact rt_i E hQ (.null) hS dX11_thing_101
            · have h := it_neg c5 h
              refine lv_aload_n hx hb dX11_thing_78 rfl (lv_at hl 0 rfl) ?_
              refine lv_iconst (v := 3) hx hb dX11_thing_79 (by decide) ?_
              obtain ⟨y80, e9, h⟩ := bd_some h
              refine ct_V (ws' := fun _ => [oX11 q0 u0_0 u0_1 u0_2 u0_3 u0_4 u0_5 u0_6 (.ref q1) (.int v_length) (.int v_top) (.int y80.2.1) (.int y80.2.2) u0_12 u0_13 u0_14 u0_15 (.int v_isAsked) (.ref q2) u0_18 u0_19 u0_20 u0_21 u0_22 u0_23 u0_24 u0_25 u0_26 u0_27 u0_28 u0_29 u0_30 u0_31 u0_32 u0_33 u0_34 u0_35 u0_36 u0_37 u0_38 u0_39 u0_40, aB cy q1 nv_read v_read, aI cy q2 7 v_asked]) (st' := [.int y80.1]) (rest := []) E hS vlX11_180 (c_X11_number (l := l) (D := D) (cy := cy) (q0 := q0) (q1 := q1) (u0_0 := u0_0) (u0_1 := u0_1) (u0_2 := u0_2) (u0_3 := u0_3) (u0_4 := u0_4) (u0_5 := u0_5) (u0_6 := u0_6) (u0_12 := u0_12) (u0_13 := u0_13) (u0_14 := u0_14) (u0_15 := u0_15) (u0_16 := .int v_isAsked) (u0_17 := .ref q2) (u0_18 := u0_18) (u0_19 := u0_19) (u0_20 := u0_20) (u0_21 := u0_21) (u0_22 := u0_22) (u0_23 := u0_23) (u0_24 := u0_24) (u0_25 := u0_25) (u0_26 := u0_26) (u0_27 := u0_27) (u0_28 := u0_28) (u0_29 := u0_29) (u0_30 := u0_30) (u0_31 := u0_31) (u0_32 := u0_32) (u0_33 := u0_33) (u0_34 := u0_34) (u0_35 := u0_35) (u0_36 := u0_36) (u0_37 := u0_37) (u0_38 := u0_38) (u0_39 := u0_39) (u0_40 := u0_40) (v_length := v_length) (v_top := v_top) (v_at := y3.2) (v_wrong := v_wrong) (nv_read := nv_read) (v_read := v_read) (p1 := (3 : Int32)) (r := y80) e9) [0, 1] rfl rfl (fun _ => rfl) (fun _ => rfl) rfl rfl rfl rfl (Nat.le_of_ble_eq_true rfl) hl.1 (by rw [hRf]; omega) (by rw [hRl]; omega) ⟨Nat.zero_le _, Nat.zero_le _⟩ dX11_thing_80 rfl (fun H locs _ hS => ?_)
              obtain rfl := Option.some.inj h
              exact rt_i E hQ (.null) hS dX11_thing_83
          refine lv_icmp_ne (tgt := 67) hx hb dX11_thing_33 (by decide) (fun c10 => ?_) (fun c10 => ?_)
          · have h := it_neg c10 h
            exact hJ67   H locs ls h hS (lv_sub hl [1, 0] rfl)
          · have h := it_pos c10 h
            refine lv_iload_n hx hb dX11_thing_36 rfl (lv_at hl 2 rfl) ?_
            refine lv_iconst (v := 4) hx hb dX11_thing_37 (by decide) ?_
            refine lv_icmp_ge (tgt := 67) hx hb dX11_thing_38 (by decide) (fun c11 => ?_) (fun c11 => ?_)
            · have h := it_pos c11 h
              exact hJ67   H locs ls h hS (lv_sub hl [1, 0] rfl)
            · have h := it_neg c11 h
              refine lv_aload_n hx hb dX11_thing_41 rfl (lv_at hl 1 rfl) ?_
              refine lv_dup hx hb dX11_thing_42 rfl ?_
              refine r_get E frX11_115 hS 0 rfl rfl dX11_thing_43 ?_
              refine lv_iconst (v := 1) hx hb dX11_thing_46 (by decide) ?_
              refine lv_iadd hx hb dX11_thing_47 ?_
              refine r_put (ws' := [oX11 q0 u0_0 u0_1 u0_2 u0_3 u0_4 u0_5 u0_6 (.ref q1) (.int v_length) (.int v_top) (.int (y3.2 + (1 : Int32))) (.int v_wrong) u0_12 u0_13 u0_14 u0_15 (.int v_isAsked) (.ref q2) u0_18 u0_19 u0_20 u0_21 u0_22 u0_23 u0_24 u0_25 u0_26 u0_27 u0_28 u0_29 u0_30 u0_31 u0_32 u0_33 u0_34 u0_35 u0_36 u0_37 u0_38 u0_39 u0_40, aB cy q1 nv_read v_read, aI cy q2 7 v_asked]) E frX11_115 hS 0 rfl (Nat.le_of_ble_eq_true rfl) rfl rfl rfl rfl dX11_thing_48 (fun H locs hS => ?_)
              refine lv_aload_n hx hb dX11_thing_51 rfl (lv_at hl 1 rfl) ?_
              refine lv_iload_n hx hb dX11_thing_52 rfl (lv_at hl 2 rfl) ?_
              refine lv_iconst (v := 1) hx hb dX11_thing_53 (by decide) ?_
              refine lv_iadd hx hb dX11_thing_54 ?_
              obtain ⟨y55, e12, h⟩ := bd_some h
              refine ct_V (ws' := fun _ => [oX11 q0 u0_0 u0_1 u0_2 u0_3 u0_4 u0_5 u0_6 (.ref q1) (.int v_length) (.int v_top) (.int y55.2.1) (.int y55.2.2) u0_12 u0_13 u0_14 u0_15 (.int v_isAsked) (.ref q2) u0_18 u0_19 u0_20 u0_21 u0_22 u0_23 u0_24 u0_25 u0_26 u0_27 u0_28 u0_29 u0_30 u0_31 u0_32 u0_33 u0_34 u0_35 u0_36 u0_37 u0_38 u0_39 u0_40, aB cy q1 nv_read v_read, aI cy q2 7 v_asked]) (st' := [.int y55.1]) (rest := []) E hS vlX11_173 (ih0 q0 q1 q2 u0_0 u0_1 u0_2 u0_3 u0_4 u0_5 u0_6 u0_12 u0_13 u0_14 u0_15 u0_18 u0_19 u0_20 u0_21 u0_22 u0_23 u0_24 u0_25 u0_26 u0_27 u0_28 u0_29 u0_30 u0_31 u0_32 u0_33 u0_34 u0_35 u0_36 u0_37 u0_38 u0_39 u0_40 v_length v_top (y3.2 + (1 : Int32)) v_wrong v_isAsked nv_read v_read v_asked (p1 + (1 : Int32)) y55 e12) [0, 1, 2] rfl rfl (fun _ => rfl) (fun _ => rfl) rfl rfl rfl rfl (Nat.le_of_ble_eq_true rfl) hl.1 (by rw [hRf]; omega) (by rw [hRl]; omega) ⟨Nat.zero_le _, Nat.zero_le _⟩ dX11_thing_55 rfl (fun H locs _ hS => ?_)
              refine lv_istore_n (lv' := [(3, .int y55.1), (2, .int y26), (0, .ref q0), (1, .int p1)]) hx hb dX11_thing_58 rfl hl (by decide) rfl (fun ls hl => ?_)
              refine lv_aload_n hx hb dX11_thing_59 rfl (lv_at hl 2 rfl) ?_
              refine lv_bipush (v := 41) hx hb dX11_thing_60 (by decide) ?_
              obtain ⟨y62, e13, h⟩ := bd_some h
              refine ct_V (ws' := fun _ => [oX11 q0 u0_0 u0_1 u0_2 u0_3 u0_4 u0_5 u0_6 (.ref q1) (.int v_length) (.int v_top) (.int y62.1) (.int y62.2) u0_12 u0_13 u0_14 u0_15 (.int v_isAsked) (.ref q2) u0_18 u0_19 u0_20 u0_21 u0_22 u0_23 u0_24 u0_25 u0_26 u0_27 u0_28 u0_29 u0_30 u0_31 u0_32 u0_33 u0_34 u0_35 u0_36 u0_37 u0_38 u0_39 u0_40, aB cy q1 nv_read v_read, aI cy q2 7 v_asked]) (st' := []) (rest := []) E hS vlX11_176 (c_X11_need (l := l) (D := D) (cy := cy) (q0 := q0) (q1 := q1) (u0_0 := u0_0) (u0_1 := u0_1) (u0_2 := u0_2) (u0_3 := u0_3) (u0_4 := u0_4) (u0_5 := u0_5) (u0_6 := u0_6) (u0_12 := u0_12) (u0_13 := u0_13) (u0_14 := u0_14) (u0_15 := u0_15) (u0_16 := .int v_isAsked) (u0_17 := .ref q2) (u0_18 := u0_18) (u0_19 := u0_19) (u0_20 := u0_20) (u0_21 := u0_21) (u0_22 := u0_22) (u0_23 := u0_23) (u0_24 := u0_24) (u0_25 := u0_25) (u0_26 := u0_26) (u0_27 := u0_27) (u0_28 := u0_28) (u0_29 := u0_29) (u0_30 := u0_30) (u0_31 := u0_31) (u0_32 := u0_32) (u0_33 := u0_33) (u0_34 := u0_34) (u0_35 := u0_35) (u0_36 := u0_36) (u0_37 := u0_37) (u0_38 := u0_38) (u0_39 := u0_39) (u0_40 := u0_40) (v_length := v_length) (v_top := v_top) (v_at := y55.2.1) (v_wrong := y55.2.2) (nv_read := nv_read) (v_read := v_read) (p1 := (41 : Int32)) (r := y62) e13) [0, 1] rfl rfl (fun _ => rfl) (fun _ => rfl) rfl rfl rfl rfl (Nat.le_of_ble_eq_true rfl) hl.1 (by rw [hRf]; omega) (by rw [hRl]; omega) ⟨Nat.zero_le _, Nat.zero_le _⟩ dX11_thing_62 rfl (fun H locs _ hS => ?_)
              refine lv_iload_n hx hb dX11_thing_65 rfl (lv_at hl 0 rfl) ?_
              obtain rfl := Option.some.inj h
              exact rt_i E hQ (.null) hS dX11_thing_66
        · have h := it_pos c3 h
          refine lv_iconst (v := 0) hx hb dX11_thing_23 (by decide) ?_
          obtain rfl := Option.some.inj h
          exact rt_i E hQ (.null) hS dX11_thing_24
      · have h := it_neg c2 h
        refine lv_aload_n hx hb dX11_thing_9 rfl (lv_at hl 0 rfl) ?_
        refine lv_iload_n hx hb dX11_thing_10 rfl (lv_at hl 1 rfl) ?_
        obtain ⟨y11, e14, h⟩ := bd_some h
        refine ct_V (ws' := fun _ => [oX11 q0 u0_0 u0_1 u0_2 u0_3 u0_4 u0_5 u0_6 (.ref q1) (.int v_length) (.int v_top) (.int y11.2.1) (.int y11.2.2) u0_12 u0_13 u0_14 u0_15 (.int v_isAsked) (.ref q2) u0_18 u0_19 u0_20 u0_21 u0_22 u0_23 u0_24 u0_25 u0_26 u0_27 u0_28 u0_29 u0_30 u0_31 u0_32 u0_33 u0_34 u0_35 u0_36 u0_37 u0_38 u0_39 u0_40, aB cy q1 nv_read v_read, aI cy q2 7 v_asked]) (st' := [.int y11.1]) (rest := []) E hS vlX11_170 (ih3 q0 q1 q2 u0_0 u0_1 u0_2 u0_3 u0_4 u0_5 u0_6 u0_12 u0_13 u0_14 u0_15 u0_18 u0_19 u0_20 u0_21 u0_22 u0_23 u0_24 u0_25 u0_26 u0_27 u0_28 u0_29 u0_30 u0_31 u0_32 u0_33 u0_34 u0_35 u0_36 u0_37 u0_38 u0_39 u0_40 v_length v_top y3.2 v_wrong v_isAsked nv_read v_read v_asked p1 y11 e14) [0, 1, 2] rfl rfl (fun _ => rfl) (fun _ => rfl) rfl rfl rfl rfl (Nat.le_of_ble_eq_true rfl) hl.1 (by rw [hRf]; omega) (by rw [hRl]; omega) ⟨Nat.zero_le _, Nat.zero_le _⟩ dX11_thing_11 rfl (fun H locs _ hS => ?_)
        refine lv_ineg hx hb dX11_thing_14 ?_
        obtain rfl := Option.some.inj h
        exact rt_i E hQ (.null) hS dX11_thing_15
theorem c_X11_held {l : Launch} {D : va_G} {cy : Nat → ClassId} (q0 : Nat) (q1 : Nat) (q2 : Nat) (u0_0 : Value) (u0_1 : Value) (u0_2 : Value) (u0_3 : Value) (u0_4 : Value) (u0_5 : Value) (u0_6 : Value) (u0_12 : Value) (u0_13 : Value) (u0_14 : Value) (u0_15 : Value) (u0_18 : Value) (u0_19 : Value) (u0_20 : Value) (u0_21 : Value) (u0_22 : Value) (u0_23 : Value) (u0_24 : Value) (u0_25 : Value) (u0_26 : Value) (u0_27 : Value) (u0_28 : Value) (u0_29 : Value) (u0_30 : Value) (u0_31 : Value) (u0_32 : Value) (u0_33 : Value) (u0_34 : Value) (u0_35 : Value) (u0_36 : Value) (u0_37 : Value) (u0_38 : Value) (u0_39 : Value) (u0_40 : Value) (v_length : Int32) (v_top : Int32) (v_at : Int32) (v_wrong : Int32) (v_isAsked : Int32) (nv_read : Nat) (v_read : Nat → Int32) (v_asked : Nat → Int32) (p1 : Int32) (r : Int32 × Int32 × Int32) (h : X11_expr 100 0 v_length v_top v_at v_wrong v_isAsked nv_read v_read v_asked p1 = some r) : Ct l yX11_held cX11_held 3 (some .int) 104 2486 D cy [.ref q0, .int p1] [oX11 q0 u0_0 u0_1 u0_2 u0_3 u0_4 u0_5 u0_6 (.ref q1) (.int v_length) (.int v_top) (.int v_at) (.int v_wrong) u0_12 u0_13 u0_14 u0_15 (.int v_isAsked) (.ref q2) u0_18 u0_19 u0_20 u0_21 u0_22 u0_23 u0_24 u0_25 u0_26 u0_27 u0_28 u0_29 u0_30 u0_31 u0_32 u0_33 u0_34 u0_35 u0_36 u0_37 u0_38 u0_39 u0_40, aB cy q1 nv_read v_read, aI cy q2 7 v_asked] (fun _ => [oX11 q0 u0_0 u0_1 u0_2 u0_3 u0_4 u0_5 u0_6 (.ref q1) (.int v_length) (.int v_top) (.int r.2.1) (.int r.2.2) u0_12 u0_13 u0_14 u0_15 (.int v_isAsked) (.ref q2) u0_18 u0_19 u0_20 u0_21 u0_22 u0_23 u0_24 u0_25 u0_26 u0_27 u0_28 u0_29 u0_30 u0_31 u0_32 u0_33 u0_34 u0_35 u0_36 u0_37 u0_38 u0_39 u0_40, aB cy q1 nv_read v_read, aI cy q2 7 v_asked]) (some (.int r.1)) := (g_X11_expr 100).1 q0 q1 q2 u0_0 u0_1 u0_2 u0_3 u0_4 u0_5 u0_6 u0_12 u0_13 u0_14 u0_15 u0_18 u0_19 u0_20 u0_21 u0_22 u0_23 u0_24 u0_25 u0_26 u0_27 u0_28 u0_29 u0_30 u0_31 u0_32 u0_33 u0_34 u0_35 u0_36 u0_37 u0_38 u0_39 u0_40 v_length v_top v_at v_wrong v_isAsked nv_read v_read v_asked p1 r h
theorem c_X11_sum {l : Launch} {D : va_G} {cy : Nat → ClassId} (q0 : Nat) (q1 : Nat) (q2 : Nat) (u0_0 : Value) (u0_1 : Value) (u0_2 : Value) (u0_3 : Value) (u0_4 : Value) (u0_5 : Value) (u0_6 : Value) (u0_12 : Value) (u0_13 : Value) (u0_14 : Value) (u0_15 : Value) (u0_18 : Value) (u0_19 : Value) (u0_20 : Value) (u0_21 : Value) (u0_22 : Value) (u0_23 : Value) (u0_24 : Value) (u0_25 : Value) (u0_26 : Value) (u0_27 : Value) (u0_28 : Value) (u0_29 : Value) (u0_30 : Value) (u0_31 : Value) (u0_32 : Value) (u0_33 : Value) (u0_34 : Value) (u0_35 : Value) (u0_36 : Value) (u0_37 : Value) (u0_38 : Value) (u0_39 : Value) (u0_40 : Value) (v_length : Int32) (v_top : Int32) (v_at : Int32) (v_wrong : Int32) (v_isAsked : Int32) (nv_read : Nat) (v_read : Nat → Int32) (v_asked : Nat → Int32) (p1 : Int32) (r : Int32 × Int32 × Int32) (h : X11_expr 100 1 v_length v_top v_at v_wrong v_isAsked nv_read v_read v_asked p1 = some r) : Ct l yX11_sum cX11_sum 5 (some .int) 104 2486 D cy [.ref q0, .int p1] [oX11 q0 u0_0 u0_1 u0_2 u0_3 u0_4 u0_5 u0_6 (.ref q1) (.int v_length) (.int v_top) (.int v_at) (.int v_wrong) u0_12 u0_13 u0_14 u0_15 (.int v_isAsked) (.ref q2) u0_18 u0_19 u0_20 u0_21 u0_22 u0_23 u0_24 u0_25 u0_26 u0_27 u0_28 u0_29 u0_30 u0_31 u0_32 u0_33 u0_34 u0_35 u0_36 u0_37 u0_38 u0_39 u0_40, aB cy q1 nv_read v_read, aI cy q2 7 v_asked] (fun _ => [oX11 q0 u0_0 u0_1 u0_2 u0_3 u0_4 u0_5 u0_6 (.ref q1) (.int v_length) (.int v_top) (.int r.2.1) (.int r.2.2) u0_12 u0_13 u0_14 u0_15 (.int v_isAsked) (.ref q2) u0_18 u0_19 u0_20 u0_21 u0_22 u0_23 u0_24 u0_25 u0_26 u0_27 u0_28 u0_29 u0_30 u0_31 u0_32 u0_33 u0_34 u0_35 u0_36 u0_37 u0_38 u0_39 u0_40, aB cy q1 nv_read v_read, aI cy q2 7 v_asked]) (some (.int r.1)) := (g_X11_expr 100).2.1 q0 q1 q2 u0_0 u0_1 u0_2 u0_3 u0_4 u0_5 u0_6 u0_12 u0_13 u0_14 u0_15 u0_18 u0_19 u0_20 u0_21 u0_22 u0_23 u0_24 u0_25 u0_26 u0_27 u0_28 u0_29 u0_30 u0_31 u0_32 u0_33 u0_34 u0_35 u0_36 u0_37 u0_38 u0_39 u0_40 v_length v_top v_at v_wrong v_isAsked nv_read v_read v_asked p1 r h
theorem c_X11_product {l : Launch} {D : va_G} {cy : Nat → ClassId} (q0 : Nat) (q1 : Nat) (q2 : Nat) (u0_0 : Value) (u0_1 : Value) (u0_2 : Value) (u0_3 : Value) (u0_4 : Value) (u0_5 : Value) (u0_6 : Value) (u0_12 : Value) (u0_13 : Value) (u0_14 : Value) (u0_15 : Value) (u0_18 : Value) (u0_19 : Value) (u0_20 : Value) (u0_21 : Value) (u0_22 : Value) (u0_23 : Value) (u0_24 : Value) (u0_25 : Value) (u0_26 : Value) (u0_27 : Value) (u0_28 : Value) (u0_29 : Value) (u0_30 : Value) (u0_31 : Value) (u0_32 : Value) (u0_33 : Value) (u0_34 : Value) (u0_35 : Value) (u0_36 : Value) (u0_37 : Value) (u0_38 : Value) (u0_39 : Value) (u0_40 : Value) (v_length : Int32) (v_top : Int32) (v_at : Int32) (v_wrong : Int32) (v_isAsked : Int32) (nv_read : Nat) (v_read : Nat → Int32) (v_asked : Nat → Int32) (p1 : Int32) (r : Int32 × Int32 × Int32) (h : X11_expr 100 2 v_length v_top v_at v_wrong v_isAsked nv_read v_read v_asked p1 = some r) : Ct l yX11_product cX11_product 5 (some .int) 104 2486 D cy [.ref q0, .int p1] [oX11 q0 u0_0 u0_1 u0_2 u0_3 u0_4 u0_5 u0_6 (.ref q1) (.int v_length) (.int v_top) (.int v_at) (.int v_wrong) u0_12 u0_13 u0_14 u0_15 (.int v_isAsked) (.ref q2) u0_18 u0_19 u0_20 u0_21 u0_22 u0_23 u0_24 u0_25 u0_26 u0_27 u0_28 u0_29 u0_30 u0_31 u0_32 u0_33 u0_34 u0_35 u0_36 u0_37 u0_38 u0_39 u0_40, aB cy q1 nv_read v_read, aI cy q2 7 v_asked] (fun _ => [oX11 q0 u0_0 u0_1 u0_2 u0_3 u0_4 u0_5 u0_6 (.ref q1) (.int v_length) (.int v_top) (.int r.2.1) (.int r.2.2) u0_12 u0_13 u0_14 u0_15 (.int v_isAsked) (.ref q2) u0_18 u0_19 u0_20 u0_21 u0_22 u0_23 u0_24 u0_25 u0_26 u0_27 u0_28 u0_29 u0_30 u0_31 u0_32 u0_33 u0_34 u0_35 u0_36 u0_37 u0_38 u0_39 u0_40, aB cy q1 nv_read v_read, aI cy q2 7 v_asked]) (some (.int r.1)) := (g_X11_expr 100).2.2.1 q0 q1 q2 u0_0 u0_1 u0_2 u0_3 u0_4 u0_5 u0_6 u0_12 u0_13 u0_14 u0_15 u0_18 u0_19 u0_20 u0_21 u0_22 u0_23 u0_24 u0_25 u0_26 u0_27 u0_28 u0_29 u0_30 u0_31 u0_32 u0_33 u0_34 u0_35 u0_36 u0_37 u0_38 u0_39 u0_40 v_length v_top v_at v_wrong v_isAsked nv_read v_read v_asked p1 r h
theorem c_X11_thing {l : Launch} {D : va_G} {cy : Nat → ClassId} (q0 : Nat) (q1 : Nat) (q2 : Nat) (u0_0 : Value) (u0_1 : Value) (u0_2 : Value) (u0_3 : Value) (u0_4 : Value) (u0_5 : Value) (u0_6 : Value) (u0_12 : Value) (u0_13 : Value) (u0_14 : Value) (u0_15 : Value) (u0_18 : Value) (u0_19 : Value) (u0_20 : Value) (u0_21 : Value) (u0_22 : Value) (u0_23 : Value) (u0_24 : Value) (u0_25 : Value) (u0_26 : Value) (u0_27 : Value) (u0_28 : Value) (u0_29 : Value) (u0_30 : Value) (u0_31 : Value) (u0_32 : Value) (u0_33 : Value) (u0_34 : Value) (u0_35 : Value) (u0_36 : Value) (u0_37 : Value) (u0_38 : Value) (u0_39 : Value) (u0_40 : Value) (v_length : Int32) (v_top : Int32) (v_at : Int32) (v_wrong : Int32) (v_isAsked : Int32) (nv_read : Nat) (v_read : Nat → Int32) (v_asked : Nat → Int32) (p1 : Int32) (r : Int32 × Int32 × Int32) (h : X11_expr 100 3 v_length v_top v_at v_wrong v_isAsked nv_read v_read v_asked p1 = some r) : Ct l yX11_thing cX11_thing 4 (some .int) 104 2486 D cy [.ref q0, .int p1] [oX11 q0 u0_0 u0_1 u0_2 u0_3 u0_4 u0_5 u0_6 (.ref q1) (.int v_length) (.int v_top) (.int v_at) (.int v_wrong) u0_12 u0_13 u0_14 u0_15 (.int v_isAsked) (.ref q2) u0_18 u0_19 u0_20 u0_21 u0_22 u0_23 u0_24 u0_25 u0_26 u0_27 u0_28 u0_29 u0_30 u0_31 u0_32 u0_33 u0_34 u0_35 u0_36 u0_37 u0_38 u0_39 u0_40, aB cy q1 nv_read v_read, aI cy q2 7 v_asked] (fun _ => [oX11 q0 u0_0 u0_1 u0_2 u0_3 u0_4 u0_5 u0_6 (.ref q1) (.int v_length) (.int v_top) (.int r.2.1) (.int r.2.2) u0_12 u0_13 u0_14 u0_15 (.int v_isAsked) (.ref q2) u0_18 u0_19 u0_20 u0_21 u0_22 u0_23 u0_24 u0_25 u0_26 u0_27 u0_28 u0_29 u0_30 u0_31 u0_32 u0_33 u0_34 u0_35 u0_36 u0_37 u0_38 u0_39 u0_40, aB cy q1 nv_read v_read, aI cy q2 7 v_asked]) (some (.int r.1)) := (g_X11_expr 100).2.2.2 q0 q1 q2 u0_0 u0_1 u0_2 u0_3 u0_4 u0_5 u0_6 u0_12 u0_13 u0_14 u0_15 u0_18 u0_19 u0_20 u0_21 u0_22 u0_23 u0_24 u0_25 u0_26 u0_27 u0_28 u0_29 u0_30 u0_31 u0_32 u0_33 u0_34 u0_35 u0_36 u0_37 u0_38 u0_39 u0_40 v_length v_top v_at v_wrong v_isAsked nv_read v_read v_asked p1 r h

