set_option maxHeartbeats 4000000 in
set_option maxRecDepth 100000 in
theorem c_X2_clears {l : Launch} {D : va_G} {cy : Nat → ClassId} (q0 : Nat) (u0_0 : Value) (v_size : Int32) (r : Int32) (h : X2_clears = r) : Ct l yX2_clears cX2_clears 1 none 0 0 D cy [.ref q0] [oX2 q0 u0_0 (.int v_size)] (fun _ => [oX2 q0 u0_0 (.int r)]) (none) := by
  refine Ct.mk kX2_clears (by decide +kernel) (Nat.le_of_ble_eq_true rfl) ?_
  intro p e s m below meth c A ls args R Q hRf hRl hQ E H locs hS hl
  have hx := E.x
  have hb := E.b
  have hl : lv_has ls 1 [(0, .ref q0)] := hl
  unfold X2_clears at h
  refine lv_aload_n hx hb dX2_clears_0 rfl (lv_at hl 0 rfl) ?_
  refine lv_iconst (v := 0) hx hb dX2_clears_1 (by decide) ?_
  refine r_put (ws' := [oX2 q0 u0_0 (.int (0 : Int32))]) E frX2_13 hS 0 rfl (Nat.le_of_ble_eq_true rfl) rfl rfl rfl rfl dX2_clears_2 (fun H locs hS => ?_)
  subst h
  exact rt_v E hQ (.null) hS dX2_clears_5
set_option maxHeartbeats 4000000 in
set_option maxRecDepth 100000 in
theorem c_X2_adds {l : Launch} {D : va_G} {cy : Nat → ClassId} (q0 : Nat) (q1 : Nat) (v_size : Int32) (v_number : Nat → Int64) (p1 : Int64) (r : Int32 × (Nat → Int64)) (h : X2_adds v_size v_number p1 = some r) : Ct l yX2_adds cX2_adds 3 none 0 0 D cy [.ref q0, .long p1] [oX2 q0 (.ref q1) (.int v_size), aJ cy q1 16 v_number] (fun _ => [oX2 q0 (.ref q1) (.int r.1), aJ cy q1 16 r.2]) (none) := by
  refine Ct.mk kX2_adds (by decide +kernel) (Nat.le_of_ble_eq_true rfl) ?_
  intro p e s m below meth c A ls args R Q hRf hRl hQ E H locs hS hl
  have hx := E.x
  have hb := E.b
  have hl : lv_has ls 3 [(0, .ref q0), (1, .long p1)] := hl
  unfold X2_adds at h
  refine lv_aload_n hx hb dX2_adds_0 rfl (lv_at hl 0 rfl) ?_
  refine r_get E frX2_13 hS 0 rfl rfl dX2_adds_1 ?_
  refine lv_aload_n hx hb dX2_adds_4 rfl (lv_at hl 0 rfl) ?_
  refine r_get E frX2_7 hS 0 rfl rfl dX2_adds_5 ?_
  refine r_alen (v := (16 : Int32)) E hS 1 3 rfl rfl rfl dX2_adds_8 ?_
  refine lv_icmp_ge (tgt := 32) hx hb dX2_adds_9 (by decide) (fun c1 => ?_) (fun c1 => ?_)
  · have h := it_pos c1 h
    obtain rfl := Option.some.inj h
    exact rt_v E hQ (.null) hS dX2_adds_32
  · have h := it_neg c1 h
    refine lv_aload_n hx hb dX2_adds_12 rfl (lv_at hl 0 rfl) ?_
    refine r_get E frX2_7 hS 0 rfl rfl dX2_adds_13 ?_
    refine lv_aload_n hx hb dX2_adds_16 rfl (lv_at hl 0 rfl) ?_
    refine r_get E frX2_13 hS 0 rfl rfl dX2_adds_17 ?_
    refine lv_lload_n hx hb dX2_adds_20 rfl (lv_at hl 1 rfl) ?_
    obtain ⟨g2, h⟩ := gi_some h
    refine r_last (ws' := [oX2 q0 (.ref q1) (.int v_size), aJ cy q1 16 (vp_updL v_number v_size.toNatClampNeg p1)]) E hS 1 rfl g2 rfl dX2_adds_21 (fun H locs hS => ?_)
    refine lv_aload_n hx hb dX2_adds_22 rfl (lv_at hl 0 rfl) ?_
    refine lv_dup hx hb dX2_adds_23 rfl ?_
    refine r_get E frX2_13 hS 0 rfl rfl dX2_adds_24 ?_
    refine lv_iconst (v := 1) hx hb dX2_adds_27 (by decide) ?_
    refine lv_iadd hx hb dX2_adds_28 ?_
    refine r_put (ws' := [oX2 q0 (.ref q1) (.int (v_size + (1 : Int32))), aJ cy q1 16 (vp_updL v_number v_size.toNatClampNeg p1)]) E frX2_13 hS 0 rfl (Nat.le_of_ble_eq_true rfl) rfl rfl rfl rfl dX2_adds_29 (fun H locs hS => ?_)
    obtain rfl := Option.some.inj h
    exact rt_v E hQ (.null) hS dX2_adds_32
set_option maxHeartbeats 4000000 in
set_option maxRecDepth 100000 in
theorem c_X2_tellsOne {l : Launch} {D : va_G} {cy : Nat → ClassId} (q0 : Nat) (q1 : Nat) (v_size : Int32) (v_number : Nat → Int64) (p1 : Int64) (r : Int32 × (Nat → Int64)) (h : X2_tellsOne v_number p1 = some r) : Ct l yX2_tellsOne cX2_tellsOne 3 none 1 22 D cy [.ref q0, .long p1] [oX2 q0 (.ref q1) (.int v_size), aJ cy q1 16 v_number] (fun _ => [oX2 q0 (.ref q1) (.int r.1), aJ cy q1 16 r.2]) (none) := by
  refine Ct.mk kX2_tellsOne (by decide +kernel) (Nat.le_of_ble_eq_true rfl) ?_
  intro p e s m below meth c A ls args R Q hRf hRl hQ E H locs hS hl
  have hx := E.x
  have hb := E.b
  have hl : lv_has ls 3 [(0, .ref q0), (1, .long p1)] := hl
  unfold X2_tellsOne at h
  refine lv_aload_n hx hb dX2_tellsOne_0 rfl (lv_at hl 0 rfl) ?_
  refine ct_V (ws' := fun _ => [oX2 q0 (.ref q1) (.int X2_clears), aJ cy q1 16 v_number]) (st' := []) (rest := []) E hS vlX2_17 (c_X2_clears (l := l) (D := D) (cy := cy) (q0 := q0) (u0_0 := .ref q1) (v_size := v_size) (r := X2_clears) rfl) [0] rfl rfl (fun _ => rfl) (fun _ => rfl) rfl rfl rfl rfl (Nat.le_of_ble_eq_true rfl) hl.1 (by rw [hRf]; exact Nat.le_of_ble_eq_true rfl) (by rw [hRl]; exact Nat.le_of_ble_eq_true rfl) ⟨Nat.zero_le _, Nat.zero_le _⟩ dX2_tellsOne_1 rfl (fun H locs _ hS => ?_)
  refine lv_aload_n hx hb dX2_tellsOne_4 rfl (lv_at hl 0 rfl) ?_
  refine lv_lload_n hx hb dX2_tellsOne_5 rfl (lv_at hl 1 rfl) ?_
  obtain ⟨y6, e1, h⟩ := bd_some h
  refine ct_V (ws' := fun _ => [oX2 q0 (.ref q1) (.int y6.1), aJ cy q1 16 y6.2]) (st' := []) (rest := []) E hS vlX2_20 (c_X2_adds (l := l) (D := D) (cy := cy) (q0 := q0) (q1 := q1) (v_size := X2_clears) (v_number := v_number) (p1 := p1) (r := y6) e1) [0, 1] rfl rfl (fun _ => rfl) (fun _ => rfl) rfl rfl rfl rfl (Nat.le_of_ble_eq_true rfl) hl.1 (by rw [hRf]; exact Nat.le_of_ble_eq_true rfl) (by rw [hRl]; exact Nat.le_of_ble_eq_true rfl) ⟨Nat.zero_le _, Nat.zero_le _⟩ dX2_tellsOne_6 rfl (fun H locs _ hS => ?_)
  obtain rfl := Option.some.inj h
  exact rt_v E hQ (.null) hS dX2_tellsOne_9
set_option maxHeartbeats 4000000 in
set_option maxRecDepth 100000 in
theorem c_X2_tellsBoth {l : Launch} {D : va_G} {cy : Nat → ClassId} (q0 : Nat) (q1 : Nat) (v_size : Int32) (v_number : Nat → Int64) (p1 : Int64) (p3 : Int64) (r : Int32 × (Nat → Int64)) (h : X2_tellsBoth v_number p1 p3 = some r) : Ct l yX2_tellsBoth cX2_tellsBoth 5 none 1 22 D cy [.ref q0, .long p1, .long p3] [oX2 q0 (.ref q1) (.int v_size), aJ cy q1 16 v_number] (fun _ => [oX2 q0 (.ref q1) (.int r.1), aJ cy q1 16 r.2]) (none) := by
  refine Ct.mk kX2_tellsBoth (by decide +kernel) (Nat.le_of_ble_eq_true rfl) ?_
  intro p e s m below meth c A ls args R Q hRf hRl hQ E H locs hS hl
  have hx := E.x
  have hb := E.b
  have hl : lv_has ls 5 [(0, .ref q0), (1, .long p1), (3, .long p3)] := hl
  unfold X2_tellsBoth at h
  refine lv_aload_n hx hb dX2_tellsBoth_0 rfl (lv_at hl 0 rfl) ?_
  refine ct_V (ws' := fun _ => [oX2 q0 (.ref q1) (.int X2_clears), aJ cy q1 16 v_number]) (st' := []) (rest := []) E hS vlX2_17 (c_X2_clears (l := l) (D := D) (cy := cy) (q0 := q0) (u0_0 := .ref q1) (v_size := v_size) (r := X2_clears) rfl) [0] rfl rfl (fun _ => rfl) (fun _ => rfl) rfl rfl rfl rfl (Nat.le_of_ble_eq_true rfl) hl.1 (by rw [hRf]; exact Nat.le_of_ble_eq_true rfl) (by rw [hRl]; exact Nat.le_of_ble_eq_true rfl) ⟨Nat.zero_le _, Nat.zero_le _⟩ dX2_tellsBoth_1 rfl (fun H locs _ hS => ?_)
  refine lv_aload_n hx hb dX2_tellsBoth_4 rfl (lv_at hl 0 rfl) ?_
  refine lv_lload_n hx hb dX2_tellsBoth_5 rfl (lv_at hl 1 rfl) ?_
  obtain ⟨y6, e1, h⟩ := bd_some h
  refine ct_V (ws' := fun _ => [oX2 q0 (.ref q1) (.int y6.1), aJ cy q1 16 y6.2]) (st' := []) (rest := []) E hS vlX2_20 (c_X2_adds (l := l) (D := D) (cy := cy) (q0 := q0) (q1 := q1) (v_size := X2_clears) (v_number := v_number) (p1 := p1) (r := y6) e1) [0, 1] rfl rfl (fun _ => rfl) (fun _ => rfl) rfl rfl rfl rfl (Nat.le_of_ble_eq_true rfl) hl.1 (by rw [hRf]; exact Nat.le_of_ble_eq_true rfl) (by rw [hRl]; exact Nat.le_of_ble_eq_true rfl) ⟨Nat.zero_le _, Nat.zero_le _⟩ dX2_tellsBoth_6 rfl (fun H locs _ hS => ?_)
  refine lv_aload_n hx hb dX2_tellsBoth_9 rfl (lv_at hl 0 rfl) ?_
  refine lv_lload_n hx hb dX2_tellsBoth_10 rfl (lv_at hl 2 rfl) ?_
  obtain ⟨y11, e2, h⟩ := bd_some h
  refine ct_V (ws' := fun _ => [oX2 q0 (.ref q1) (.int y11.1), aJ cy q1 16 y11.2]) (st' := []) (rest := []) E hS vlX2_20 (c_X2_adds (l := l) (D := D) (cy := cy) (q0 := q0) (q1 := q1) (v_size := y6.1) (v_number := y6.2) (p1 := p3) (r := y11) e2) [0, 1] rfl rfl (fun _ => rfl) (fun _ => rfl) rfl rfl rfl rfl (Nat.le_of_ble_eq_true rfl) hl.1 (by rw [hRf]; exact Nat.le_of_ble_eq_true rfl) (by rw [hRl]; exact Nat.le_of_ble_eq_true rfl) ⟨Nat.zero_le _, Nat.zero_le _⟩ dX2_tellsBoth_11 rfl (fun H locs _ hS => ?_)
  obtain rfl := Option.some.inj h
  exact rt_v E hQ (.null) hS dX2_tellsBoth_14

