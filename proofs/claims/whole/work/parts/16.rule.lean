set_option maxHeartbeats 4000000 in
set_option maxRecDepth 100000 in
theorem c_X5_clears {l : Launch} {D : va_G} {cy : Nat → ClassId} (q0 : Nat) (u0_0 : Value) (u0_1 : Value) (u0_2 : Value) (v_size : Int32) (r : Int32) (h : X5_clears = r) : Ct l yX5_clears cX5_clears 1 none 0 0 D cy [.ref q0] [oX5 q0 u0_0 u0_1 u0_2 (.int v_size)] (fun _ => [oX5 q0 u0_0 u0_1 u0_2 (.int r)]) (none) := by
  refine Ct.mk kX5_clears (by decide +kernel) (Nat.le_of_ble_eq_true rfl) ?_
  intro p e s m below meth c A ls args R Q hRf hRl hQ E H locs hS hl
  have hx := E.x
  have hb := E.b
  have hl : lv_has ls 1 [(0, .ref q0)] := hl
  unfold X5_clears at h
  refine lv_aload_n hx hb dX5_clears_0 rfl (lv_at hl 0 rfl) ?_
  refine lv_iconst (v := 0) hx hb dX5_clears_1 (by decide) ?_
  refine r_put (ws' := [oX5 q0 u0_0 u0_1 u0_2 (.int (0 : Int32))]) E frX5_21 hS 0 rfl (Nat.le_of_ble_eq_true rfl) rfl rfl rfl rfl dX5_clears_2 (fun H locs hS => ?_)
  subst h
  exact rt_v E hQ (.null) hS dX5_clears_5
set_option maxHeartbeats 4000000 in
set_option maxRecDepth 100000 in
theorem c_X5_adds {l : Launch} {D : va_G} {cy : Nat → ClassId} (q0 : Nat) (q1 : Nat) (u0_1 : Value) (u0_2 : Value) (v_size : Int32) (v_code : Nat → Int32) (p1 : Int32) (r : Int32 × (Nat → Int32)) (h : X5_adds v_size v_code p1 = some r) : Ct l yX5_adds cX5_adds 2 none 0 0 D cy [.ref q0, .int p1] [oX5 q0 (.ref q1) u0_1 u0_2 (.int v_size), aI cy q1 40 v_code] (fun _ => [oX5 q0 (.ref q1) u0_1 u0_2 (.int r.1), aI cy q1 40 r.2]) (none) := by
  refine Ct.mk kX5_adds (by decide +kernel) (Nat.le_of_ble_eq_true rfl) ?_
  intro p e s m below meth c A ls args R Q hRf hRl hQ E H locs hS hl
  have hx := E.x
  have hb := E.b
  have hl : lv_has ls 2 [(0, .ref q0), (1, .int p1)] := hl
  unfold X5_adds at h
  refine lv_aload_n hx hb dX5_adds_0 rfl (lv_at hl 0 rfl) ?_
  refine r_get E frX5_21 hS 0 rfl rfl dX5_adds_1 ?_
  refine lv_bipush (v := 40) hx hb dX5_adds_4 (by decide) ?_
  refine lv_icmp_ge (tgt := 29) hx hb dX5_adds_6 (by decide) (fun c1 => ?_) (fun c1 => ?_)
  · have h := it_pos c1 h
    obtain rfl := Option.some.inj h
    exact rt_v E hQ (.null) hS dX5_adds_29
  · have h := it_neg c1 h
    refine lv_aload_n hx hb dX5_adds_9 rfl (lv_at hl 0 rfl) ?_
    refine r_get E frX5_11 hS 0 rfl rfl dX5_adds_10 ?_
    refine lv_aload_n hx hb dX5_adds_13 rfl (lv_at hl 0 rfl) ?_
    refine r_get E frX5_21 hS 0 rfl rfl dX5_adds_14 ?_
    refine lv_iload_n hx hb dX5_adds_17 rfl (lv_at hl 1 rfl) ?_
    obtain ⟨g2, h⟩ := gi_some h
    refine r_iast (ws' := [oX5 q0 (.ref q1) u0_1 u0_2 (.int v_size), aI cy q1 40 (upd v_code v_size.toNatClampNeg p1)]) E hS 1 rfl g2 rfl dX5_adds_18 (fun H locs hS => ?_)
    refine lv_aload_n hx hb dX5_adds_19 rfl (lv_at hl 0 rfl) ?_
    refine lv_dup hx hb dX5_adds_20 rfl ?_
    refine r_get E frX5_21 hS 0 rfl rfl dX5_adds_21 ?_
    refine lv_iconst (v := 1) hx hb dX5_adds_24 (by decide) ?_
    refine lv_iadd hx hb dX5_adds_25 ?_
    refine r_put (ws' := [oX5 q0 (.ref q1) u0_1 u0_2 (.int (v_size + (1 : Int32))), aI cy q1 40 (upd v_code v_size.toNatClampNeg p1)]) E frX5_21 hS 0 rfl (Nat.le_of_ble_eq_true rfl) rfl rfl rfl rfl dX5_adds_26 (fun H locs hS => ?_)
    obtain rfl := Option.some.inj h
    exact rt_v E hQ (.null) hS dX5_adds_29
set_option maxHeartbeats 4000000 in
set_option maxRecDepth 100000 in
theorem c_X5_widens {l : Launch} {D : va_G} {cy : Nat → ClassId} (q0 : Nat) (q1 : Nat) (u0_1 : Value) (u0_2 : Value) (v_size : Int32) (v_code : Nat → Int32) (p1 : Int32) (r : (Nat → Int32)) (h : X5_widens v_size v_code p1 = some r) : Ct l yX5_widens cX5_widens 2 none 0 0 D cy [.ref q0, .int p1] [oX5 q0 (.ref q1) u0_1 u0_2 (.int v_size), aI cy q1 40 v_code] (fun _ => [oX5 q0 (.ref q1) u0_1 u0_2 (.int v_size), aI cy q1 40 r]) (none) := by
  refine Ct.mk kX5_widens (by decide +kernel) (Nat.le_of_ble_eq_true rfl) ?_
  intro p e s m below meth c A ls args R Q hRf hRl hQ E H locs hS hl
  have hx := E.x
  have hb := E.b
  have hl : lv_has ls 2 [(0, .ref q0), (1, .int p1)] := hl
  unfold X5_widens at h
  refine lv_aload_n hx hb dX5_widens_0 rfl (lv_at hl 0 rfl) ?_
  refine r_get E frX5_21 hS 0 rfl rfl dX5_widens_1 ?_
  refine lv_if_le (tgt := 34) hx hb dX5_widens_4 (by decide) (fun c1 => ?_) (fun c1 => ?_)
  · have h := it_pos c1 h
    obtain rfl := Option.some.inj h
    exact rt_v E hQ (.null) hS dX5_widens_34
  · have h := it_neg c1 h
    refine lv_aload_n hx hb dX5_widens_7 rfl (lv_at hl 0 rfl) ?_
    refine r_get E frX5_11 hS 0 rfl rfl dX5_widens_8 ?_
    refine lv_aload_n hx hb dX5_widens_11 rfl (lv_at hl 0 rfl) ?_
    refine r_get E frX5_21 hS 0 rfl rfl dX5_widens_12 ?_
    refine lv_iconst (v := 1) hx hb dX5_widens_15 (by decide) ?_
    refine lv_isub hx hb dX5_widens_16 ?_
    refine lv_aload_n hx hb dX5_widens_17 rfl (lv_at hl 0 rfl) ?_
    refine r_get E frX5_11 hS 0 rfl rfl dX5_widens_18 ?_
    refine lv_aload_n hx hb dX5_widens_21 rfl (lv_at hl 0 rfl) ?_
    refine r_get E frX5_21 hS 0 rfl rfl dX5_widens_22 ?_
    refine lv_iconst (v := 1) hx hb dX5_widens_25 (by decide) ?_
    refine lv_isub hx hb dX5_widens_26 ?_
    obtain ⟨g2, h⟩ := gi_some h
    refine r_iald E hS 1 rfl g2 dX5_widens_27 ?_
    refine lv_bipush (v := 10) hx hb dX5_widens_28 (by decide) ?_
    refine lv_imul hx hb dX5_widens_30 ?_
    refine lv_iload_n hx hb dX5_widens_31 rfl (lv_at hl 1 rfl) ?_
    refine lv_iadd hx hb dX5_widens_32 ?_
    obtain ⟨g3, h⟩ := gi_some h
    refine r_iast (ws' := [oX5 q0 (.ref q1) u0_1 u0_2 (.int v_size), aI cy q1 40 (upd v_code (v_size - (1 : Int32)).toNatClampNeg (((v_code (v_size - (1 : Int32)).toNatClampNeg) * (10 : Int32)) + p1))]) E hS 1 rfl g3 rfl dX5_widens_33 (fun H locs hS => ?_)
    obtain rfl := Option.some.inj h
    exact rt_v E hQ (.null) hS dX5_widens_34
set_option maxHeartbeats 4000000 in
set_option maxRecDepth 100000 in
theorem c_X5_joined {l : Launch} {D : va_G} {cy : Nat → ClassId} (p0 : Int32) (p1 : Int32) (p2 : Int32) (r : Int32) (h : X5_joined p0 p1 p2 = some r) : Ct l yX5_joined cX5_joined 3 (some .int) 0 0 D cy [.int p0, .int p1, .int p2] [] (fun _ => []) (some (.int r)) := by
  refine Ct.mk kX5_joined (by decide +kernel) (Nat.le_of_ble_eq_true rfl) ?_
  intro p e s m below meth c A ls args R Q hRf hRl hQ E H locs hS hl
  have hx := E.x
  have hb := E.b
  have hl : lv_has ls 3 [(0, .int p0), (1, .int p1), (2, .int p2)] := hl
  unfold X5_joined at h
  refine lv_iload_n hx hb dX5_joined_0 rfl (lv_at hl 0 rfl) ?_
  rcases Decidable.em (p0 = 0) with c1 | c1
  · have h := it_pos c1 h
    refine lv_tableIn (off := 39) (tgt := 40) hx hb dX5_joined_1 (by rw [c1]; decide) (by rw [c1]; decide) (by rw [c1]; rfl) (by decide) ?_
    refine lv_iload_n hx hb dX5_joined_40 rfl (lv_at hl 1 rfl) ?_
    refine lv_iload_n hx hb dX5_joined_41 rfl (lv_at hl 2 rfl) ?_
    have hJ50 : ∀ (s50_0 : Int32) (ls : Array Slot), s50_0 = (if p2 ≤ p1 then (0 : Int32) else (1 : Int32)) → lv_has ls 3 [] → W p l e R s m args below meth c H locs 0 0 Q (F0 m 50 ls [.int s50_0]) := by
      intro s50_0 ls es50_0 hl
      subst es50_0
      obtain rfl := Option.some.inj h
      exact rt_i E hQ (.null) hS dX5_joined_50
    refine lv_icmp_ge (tgt := 49) hx hb dX5_joined_42 (by decide) (fun c2 => ?_) (fun c2 => ?_)
    · refine lv_iconst (v := 0) hx hb dX5_joined_49 (by decide) ?_
      exact hJ50 _ ls ((if_pos c2)).symm (lv_sub hl [] rfl)
    · refine lv_iconst (v := 1) hx hb dX5_joined_45 (by decide) ?_
      refine lv_goto (tgt := 50) hx hb dX5_joined_46 (by decide) ?_
      exact hJ50 _ ls ((if_neg c2)).symm (lv_sub hl [] rfl)
  · have h := it_neg c1 h
    rcases Decidable.em (p0 = 1) with c3 | c3
    · have h := it_pos c3 h
      refine lv_tableIn (off := 50) (tgt := 51) hx hb dX5_joined_1 (by rw [c3]; decide) (by rw [c3]; decide) (by rw [c3]; rfl) (by decide) ?_
      refine lv_iload_n hx hb dX5_joined_51 rfl (lv_at hl 1 rfl) ?_
      refine lv_iload_n hx hb dX5_joined_52 rfl (lv_at hl 2 rfl) ?_
      have hJ61 : ∀ (s61_0 : Int32) (ls : Array Slot), s61_0 = (if p1 ≤ p2 then (0 : Int32) else (1 : Int32)) → lv_has ls 3 [] → W p l e R s m args below meth c H locs 0 0 Q (F0 m 61 ls [.int s61_0]) := by
        intro s61_0 ls es61_0 hl
        subst es61_0
        obtain rfl := Option.some.inj h
        exact rt_i E hQ (.null) hS dX5_joined_61
      refine lv_icmp_le (tgt := 60) hx hb dX5_joined_53 (by decide) (fun c4 => ?_) (fun c4 => ?_)
      · refine lv_iconst (v := 0) hx hb dX5_joined_60 (by decide) ?_
        exact hJ61 _ ls ((if_pos c4)).symm (lv_sub hl [] rfl)
      · refine lv_iconst (v := 1) hx hb dX5_joined_56 (by decide) ?_
        refine lv_goto (tgt := 61) hx hb dX5_joined_57 (by decide) ?_
        exact hJ61 _ ls ((if_neg c4)).symm (lv_sub hl [] rfl)
    · have h := it_neg c3 h
      rcases Decidable.em (p0 = 2) with c5 | c5
      · have h := it_pos c5 h
        refine lv_tableIn (off := 61) (tgt := 62) hx hb dX5_joined_1 (by rw [c5]; decide) (by rw [c5]; decide) (by rw [c5]; rfl) (by decide) ?_
        refine lv_iload_n hx hb dX5_joined_62 rfl (lv_at hl 1 rfl) ?_
        refine lv_iload_n hx hb dX5_joined_63 rfl (lv_at hl 2 rfl) ?_
        have hJ72 : ∀ (s72_0 : Int32) (ls : Array Slot), s72_0 = (if p1 = p2 then (1 : Int32) else (0 : Int32)) → lv_has ls 3 [] → W p l e R s m args below meth c H locs 0 0 Q (F0 m 72 ls [.int s72_0]) := by
          intro s72_0 ls es72_0 hl
          subst es72_0
          obtain rfl := Option.some.inj h
          exact rt_i E hQ (.null) hS dX5_joined_72
        refine lv_icmp_ne (tgt := 71) hx hb dX5_joined_64 (by decide) (fun c6 => ?_) (fun c6 => ?_)
        · refine lv_iconst (v := 0) hx hb dX5_joined_71 (by decide) ?_
          exact hJ72 _ ls ((if_neg c6)).symm (lv_sub hl [] rfl)
        · refine lv_iconst (v := 1) hx hb dX5_joined_67 (by decide) ?_
          refine lv_goto (tgt := 72) hx hb dX5_joined_68 (by decide) ?_
          exact hJ72 _ ls ((if_pos c6)).symm (lv_sub hl [] rfl)
      · have h := it_neg c5 h
        rcases Decidable.em (p0 = 3) with c7 | c7
        · have h := it_pos c7 h
          refine lv_tableIn (off := 72) (tgt := 73) hx hb dX5_joined_1 (by rw [c7]; decide) (by rw [c7]; decide) (by rw [c7]; rfl) (by decide) ?_
          refine lv_iload_n hx hb dX5_joined_73 rfl (lv_at hl 1 rfl) ?_
          refine lv_iload_n hx hb dX5_joined_74 rfl (lv_at hl 2 rfl) ?_
          refine lv_iadd hx hb dX5_joined_75 ?_
          obtain rfl := Option.some.inj h
          exact rt_i E hQ (.null) hS dX5_joined_76
        · have h := it_neg c7 h
          rcases Decidable.em (p0 = 4) with c8 | c8
          · have h := it_pos c8 h
            refine lv_tableIn (off := 76) (tgt := 77) hx hb dX5_joined_1 (by rw [c8]; decide) (by rw [c8]; decide) (by rw [c8]; rfl) (by decide) ?_
            refine lv_iload_n hx hb dX5_joined_77 rfl (lv_at hl 1 rfl) ?_
            refine lv_iload_n hx hb dX5_joined_78 rfl (lv_at hl 2 rfl) ?_
            refine lv_isub hx hb dX5_joined_79 ?_
            obtain rfl := Option.some.inj h
            exact rt_i E hQ (.null) hS dX5_joined_80
          · have h := it_neg c8 h
            rcases Decidable.em (p0 = 5) with c9 | c9
            · have h := it_pos c9 h
              refine lv_tableIn (off := 80) (tgt := 81) hx hb dX5_joined_1 (by rw [c9]; decide) (by rw [c9]; decide) (by rw [c9]; rfl) (by decide) ?_
              refine lv_iload_n hx hb dX5_joined_81 rfl (lv_at hl 1 rfl) ?_
              refine lv_iload_n hx hb dX5_joined_82 rfl (lv_at hl 2 rfl) ?_
              refine lv_imul hx hb dX5_joined_83 ?_
              obtain rfl := Option.some.inj h
              exact rt_i E hQ (.null) hS dX5_joined_84
            · have h := it_neg c9 h
              have ht : p0.toInt < 0 ∨ (5 : Int) < p0.toInt := by
                refine tb_neg (fun k h1 h2 => ?_)
                have hh : k = 0 ∨ k = 1 ∨ k = 2 ∨ k = 3 ∨ k = 4 ∨ k = 5 := by omega
                rcases hh with rfl | rfl | rfl | rfl | rfl | rfl
                · exact c1
                · exact c3
                · exact c5
                · exact c7
                · exact c8
                · exact c9
              refine lv_tableOut (tgt := 85) hx hb dX5_joined_1 ht (by decide) ?_
              refine lv_iload_n hx hb dX5_joined_85 rfl (lv_at hl 2 rfl) ?_
              refine lv_if_ne (tgt := 93) hx hb dX5_joined_86 (by decide) (fun c10 => ?_) (fun c10 => ?_)
              · have h := it_neg c10 h
                refine lv_iload_n hx hb dX5_joined_93 rfl (lv_at hl 1 rfl) ?_
                refine lv_iload_n hx hb dX5_joined_94 rfl (lv_at hl 2 rfl) ?_
                obtain ⟨g11, h⟩ := gz_some h
                refine lv_idiv hx hb dX5_joined_95 g11 ?_
                obtain rfl := Option.some.inj h
                exact rt_i E hQ (.null) hS dX5_joined_96
              · have h := it_pos c10 h
                refine lv_iconst (v := 0) hx hb dX5_joined_89 (by decide) ?_
                refine lv_goto (tgt := 96) hx hb dX5_joined_90 (by decide) ?_
                obtain rfl := Option.some.inj h
                exact rt_i E hQ (.null) hS dX5_joined_96
set_option maxHeartbeats 4000000 in
set_option maxRecDepth 100000 in
theorem c_X5_value {l : Launch} {D : va_G} {cy : Nat → ClassId} (q0 : Nat) (q1 : Nat) (q2 : Nat) (q3 : Nat) (v_size : Int32) (v_code : Nat → Int32) (v_stack : Nat → Int32) (v_thing : Nat → Int32) (r : Int32 × (Nat → Int32)) (h : X5_value v_size v_code v_stack v_thing = some r) : Ct l yX5_value cX5_value 5 (some .int) 1 22 D cy [.ref q0] [oX5 q0 (.ref q1) (.ref q2) (.ref q3) (.int v_size), aI cy q1 40 v_code, aI cy q2 40 v_stack, aI cy q3 7 v_thing] (fun _ => [oX5 q0 (.ref q1) (.ref q2) (.ref q3) (.int v_size), aI cy q1 40 v_code, aI cy q2 40 r.2, aI cy q3 7 v_thing]) (some (.int r.1)) := by
  refine Ct.mk kX5_value (by decide +kernel) (Nat.le_of_ble_eq_true rfl) ?_
  intro p e s m below meth c A ls args R Q hRf hRl hQ E H locs hS hl
  have hx := E.x
  have hb := E.b
  have hl : lv_has ls 5 [(0, .ref q0)] := hl
  unfold X5_value at h
  refine lv_iconst (v := 0) hx hb dX5_value_0 (by decide) ?_
  refine lv_istore_n (lv' := [(1, .int (0 : Int32)), (0, .ref q0)]) hx hb dX5_value_1 rfl hl (by decide) rfl (fun ls hl => ?_)
  refine lv_iconst (v := 0) hx hb dX5_value_2 (by decide) ?_
  refine lv_istore_n (lv' := [(2, .int (0 : Int32)), (1, .int (0 : Int32)), (0, .ref q0)]) hx hb dX5_value_3 rfl hl (by decide) rfl (fun ls hl => ?_)
  have hL4 : ∀ (n : Nat) (x4_0 : Int32) (x4_1 : Int32) (x4_2 : Nat → Int32) (y4 : Int32 × (Nat → Int32)) (H : Heap) (locs : List Loc) (ls : Array Slot), lp (fun x4 => X5_value_s4 v_size v_code v_thing x4.1 x4.2.1 x4.2.2) n (x4_0, x4_1, x4_2) = some y4 → Sv D A s.heap [oX5 q0 (.ref q1) (.ref q2) (.ref q3) (.int v_size), aI cy q1 40 v_code, aI cy q2 40 x4_2, aI cy q3 7 v_thing] H locs → lv_has ls 5 [(0, .ref q0), (1, .int x4_0), (2, .int x4_1)] → ( ∀ (y4_0 : Int32) (y4_1 : Nat → Int32), (y4_0, y4_1) = y4 → ∀ (H : Heap) (locs : List Loc) (ls : Array Slot), Sv D A s.heap [oX5 q0 (.ref q1) (.ref q2) (.ref q3) (.int v_size), aI cy q1 40 v_code, aI cy q2 40 y4_1, aI cy q3 7 v_thing] H locs → lv_has ls 5 [(0, .ref q0), (1, .int y4_0)] → W p l e R s m args below meth c H locs 0 0 Q (F0 m 156 ls [])) → W p l e R s m args below meth c H locs 0 0 Q (F0 m 4 ls []) := by
    intro n
    induction n with
    | zero =>
      intro x4_0 x4_1 x4_2 y4 H locs ls h
      exact lp_zero h
    | succ n ih4 =>
      intro x4_0 x4_1 x4_2 y4 H locs ls h hS hl hk4_0
      obtain ⟨z4, h, hz4a, hz4b⟩ := lp_succ h
      have h : X5_value_s4 v_size v_code v_thing x4_0 x4_1 x4_2 = some z4 := h
      unfold X5_value_s4 at h
      refine lv_iload_n hx hb dX5_value_4 rfl (lv_at hl 2 rfl) ?_
      refine lv_aload_n hx hb dX5_value_5 rfl (lv_at hl 0 rfl) ?_
      refine r_get E frX5_21 hS 0 rfl rfl dX5_value_6 ?_
      refine lv_icmp_ge (tgt := 156) hx hb dX5_value_9 (by decide) (fun c1 => ?_) (fun c1 => ?_)
      · have h := it_pos c1 h
        exact hk4_0 x4_0 x4_2 (hz4b _ (Option.some.inj h).symm)  H locs ls hS (lv_sub hl [0, 1] rfl)
      · have h := it_neg c1 h
        refine lv_aload_n hx hb dX5_value_12 rfl (lv_at hl 0 rfl) ?_
        refine r_get E frX5_11 hS 0 rfl rfl dX5_value_13 ?_
        refine lv_iload_n hx hb dX5_value_16 rfl (lv_at hl 2 rfl) ?_
        obtain ⟨g2, h⟩ := gi_some h
        refine r_iald E hS 1 rfl g2 dX5_value_17 ?_
        refine lv_istore_n (lv' := [(3, .int (v_code x4_1.toNatClampNeg)), (0, .ref q0), (1, .int x4_0), (2, .int x4_1)]) hx hb dX5_value_18 rfl hl (by decide) rfl (fun ls hl => ?_)
        refine lv_iload_n hx hb dX5_value_19 rfl (lv_at hl 0 rfl) ?_
        refine lv_sipush (v := 2007) hx hb dX5_value_20 (by decide) ?_
        refine lv_icmp_ne (tgt := 50) hx hb dX5_value_23 (by decide) (fun c3 => ?_) (fun c3 => ?_)
        · have h := it_neg c3 h
          refine lv_iload_n hx hb dX5_value_50 rfl (lv_at hl 0 rfl) ?_
          refine lv_sipush (v := 2000) hx hb dX5_value_51 (by decide) ?_
          refine lv_icmp_lt (tgt := 98) hx hb dX5_value_54 (by decide) (fun c4 => ?_) (fun c4 => ?_)
          · have h := it_pos c4 h
            refine lv_iload_n hx hb dX5_value_98 rfl (lv_at hl 2 rfl) ?_
            refine lv_bipush (v := 40) hx hb dX5_value_99 (by decide) ?_
            refine lv_icmp_ge (tgt := 150) hx hb dX5_value_101 (by decide) (fun c5 => ?_) (fun c5 => ?_)
            · have h := it_pos c5 h
              refine lv_iinc (v := (x4_1 + (1 : Int32))) (lv' := [(2, .int (x4_1 + (1 : Int32))), (3, .int (v_code x4_1.toNatClampNeg)), (0, .ref q0), (1, .int x4_0)]) hx hb dX5_value_150 hl (k := 3) rfl rfl (by decide) rfl (fun ls hl => ?_)
              refine lv_goto (tgt := 4) hx hb dX5_value_153 (by decide) ?_
              exact ih4 x4_0 (x4_1 + (1 : Int32)) x4_2 y4  H locs ls (hz4a _ (Option.some.inj h).symm) hS (lv_sub hl [2, 3, 0] rfl) hk4_0
            · have h := it_neg c5 h
              refine lv_iload_n hx hb dX5_value_104 rfl (lv_at hl 0 rfl) ?_
              refine lv_sipush (v := 1000) hx hb dX5_value_105 (by decide) ?_
              refine lv_isub hx hb dX5_value_108 ?_
              refine lv_istore (lv' := [(4, .int ((v_code x4_1.toNatClampNeg) - (1000 : Int32))), (3, .int (v_code x4_1.toNatClampNeg)), (0, .ref q0), (1, .int x4_0), (2, .int x4_1)]) hx hb dX5_value_109 hl (by decide) rfl (fun ls hl => ?_)
              refine lv_aload_n hx hb dX5_value_111 rfl (lv_at hl 2 rfl) ?_
              refine r_get E frX5_15 hS 0 rfl rfl dX5_value_112 ?_
              refine lv_iload_n hx hb dX5_value_115 rfl (lv_at hl 3 rfl) ?_
              refine lv_iload hx hb dX5_value_116 (lv_at hl 0 rfl) ?_
              refine lv_if_ge (tgt := 125) hx hb dX5_value_118 (by decide) (fun c6 => ?_) (fun c6 => ?_)
              · have h := it_pos c6 h
                refine lv_iload hx hb dX5_value_125 (lv_at hl 0 rfl) ?_
                refine lv_aload_n hx hb dX5_value_127 rfl (lv_at hl 2 rfl) ?_
                refine r_get E frX5_18 hS 0 rfl rfl dX5_value_128 ?_
                refine r_alen (v := (7 : Int32)) E hS 3 2 rfl rfl rfl dX5_value_131 ?_
                refine lv_icmp_ge (tgt := 145) hx hb dX5_value_132 (by decide) (fun c7 => ?_) (fun c7 => ?_)
                · have h := it_pos c7 h
                  refine lv_iconst (v := 0) hx hb dX5_value_145 (by decide) ?_
                  obtain ⟨g8, h⟩ := gi_some h
                  refine r_iast (ws' := [oX5 q0 (.ref q1) (.ref q2) (.ref q3) (.int v_size), aI cy q1 40 v_code, aI cy q2 40 (upd x4_2 x4_0.toNatClampNeg (0 : Int32)), aI cy q3 7 v_thing]) E hS 2 rfl g8 rfl dX5_value_146 (fun H locs hS => ?_)
                  refine lv_iinc (v := (x4_0 + (1 : Int32))) (lv' := [(1, .int (x4_0 + (1 : Int32))), (4, .int ((v_code x4_1.toNatClampNeg) - (1000 : Int32))), (3, .int (v_code x4_1.toNatClampNeg)), (0, .ref q0), (2, .int x4_1)]) hx hb dX5_value_147 hl (k := 3) rfl rfl (by decide) rfl (fun ls hl => ?_)
                  refine lv_iinc (v := (x4_1 + (1 : Int32))) (lv' := [(2, .int (x4_1 + (1 : Int32))), (1, .int (x4_0 + (1 : Int32))), (4, .int ((v_code x4_1.toNatClampNeg) - (1000 : Int32))), (3, .int (v_code x4_1.toNatClampNeg)), (0, .ref q0)]) hx hb dX5_value_150 hl (k := 4) rfl rfl (by decide) rfl (fun ls hl => ?_)
                  refine lv_goto (tgt := 4) hx hb dX5_value_153 (by decide) ?_
                  exact ih4 (x4_0 + (1 : Int32)) (x4_1 + (1 : Int32)) (upd x4_2 x4_0.toNatClampNeg (0 : Int32)) y4  H locs ls (hz4a _ (Option.some.inj h).symm) hS (lv_sub hl [4, 1, 0] rfl) hk4_0
                · have h := it_neg c7 h
                  refine lv_aload_n hx hb dX5_value_135 rfl (lv_at hl 2 rfl) ?_
                  refine r_get E frX5_18 hS 0 rfl rfl dX5_value_136 ?_
                  refine lv_iload hx hb dX5_value_139 (lv_at hl 0 rfl) ?_
                  obtain ⟨g9, h⟩ := gi_some h
                  refine r_iald E hS 3 rfl g9 dX5_value_141 ?_
                  refine lv_goto (tgt := 146) hx hb dX5_value_142 (by decide) ?_
                  obtain ⟨g10, h⟩ := gi_some h
                  refine r_iast (ws' := [oX5 q0 (.ref q1) (.ref q2) (.ref q3) (.int v_size), aI cy q1 40 v_code, aI cy q2 40 (upd x4_2 x4_0.toNatClampNeg (v_thing ((v_code x4_1.toNatClampNeg) - (1000 : Int32)).toNatClampNeg)), aI cy q3 7 v_thing]) E hS 2 rfl g10 rfl dX5_value_146 (fun H locs hS => ?_)
                  refine lv_iinc (v := (x4_0 + (1 : Int32))) (lv' := [(1, .int (x4_0 + (1 : Int32))), (4, .int ((v_code x4_1.toNatClampNeg) - (1000 : Int32))), (3, .int (v_code x4_1.toNatClampNeg)), (0, .ref q0), (2, .int x4_1)]) hx hb dX5_value_147 hl (k := 3) rfl rfl (by decide) rfl (fun ls hl => ?_)
                  refine lv_iinc (v := (x4_1 + (1 : Int32))) (lv' := [(2, .int (x4_1 + (1 : Int32))), (1, .int (x4_0 + (1 : Int32))), (4, .int ((v_code x4_1.toNatClampNeg) - (1000 : Int32))), (3, .int (v_code x4_1.toNatClampNeg)), (0, .ref q0)]) hx hb dX5_value_150 hl (k := 4) rfl rfl (by decide) rfl (fun ls hl => ?_)
                  refine lv_goto (tgt := 4) hx hb dX5_value_153 (by decide) ?_
                  exact ih4 (x4_0 + (1 : Int32)) (x4_1 + (1 : Int32)) (upd x4_2 x4_0.toNatClampNeg (v_thing ((v_code x4_1.toNatClampNeg) - (1000 : Int32)).toNatClampNeg)) y4  H locs ls (hz4a _ (Option.some.inj h).symm) hS (lv_sub hl [4, 1, 0] rfl) hk4_0
              · have h := it_neg c6 h
                refine lv_iload_n hx hb dX5_value_121 rfl (lv_at hl 1 rfl) ?_
                refine lv_goto (tgt := 146) hx hb dX5_value_122 (by decide) ?_
                obtain ⟨g11, h⟩ := gi_some h
                refine r_iast (ws' := [oX5 q0 (.ref q1) (.ref q2) (.ref q3) (.int v_size), aI cy q1 40 v_code, aI cy q2 40 (upd x4_2 x4_0.toNatClampNeg (v_code x4_1.toNatClampNeg)), aI cy q3 7 v_thing]) E hS 2 rfl g11 rfl dX5_value_146 (fun H locs hS => ?_)
                refine lv_iinc (v := (x4_0 + (1 : Int32))) (lv' := [(1, .int (x4_0 + (1 : Int32))), (4, .int ((v_code x4_1.toNatClampNeg) - (1000 : Int32))), (3, .int (v_code x4_1.toNatClampNeg)), (0, .ref q0), (2, .int x4_1)]) hx hb dX5_value_147 hl (k := 3) rfl rfl (by decide) rfl (fun ls hl => ?_)
                refine lv_iinc (v := (x4_1 + (1 : Int32))) (lv' := [(2, .int (x4_1 + (1 : Int32))), (1, .int (x4_0 + (1 : Int32))), (4, .int ((v_code x4_1.toNatClampNeg) - (1000 : Int32))), (3, .int (v_code x4_1.toNatClampNeg)), (0, .ref q0)]) hx hb dX5_value_150 hl (k := 4) rfl rfl (by decide) rfl (fun ls hl => ?_)
                refine lv_goto (tgt := 4) hx hb dX5_value_153 (by decide) ?_
                exact ih4 (x4_0 + (1 : Int32)) (x4_1 + (1 : Int32)) (upd x4_2 x4_0.toNatClampNeg (v_code x4_1.toNatClampNeg)) y4  H locs ls (hz4a _ (Option.some.inj h).symm) hS (lv_sub hl [4, 1, 0] rfl) hk4_0
          · have h := it_neg c4 h
            refine lv_iload_n hx hb dX5_value_57 rfl (lv_at hl 2 rfl) ?_
            refine lv_iconst (v := 1) hx hb dX5_value_58 (by decide) ?_
            refine lv_icmp_le (tgt := 150) hx hb dX5_value_59 (by decide) (fun c12 => ?_) (fun c12 => ?_)
            · have h := it_pos c12 h
              refine lv_iinc (v := (x4_1 + (1 : Int32))) (lv' := [(2, .int (x4_1 + (1 : Int32))), (3, .int (v_code x4_1.toNatClampNeg)), (0, .ref q0), (1, .int x4_0)]) hx hb dX5_value_150 hl (k := 3) rfl rfl (by decide) rfl (fun ls hl => ?_)
              refine lv_goto (tgt := 4) hx hb dX5_value_153 (by decide) ?_
              exact ih4 x4_0 (x4_1 + (1 : Int32)) x4_2 y4  H locs ls (hz4a _ (Option.some.inj h).symm) hS (lv_sub hl [2, 3, 0] rfl) hk4_0
            · have h := it_neg c12 h
              refine lv_iinc (v := (x4_0 + (-1 : Int32))) (lv' := [(1, .int (x4_0 + (-1 : Int32))), (3, .int (v_code x4_1.toNatClampNeg)), (0, .ref q0), (2, .int x4_1)]) hx hb dX5_value_62 hl (k := 2) rfl rfl (by decide) rfl (fun ls hl => ?_)
              refine lv_aload_n hx hb dX5_value_65 rfl (lv_at hl 2 rfl) ?_
              refine r_get E frX5_15 hS 0 rfl rfl dX5_value_66 ?_
              refine lv_iload_n hx hb dX5_value_69 rfl (lv_at hl 0 rfl) ?_
              refine lv_iconst (v := 1) hx hb dX5_value_70 (by decide) ?_
              refine lv_isub hx hb dX5_value_71 ?_
              refine lv_iload_n hx hb dX5_value_72 rfl (lv_at hl 1 rfl) ?_
              refine lv_sipush (v := 2000) hx hb dX5_value_73 (by decide) ?_
              refine lv_isub hx hb dX5_value_76 ?_
              refine lv_aload_n hx hb dX5_value_77 rfl (lv_at hl 2 rfl) ?_
              refine r_get E frX5_15 hS 0 rfl rfl dX5_value_78 ?_
              refine lv_iload_n hx hb dX5_value_81 rfl (lv_at hl 0 rfl) ?_
              refine lv_iconst (v := 1) hx hb dX5_value_82 (by decide) ?_
              refine lv_isub hx hb dX5_value_83 ?_
              obtain ⟨g13, h⟩ := gi_some h
              refine r_iald E hS 2 rfl g13 dX5_value_84 ?_
              refine lv_aload_n hx hb dX5_value_85 rfl (lv_at hl 2 rfl) ?_
              refine r_get E frX5_15 hS 0 rfl rfl dX5_value_86 ?_
              refine lv_iload_n hx hb dX5_value_89 rfl (lv_at hl 0 rfl) ?_
              obtain ⟨g14, h⟩ := gi_some h
              refine r_iald E hS 2 rfl g14 dX5_value_90 ?_
              obtain ⟨y91, e15, h⟩ := bd_some h
              refine ct_S (ws' := fun _ => [oX5 q0 (.ref q1) (.ref q2) (.ref q3) (.int v_size), aI cy q1 40 v_code, aI cy q2 40 x4_2, aI cy q3 7 v_thing]) (st' := [.int y91, .int ((x4_0 + (-1 : Int32)) - (1 : Int32)), .ref q2]) (rest := [.int ((x4_0 + (-1 : Int32)) - (1 : Int32)), .ref q2]) E hS slX5_66 (c_X5_joined (l := l) (D := D) (cy := cy) (p0 := ((v_code x4_1.toNatClampNeg) - (2000 : Int32))) (p1 := (x4_2 ((x4_0 + (-1 : Int32)) - (1 : Int32)).toNatClampNeg)) (p2 := (x4_2 (x4_0 + (-1 : Int32)).toNatClampNeg)) (r := y91) e15) [] rfl rfl (fun _ => rfl) (fun _ => rfl) rfl rfl (Nat.le_of_ble_eq_true rfl) hl.1 (by rw [hRf]; exact Nat.le_of_ble_eq_true rfl) (by rw [hRl]; exact Nat.le_of_ble_eq_true rfl) ⟨Nat.zero_le _, Nat.zero_le _⟩ dX5_value_91 rfl (fun H locs _ hS => ?_)
              obtain ⟨g16, h⟩ := gi_some h
              refine r_iast (ws' := [oX5 q0 (.ref q1) (.ref q2) (.ref q3) (.int v_size), aI cy q1 40 v_code, aI cy q2 40 (upd x4_2 ((x4_0 + (-1 : Int32)) - (1 : Int32)).toNatClampNeg y91), aI cy q3 7 v_thing]) E hS 2 rfl g16 rfl dX5_value_94 (fun H locs hS => ?_)
              refine lv_goto (tgt := 150) hx hb dX5_value_95 (by decide) ?_
              refine lv_iinc (v := (x4_1 + (1 : Int32))) (lv' := [(2, .int (x4_1 + (1 : Int32))), (1, .int (x4_0 + (-1 : Int32))), (3, .int (v_code x4_1.toNatClampNeg)), (0, .ref q0)]) hx hb dX5_value_150 hl (k := 3) rfl rfl (by decide) rfl (fun ls hl => ?_)
              refine lv_goto (tgt := 4) hx hb dX5_value_153 (by decide) ?_
              exact ih4 (x4_0 + (-1 : Int32)) (x4_1 + (1 : Int32)) (upd x4_2 ((x4_0 + (-1 : Int32)) - (1 : Int32)).toNatClampNeg y91) y4  H locs ls (hz4a _ (Option.some.inj h).symm) hS (lv_sub hl [3, 1, 0] rfl) hk4_0
        · have h := it_pos c3 h
          refine lv_iload_n hx hb dX5_value_26 rfl (lv_at hl 2 rfl) ?_
          refine lv_if_le (tgt := 150) hx hb dX5_value_27 (by decide) (fun c17 => ?_) (fun c17 => ?_)
          · have h := it_pos c17 h
            refine lv_iinc (v := (x4_1 + (1 : Int32))) (lv' := [(2, .int (x4_1 + (1 : Int32))), (3, .int (v_code x4_1.toNatClampNeg)), (0, .ref q0), (1, .int x4_0)]) hx hb dX5_value_150 hl (k := 3) rfl rfl (by decide) rfl (fun ls hl => ?_)
            refine lv_goto (tgt := 4) hx hb dX5_value_153 (by decide) ?_
            exact ih4 x4_0 (x4_1 + (1 : Int32)) x4_2 y4  H locs ls (hz4a _ (Option.some.inj h).symm) hS (lv_sub hl [2, 3, 0] rfl) hk4_0
          · have h := it_neg c17 h
            refine lv_aload_n hx hb dX5_value_30 rfl (lv_at hl 1 rfl) ?_
            refine r_get E frX5_15 hS 0 rfl rfl dX5_value_31 ?_
            refine lv_iload_n hx hb dX5_value_34 rfl (lv_at hl 2 rfl) ?_
            refine lv_iconst (v := 1) hx hb dX5_value_35 (by decide) ?_
            refine lv_isub hx hb dX5_value_36 ?_
            refine lv_aload_n hx hb dX5_value_37 rfl (lv_at hl 1 rfl) ?_
            refine r_get E frX5_15 hS 0 rfl rfl dX5_value_38 ?_
            refine lv_iload_n hx hb dX5_value_41 rfl (lv_at hl 2 rfl) ?_
            refine lv_iconst (v := 1) hx hb dX5_value_42 (by decide) ?_
            refine lv_isub hx hb dX5_value_43 ?_
            obtain ⟨g18, h⟩ := gi_some h
            refine r_iald E hS 2 rfl g18 dX5_value_44 ?_
            refine lv_ineg hx hb dX5_value_45 ?_
            obtain ⟨g19, h⟩ := gi_some h
            refine r_iast (ws' := [oX5 q0 (.ref q1) (.ref q2) (.ref q3) (.int v_size), aI cy q1 40 v_code, aI cy q2 40 (upd x4_2 (x4_0 - (1 : Int32)).toNatClampNeg (-(x4_2 (x4_0 - (1 : Int32)).toNatClampNeg))), aI cy q3 7 v_thing]) E hS 2 rfl g19 rfl dX5_value_46 (fun H locs hS => ?_)
            refine lv_goto (tgt := 150) hx hb dX5_value_47 (by decide) ?_
            refine lv_iinc (v := (x4_1 + (1 : Int32))) (lv' := [(2, .int (x4_1 + (1 : Int32))), (3, .int (v_code x4_1.toNatClampNeg)), (0, .ref q0), (1, .int x4_0)]) hx hb dX5_value_150 hl (k := 3) rfl rfl (by decide) rfl (fun ls hl => ?_)
            refine lv_goto (tgt := 4) hx hb dX5_value_153 (by decide) ?_
            exact ih4 x4_0 (x4_1 + (1 : Int32)) (upd x4_2 (x4_0 - (1 : Int32)).toNatClampNeg (-(x4_2 (x4_0 - (1 : Int32)).toNatClampNeg))) y4  H locs ls (hz4a _ (Option.some.inj h).symm) hS (lv_sub hl [2, 3, 0] rfl) hk4_0
  obtain ⟨y4, e4, h⟩ := bd_some h
  refine hL4 1000 (0 : Int32) (0 : Int32) v_stack y4  H locs ls e4 hS (lv_sub hl [2, 1, 0] rfl) (fun y4_0 y4_1 ey4 H locs ls hS hl => ?_)
  subst ey4
  have h := un_r h
  refine lv_iload_n hx hb dX5_value_156 rfl (lv_at hl 1 rfl) ?_
  refine lv_if_le (tgt := 169) hx hb dX5_value_157 (by decide) (fun c20 => ?_) (fun c20 => ?_)
  · have h := it_pos c20 h
    refine lv_iconst (v := 0) hx hb dX5_value_169 (by decide) ?_
    obtain rfl := Option.some.inj h
    exact rt_i E hQ (.null) hS dX5_value_170
  · have h := it_neg c20 h
    refine lv_aload_n hx hb dX5_value_160 rfl (lv_at hl 0 rfl) ?_
    refine r_get E frX5_15 hS 0 rfl rfl dX5_value_161 ?_
    refine lv_iconst (v := 0) hx hb dX5_value_164 (by decide) ?_
    obtain ⟨g21, h⟩ := gi_some h
    refine r_iald E hS 2 rfl g21 dX5_value_165 ?_
    refine lv_goto (tgt := 170) hx hb dX5_value_166 (by decide) ?_
    obtain rfl := Option.some.inj h
    exact rt_i E hQ (.null) hS dX5_value_170
set_option maxHeartbeats 4000000 in
set_option maxRecDepth 100000 in
theorem c_X5_needers {l : Launch} {D : va_G} {cy : Nat → ClassId} (q0 : Nat) (q1 : Nat) (q2 : Nat) (q3 : Nat) (q4 : Nat) (q5 : Nat) (q6 : Nat) (q7 : Nat) (u4_1 : Value) (u4_3 : Value) (u4_7 : Value) (v_size : Int32) (v_code : Nat → Int32) (v_stack : Nat → Int32) (v_thing : Nat → Int32) (w1_number : Int32) (w1_day : Int32) (w1_skill : Nat → Int32) (w1_slept : Nat → Int32) (w1_wanted : Nat → Int32) (p2 : Int32) (p3 : Int32) (r : Int32 × (Nat → Int32) × (Nat → Int32)) (h : X5_needers v_size v_code v_stack v_thing w1_number w1_day w1_skill w1_slept w1_wanted p2 p3 = some r) : Ct l yX5_needers cX5_needers 6 (some .int) 2 46 D cy [.ref q0, .ref q4, .int p2, .int p3] [oX5 q0 (.ref q1) (.ref q2) (.ref q3) (.int v_size), aI cy q1 40 v_code, aI cy q2 40 v_stack, aI cy q3 7 v_thing, oX0 q4 (.ref q5) u4_1 (.ref q6) u4_3 (.ref q7) (.int w1_number) (.int w1_day) u4_7, aI cy q5 7 w1_skill, aI cy q6 7 w1_slept, aI cy q7 7 w1_wanted] (fun _ => [oX5 q0 (.ref q1) (.ref q2) (.ref q3) (.int v_size), aI cy q1 40 v_code, aI cy q2 40 r.2.1, aI cy q3 7 r.2.2, oX0 q4 (.ref q5) u4_1 (.ref q6) u4_3 (.ref q7) (.int w1_number) (.int w1_day) u4_7, aI cy q5 7 w1_skill, aI cy q6 7 w1_slept, aI cy q7 7 w1_wanted]) (some (.int r.1)) := by
  refine Ct.mk kX5_needers (by decide +kernel) (Nat.le_of_ble_eq_true rfl) ?_
  intro p e s m below meth c A ls args R Q hRf hRl hQ E H locs hS hl
  have hx := E.x
  have hb := E.b
  have hl : lv_has ls 6 [(0, .ref q0), (1, .ref q4), (2, .int p2), (3, .int p3)] := hl
  unfold X5_needers at h
  refine lv_aload_n hx hb dX5_needers_0 rfl (lv_at hl 1 rfl) ?_
  refine lv_iload_n hx hb dX5_needers_1 rfl (lv_at hl 2 rfl) ?_
  refine ct_V (ws' := fun _ => [oX5 q0 (.ref q1) (.ref q2) (.ref q3) (.int v_size), aI cy q1 40 v_code, aI cy q2 40 v_stack, aI cy q3 7 v_thing, oX0 q4 (.ref q5) u4_1 (.ref q6) u4_3 (.ref q7) (.int w1_number) (.int w1_day) u4_7, aI cy q5 7 w1_skill, aI cy q6 7 w1_slept, aI cy q7 7 w1_wanted]) (st' := [.int (X0_has w1_number p2)]) (rest := []) E hS vlX5_41 (c_X0_has (l := l) (D := D) (cy := cy) (q0 := q4) (u0_0 := .ref q5) (u0_1 := u4_1) (u0_2 := .ref q6) (u0_3 := u4_3) (u0_4 := .ref q7) (u0_6 := .int w1_day) (u0_7 := u4_7) (v_number := w1_number) (p1 := p2) (r := (X0_has w1_number p2)) rfl) [4] rfl rfl (fun _ => rfl) (fun _ => rfl) rfl rfl rfl rfl (Nat.le_of_ble_eq_true rfl) hl.1 (by rw [hRf]; exact Nat.le_of_ble_eq_true rfl) (by rw [hRl]; exact Nat.le_of_ble_eq_true rfl) ⟨Nat.zero_le _, Nat.zero_le _⟩ dX5_needers_2 rfl (fun H locs _ hS => ?_)
  refine lv_if_ne (tgt := 10) hx hb dX5_needers_5 (by decide) (fun c1 => ?_) (fun c1 => ?_)
  · have h := it_neg c1 h
    refine lv_aload_n hx hb dX5_needers_10 rfl (lv_at hl 0 rfl) ?_
    refine r_get E frX5_18 hS 0 rfl rfl dX5_needers_11 ?_
    refine lv_iconst (v := 0) hx hb dX5_needers_14 (by decide) ?_
    refine lv_aload_n hx hb dX5_needers_15 rfl (lv_at hl 1 rfl) ?_
    refine r_get E frX5_45 hS 4 rfl rfl dX5_needers_16 ?_
    refine lv_iload_n hx hb dX5_needers_19 rfl (lv_at hl 2 rfl) ?_
    obtain ⟨g2, h⟩ := gi_some h
    refine r_iald E hS 5 rfl g2 dX5_needers_20 ?_
    obtain ⟨g3, h⟩ := gi_some h
    refine r_iast (ws' := [oX5 q0 (.ref q1) (.ref q2) (.ref q3) (.int v_size), aI cy q1 40 v_code, aI cy q2 40 v_stack, aI cy q3 7 (upd v_thing (0 : Int32).toNatClampNeg (w1_skill p2.toNatClampNeg)), oX0 q4 (.ref q5) u4_1 (.ref q6) u4_3 (.ref q7) (.int w1_number) (.int w1_day) u4_7, aI cy q5 7 w1_skill, aI cy q6 7 w1_slept, aI cy q7 7 w1_wanted]) E hS 3 rfl g3 rfl dX5_needers_21 (fun H locs hS => ?_)
    refine lv_aload_n hx hb dX5_needers_22 rfl (lv_at hl 0 rfl) ?_
    refine r_get E frX5_18 hS 0 rfl rfl dX5_needers_23 ?_
    refine lv_iconst (v := 2) hx hb dX5_needers_26 (by decide) ?_
    refine lv_iload_n hx hb dX5_needers_27 rfl (lv_at hl 3 rfl) ?_
    refine ct_S (ws' := fun _ => [oX5 q0 (.ref q1) (.ref q2) (.ref q3) (.int v_size), aI cy q1 40 v_code, aI cy q2 40 v_stack, aI cy q3 7 (upd v_thing (0 : Int32).toNatClampNeg (w1_skill p2.toNatClampNeg)), oX0 q4 (.ref q5) u4_1 (.ref q6) u4_3 (.ref q7) (.int w1_number) (.int w1_day) u4_7, aI cy q5 7 w1_skill, aI cy q6 7 w1_slept, aI cy q7 7 w1_wanted]) (st' := [.int (J6_bitCount_0f7a4 p3), .int (2 : Int32), .ref q3]) (rest := [.int (2 : Int32), .ref q3]) E hS slX5_48 (c_J6_bitCount_0f7a4 (l := l) (D := D) (cy := cy) (p0 := p3) (r := (J6_bitCount_0f7a4 p3)) rfl) [] rfl rfl (fun _ => rfl) (fun _ => rfl) rfl rfl (Nat.le_of_ble_eq_true rfl) hl.1 (by rw [hRf]; exact Nat.le_of_ble_eq_true rfl) (by rw [hRl]; exact Nat.le_of_ble_eq_true rfl) ⟨Nat.zero_le _, Nat.zero_le _⟩ dX5_needers_28 rfl (fun H locs _ hS => ?_)
    obtain ⟨g4, h⟩ := gi_some h
    refine r_iast (ws' := [oX5 q0 (.ref q1) (.ref q2) (.ref q3) (.int v_size), aI cy q1 40 v_code, aI cy q2 40 v_stack, aI cy q3 7 (upd (upd v_thing (0 : Int32).toNatClampNeg (w1_skill p2.toNatClampNeg)) (2 : Int32).toNatClampNeg (J6_bitCount_0f7a4 p3)), oX0 q4 (.ref q5) u4_1 (.ref q6) u4_3 (.ref q7) (.int w1_number) (.int w1_day) u4_7, aI cy q5 7 w1_skill, aI cy q6 7 w1_slept, aI cy q7 7 w1_wanted]) E hS 3 rfl g4 rfl dX5_needers_31 (fun H locs hS => ?_)
    refine lv_aload_n hx hb dX5_needers_32 rfl (lv_at hl 0 rfl) ?_
    refine r_get E frX5_18 hS 0 rfl rfl dX5_needers_33 ?_
    refine lv_iconst (v := 4) hx hb dX5_needers_36 (by decide) ?_
    refine lv_aload_n hx hb dX5_needers_37 rfl (lv_at hl 1 rfl) ?_
    refine r_get E frX5_53 hS 4 rfl rfl dX5_needers_38 ?_
    refine lv_iload_n hx hb dX5_needers_41 rfl (lv_at hl 2 rfl) ?_
    obtain ⟨g5, h⟩ := gi_some h
    refine r_iald E hS 6 rfl g5 dX5_needers_42 ?_
    obtain ⟨g6, h⟩ := gi_some h
    refine r_iast (ws' := [oX5 q0 (.ref q1) (.ref q2) (.ref q3) (.int v_size), aI cy q1 40 v_code, aI cy q2 40 v_stack, aI cy q3 7 (upd (upd (upd v_thing (0 : Int32).toNatClampNeg (w1_skill p2.toNatClampNeg)) (2 : Int32).toNatClampNeg (J6_bitCount_0f7a4 p3)) (4 : Int32).toNatClampNeg (w1_slept p2.toNatClampNeg)), oX0 q4 (.ref q5) u4_1 (.ref q6) u4_3 (.ref q7) (.int w1_number) (.int w1_day) u4_7, aI cy q5 7 w1_skill, aI cy q6 7 w1_slept, aI cy q7 7 w1_wanted]) E hS 3 rfl g6 rfl dX5_needers_43 (fun H locs hS => ?_)
    refine lv_aload_n hx hb dX5_needers_44 rfl (lv_at hl 0 rfl) ?_
    refine r_get E frX5_18 hS 0 rfl rfl dX5_needers_45 ?_
    refine lv_bipush (v := 6) hx hb dX5_needers_48 (by decide) ?_
    refine lv_aload_n hx hb dX5_needers_50 rfl (lv_at hl 1 rfl) ?_
    refine r_get E frX5_56 hS 4 rfl rfl dX5_needers_51 ?_
    refine lv_bipush (v := 7) hx hb dX5_needers_54 (by decide) ?_
    obtain ⟨g7, h⟩ := gz_some h
    refine lv_irem hx hb dX5_needers_56 g7 ?_
    obtain ⟨g8, h⟩ := gi_some h
    refine r_iast (ws' := [oX5 q0 (.ref q1) (.ref q2) (.ref q3) (.int v_size), aI cy q1 40 v_code, aI cy q2 40 v_stack, aI cy q3 7 (upd (upd (upd (upd v_thing (0 : Int32).toNatClampNeg (w1_skill p2.toNatClampNeg)) (2 : Int32).toNatClampNeg (J6_bitCount_0f7a4 p3)) (4 : Int32).toNatClampNeg (w1_slept p2.toNatClampNeg)) (6 : Int32).toNatClampNeg (irem w1_day (7 : Int32))), oX0 q4 (.ref q5) u4_1 (.ref q6) u4_3 (.ref q7) (.int w1_number) (.int w1_day) u4_7, aI cy q5 7 w1_skill, aI cy q6 7 w1_slept, aI cy q7 7 w1_wanted]) E hS 3 rfl g8 rfl dX5_needers_57 (fun H locs hS => ?_)
    refine lv_iconst (v := 0) hx hb dX5_needers_58 (by decide) ?_
    refine lv_istore (lv' := [(4, .int (0 : Int32)), (0, .ref q0), (1, .ref q4), (2, .int p2), (3, .int p3)]) hx hb dX5_needers_59 hl (by decide) rfl (fun ls hl => ?_)
    refine lv_iconst (v := 0) hx hb dX5_needers_61 (by decide) ?_
    refine lv_istore (lv' := [(5, .int (0 : Int32)), (4, .int (0 : Int32)), (0, .ref q0), (1, .ref q4), (2, .int p2), (3, .int p3)]) hx hb dX5_needers_62 hl (by decide) rfl (fun ls hl => ?_)
    have hL64 : ∀ (n : Nat) (x64_0 : Int32) (x64_1 : Int32) (x64_2 : Nat → Int32) (x64_3 : Nat → Int32) (y64 : Int32 × (Nat → Int32) × (Nat → Int32)) (H : Heap) (locs : List Loc) (ls : Array Slot), lp (fun x64 => X5_needers_s64 v_size v_code w1_number w1_skill w1_wanted p2 p3 x64.1 x64.2.1 x64.2.2.1 x64.2.2.2) n (x64_0, x64_1, x64_2, x64_3) = some y64 → Sv D A s.heap [oX5 q0 (.ref q1) (.ref q2) (.ref q3) (.int v_size), aI cy q1 40 v_code, aI cy q2 40 x64_2, aI cy q3 7 x64_3, oX0 q4 (.ref q5) u4_1 (.ref q6) u4_3 (.ref q7) (.int w1_number) (.int w1_day) u4_7, aI cy q5 7 w1_skill, aI cy q6 7 w1_slept, aI cy q7 7 w1_wanted] H locs → lv_has ls 6 [(0, .ref q0), (1, .ref q4), (2, .int p2), (3, .int p3), (4, .int x64_0), (5, .int x64_1)] → ( ∀ (y64_0 : Int32) (y64_1 : Nat → Int32) (y64_2 : Nat → Int32), (y64_0, y64_1, y64_2) = y64 → ∀ (H : Heap) (locs : List Loc) (ls : Array Slot), Sv D A s.heap [oX5 q0 (.ref q1) (.ref q2) (.ref q3) (.int v_size), aI cy q1 40 v_code, aI cy q2 40 y64_1, aI cy q3 7 y64_2, oX0 q4 (.ref q5) u4_1 (.ref q6) u4_3 (.ref q7) (.int w1_number) (.int w1_day) u4_7, aI cy q5 7 w1_skill, aI cy q6 7 w1_slept, aI cy q7 7 w1_wanted] H locs → lv_has ls 6 [(4, .int y64_0)] → W p l e R s m args below meth c H locs 0 0 Q (F0 m 154 ls [])) → W p l e R s m args below meth c H locs 0 0 Q (F0 m 64 ls []) := by
      intro n
      induction n with
      | zero =>
        intro x64_0 x64_1 x64_2 x64_3 y64 H locs ls h
        exact lp_zero h
      | succ n ih64 =>
        intro x64_0 x64_1 x64_2 x64_3 y64 H locs ls h hS hl hk64_0
        obtain ⟨z64, h, hz64a, hz64b⟩ := lp_succ h
        have h : X5_needers_s64 v_size v_code w1_number w1_skill w1_wanted p2 p3 x64_0 x64_1 x64_2 x64_3 = some z64 := h
        unfold X5_needers_s64 at h
        refine lv_iload hx hb dX5_needers_64 (lv_at hl 5 rfl) ?_
        refine lv_aload_n hx hb dX5_needers_66 rfl (lv_at hl 1 rfl) ?_
        refine r_get E frX5_25 hS 4 rfl rfl dX5_needers_67 ?_
        refine lv_icmp_ge (tgt := 154) hx hb dX5_needers_70 (by decide) (fun c9 => ?_) (fun c9 => ?_)
        · have h := it_pos c9 h
          exact hk64_0 x64_0 x64_2 x64_3 (hz64b _ (Option.some.inj h).symm)  H locs ls hS (lv_sub hl [4] rfl)
        · have h := it_neg c9 h
          refine lv_iload_n hx hb dX5_needers_73 rfl (lv_at hl 3 rfl) ?_
          refine lv_iload hx hb dX5_needers_74 (lv_at hl 5 rfl) ?_
          refine lv_ishr hx hb dX5_needers_76 ?_
          refine lv_iconst (v := 1) hx hb dX5_needers_77 (by decide) ?_
          refine lv_iand hx hb dX5_needers_78 ?_
          refine lv_if_eq (tgt := 148) hx hb dX5_needers_79 (by decide) (fun c10 => ?_) (fun c10 => ?_)
          · have h := it_pos c10 h
            refine lv_iinc (v := (x64_1 + (1 : Int32))) (lv' := [(5, .int (x64_1 + (1 : Int32))), (0, .ref q0), (1, .ref q4), (2, .int p2), (3, .int p3), (4, .int x64_0)]) hx hb dX5_needers_148 hl (k := 5) rfl rfl (by decide) rfl (fun ls hl => ?_)
            refine lv_goto (tgt := 64) hx hb dX5_needers_151 (by decide) ?_
            exact ih64 x64_0 (x64_1 + (1 : Int32)) x64_2 x64_3 y64  H locs ls (hz64a _ (Option.some.inj h).symm) hS (lv_sub hl [1, 2, 3, 4, 5, 0] rfl) hk64_0
          · have h := it_neg c10 h
            refine lv_aload_n hx hb dX5_needers_82 rfl (lv_at hl 0 rfl) ?_
            refine r_get E frX5_18 hS 0 rfl rfl dX5_needers_83 ?_
            refine lv_iconst (v := 1) hx hb dX5_needers_86 (by decide) ?_
            refine lv_aload_n hx hb dX5_needers_87 rfl (lv_at hl 1 rfl) ?_
            refine r_get E frX5_45 hS 4 rfl rfl dX5_needers_88 ?_
            refine lv_iload hx hb dX5_needers_91 (lv_at hl 5 rfl) ?_
            obtain ⟨g11, h⟩ := gi_some h
            refine r_iald E hS 5 rfl g11 dX5_needers_93 ?_
            obtain ⟨g12, h⟩ := gi_some h
            refine r_iast (ws' := [oX5 q0 (.ref q1) (.ref q2) (.ref q3) (.int v_size), aI cy q1 40 v_code, aI cy q2 40 x64_2, aI cy q3 7 (upd x64_3 (1 : Int32).toNatClampNeg (w1_skill x64_1.toNatClampNeg)), oX0 q4 (.ref q5) u4_1 (.ref q6) u4_3 (.ref q7) (.int w1_number) (.int w1_day) u4_7, aI cy q5 7 w1_skill, aI cy q6 7 w1_slept, aI cy q7 7 w1_wanted]) E hS 3 rfl g12 rfl dX5_needers_94 (fun H locs hS => ?_)
            refine lv_aload_n hx hb dX5_needers_95 rfl (lv_at hl 0 rfl) ?_
            refine r_get E frX5_18 hS 0 rfl rfl dX5_needers_96 ?_
            refine lv_iconst (v := 3) hx hb dX5_needers_99 (by decide) ?_
            refine lv_aload_n hx hb dX5_needers_100 rfl (lv_at hl 1 rfl) ?_
            refine r_get E frX5_59 hS 4 rfl rfl dX5_needers_101 ?_
            refine lv_iload hx hb dX5_needers_104 (lv_at hl 5 rfl) ?_
            obtain ⟨g13, h⟩ := gi_some h
            refine r_iald E hS 7 rfl g13 dX5_needers_106 ?_
            refine ct_S (ws' := fun _ => [oX5 q0 (.ref q1) (.ref q2) (.ref q3) (.int v_size), aI cy q1 40 v_code, aI cy q2 40 x64_2, aI cy q3 7 (upd x64_3 (1 : Int32).toNatClampNeg (w1_skill x64_1.toNatClampNeg)), oX0 q4 (.ref q5) u4_1 (.ref q6) u4_3 (.ref q7) (.int w1_number) (.int w1_day) u4_7, aI cy q5 7 w1_skill, aI cy q6 7 w1_slept, aI cy q7 7 w1_wanted]) (st' := [.int (J6_bitCount_0f7a4 (w1_wanted x64_1.toNatClampNeg)), .int (3 : Int32), .ref q3]) (rest := [.int (3 : Int32), .ref q3]) E hS slX5_48 (c_J6_bitCount_0f7a4 (l := l) (D := D) (cy := cy) (p0 := (w1_wanted x64_1.toNatClampNeg)) (r := (J6_bitCount_0f7a4 (w1_wanted x64_1.toNatClampNeg))) rfl) [] rfl rfl (fun _ => rfl) (fun _ => rfl) rfl rfl (Nat.le_of_ble_eq_true rfl) hl.1 (by rw [hRf]; exact Nat.le_of_ble_eq_true rfl) (by rw [hRl]; exact Nat.le_of_ble_eq_true rfl) ⟨Nat.zero_le _, Nat.zero_le _⟩ dX5_needers_107 rfl (fun H locs _ hS => ?_)
            obtain ⟨g14, h⟩ := gi_some h
            refine r_iast (ws' := [oX5 q0 (.ref q1) (.ref q2) (.ref q3) (.int v_size), aI cy q1 40 v_code, aI cy q2 40 x64_2, aI cy q3 7 (upd (upd x64_3 (1 : Int32).toNatClampNeg (w1_skill x64_1.toNatClampNeg)) (3 : Int32).toNatClampNeg (J6_bitCount_0f7a4 (w1_wanted x64_1.toNatClampNeg))), oX0 q4 (.ref q5) u4_1 (.ref q6) u4_3 (.ref q7) (.int w1_number) (.int w1_day) u4_7, aI cy q5 7 w1_skill, aI cy q6 7 w1_slept, aI cy q7 7 w1_wanted]) E hS 3 rfl g14 rfl dX5_needers_110 (fun H locs hS => ?_)
            refine lv_aload_n hx hb dX5_needers_111 rfl (lv_at hl 0 rfl) ?_
            refine r_get E frX5_18 hS 0 rfl rfl dX5_needers_112 ?_
            refine lv_iconst (v := 5) hx hb dX5_needers_115 (by decide) ?_
            refine lv_aload_n hx hb dX5_needers_116 rfl (lv_at hl 1 rfl) ?_
            refine r_get E frX5_59 hS 4 rfl rfl dX5_needers_117 ?_
            refine lv_iload_n hx hb dX5_needers_120 rfl (lv_at hl 2 rfl) ?_
            obtain ⟨g15, h⟩ := gi_some h
            refine r_iald E hS 7 rfl g15 dX5_needers_121 ?_
            refine lv_iload hx hb dX5_needers_122 (lv_at hl 5 rfl) ?_
            refine lv_ishr hx hb dX5_needers_124 ?_
            refine lv_iconst (v := 1) hx hb dX5_needers_125 (by decide) ?_
            refine lv_iand hx hb dX5_needers_126 ?_
            obtain ⟨g16, h⟩ := gi_some h
            refine r_iast (ws' := [oX5 q0 (.ref q1) (.ref q2) (.ref q3) (.int v_size), aI cy q1 40 v_code, aI cy q2 40 x64_2, aI cy q3 7 (upd (upd (upd x64_3 (1 : Int32).toNatClampNeg (w1_skill x64_1.toNatClampNeg)) (3 : Int32).toNatClampNeg (J6_bitCount_0f7a4 (w1_wanted x64_1.toNatClampNeg))) (5 : Int32).toNatClampNeg (((w1_wanted p2.toNatClampNeg) >>> (x64_1 &&& 31)) &&& (1 : Int32))), oX0 q4 (.ref q5) u4_1 (.ref q6) u4_3 (.ref q7) (.int w1_number) (.int w1_day) u4_7, aI cy q5 7 w1_skill, aI cy q6 7 w1_slept, aI cy q7 7 w1_wanted]) E hS 3 rfl g16 rfl dX5_needers_127 (fun H locs hS => ?_)
            refine lv_iload hx hb dX5_needers_128 (lv_at hl 4 rfl) ?_
            refine lv_aload_n hx hb dX5_needers_130 rfl (lv_at hl 0 rfl) ?_
            obtain ⟨y131, e17, h⟩ := bd_some h
            refine ct_V (ws' := fun _ => [oX5 q0 (.ref q1) (.ref q2) (.ref q3) (.int v_size), aI cy q1 40 v_code, aI cy q2 40 y131.2, aI cy q3 7 (upd (upd (upd x64_3 (1 : Int32).toNatClampNeg (w1_skill x64_1.toNatClampNeg)) (3 : Int32).toNatClampNeg (J6_bitCount_0f7a4 (w1_wanted x64_1.toNatClampNeg))) (5 : Int32).toNatClampNeg (((w1_wanted p2.toNatClampNeg) >>> (x64_1 &&& 31)) &&& (1 : Int32))), oX0 q4 (.ref q5) u4_1 (.ref q6) u4_3 (.ref q7) (.int w1_number) (.int w1_day) u4_7, aI cy q5 7 w1_skill, aI cy q6 7 w1_slept, aI cy q7 7 w1_wanted]) (st' := [.int y131.1, .int x64_0]) (rest := [.int x64_0]) E hS vlX5_62 (c_X5_value (l := l) (D := D) (cy := cy) (q0 := q0) (q1 := q1) (q2 := q2) (q3 := q3) (v_size := v_size) (v_code := v_code) (v_stack := x64_2) (v_thing := (upd (upd (upd x64_3 (1 : Int32).toNatClampNeg (w1_skill x64_1.toNatClampNeg)) (3 : Int32).toNatClampNeg (J6_bitCount_0f7a4 (w1_wanted x64_1.toNatClampNeg))) (5 : Int32).toNatClampNeg (((w1_wanted p2.toNatClampNeg) >>> (x64_1 &&& 31)) &&& (1 : Int32)))) (r := y131) e17) [0, 1, 2, 3] rfl rfl (fun _ => rfl) (fun _ => rfl) rfl rfl rfl rfl (Nat.le_of_ble_eq_true rfl) hl.1 (by rw [hRf]; exact Nat.le_of_ble_eq_true rfl) (by rw [hRl]; exact Nat.le_of_ble_eq_true rfl) ⟨Nat.zero_le _, Nat.zero_le _⟩ dX5_needers_131 rfl (fun H locs _ hS => ?_)
            have hJ145 : ∀ (s145_1 : Int32) (ls : Array Slot), s145_1 = (if y131.1 ≤ 0 then (0 : Int32) else ((1 : Int32) <<< (x64_1 &&& 31))) → lv_has ls 6 [(0, .ref q0), (1, .ref q4), (2, .int p2), (3, .int p3), (5, .int x64_1)] → W p l e R s m args below meth c H locs 0 0 Q (F0 m 145 ls [.int s145_1, .int x64_0]) := by
              intro s145_1 ls es145_1 hl
              subst es145_1
              refine lv_ior hx hb dX5_needers_145 ?_
              refine lv_istore (lv' := [(4, .int (x64_0 ||| (if y131.1 ≤ 0 then (0 : Int32) else ((1 : Int32) <<< (x64_1 &&& 31))))), (0, .ref q0), (1, .ref q4), (2, .int p2), (3, .int p3), (5, .int x64_1)]) hx hb dX5_needers_146 hl (by decide) rfl (fun ls hl => ?_)
              refine lv_iinc (v := (x64_1 + (1 : Int32))) (lv' := [(5, .int (x64_1 + (1 : Int32))), (4, .int (x64_0 ||| (if y131.1 ≤ 0 then (0 : Int32) else ((1 : Int32) <<< (x64_1 &&& 31))))), (0, .ref q0), (1, .ref q4), (2, .int p2), (3, .int p3)]) hx hb dX5_needers_148 hl (k := 5) rfl rfl (by decide) rfl (fun ls hl => ?_)
              refine lv_goto (tgt := 64) hx hb dX5_needers_151 (by decide) ?_
              exact ih64 (x64_0 ||| (if y131.1 ≤ 0 then (0 : Int32) else ((1 : Int32) <<< (x64_1 &&& 31)))) (x64_1 + (1 : Int32)) y131.2 (upd (upd (upd x64_3 (1 : Int32).toNatClampNeg (w1_skill x64_1.toNatClampNeg)) (3 : Int32).toNatClampNeg (J6_bitCount_0f7a4 (w1_wanted x64_1.toNatClampNeg))) (5 : Int32).toNatClampNeg (((w1_wanted p2.toNatClampNeg) >>> (x64_1 &&& 31)) &&& (1 : Int32))) y64  H locs ls (hz64a _ (Option.some.inj h).symm) hS (lv_sub hl [2, 3, 4, 5, 1, 0] rfl) hk64_0
            refine lv_if_le (tgt := 144) hx hb dX5_needers_134 (by decide) (fun c18 => ?_) (fun c18 => ?_)
            · refine lv_iconst (v := 0) hx hb dX5_needers_144 (by decide) ?_
              exact hJ145 _ ls ((if_pos c18)).symm (lv_sub hl [0, 1, 2, 3, 5] rfl)
            · refine lv_iconst (v := 1) hx hb dX5_needers_137 (by decide) ?_
              refine lv_iload hx hb dX5_needers_138 (lv_at hl 5 rfl) ?_
              refine lv_ishl hx hb dX5_needers_140 ?_
              refine lv_goto (tgt := 145) hx hb dX5_needers_141 (by decide) ?_
              exact hJ145 _ ls ((if_neg c18)).symm (lv_sub hl [0, 1, 2, 3, 5] rfl)
    obtain ⟨y64, e64, h⟩ := bd_some h
    refine hL64 1000 (0 : Int32) (0 : Int32) v_stack (upd (upd (upd (upd v_thing (0 : Int32).toNatClampNeg (w1_skill p2.toNatClampNeg)) (2 : Int32).toNatClampNeg (J6_bitCount_0f7a4 p3)) (4 : Int32).toNatClampNeg (w1_slept p2.toNatClampNeg)) (6 : Int32).toNatClampNeg (irem w1_day (7 : Int32))) y64  H locs ls e64 hS (lv_sub hl [2, 3, 4, 5, 1, 0] rfl) (fun y64_0 y64_1 y64_2 ey64 H locs ls hS hl => ?_)
    subst ey64
    have h := un_r h
    have h := un_r h
    refine lv_iload hx hb dX5_needers_154 (lv_at hl 0 rfl) ?_
    obtain rfl := Option.some.inj h
    exact rt_i E hQ (.null) hS dX5_needers_156
  · have h := it_pos c1 h
    refine lv_iconst (v := 0) hx hb dX5_needers_8 (by decide) ?_
    obtain rfl := Option.some.inj h
    exact rt_i E hQ (.null) hS dX5_needers_9
set_option maxHeartbeats 4000000 in
set_option maxRecDepth 100000 in
theorem c_X5_wakers {l : Launch} {D : va_G} {cy : Nat → ClassId} (q0 : Nat) (q1 : Nat) (q2 : Nat) (q3 : Nat) (q4 : Nat) (q5 : Nat) (q6 : Nat) (q7 : Nat) (q8 : Nat) (u4_3 : Value) (u4_7 : Value) (v_size : Int32) (v_code : Nat → Int32) (v_stack : Nat → Int32) (v_thing : Nat → Int32) (w1_number : Int32) (w1_day : Int32) (w1_skill : Nat → Int32) (w1_pills : Nat → Int32) (w1_slept : Nat → Int32) (w1_wanted : Nat → Int32) (r : Int32 × (Nat → Int32) × (Nat → Int32)) (h : X5_wakers v_size v_code v_stack v_thing w1_number w1_day w1_skill w1_pills w1_slept w1_wanted = some r) : Ct l yX5_wakers cX5_wakers 4 (some .int) 3 71 D cy [.ref q0, .ref q4] [oX5 q0 (.ref q1) (.ref q2) (.ref q3) (.int v_size), aI cy q1 40 v_code, aI cy q2 40 v_stack, aI cy q3 7 v_thing, oX0 q4 (.ref q5) (.ref q6) (.ref q7) u4_3 (.ref q8) (.int w1_number) (.int w1_day) u4_7, aI cy q5 7 w1_skill, aI cy q6 7 w1_pills, aI cy q7 7 w1_slept, aI cy q8 7 w1_wanted] (fun _ => [oX5 q0 (.ref q1) (.ref q2) (.ref q3) (.int v_size), aI cy q1 40 v_code, aI cy q2 40 r.2.1, aI cy q3 7 r.2.2, oX0 q4 (.ref q5) (.ref q6) (.ref q7) u4_3 (.ref q8) (.int w1_number) (.int w1_day) u4_7, aI cy q5 7 w1_skill, aI cy q6 7 w1_pills, aI cy q7 7 w1_slept, aI cy q8 7 w1_wanted]) (some (.int r.1)) := by
  refine Ct.mk kX5_wakers (by decide +kernel) (Nat.le_of_ble_eq_true rfl) ?_
  intro p e s m below meth c A ls args R Q hRf hRl hQ E H locs hS hl
  have hx := E.x
  have hb := E.b
  have hl : lv_has ls 4 [(0, .ref q0), (1, .ref q4)] := hl
  unfold X5_wakers at h
  refine lv_iconst (v := 0) hx hb dX5_wakers_0 (by decide) ?_
  refine lv_istore_n (lv' := [(2, .int (0 : Int32)), (0, .ref q0), (1, .ref q4)]) hx hb dX5_wakers_1 rfl hl (by decide) rfl (fun ls hl => ?_)
  refine lv_iconst (v := 0) hx hb dX5_wakers_2 (by decide) ?_
  refine lv_istore_n (lv' := [(3, .int (0 : Int32)), (2, .int (0 : Int32)), (0, .ref q0), (1, .ref q4)]) hx hb dX5_wakers_3 rfl hl (by decide) rfl (fun ls hl => ?_)
  have hL4 : ∀ (n : Nat) (x4_0 : Int32) (x4_1 : Int32) (x4_2 : Nat → Int32) (x4_3 : Nat → Int32) (y4 : Int32 × (Nat → Int32) × (Nat → Int32)) (H : Heap) (locs : List Loc) (ls : Array Slot), lp (fun x4 => X5_wakers_s4 v_size v_code w1_number w1_day w1_skill w1_pills w1_slept w1_wanted x4.1 x4.2.1 x4.2.2.1 x4.2.2.2) n (x4_0, x4_1, x4_2, x4_3) = some y4 → Sv D A s.heap [oX5 q0 (.ref q1) (.ref q2) (.ref q3) (.int v_size), aI cy q1 40 v_code, aI cy q2 40 x4_2, aI cy q3 7 x4_3, oX0 q4 (.ref q5) (.ref q6) (.ref q7) u4_3 (.ref q8) (.int w1_number) (.int w1_day) u4_7, aI cy q5 7 w1_skill, aI cy q6 7 w1_pills, aI cy q7 7 w1_slept, aI cy q8 7 w1_wanted] H locs → lv_has ls 4 [(0, .ref q0), (1, .ref q4), (2, .int x4_0), (3, .int x4_1)] → ( ∀ (y4_0 : Int32) (y4_1 : Nat → Int32) (y4_2 : Nat → Int32), (y4_0, y4_1, y4_2) = y4 → ∀ (H : Heap) (locs : List Loc) (ls : Array Slot), Sv D A s.heap [oX5 q0 (.ref q1) (.ref q2) (.ref q3) (.int v_size), aI cy q1 40 v_code, aI cy q2 40 y4_1, aI cy q3 7 y4_2, oX0 q4 (.ref q5) (.ref q6) (.ref q7) u4_3 (.ref q8) (.int w1_number) (.int w1_day) u4_7, aI cy q5 7 w1_skill, aI cy q6 7 w1_pills, aI cy q7 7 w1_slept, aI cy q8 7 w1_wanted] H locs → lv_has ls 4 [(2, .int y4_0)] → W p l e R s m args below meth c H locs 0 0 Q (F0 m 47 ls [])) → W p l e R s m args below meth c H locs 0 0 Q (F0 m 4 ls []) := by
    intro n
    induction n with
    | zero =>
      intro x4_0 x4_1 x4_2 x4_3 y4 H locs ls h
      exact lp_zero h
    | succ n ih4 =>
      intro x4_0 x4_1 x4_2 x4_3 y4 H locs ls h hS hl hk4_0
      obtain ⟨z4, h, hz4a, hz4b⟩ := lp_succ h
      have h : X5_wakers_s4 v_size v_code w1_number w1_day w1_skill w1_pills w1_slept w1_wanted x4_0 x4_1 x4_2 x4_3 = some z4 := h
      unfold X5_wakers_s4 at h
      refine lv_iload_n hx hb dX5_wakers_4 rfl (lv_at hl 3 rfl) ?_
      refine lv_aload_n hx hb dX5_wakers_5 rfl (lv_at hl 1 rfl) ?_
      refine r_get E frX5_25 hS 4 rfl rfl dX5_wakers_6 ?_
      refine lv_icmp_ge (tgt := 47) hx hb dX5_wakers_9 (by decide) (fun c1 => ?_) (fun c1 => ?_)
      · have h := it_pos c1 h
        exact hk4_0 x4_0 x4_2 x4_3 (hz4b _ (Option.some.inj h).symm)  H locs ls hS (lv_sub hl [2] rfl)
      · have h := it_neg c1 h
        refine lv_aload_n hx hb dX5_wakers_12 rfl (lv_at hl 1 rfl) ?_
        refine r_get E frX5_30 hS 4 rfl rfl dX5_wakers_13 ?_
        refine lv_iload_n hx hb dX5_wakers_16 rfl (lv_at hl 3 rfl) ?_
        obtain ⟨g2, h⟩ := gi_some h
        refine r_iald E hS 6 rfl g2 dX5_wakers_17 ?_
        refine lv_if_ne (tgt := 41) hx hb dX5_wakers_18 (by decide) (fun c3 => ?_) (fun c3 => ?_)
        · have h := it_neg c3 h
          refine lv_iinc (v := (x4_1 + (1 : Int32))) (lv' := [(3, .int (x4_1 + (1 : Int32))), (0, .ref q0), (1, .ref q4), (2, .int x4_0)]) hx hb dX5_wakers_41 hl (k := 3) rfl rfl (by decide) rfl (fun ls hl => ?_)
          refine lv_goto (tgt := 4) hx hb dX5_wakers_44 (by decide) ?_
          exact ih4 x4_0 (x4_1 + (1 : Int32)) x4_2 x4_3 y4  H locs ls (hz4a _ (Option.some.inj h).symm) hS (lv_sub hl [1, 2, 3, 0] rfl) hk4_0
        · have h := it_pos c3 h
          refine lv_aload_n hx hb dX5_wakers_21 rfl (lv_at hl 0 rfl) ?_
          refine lv_aload_n hx hb dX5_wakers_22 rfl (lv_at hl 1 rfl) ?_
          refine lv_iload_n hx hb dX5_wakers_23 rfl (lv_at hl 3 rfl) ?_
          refine lv_aload_n hx hb dX5_wakers_24 rfl (lv_at hl 1 rfl) ?_
          refine lv_iload_n hx hb dX5_wakers_25 rfl (lv_at hl 3 rfl) ?_
          obtain ⟨y26, e4, h⟩ := bd_some h
          refine ct_V (ws' := fun _ => [oX5 q0 (.ref q1) (.ref q2) (.ref q3) (.int v_size), aI cy q1 40 v_code, aI cy q2 40 x4_2, aI cy q3 7 x4_3, oX0 q4 (.ref q5) (.ref q6) (.ref q7) u4_3 (.ref q8) (.int w1_number) (.int w1_day) u4_7, aI cy q5 7 w1_skill, aI cy q6 7 w1_pills, aI cy q7 7 w1_slept, aI cy q8 7 w1_wanted]) (st' := [.int y26, .int x4_1, .ref q4, .ref q0]) (rest := [.int x4_1, .ref q4, .ref q0]) E hS vlX5_33 (c_X0_wanting (l := l) (D := D) (cy := cy) (q0 := q4) (q1 := q8) (u0_0 := .ref q5) (u0_1 := .ref q6) (u0_2 := .ref q7) (u0_3 := u4_3) (u0_6 := .int w1_day) (u0_7 := u4_7) (v_number := w1_number) (v_wanted := w1_wanted) (p1 := x4_1) (r := y26) e4) [4, 8] rfl rfl (fun _ => rfl) (fun _ => rfl) rfl rfl rfl rfl (Nat.le_of_ble_eq_true rfl) hl.1 (by rw [hRf]; exact Nat.le_of_ble_eq_true rfl) (by rw [hRl]; exact Nat.le_of_ble_eq_true rfl) ⟨Nat.zero_le _, Nat.zero_le _⟩ dX5_wakers_26 rfl (fun H locs _ hS => ?_)
          obtain ⟨y29, e5, h⟩ := bd_some h
          refine ct_V (ws' := fun _ => [oX5 q0 (.ref q1) (.ref q2) (.ref q3) (.int v_size), aI cy q1 40 v_code, aI cy q2 40 y29.2.1, aI cy q3 7 y29.2.2, oX0 q4 (.ref q5) (.ref q6) (.ref q7) u4_3 (.ref q8) (.int w1_number) (.int w1_day) u4_7, aI cy q5 7 w1_skill, aI cy q6 7 w1_pills, aI cy q7 7 w1_slept, aI cy q8 7 w1_wanted]) (st' := [.int y29.1]) (rest := []) E hS vlX5_37 (c_X5_needers (l := l) (D := D) (cy := cy) (q0 := q0) (q1 := q1) (q2 := q2) (q3 := q3) (q4 := q4) (q5 := q5) (q6 := q7) (q7 := q8) (u4_1 := .ref q6) (u4_3 := u4_3) (u4_7 := u4_7) (v_size := v_size) (v_code := v_code) (v_stack := x4_2) (v_thing := x4_3) (w1_number := w1_number) (w1_day := w1_day) (w1_skill := w1_skill) (w1_slept := w1_slept) (w1_wanted := w1_wanted) (p2 := x4_1) (p3 := y26) (r := y29) e5) [0, 1, 2, 3, 4, 5, 7, 8] rfl rfl (fun _ => rfl) (fun _ => rfl) rfl rfl rfl rfl (Nat.le_of_ble_eq_true rfl) hl.1 (by rw [hRf]; exact Nat.le_of_ble_eq_true rfl) (by rw [hRl]; exact Nat.le_of_ble_eq_true rfl) ⟨Nat.zero_le _, Nat.zero_le _⟩ dX5_wakers_29 rfl (fun H locs _ hS => ?_)
          refine lv_if_eq (tgt := 41) hx hb dX5_wakers_32 (by decide) (fun c6 => ?_) (fun c6 => ?_)
          · have h := it_pos c6 h
            refine lv_iinc (v := (x4_1 + (1 : Int32))) (lv' := [(3, .int (x4_1 + (1 : Int32))), (0, .ref q0), (1, .ref q4), (2, .int x4_0)]) hx hb dX5_wakers_41 hl (k := 3) rfl rfl (by decide) rfl (fun ls hl => ?_)
            refine lv_goto (tgt := 4) hx hb dX5_wakers_44 (by decide) ?_
            exact ih4 x4_0 (x4_1 + (1 : Int32)) y29.2.1 y29.2.2 y4  H locs ls (hz4a _ (Option.some.inj h).symm) hS (lv_sub hl [1, 2, 3, 0] rfl) hk4_0
          · have h := it_neg c6 h
            refine lv_iload_n hx hb dX5_wakers_35 rfl (lv_at hl 2 rfl) ?_
            refine lv_iconst (v := 1) hx hb dX5_wakers_36 (by decide) ?_
            refine lv_iload_n hx hb dX5_wakers_37 rfl (lv_at hl 3 rfl) ?_
            refine lv_ishl hx hb dX5_wakers_38 ?_
            refine lv_ior hx hb dX5_wakers_39 ?_
            refine lv_istore_n (lv' := [(2, .int (x4_0 ||| ((1 : Int32) <<< (x4_1 &&& 31)))), (0, .ref q0), (1, .ref q4), (3, .int x4_1)]) hx hb dX5_wakers_40 rfl hl (by decide) rfl (fun ls hl => ?_)
            refine lv_iinc (v := (x4_1 + (1 : Int32))) (lv' := [(3, .int (x4_1 + (1 : Int32))), (2, .int (x4_0 ||| ((1 : Int32) <<< (x4_1 &&& 31)))), (0, .ref q0), (1, .ref q4)]) hx hb dX5_wakers_41 hl (k := 3) rfl rfl (by decide) rfl (fun ls hl => ?_)
            refine lv_goto (tgt := 4) hx hb dX5_wakers_44 (by decide) ?_
            exact ih4 (x4_0 ||| ((1 : Int32) <<< (x4_1 &&& 31))) (x4_1 + (1 : Int32)) y29.2.1 y29.2.2 y4  H locs ls (hz4a _ (Option.some.inj h).symm) hS (lv_sub hl [2, 3, 1, 0] rfl) hk4_0
  obtain ⟨y4, e4, h⟩ := bd_some h
  refine hL4 1000 (0 : Int32) (0 : Int32) v_stack v_thing y4  H locs ls e4 hS (lv_sub hl [2, 3, 1, 0] rfl) (fun y4_0 y4_1 y4_2 ey4 H locs ls hS hl => ?_)
  subst ey4
  have h := un_r h
  have h := un_r h
  refine lv_iload_n hx hb dX5_wakers_47 rfl (lv_at hl 0 rfl) ?_
  obtain rfl := Option.some.inj h
  exact rt_i E hQ (.null) hS dX5_wakers_48
set_option maxHeartbeats 4000000 in
set_option maxRecDepth 100000 in
theorem c_X5_rouses {l : Launch} {D : va_G} {cy : Nat → ClassId} (q0 : Nat) (q1 : Nat) (q2 : Nat) (q3 : Nat) (q4 : Nat) (q5 : Nat) (q6 : Nat) (q7 : Nat) (q8 : Nat) (u4_3 : Value) (u4_7 : Value) (v_size : Int32) (v_code : Nat → Int32) (v_stack : Nat → Int32) (v_thing : Nat → Int32) (w1_number : Int32) (w1_day : Int32) (w1_skill : Nat → Int32) (w1_pills : Nat → Int32) (w1_slept : Nat → Int32) (w1_wanted : Nat → Int32) (p2 : Int32) (p3 : Int32) (r : Int32 × (Nat → Int32) × (Nat → Int32)) (h : X5_rouses v_size v_code v_stack v_thing w1_number w1_day w1_skill w1_pills w1_slept w1_wanted p2 p3 = some r) : Ct l yX5_rouses cX5_rouses 4 (some .boolean) 3 71 D cy [.ref q0, .ref q4, .int p2, .int p3] [oX5 q0 (.ref q1) (.ref q2) (.ref q3) (.int v_size), aI cy q1 40 v_code, aI cy q2 40 v_stack, aI cy q3 7 v_thing, oX0 q4 (.ref q5) (.ref q6) (.ref q7) u4_3 (.ref q8) (.int w1_number) (.int w1_day) u4_7, aI cy q5 7 w1_skill, aI cy q6 7 w1_pills, aI cy q7 7 w1_slept, aI cy q8 7 w1_wanted] (fun _ => [oX5 q0 (.ref q1) (.ref q2) (.ref q3) (.int v_size), aI cy q1 40 v_code, aI cy q2 40 r.2.1, aI cy q3 7 r.2.2, oX0 q4 (.ref q5) (.ref q6) (.ref q7) u4_3 (.ref q8) (.int w1_number) (.int w1_day) u4_7, aI cy q5 7 w1_skill, aI cy q6 7 w1_pills, aI cy q7 7 w1_slept, aI cy q8 7 w1_wanted]) (some (.int r.1)) := by
  refine Ct.mk kX5_rouses (by decide +kernel) (Nat.le_of_ble_eq_true rfl) ?_
  intro p e s m below meth c A ls args R Q hRf hRl hQ E H locs hS hl
  have hx := E.x
  have hb := E.b
  have hl : lv_has ls 4 [(0, .ref q0), (1, .ref q4), (2, .int p2), (3, .int p3)] := hl
  unfold X5_rouses at h
  refine lv_aload_n hx hb dX5_rouses_0 rfl (lv_at hl 1 rfl) ?_
  refine lv_iload_n hx hb dX5_rouses_1 rfl (lv_at hl 2 rfl) ?_
  refine ct_V (ws' := fun _ => [oX5 q0 (.ref q1) (.ref q2) (.ref q3) (.int v_size), aI cy q1 40 v_code, aI cy q2 40 v_stack, aI cy q3 7 v_thing, oX0 q4 (.ref q5) (.ref q6) (.ref q7) u4_3 (.ref q8) (.int w1_number) (.int w1_day) u4_7, aI cy q5 7 w1_skill, aI cy q6 7 w1_pills, aI cy q7 7 w1_slept, aI cy q8 7 w1_wanted]) (st' := [.int (X0_has w1_number p2)]) (rest := []) E hS vlX5_41 (c_X0_has (l := l) (D := D) (cy := cy) (q0 := q4) (u0_0 := .ref q5) (u0_1 := .ref q6) (u0_2 := .ref q7) (u0_3 := u4_3) (u0_4 := .ref q8) (u0_6 := .int w1_day) (u0_7 := u4_7) (v_number := w1_number) (p1 := p2) (r := (X0_has w1_number p2)) rfl) [4] rfl rfl (fun _ => rfl) (fun _ => rfl) rfl rfl rfl rfl (Nat.le_of_ble_eq_true rfl) hl.1 (by rw [hRf]; exact Nat.le_of_ble_eq_true rfl) (by rw [hRl]; exact Nat.le_of_ble_eq_true rfl) ⟨Nat.zero_le _, Nat.zero_le _⟩ dX5_rouses_2 rfl (fun H locs _ hS => ?_)
  refine lv_if_eq (tgt := 31) hx hb dX5_rouses_5 (by decide) (fun c1 => ?_) (fun c1 => ?_)
  · have h := it_pos c1 h
    refine lv_iconst (v := 0) hx hb dX5_rouses_31 (by decide) ?_
    obtain rfl := Option.some.inj h
    exact rt_n E rfl hQ (.null) hS dX5_rouses_32
  · have h := it_neg c1 h
    refine lv_aload_n hx hb dX5_rouses_8 rfl (lv_at hl 1 rfl) ?_
    refine r_get E frX5_30 hS 4 rfl rfl dX5_rouses_9 ?_
    refine lv_iload_n hx hb dX5_rouses_12 rfl (lv_at hl 2 rfl) ?_
    obtain ⟨g2, h⟩ := gi_some h
    refine r_iald E hS 6 rfl g2 dX5_rouses_13 ?_
    refine lv_if_ne (tgt := 31) hx hb dX5_rouses_14 (by decide) (fun c3 => ?_) (fun c3 => ?_)
    · have h := it_neg c3 h
      refine lv_iconst (v := 0) hx hb dX5_rouses_31 (by decide) ?_
      obtain rfl := Option.some.inj h
      exact rt_n E rfl hQ (.null) hS dX5_rouses_32
    · have h := it_pos c3 h
      refine lv_aload_n hx hb dX5_rouses_17 rfl (lv_at hl 0 rfl) ?_
      refine lv_aload_n hx hb dX5_rouses_18 rfl (lv_at hl 1 rfl) ?_
      refine lv_iload_n hx hb dX5_rouses_19 rfl (lv_at hl 2 rfl) ?_
      refine lv_iload_n hx hb dX5_rouses_20 rfl (lv_at hl 3 rfl) ?_
      obtain ⟨y21, e4, h⟩ := bd_some h
      refine ct_V (ws' := fun _ => [oX5 q0 (.ref q1) (.ref q2) (.ref q3) (.int v_size), aI cy q1 40 v_code, aI cy q2 40 y21.2.1, aI cy q3 7 y21.2.2, oX0 q4 (.ref q5) (.ref q6) (.ref q7) u4_3 (.ref q8) (.int w1_number) (.int w1_day) u4_7, aI cy q5 7 w1_skill, aI cy q6 7 w1_pills, aI cy q7 7 w1_slept, aI cy q8 7 w1_wanted]) (st' := [.int y21.1]) (rest := []) E hS vlX5_37 (c_X5_needers (l := l) (D := D) (cy := cy) (q0 := q0) (q1 := q1) (q2 := q2) (q3 := q3) (q4 := q4) (q5 := q5) (q6 := q7) (q7 := q8) (u4_1 := .ref q6) (u4_3 := u4_3) (u4_7 := u4_7) (v_size := v_size) (v_code := v_code) (v_stack := v_stack) (v_thing := v_thing) (w1_number := w1_number) (w1_day := w1_day) (w1_skill := w1_skill) (w1_slept := w1_slept) (w1_wanted := w1_wanted) (p2 := p2) (p3 := p3) (r := y21) e4) [0, 1, 2, 3, 4, 5, 7, 8] rfl rfl (fun _ => rfl) (fun _ => rfl) rfl rfl rfl rfl (Nat.le_of_ble_eq_true rfl) hl.1 (by rw [hRf]; exact Nat.le_of_ble_eq_true rfl) (by rw [hRl]; exact Nat.le_of_ble_eq_true rfl) ⟨Nat.zero_le _, Nat.zero_le _⟩ dX5_rouses_21 rfl (fun H locs _ hS => ?_)
      refine lv_if_eq (tgt := 31) hx hb dX5_rouses_24 (by decide) (fun c5 => ?_) (fun c5 => ?_)
      · have h := it_pos c5 h
        refine lv_iconst (v := 0) hx hb dX5_rouses_31 (by decide) ?_
        obtain rfl := Option.some.inj h
        exact rt_n E rfl hQ (.null) hS dX5_rouses_32
      · have h := it_neg c5 h
        refine lv_iconst (v := 1) hx hb dX5_rouses_27 (by decide) ?_
        refine lv_goto (tgt := 32) hx hb dX5_rouses_28 (by decide) ?_
        obtain rfl := Option.some.inj h
        exact rt_n E rfl hQ (.null) hS dX5_rouses_32

