set_option maxHeartbeats 4000000 in
set_option maxRecDepth 100000 in
theorem c_X11_odds {l : Launch} {D : va_G} {cy : Nat → ClassId} (q0 : Nat) (q1 : Nat) (q2 : Nat) (q3 : Nat) (q4 : Nat) (q5 : Nat) (u0_2 : Value) (u0_3 : Value) (u0_7 : Value) (u0_12 : Value) (u0_14 : Value) (u0_18 : Value) (u0_19 : Value) (u0_20 : Value) (u0_22 : Value) (u0_23 : Value) (u0_24 : Value) (u0_25 : Value) (u0_26 : Value) (u0_27 : Value) (u0_28 : Value) (u0_29 : Value) (u0_30 : Value) (u0_31 : Value) (u0_32 : Value) (u0_33 : Value) (u0_34 : Value) (u0_35 : Value) (u0_36 : Value) (u0_37 : Value) (u0_38 : Value) (u0_39 : Value) (u0_40 : Value) (v_people : Int32) (v_rowMany : Int32) (v_thrown : Int32) (v_length : Int32) (v_top : Int32) (v_at : Int32) (v_wrong : Int32) (v_ruleSize : Int32) (v_isAsked : Int32) (v_now : Nat → Int32) (v_row : Nat → Int64) (v_rule : Nat → Int32) (v_asked : Nat → Int32) (v_then : Nat → Int32) (p1 : Int32) (p2 : Int32) (r : Int32 × Int32 × Int32 × Int32 × Int32 × Int32 × Int32 × Int32 × (Nat → Int64) × (Nat → Int32) × (Nat → Int32)) (h : X11_odds v_people v_rowMany v_length v_top v_at v_wrong v_ruleSize v_isAsked v_now v_row v_rule v_asked v_then p1 p2 = some r) : Ct l yX11_odds cX11_odds 12 (some .int) 108 2580 D cy [.ref q0, .int p1, .int p2] [oX11 q0 (.ref q1) (.int v_people) u0_2 u0_3 (.ref q2) (.int v_rowMany) (.int v_thrown) u0_7 (.int v_length) (.int v_top) (.int v_at) (.int v_wrong) u0_12 (.ref q3) u0_14 (.int v_ruleSize) (.int v_isAsked) (.ref q4) u0_18 u0_19 u0_20 (.ref q5) u0_22 u0_23 u0_24 u0_25 u0_26 u0_27 u0_28 u0_29 u0_30 u0_31 u0_32 u0_33 u0_34 u0_35 u0_36 u0_37 u0_38 u0_39 u0_40, aI cy q1 37 v_now, aJ cy q2 16 v_row, aB cy q3 40 v_rule, aI cy q4 7 v_asked, aI cy q5 37 v_then] (fun rv => [oX11 q0 (.ref q1) (.int v_people) u0_2 u0_3 (.ref q2) (.int r.2.1) (.int r.2.2.1) rv (.int r.2.2.2.1) (.int r.2.2.2.2.1) (.int r.2.2.2.2.2.1) (.int r.2.2.2.2.2.2.1) u0_12 (.ref q3) u0_14 (.int v_ruleSize) (.int r.2.2.2.2.2.2.2.1) (.ref q4) u0_18 u0_19 u0_20 (.ref q5) u0_22 u0_23 u0_24 u0_25 u0_26 u0_27 u0_28 u0_29 u0_30 u0_31 u0_32 u0_33 u0_34 u0_35 u0_36 u0_37 u0_38 u0_39 u0_40, aI cy q1 37 v_now, aJ cy q2 16 r.2.2.2.2.2.2.2.2.1, aB cy q3 40 v_rule, aI cy q4 7 r.2.2.2.2.2.2.2.2.2.1, aI cy q5 37 r.2.2.2.2.2.2.2.2.2.2]) (some (.int r.1)) := by
  refine Ct.mk kX11_odds (by decide +kernel) (Nat.le_of_ble_eq_true rfl) ?_
  intro p e s m below meth c A ls args R Q hRf hRl hQ E H locs hS hl
  have hx := E.x
  have hb := E.b
  have hl : lv_has ls 12 [(0, .ref q0), (1, .int p1), (2, .int p2)] := hl
  unfold X11_odds at h
  refine lv_aload_n hx hb dX11_odds_0 rfl (lv_at hl 0 rfl) ?_
  refine lv_iconst (v := 0) hx hb dX11_odds_1 (by decide) ?_
  refine r_put (ws' := [oX11 q0 (.ref q1) (.int v_people) u0_2 u0_3 (.ref q2) (.int v_rowMany) (.int (0 : Int32)) u0_7 (.int v_length) (.int v_top) (.int v_at) (.int v_wrong) u0_12 (.ref q3) u0_14 (.int v_ruleSize) (.int v_isAsked) (.ref q4) u0_18 u0_19 u0_20 (.ref q5) u0_22 u0_23 u0_24 u0_25 u0_26 u0_27 u0_28 u0_29 u0_30 u0_31 u0_32 u0_33 u0_34 u0_35 u0_36 u0_37 u0_38 u0_39 u0_40, aI cy q1 37 v_now, aJ cy q2 16 v_row, aB cy q3 40 v_rule, aI cy q4 7 v_asked, aI cy q5 37 v_then]) E frX11_85 hS 0 rfl (Nat.le_of_ble_eq_true rfl) rfl rfl rfl rfl dX11_odds_2 (fun H locs hS => ?_)
  refine lv_aload_n hx hb dX11_odds_5 rfl (lv_at hl 0 rfl) ?_
  refine lv_iload_n hx hb dX11_odds_6 rfl (lv_at hl 1 rfl) ?_
  obtain ⟨y7, e1, h⟩ := bd_some h
  refine ct_V (ws' := fun _ => [oX11 q0 (.ref q1) (.int v_people) u0_2 u0_3 (.ref q2) (.int v_rowMany) (.int (0 : Int32)) u0_7 (.int v_length) (.int v_top) (.int v_at) (.int v_wrong) u0_12 (.ref q3) u0_14 (.int v_ruleSize) (.int v_isAsked) (.ref q4) u0_18 u0_19 u0_20 (.ref q5) u0_22 u0_23 u0_24 u0_25 u0_26 u0_27 u0_28 u0_29 u0_30 u0_31 u0_32 u0_33 u0_34 u0_35 u0_36 u0_37 u0_38 u0_39 u0_40, aI cy q1 37 v_now, aJ cy q2 16 v_row, aB cy q3 40 v_rule, aI cy q4 7 v_asked, aI cy q5 37 v_then]) (st' := [.int y7]) (rest := []) E hS vlX11_99 (c_X11_isOne (l := l) (D := D) (cy := cy) (q0 := q0) (u0_0 := .ref q1) (u0_2 := u0_2) (u0_3 := u0_3) (u0_4 := .ref q2) (u0_5 := .int v_rowMany) (u0_6 := .int (0 : Int32)) (u0_7 := u0_7) (u0_8 := .int v_length) (u0_9 := .int v_top) (u0_10 := .int v_at) (u0_11 := .int v_wrong) (u0_12 := u0_12) (u0_13 := .ref q3) (u0_14 := u0_14) (u0_15 := .int v_ruleSize) (u0_16 := .int v_isAsked) (u0_17 := .ref q4) (u0_18 := u0_18) (u0_19 := u0_19) (u0_20 := u0_20) (u0_21 := .ref q5) (u0_22 := u0_22) (u0_23 := u0_23) (u0_24 := u0_24) (u0_25 := u0_25) (u0_26 := u0_26) (u0_27 := u0_27) (u0_28 := u0_28) (u0_29 := u0_29) (u0_30 := u0_30) (u0_31 := u0_31) (u0_32 := u0_32) (u0_33 := u0_33) (u0_34 := u0_34) (u0_35 := u0_35) (u0_36 := u0_36) (u0_37 := u0_37) (u0_38 := u0_38) (u0_39 := u0_39) (u0_40 := u0_40) (v_people := v_people) (p1 := p1) (r := y7) e1) [0] rfl rfl (fun _ => rfl) (fun _ => rfl) rfl rfl rfl rfl (Nat.le_of_ble_eq_true rfl) hl.1 (by rw [hRf]; exact Nat.le_of_ble_eq_true rfl) (by rw [hRl]; exact Nat.le_of_ble_eq_true rfl) ⟨Nat.zero_le _, Nat.zero_le _⟩ dX11_odds_7 rfl (fun H locs _ hS => ?_)
  refine lv_if_eq (tgt := 23) hx hb dX11_odds_10 (by decide) (fun c2 => ?_) (fun c2 => ?_)
  · have h := it_pos c2 h
    refine lv_iconst (v := -1) hx hb dX11_odds_23 (by decide) ?_
    obtain rfl := Option.some.inj h
    exact rt_i E hQ (u0_7) hS dX11_odds_24
  · have h := it_neg c2 h
    refine lv_iload_n hx hb dX11_odds_13 rfl (lv_at hl 2 rfl) ?_
    refine lv_iconst (v := 0) hx hb dX11_odds_14 (by decide) ?_
    refine lv_bipush (v := 10) hx hb dX11_odds_15 (by decide) ?_
    refine ct_S (ws' := fun _ => [oX11 q0 (.ref q1) (.int v_people) u0_2 u0_3 (.ref q2) (.int v_rowMany) (.int (0 : Int32)) u0_7 (.int v_length) (.int v_top) (.int v_at) (.int v_wrong) u0_12 (.ref q3) u0_14 (.int v_ruleSize) (.int v_isAsked) (.ref q4) u0_18 u0_19 u0_20 (.ref q5) u0_22 u0_23 u0_24 u0_25 u0_26 u0_27 u0_28 u0_29 u0_30 u0_31 u0_32 u0_33 u0_34 u0_35 u0_36 u0_37 u0_38 u0_39 u0_40, aI cy q1 37 v_now, aJ cy q2 16 v_row, aB cy q3 40 v_rule, aI cy q4 7 v_asked, aI cy q5 37 v_then]) (st' := [.int (X11_in p2 (0 : Int32) (10 : Int32))]) (rest := []) E hS slX11_95 (c_X11_in (l := l) (D := D) (cy := cy) (p0 := p2) (p1 := (0 : Int32)) (p2 := (10 : Int32)) (r := (X11_in p2 (0 : Int32) (10 : Int32))) rfl) [] rfl rfl (fun _ => rfl) (fun _ => rfl) rfl rfl (Nat.le_of_ble_eq_true rfl) hl.1 (by rw [hRf]; exact Nat.le_of_ble_eq_true rfl) (by rw [hRl]; exact Nat.le_of_ble_eq_true rfl) ⟨Nat.zero_le _, Nat.zero_le _⟩ dX11_odds_17 rfl (fun H locs _ hS => ?_)
    refine lv_if_ne (tgt := 25) hx hb dX11_odds_20 (by decide) (fun c3 => ?_) (fun c3 => ?_)
    · have h := it_neg c3 h
      refine lv_aload_n hx hb dX11_odds_25 rfl (lv_at hl 0 rfl) ?_
      refine lv_aload_n hx hb dX11_odds_26 rfl (lv_at hl 0 rfl) ?_
      refine r_get E frX11_9 hS 0 rfl rfl dX11_odds_27 ?_
      refine lv_iload_n hx hb dX11_odds_30 rfl (lv_at hl 1 rfl) ?_
      obtain ⟨y31, e4, h⟩ := bd_some h
      refine ct_V (ws' := fun _ => [oX11 q0 (.ref q1) (.int v_people) u0_2 u0_3 (.ref q2) (.int v_rowMany) (.int (0 : Int32)) u0_7 (.int v_length) (.int v_top) (.int v_at) (.int v_wrong) u0_12 (.ref q3) u0_14 (.int v_ruleSize) (.int v_isAsked) (.ref q4) u0_18 u0_19 u0_20 (.ref q5) u0_22 u0_23 u0_24 u0_25 u0_26 u0_27 u0_28 u0_29 u0_30 u0_31 u0_32 u0_33 u0_34 u0_35 u0_36 u0_37 u0_38 u0_39 u0_40, aI cy q1 37 v_now, aJ cy q2 16 v_row, aB cy q3 40 v_rule, aI cy q4 7 v_asked, aI cy q5 37 v_then]) (st' := [.int y31]) (rest := []) E hS vlX11_200 (c_X11_wantedBy (l := l) (D := D) (cy := cy) (q0 := q0) (q1 := q1) (u0_0 := .ref q1) (u0_2 := u0_2) (u0_3 := u0_3) (u0_4 := .ref q2) (u0_5 := .int v_rowMany) (u0_6 := .int (0 : Int32)) (u0_7 := u0_7) (u0_8 := .int v_length) (u0_9 := .int v_top) (u0_10 := .int v_at) (u0_11 := .int v_wrong) (u0_12 := u0_12) (u0_13 := .ref q3) (u0_14 := u0_14) (u0_15 := .int v_ruleSize) (u0_16 := .int v_isAsked) (u0_17 := .ref q4) (u0_18 := u0_18) (u0_19 := u0_19) (u0_20 := u0_20) (u0_21 := .ref q5) (u0_22 := u0_22) (u0_23 := u0_23) (u0_24 := u0_24) (u0_25 := u0_25) (u0_26 := u0_26) (u0_27 := u0_27) (u0_28 := u0_28) (u0_29 := u0_29) (u0_30 := u0_30) (u0_31 := u0_31) (u0_32 := u0_32) (u0_33 := u0_33) (u0_34 := u0_34) (u0_35 := u0_35) (u0_36 := u0_36) (u0_37 := u0_37) (u0_38 := u0_38) (u0_39 := u0_39) (u0_40 := u0_40) (v_people := v_people) (nw1_ := 37) (w1_ := v_now) (p2 := p1) (r := y31) e4) [0, 1] rfl rfl (fun _ => rfl) (fun _ => rfl) rfl rfl rfl rfl (Nat.le_of_ble_eq_true rfl) hl.1 (by rw [hRf]; exact Nat.le_of_ble_eq_true rfl) (by rw [hRl]; exact Nat.le_of_ble_eq_true rfl) ⟨Nat.zero_le _, Nat.zero_le _⟩ dX11_odds_31 rfl (fun H locs _ hS => ?_)
      refine lv_istore_n (lv' := [(3, .int y31), (0, .ref q0), (1, .int p1), (2, .int p2)]) hx hb dX11_odds_34 rfl hl (by decide) rfl (fun ls hl => ?_)
      refine lv_lconst (v := 0) hx hb dX11_odds_35 (by decide) ?_
      refine lv_lstore (lv' := [(4, .long (0 : Int64)), (3, .int y31), (0, .ref q0), (1, .int p1), (2, .int p2)]) hx hb dX11_odds_36 hl (by decide) rfl (fun ls hl => ?_)
      refine lv_lconst (v := 1) hx hb dX11_odds_38 (by decide) ?_
      refine lv_lstore (lv' := [(6, .long (1 : Int64)), (4, .long (0 : Int64)), (3, .int y31), (0, .ref q0), (1, .int p1), (2, .int p2)]) hx hb dX11_odds_39 hl (by decide) rfl (fun ls hl => ?_)
      refine lv_iconst (v := 0) hx hb dX11_odds_41 (by decide) ?_
      refine lv_istore (lv' := [(8, .int (0 : Int32)), (6, .long (1 : Int64)), (4, .long (0 : Int64)), (3, .int y31), (0, .ref q0), (1, .int p1), (2, .int p2)]) hx hb dX11_odds_42 hl (by decide) rfl (fun ls hl => ?_)
      have hL44 : ∀ (n : Nat) (x44_0 : Int64) (x44_1 : Int32) (y44 : Int64) (H : Heap) (locs : List Loc) (ls : Array Slot), lp (fun x44 => X11_odds_s44 y31 x44.1 x44.2) n (x44_0, x44_1) = some y44 → Sv D A s.heap [oX11 q0 (.ref q1) (.int v_people) u0_2 u0_3 (.ref q2) (.int v_rowMany) (.int (0 : Int32)) u0_7 (.int v_length) (.int v_top) (.int v_at) (.int v_wrong) u0_12 (.ref q3) u0_14 (.int v_ruleSize) (.int v_isAsked) (.ref q4) u0_18 u0_19 u0_20 (.ref q5) u0_22 u0_23 u0_24 u0_25 u0_26 u0_27 u0_28 u0_29 u0_30 u0_31 u0_32 u0_33 u0_34 u0_35 u0_36 u0_37 u0_38 u0_39 u0_40, aI cy q1 37 v_now, aJ cy q2 16 v_row, aB cy q3 40 v_rule, aI cy q4 7 v_asked, aI cy q5 37 v_then] H locs → lv_has ls 12 [(0, .ref q0), (1, .int p1), (2, .int p2), (3, .int y31), (4, .long (0 : Int64)), (6, .long x44_0), (8, .int x44_1)] → ( ∀ (y44_0 : Int64), y44_0 = y44 → ∀ (H : Heap) (locs : List Loc) (ls : Array Slot), Sv D A s.heap [oX11 q0 (.ref q1) (.int v_people) u0_2 u0_3 (.ref q2) (.int v_rowMany) (.int (0 : Int32)) u0_7 (.int v_length) (.int v_top) (.int v_at) (.int v_wrong) u0_12 (.ref q3) u0_14 (.int v_ruleSize) (.int v_isAsked) (.ref q4) u0_18 u0_19 u0_20 (.ref q5) u0_22 u0_23 u0_24 u0_25 u0_26 u0_27 u0_28 u0_29 u0_30 u0_31 u0_32 u0_33 u0_34 u0_35 u0_36 u0_37 u0_38 u0_39 u0_40, aI cy q1 37 v_now, aJ cy q2 16 v_row, aB cy q3 40 v_rule, aI cy q4 7 v_asked, aI cy q5 37 v_then] H locs → lv_has ls 12 [(0, .ref q0), (1, .int p1), (2, .int p2), (3, .int y31), (4, .long (0 : Int64)), (6, .long y44_0)] → W p l e R s m args below meth c H locs 0 0 Q (F0 m 67 ls [])) → W p l e R s m args below meth c H locs 0 0 Q (F0 m 44 ls []) := by
        intro n
        induction n with
        | zero =>
          intro x44_0 x44_1 y44 H locs ls h
          exact lp_zero h
        | succ n ih44 =>
          intro x44_0 x44_1 y44 H locs ls h hS hl hk44_0
          obtain ⟨z44, h, hz44a, hz44b⟩ := lp_succ h
          have h : X11_odds_s44 y31 x44_0 x44_1 = some z44 := h
          unfold X11_odds_s44 at h
          refine lv_iload hx hb dX11_odds_44 (lv_at hl 6 rfl) ?_
          refine lv_iload_n hx hb dX11_odds_46 rfl (lv_at hl 3 rfl) ?_
          refine ct_S (ws' := fun _ => [oX11 q0 (.ref q1) (.int v_people) u0_2 u0_3 (.ref q2) (.int v_rowMany) (.int (0 : Int32)) u0_7 (.int v_length) (.int v_top) (.int v_at) (.int v_wrong) u0_12 (.ref q3) u0_14 (.int v_ruleSize) (.int v_isAsked) (.ref q4) u0_18 u0_19 u0_20 (.ref q5) u0_22 u0_23 u0_24 u0_25 u0_26 u0_27 u0_28 u0_29 u0_30 u0_31 u0_32 u0_33 u0_34 u0_35 u0_36 u0_37 u0_38 u0_39 u0_40, aI cy q1 37 v_now, aJ cy q2 16 v_row, aB cy q3 40 v_rule, aI cy q4 7 v_asked, aI cy q5 37 v_then]) (st' := [.int (J6_bitCount_0f7a4 y31), .int x44_1]) (rest := [.int x44_1]) E hS slX11_204 (c_J6_bitCount_0f7a4 (l := l) (D := D) (cy := cy) (p0 := y31) (r := (J6_bitCount_0f7a4 y31)) rfl) [] rfl rfl (fun _ => rfl) (fun _ => rfl) rfl rfl (Nat.le_of_ble_eq_true rfl) hl.1 (by rw [hRf]; exact Nat.le_of_ble_eq_true rfl) (by rw [hRl]; exact Nat.le_of_ble_eq_true rfl) ⟨Nat.zero_le _, Nat.zero_le _⟩ dX11_odds_47 rfl (fun H locs _ hS => ?_)
          refine lv_icmp_ge (tgt := 67) hx hb dX11_odds_50 (by decide) (fun c5 => ?_) (fun c5 => ?_)
          · have h := it_pos c5 h
            exact hk44_0 x44_0 (hz44b _ (Option.some.inj h).symm)  H locs ls hS (lv_sub hl [0, 1, 2, 3, 4, 5] rfl)
          · have h := it_neg c5 h
            refine lv_lload hx hb dX11_odds_53 (lv_at hl 5 rfl) ?_
            refine lv_ldc2 hx hb E.ow (E.ts _ cnX11_348) dX11_odds_55 ?_
            refine lv_lmul hx hb dX11_odds_58 ?_
            refine lv_lstore (lv' := [(6, .long (x44_0 * (10 : Int64))), (0, .ref q0), (1, .int p1), (2, .int p2), (3, .int y31), (4, .long (0 : Int64)), (8, .int x44_1)]) hx hb dX11_odds_59 hl (by decide) rfl (fun ls hl => ?_)
            refine lv_iinc (v := (x44_1 + (1 : Int32))) (lv' := [(8, .int (x44_1 + (1 : Int32))), (6, .long (x44_0 * (10 : Int64))), (0, .ref q0), (1, .int p1), (2, .int p2), (3, .int y31), (4, .long (0 : Int64))]) hx hb dX11_odds_61 hl (k := 6) rfl rfl (by decide) rfl (fun ls hl => ?_)
            refine lv_goto (tgt := 44) hx hb dX11_odds_64 (by decide) ?_
            exact ih44 (x44_0 * (10 : Int64)) (x44_1 + (1 : Int32)) y44  H locs ls (hz44a _ (Option.some.inj h).symm) hS (lv_sub hl [2, 3, 4, 5, 6, 1, 0] rfl) hk44_0
      obtain ⟨y44, e44, h⟩ := bd_some h
      refine hL44 1000 (1 : Int64) (0 : Int32) y44  H locs ls e44 hS (lv_sub hl [4, 5, 6, 3, 2, 1, 0] rfl) (fun y44_0 ey44 H locs ls hS hl => ?_)
      subst ey44
      refine lv_iconst (v := 0) hx hb dX11_odds_67 (by decide) ?_
      refine lv_istore (lv' := [(8, .int (0 : Int32)), (0, .ref q0), (1, .int p1), (2, .int p2), (3, .int y31), (4, .long (0 : Int64)), (6, .long y44_0)]) hx hb dX11_odds_68 hl (by decide) rfl (fun ls hl => ?_)
      have hL70 : ∀ (n : Nat) (x70_0 : Int64) (x70_1 : Int32) (x70_2 : Int32) (x70_3 : Int32) (x70_4 : Int32) (x70_5 : Int32) (x70_6 : Int32) (x70_7 : Nat → Int32) (x70_8 : Nat → Int32) (y70 : Int64 × Int32 × Int32 × Int32 × Int32 × Int32 × (Nat → Int32) × (Nat → Int32)) (rv70_0 : Value) (H : Heap) (locs : List Loc) (ls : Array Slot), lp (fun x70 => X11_odds_s70 v_people v_ruleSize v_now v_rule p1 p2 y31 x70.1 x70.2.1 x70.2.2.1 x70.2.2.2.1 x70.2.2.2.2.1 x70.2.2.2.2.2.1 x70.2.2.2.2.2.2.1 x70.2.2.2.2.2.2.2.1 x70.2.2.2.2.2.2.2.2) n (x70_0, x70_1, x70_2, x70_3, x70_4, x70_5, x70_6, x70_7, x70_8) = some y70 → Sv D A s.heap [oX11 q0 (.ref q1) (.int v_people) u0_2 u0_3 (.ref q2) (.int v_rowMany) (.int (0 : Int32)) rv70_0 (.int x70_2) (.int x70_3) (.int x70_4) (.int x70_5) u0_12 (.ref q3) u0_14 (.int v_ruleSize) (.int x70_6) (.ref q4) u0_18 u0_19 u0_20 (.ref q5) u0_22 u0_23 u0_24 u0_25 u0_26 u0_27 u0_28 u0_29 u0_30 u0_31 u0_32 u0_33 u0_34 u0_35 u0_36 u0_37 u0_38 u0_39 u0_40, aI cy q1 37 v_now, aJ cy q2 16 v_row, aB cy q3 40 v_rule, aI cy q4 7 x70_7, aI cy q5 37 x70_8] H locs → lv_has ls 12 [(0, .ref q0), (1, .int p1), (2, .int p2), (3, .int y31), (4, .long x70_0), (6, .long y44_0), (8, .int x70_1)] → ( ∀ (y70_0 : Int64) (y70_1 : Int32) (y70_2 : Int32) (y70_3 : Int32) (y70_4 : Int32) (y70_5 : Int32) (y70_6 : Nat → Int32) (y70_7 : Nat → Int32), (y70_0, y70_1, y70_2, y70_3, y70_4, y70_5, y70_6, y70_7) = y70 → ∀ (rv70_0 : Value), ∀ (H : Heap) (locs : List Loc) (ls : Array Slot), Sv D A s.heap [oX11 q0 (.ref q1) (.int v_people) u0_2 u0_3 (.ref q2) (.int v_rowMany) (.int (0 : Int32)) rv70_0 (.int y70_1) (.int y70_2) (.int y70_3) (.int y70_4) u0_12 (.ref q3) u0_14 (.int v_ruleSize) (.int y70_5) (.ref q4) u0_18 u0_19 u0_20 (.ref q5) u0_22 u0_23 u0_24 u0_25 u0_26 u0_27 u0_28 u0_29 u0_30 u0_31 u0_32 u0_33 u0_34 u0_35 u0_36 u0_37 u0_38 u0_39 u0_40, aI cy q1 37 v_now, aJ cy q2 16 v_row, aB cy q3 40 v_rule, aI cy q4 7 y70_6, aI cy q5 37 y70_7] H locs → lv_has ls 12 [(0, .ref q0), (4, .long y70_0), (6, .long y44_0)] → W p l e R s m args below meth c H locs 0 0 Q (F0 m 178 ls [])) → W p l e R s m args below meth c H locs 0 0 Q (F0 m 70 ls []) := by
        intro n
        induction n with
        | zero =>
          intro x70_0 x70_1 x70_2 x70_3 x70_4 x70_5 x70_6 x70_7 x70_8 y70 rv70_0 H locs ls h
          exact lp_zero h
        | succ n ih70 =>
          intro x70_0 x70_1 x70_2 x70_3 x70_4 x70_5 x70_6 x70_7 x70_8 y70 rv70_0 H locs ls h hS hl hk70_0
          obtain ⟨z70, h, hz70a, hz70b⟩ := lp_succ h
          have h : X11_odds_s70 v_people v_ruleSize v_now v_rule p1 p2 y31 x70_0 x70_1 x70_2 x70_3 x70_4 x70_5 x70_6 x70_7 x70_8 = some z70 := h
          unfold X11_odds_s70 at h
          refine lv_iload hx hb dX11_odds_70 (lv_at hl 6 rfl) ?_
          refine lv_iload_n hx hb dX11_odds_72 rfl (lv_at hl 3 rfl) ?_
          refine lv_icmp_gt (tgt := 178) hx hb dX11_odds_73 (by decide) (fun c6 => ?_) (fun c6 => ?_)
          · have h := it_pos c6 h
            exact hk70_0 x70_0 x70_2 x70_3 x70_4 x70_5 x70_6 x70_7 x70_8 (hz70b _ (Option.some.inj h).symm) rv70_0 H locs ls hS (lv_sub hl [0, 4, 5] rfl)
          · have h := it_neg c6 h
            refine lv_iload hx hb dX11_odds_76 (lv_at hl 6 rfl) ?_
            refine lv_iload_n hx hb dX11_odds_78 rfl (lv_at hl 3 rfl) ?_
            refine lv_iconst (v := -1) hx hb dX11_odds_79 (by decide) ?_
            refine lv_ixor hx hb dX11_odds_80 ?_
            refine lv_iand hx hb dX11_odds_81 ?_
            refine lv_if_eq (tgt := 88) hx hb dX11_odds_82 (by decide) (fun c7 => ?_) (fun c7 => ?_)
            · have h := it_pos c7 h
              refine lv_aload_n hx hb dX11_odds_88 rfl (lv_at hl 0 rfl) ?_
              refine lv_iload hx hb dX11_odds_89 (lv_at hl 6 rfl) ?_
              refine lv_iload_n hx hb dX11_odds_91 rfl (lv_at hl 1 rfl) ?_
              obtain ⟨y92, e8, h⟩ := bd_some h
              refine ct_V (ws' := fun _ => [oX11 q0 (.ref q1) (.int v_people) u0_2 u0_3 (.ref q2) (.int v_rowMany) (.int (0 : Int32)) rv70_0 (.int x70_2) (.int x70_3) (.int x70_4) (.int x70_5) u0_12 (.ref q3) u0_14 (.int v_ruleSize) (.int x70_6) (.ref q4) u0_18 u0_19 u0_20 (.ref q5) u0_22 u0_23 u0_24 u0_25 u0_26 u0_27 u0_28 u0_29 u0_30 u0_31 u0_32 u0_33 u0_34 u0_35 u0_36 u0_37 u0_38 u0_39 u0_40, aI cy q1 37 v_now, aJ cy q2 16 v_row, aB cy q3 40 v_rule, aI cy q4 7 x70_7, aI cy q5 37 y92]) (st' := []) (rest := []) E hS vlX11_303 (c_X11_beginDropped (l := l) (D := D) (cy := cy) (q0 := q0) (q1 := q1) (q2 := q5) (u0_2 := u0_2) (u0_3 := u0_3) (u0_4 := .ref q2) (u0_5 := .int v_rowMany) (u0_6 := .int (0 : Int32)) (u0_7 := rv70_0) (u0_8 := .int x70_2) (u0_9 := .int x70_3) (u0_10 := .int x70_4) (u0_11 := .int x70_5) (u0_12 := u0_12) (u0_13 := .ref q3) (u0_14 := u0_14) (u0_15 := .int v_ruleSize) (u0_16 := .int x70_6) (u0_17 := .ref q4) (u0_18 := u0_18) (u0_19 := u0_19) (u0_20 := u0_20) (u0_22 := u0_22) (u0_23 := u0_23) (u0_24 := u0_24) (u0_25 := u0_25) (u0_26 := u0_26) (u0_27 := u0_27) (u0_28 := u0_28) (u0_29 := u0_29) (u0_30 := u0_30) (u0_31 := u0_31) (u0_32 := u0_32) (u0_33 := u0_33) (u0_34 := u0_34) (u0_35 := u0_35) (u0_36 := u0_36) (u0_37 := u0_37) (u0_38 := u0_38) (u0_39 := u0_39) (u0_40 := u0_40) (v_people := v_people) (v_now := v_now) (v_then := x70_8) (p1 := x70_1) (p2 := p1) (r := y92) e8) [0, 1, 5] rfl rfl (fun _ => rfl) (fun _ => rfl) rfl rfl rfl rfl (Nat.le_of_ble_eq_true rfl) hl.1 (by rw [hRf]; exact Nat.le_of_ble_eq_true rfl) (by rw [hRl]; exact Nat.le_of_ble_eq_true rfl) ⟨Nat.zero_le _, Nat.zero_le _⟩ dX11_odds_92 rfl (fun H locs _ hS => ?_)
              refine lv_aload_n hx hb dX11_odds_95 rfl (lv_at hl 0 rfl) ?_
              refine lv_aload_n hx hb dX11_odds_96 rfl (lv_at hl 0 rfl) ?_
              refine r_get E frX11_39 hS 0 rfl rfl dX11_odds_97 ?_
              refine lv_iload_n hx hb dX11_odds_100 rfl (lv_at hl 1 rfl) ?_
              obtain ⟨y101, e9, h⟩ := bd_some h
              refine ct_V (ws' := fun rc10 => [oX11 q0 (.ref q1) (.int v_people) u0_2 u0_3 (.ref q2) (.int v_rowMany) (.int (0 : Int32)) rc10 (.int y101.2.1) (.int y101.2.2.1) (.int y101.2.2.2.1) (.int y101.2.2.2.2.1) u0_12 (.ref q3) u0_14 (.int v_ruleSize) (.int y101.2.2.2.2.2.1) (.ref q4) u0_18 u0_19 u0_20 (.ref q5) u0_22 u0_23 u0_24 u0_25 u0_26 u0_27 u0_28 u0_29 u0_30 u0_31 u0_32 u0_33 u0_34 u0_35 u0_36 u0_37 u0_38 u0_39 u0_40, aI cy q1 37 v_now, aJ cy q2 16 v_row, aB cy q3 40 v_rule, aI cy q4 7 y101.2.2.2.2.2.2, aI cy q5 37 y92]) (st' := [.int y101.1]) (rest := []) E hS vlX11_216 (c_X11_isAwake (l := l) (D := D) (cy := cy) (q0 := q0) (q1 := q3) (q2 := q4) (q3 := q5) (u0_0 := .ref q1) (u0_2 := u0_2) (u0_3 := u0_3) (u0_4 := .ref q2) (u0_5 := .int v_rowMany) (u0_6 := .int (0 : Int32)) (u0_7 := rv70_0) (u0_12 := u0_12) (u0_14 := u0_14) (u0_18 := u0_18) (u0_19 := u0_19) (u0_20 := u0_20) (u0_21 := .ref q5) (u0_22 := u0_22) (u0_23 := u0_23) (u0_24 := u0_24) (u0_25 := u0_25) (u0_26 := u0_26) (u0_27 := u0_27) (u0_28 := u0_28) (u0_29 := u0_29) (u0_30 := u0_30) (u0_31 := u0_31) (u0_32 := u0_32) (u0_33 := u0_33) (u0_34 := u0_34) (u0_35 := u0_35) (u0_36 := u0_36) (u0_37 := u0_37) (u0_38 := u0_38) (u0_39 := u0_39) (u0_40 := u0_40) (v_people := v_people) (v_length := x70_2) (v_top := x70_3) (v_at := x70_4) (v_wrong := x70_5) (v_ruleSize := v_ruleSize) (v_isAsked := x70_6) (v_rule := v_rule) (v_asked := x70_7) (nw1_ := 37) (w1_ := y92) (p2 := p1) (r := y101) e9) [0, 3, 4, 5] rfl rfl (fun _ => rfl) (fun _ => rfl) rfl rfl rfl rfl (Nat.le_of_ble_eq_true rfl) hl.1 (by rw [hRf]; exact Nat.le_of_ble_eq_true rfl) (by rw [hRl]; exact Nat.le_of_ble_eq_true rfl) ⟨Nat.zero_le _, Nat.zero_le _⟩ dX11_odds_101 rfl (fun H locs rc10 hS => ?_)
              refine lv_if_ne (tgt := 110) hx hb dX11_odds_104 (by decide) (fun c11 => ?_) (fun c11 => ?_)
              · have h := it_neg c11 h
                refine lv_lconst (v := 1) hx hb dX11_odds_110 (by decide) ?_
                refine lv_lstore (lv' := [(9, .long (1 : Int64)), (0, .ref q0), (1, .int p1), (2, .int p2), (3, .int y31), (4, .long x70_0), (6, .long y44_0), (8, .int x70_1)]) hx hb dX11_odds_111 hl (by decide) rfl (fun ls hl => ?_)
                refine lv_iconst (v := 0) hx hb dX11_odds_113 (by decide) ?_
                refine lv_istore (lv' := [(11, .int (0 : Int32)), (9, .long (1 : Int64)), (0, .ref q0), (1, .int p1), (2, .int p2), (3, .int y31), (4, .long x70_0), (6, .long y44_0), (8, .int x70_1)]) hx hb dX11_odds_114 hl (by decide) rfl (fun ls hl => ?_)
                have hL116 : ∀ (n : Nat) (x116_0 : Int64) (x116_1 : Int32) (y116 : Int64) (H : Heap) (locs : List Loc) (ls : Array Slot), lp (fun x116 => X11_odds_s116 v_people p2 y31 x70_1 x116.1 x116.2) n (x116_0, x116_1) = some y116 → Sv D A s.heap [oX11 q0 (.ref q1) (.int v_people) u0_2 u0_3 (.ref q2) (.int v_rowMany) (.int (0 : Int32)) rc10 (.int y101.2.1) (.int y101.2.2.1) (.int y101.2.2.2.1) (.int y101.2.2.2.2.1) u0_12 (.ref q3) u0_14 (.int v_ruleSize) (.int y101.2.2.2.2.2.1) (.ref q4) u0_18 u0_19 u0_20 (.ref q5) u0_22 u0_23 u0_24 u0_25 u0_26 u0_27 u0_28 u0_29 u0_30 u0_31 u0_32 u0_33 u0_34 u0_35 u0_36 u0_37 u0_38 u0_39 u0_40, aI cy q1 37 v_now, aJ cy q2 16 v_row, aB cy q3 40 v_rule, aI cy q4 7 y101.2.2.2.2.2.2, aI cy q5 37 y92] H locs → lv_has ls 12 [(0, .ref q0), (1, .int p1), (2, .int p2), (3, .int y31), (4, .long x70_0), (6, .long y44_0), (8, .int x70_1), (9, .long x116_0), (11, .int x116_1)] → ( ∀ (y116_0 : Int64), y116_0 = y116 → ∀ (H : Heap) (locs : List Loc) (ls : Array Slot), Sv D A s.heap [oX11 q0 (.ref q1) (.int v_people) u0_2 u0_3 (.ref q2) (.int v_rowMany) (.int (0 : Int32)) rc10 (.int y101.2.1) (.int y101.2.2.1) (.int y101.2.2.2.1) (.int y101.2.2.2.2.1) u0_12 (.ref q3) u0_14 (.int v_ruleSize) (.int y101.2.2.2.2.2.1) (.ref q4) u0_18 u0_19 u0_20 (.ref q5) u0_22 u0_23 u0_24 u0_25 u0_26 u0_27 u0_28 u0_29 u0_30 u0_31 u0_32 u0_33 u0_34 u0_35 u0_36 u0_37 u0_38 u0_39 u0_40, aI cy q1 37 v_now, aJ cy q2 16 v_row, aB cy q3 40 v_rule, aI cy q4 7 y101.2.2.2.2.2.2, aI cy q5 37 y92] H locs → lv_has ls 12 [(0, .ref q0), (1, .int p1), (2, .int p2), (3, .int y31), (4, .long x70_0), (6, .long y44_0), (8, .int x70_1), (9, .long y116_0)] → W p l e R s m args below meth c H locs 0 0 Q (F0 m 165 ls [])) → W p l e R s m args below meth c H locs 0 0 Q (F0 m 116 ls []) := by
                  intro n
                  induction n with
                  | zero =>
                    intro x116_0 x116_1 y116 H locs ls h
                    exact lp_zero h
                  | succ n ih116 =>
                    intro x116_0 x116_1 y116 H locs ls h hS hl hk116_0
                    obtain ⟨z116, h, hz116a, hz116b⟩ := lp_succ h
                    have h : X11_odds_s116 v_people p2 y31 x70_1 x116_0 x116_1 = some z116 := h
                    unfold X11_odds_s116 at h
                    refine lv_iload hx hb dX11_odds_116 (lv_at hl 8 rfl) ?_
                    refine lv_aload_n hx hb dX11_odds_118 rfl (lv_at hl 0 rfl) ?_
                    refine r_get E frX11_92 hS 0 rfl rfl dX11_odds_119 ?_
                    refine lv_icmp_ge (tgt := 165) hx hb dX11_odds_122 (by decide) (fun c12 => ?_) (fun c12 => ?_)
                    · have h := it_pos c12 h
                      exact hk116_0 x116_0 (hz116b _ (Option.some.inj h).symm)  H locs ls hS (lv_sub hl [0, 1, 2, 3, 4, 5, 6, 7] rfl)
                    · have h := it_neg c12 h
                      refine lv_iload_n hx hb dX11_odds_125 rfl (lv_at hl 3 rfl) ?_
                      refine lv_iload hx hb dX11_odds_126 (lv_at hl 8 rfl) ?_
                      refine ct_S (ws' := fun _ => [oX11 q0 (.ref q1) (.int v_people) u0_2 u0_3 (.ref q2) (.int v_rowMany) (.int (0 : Int32)) rc10 (.int y101.2.1) (.int y101.2.2.1) (.int y101.2.2.2.1) (.int y101.2.2.2.2.1) u0_12 (.ref q3) u0_14 (.int v_ruleSize) (.int y101.2.2.2.2.2.1) (.ref q4) u0_18 u0_19 u0_20 (.ref q5) u0_22 u0_23 u0_24 u0_25 u0_26 u0_27 u0_28 u0_29 u0_30 u0_31 u0_32 u0_33 u0_34 u0_35 u0_36 u0_37 u0_38 u0_39 u0_40, aI cy q1 37 v_now, aJ cy q2 16 v_row, aB cy q3 40 v_rule, aI cy q4 7 y101.2.2.2.2.2.2, aI cy q5 37 y92]) (st' := [.int (X11_has y31 x116_1)]) (rest := []) E hS slX11_196 (c_X11_has (l := l) (D := D) (cy := cy) (p0 := y31) (p1 := x116_1) (r := (X11_has y31 x116_1)) rfl) [] rfl rfl (fun _ => rfl) (fun _ => rfl) rfl rfl (Nat.le_of_ble_eq_true rfl) hl.1 (by rw [hRf]; exact Nat.le_of_ble_eq_true rfl) (by rw [hRl]; exact Nat.le_of_ble_eq_true rfl) ⟨Nat.zero_le _, Nat.zero_le _⟩ dX11_odds_128 rfl (fun H locs _ hS => ?_)
                      refine lv_if_eq (tgt := 159) hx hb dX11_odds_131 (by decide) (fun c13 => ?_) (fun c13 => ?_)
                      · have h := it_pos c13 h
                        refine lv_iinc (v := (x116_1 + (1 : Int32))) (lv' := [(11, .int (x116_1 + (1 : Int32))), (0, .ref q0), (1, .int p1), (2, .int p2), (3, .int y31), (4, .long x70_0), (6, .long y44_0), (8, .int x70_1), (9, .long x116_0)]) hx hb dX11_odds_159 hl (k := 8) rfl rfl (by decide) rfl (fun ls hl => ?_)
                        refine lv_goto (tgt := 116) hx hb dX11_odds_162 (by decide) ?_
                        exact ih116 x116_0 (x116_1 + (1 : Int32)) y116  H locs ls (hz116a _ (Option.some.inj h).symm) hS (lv_sub hl [1, 2, 3, 4, 5, 6, 7, 8, 0] rfl) hk116_0
                      · have h := it_neg c13 h
                        refine lv_lload hx hb dX11_odds_134 (lv_at hl 7 rfl) ?_
                        refine lv_iload hx hb dX11_odds_136 (lv_at hl 6 rfl) ?_
                        refine lv_iload hx hb dX11_odds_138 (lv_at hl 8 rfl) ?_
                        refine ct_S (ws' := fun _ => [oX11 q0 (.ref q1) (.int v_people) u0_2 u0_3 (.ref q2) (.int v_rowMany) (.int (0 : Int32)) rc10 (.int y101.2.1) (.int y101.2.2.1) (.int y101.2.2.2.1) (.int y101.2.2.2.2.1) u0_12 (.ref q3) u0_14 (.int v_ruleSize) (.int y101.2.2.2.2.2.1) (.ref q4) u0_18 u0_19 u0_20 (.ref q5) u0_22 u0_23 u0_24 u0_25 u0_26 u0_27 u0_28 u0_29 u0_30 u0_31 u0_32 u0_33 u0_34 u0_35 u0_36 u0_37 u0_38 u0_39 u0_40, aI cy q1 37 v_now, aJ cy q2 16 v_row, aB cy q3 40 v_rule, aI cy q4 7 y101.2.2.2.2.2.2, aI cy q5 37 y92]) (st' := [.int (X11_has x70_1 x116_1), .long x116_0]) (rest := [.long x116_0]) E hS slX11_196 (c_X11_has (l := l) (D := D) (cy := cy) (p0 := x70_1) (p1 := x116_1) (r := (X11_has x70_1 x116_1)) rfl) [] rfl rfl (fun _ => rfl) (fun _ => rfl) rfl rfl (Nat.le_of_ble_eq_true rfl) hl.1 (by rw [hRf]; exact Nat.le_of_ble_eq_true rfl) (by rw [hRl]; exact Nat.le_of_ble_eq_true rfl) ⟨Nat.zero_le _, Nat.zero_le _⟩ dX11_odds_140 rfl (fun H locs _ hS => ?_)
                        have hJ156 : ∀ (s156_1 : Int64) (ls : Array Slot), s156_1 = (if (X11_has x70_1 x116_1) = 0 then (p2.toInt64) else (((10 : Int32) - p2).toInt64)) → lv_has ls 12 [(0, .ref q0), (1, .int p1), (2, .int p2), (3, .int y31), (4, .long x70_0), (6, .long y44_0), (8, .int x70_1), (11, .int x116_1)] → W p l e R s m args below meth c H locs 0 0 Q (F0 m 156 ls [.long s156_1, .long x116_0]) := by
                          intro s156_1 ls es156_1 hl
                          subst es156_1
                          refine lv_lmul hx hb dX11_odds_156 ?_
                          refine lv_lstore (lv' := [(9, .long (x116_0 * (if (X11_has x70_1 x116_1) = 0 then (p2.toInt64) else (((10 : Int32) - p2).toInt64)))), (0, .ref q0), (1, .int p1), (2, .int p2), (3, .int y31), (4, .long x70_0), (6, .long y44_0), (8, .int x70_1), (11, .int x116_1)]) hx hb dX11_odds_157 hl (by decide) rfl (fun ls hl => ?_)
                          refine lv_iinc (v := (x116_1 + (1 : Int32))) (lv' := [(11, .int (x116_1 + (1 : Int32))), (9, .long (x116_0 * (if (X11_has x70_1 x116_1) = 0 then (p2.toInt64) else (((10 : Int32) - p2).toInt64)))), (0, .ref q0), (1, .int p1), (2, .int p2), (3, .int y31), (4, .long x70_0), (6, .long y44_0), (8, .int x70_1)]) hx hb dX11_odds_159 hl (k := 8) rfl rfl (by decide) rfl (fun ls hl => ?_)
                          refine lv_goto (tgt := 116) hx hb dX11_odds_162 (by decide) ?_
                          exact ih116 (x116_0 * (if (X11_has x70_1 x116_1) = 0 then (p2.toInt64) else (((10 : Int32) - p2).toInt64))) (x116_1 + (1 : Int32)) y116  H locs ls (hz116a _ (Option.some.inj h).symm) hS (lv_sub hl [2, 3, 4, 5, 6, 7, 8, 1, 0] rfl) hk116_0
                        refine lv_if_eq (tgt := 154) hx hb dX11_odds_143 (by decide) (fun c14 => ?_) (fun c14 => ?_)
                        · refine lv_iload_n hx hb dX11_odds_154 rfl (lv_at hl 2 rfl) ?_
                          refine lv_i2l (v := (p2.toInt64)) hx hb dX11_odds_155 rfl ?_
                          exact hJ156 _ ls ((if_pos c14)).symm (lv_sub hl [0, 1, 2, 3, 4, 5, 6, 8] rfl)
                        · refine lv_bipush (v := 10) hx hb dX11_odds_146 (by decide) ?_
                          refine lv_iload_n hx hb dX11_odds_148 rfl (lv_at hl 2 rfl) ?_
                          refine lv_isub hx hb dX11_odds_149 ?_
                          refine lv_i2l (v := (((10 : Int32) - p2).toInt64)) hx hb dX11_odds_150 rfl ?_
                          refine lv_goto (tgt := 156) hx hb dX11_odds_151 (by decide) ?_
                          exact hJ156 _ ls ((if_neg c14)).symm (lv_sub hl [0, 1, 2, 3, 4, 5, 6, 8] rfl)
                obtain ⟨y116, e116, h⟩ := bd_some h
                refine hL116 1000 (1 : Int64) (0 : Int32) y116  H locs ls e116 hS (lv_sub hl [2, 3, 4, 5, 6, 7, 8, 1, 0] rfl) (fun y116_0 ey116 H locs ls hS hl => ?_)
                subst ey116
                refine lv_lload hx hb dX11_odds_165 (lv_at hl 4 rfl) ?_
                refine lv_lload hx hb dX11_odds_167 (lv_at hl 7 rfl) ?_
                refine lv_ladd hx hb dX11_odds_169 ?_
                refine lv_lstore (lv' := [(4, .long (x70_0 + y116_0)), (0, .ref q0), (1, .int p1), (2, .int p2), (3, .int y31), (6, .long y44_0), (8, .int x70_1), (9, .long y116_0)]) hx hb dX11_odds_170 hl (by decide) rfl (fun ls hl => ?_)
                refine lv_iinc (v := (x70_1 + (1 : Int32))) (lv' := [(8, .int (x70_1 + (1 : Int32))), (4, .long (x70_0 + y116_0)), (0, .ref q0), (1, .int p1), (2, .int p2), (3, .int y31), (6, .long y44_0), (9, .long y116_0)]) hx hb dX11_odds_172 hl (k := 6) rfl rfl (by decide) rfl (fun ls hl => ?_)
                refine lv_goto (tgt := 70) hx hb dX11_odds_175 (by decide) ?_
                exact ih70 (x70_0 + y116_0) (x70_1 + (1 : Int32)) y101.2.1 y101.2.2.1 y101.2.2.2.1 y101.2.2.2.2.1 y101.2.2.2.2.2.1 y101.2.2.2.2.2.2 y92 y70 rc10 H locs ls (hz70a _ (Option.some.inj h).symm) hS (lv_sub hl [2, 3, 4, 5, 1, 6, 0] rfl) hk70_0
              · have h := it_pos c11 h
                refine lv_goto (tgt := 172) hx hb dX11_odds_107 (by decide) ?_
                refine lv_iinc (v := (x70_1 + (1 : Int32))) (lv' := [(8, .int (x70_1 + (1 : Int32))), (0, .ref q0), (1, .int p1), (2, .int p2), (3, .int y31), (4, .long x70_0), (6, .long y44_0)]) hx hb dX11_odds_172 hl (k := 6) rfl rfl (by decide) rfl (fun ls hl => ?_)
                refine lv_goto (tgt := 70) hx hb dX11_odds_175 (by decide) ?_
                exact ih70 x70_0 (x70_1 + (1 : Int32)) y101.2.1 y101.2.2.1 y101.2.2.2.1 y101.2.2.2.2.1 y101.2.2.2.2.2.1 y101.2.2.2.2.2.2 y92 y70 rc10 H locs ls (hz70a _ (Option.some.inj h).symm) hS (lv_sub hl [1, 2, 3, 4, 5, 6, 0] rfl) hk70_0
            · have h := it_neg c7 h
              refine lv_goto (tgt := 172) hx hb dX11_odds_85 (by decide) ?_
              refine lv_iinc (v := (x70_1 + (1 : Int32))) (lv' := [(8, .int (x70_1 + (1 : Int32))), (0, .ref q0), (1, .int p1), (2, .int p2), (3, .int y31), (4, .long x70_0), (6, .long y44_0)]) hx hb dX11_odds_172 hl (k := 6) rfl rfl (by decide) rfl (fun ls hl => ?_)
              refine lv_goto (tgt := 70) hx hb dX11_odds_175 (by decide) ?_
              exact ih70 x70_0 (x70_1 + (1 : Int32)) x70_2 x70_3 x70_4 x70_5 x70_6 x70_7 x70_8 y70 rv70_0 H locs ls (hz70a _ (Option.some.inj h).symm) hS (lv_sub hl [1, 2, 3, 4, 5, 6, 0] rfl) hk70_0
      obtain ⟨y70, e70, h⟩ := bd_some h
      refine hL70 1000 (0 : Int64) (0 : Int32) v_length v_top v_at v_wrong v_isAsked v_asked v_then y70 u0_7 H locs ls e70 hS (lv_sub hl [1, 2, 3, 4, 5, 6, 0] rfl) (fun y70_0 y70_1 y70_2 y70_3 y70_4 y70_5 y70_6 y70_7 ey70 rw70_0 H locs ls hS hl => ?_)
      subst ey70
      have h := un_r h
      have h := un_r h
      have h := un_r h
      have h := un_r h
      have h := un_r h
      have h := un_r h
      have h := un_r h
      refine lv_lload hx hb dX11_odds_178 (lv_at hl 1 rfl) ?_
      refine lv_lload hx hb dX11_odds_180 (lv_at hl 2 rfl) ?_
      obtain ⟨y182, e15, h⟩ := bd_some h
      refine ct_S (ws' := fun _ => [oX11 q0 (.ref q1) (.int v_people) u0_2 u0_3 (.ref q2) (.int v_rowMany) (.int (0 : Int32)) rw70_0 (.int y70_1) (.int y70_2) (.int y70_3) (.int y70_4) u0_12 (.ref q3) u0_14 (.int v_ruleSize) (.int y70_5) (.ref q4) u0_18 u0_19 u0_20 (.ref q5) u0_22 u0_23 u0_24 u0_25 u0_26 u0_27 u0_28 u0_29 u0_30 u0_31 u0_32 u0_33 u0_34 u0_35 u0_36 u0_37 u0_38 u0_39 u0_40, aI cy q1 37 v_now, aJ cy q2 16 v_row, aB cy q3 40 v_rule, aI cy q4 7 y70_6, aI cy q5 37 y70_7]) (st' := [.long y182]) (rest := []) E hS slX11_344 (c_X11_common (l := l) (D := D) (cy := cy) (p0 := y70_0) (p2 := y44_0) (r := y182) e15) [] rfl rfl (fun _ => rfl) (fun _ => rfl) rfl rfl (Nat.le_of_ble_eq_true rfl) hl.1 (by rw [hRf]; exact Nat.le_of_ble_eq_true rfl) (by rw [hRl]; exact Nat.le_of_ble_eq_true rfl) ⟨Nat.zero_le _, Nat.zero_le _⟩ dX11_odds_182 rfl (fun H locs _ hS => ?_)
      refine lv_lstore (lv' := [(8, .long y182), (0, .ref q0), (4, .long y70_0), (6, .long y44_0)]) hx hb dX11_odds_185 hl (by decide) rfl (fun ls hl => ?_)
      refine lv_aload_n hx hb dX11_odds_187 rfl (lv_at hl 1 rfl) ?_
      refine lv_iconst (v := 0) hx hb dX11_odds_188 (by decide) ?_
      refine r_put (ws' := [oX11 q0 (.ref q1) (.int v_people) u0_2 u0_3 (.ref q2) (.int (0 : Int32)) (.int (0 : Int32)) rw70_0 (.int y70_1) (.int y70_2) (.int y70_3) (.int y70_4) u0_12 (.ref q3) u0_14 (.int v_ruleSize) (.int y70_5) (.ref q4) u0_18 u0_19 u0_20 (.ref q5) u0_22 u0_23 u0_24 u0_25 u0_26 u0_27 u0_28 u0_29 u0_30 u0_31 u0_32 u0_33 u0_34 u0_35 u0_36 u0_37 u0_38 u0_39 u0_40, aI cy q1 37 v_now, aJ cy q2 16 v_row, aB cy q3 40 v_rule, aI cy q4 7 y70_6, aI cy q5 37 y70_7]) E frX11_89 hS 0 rfl (Nat.le_of_ble_eq_true rfl) rfl rfl rfl rfl dX11_odds_189 (fun H locs hS => ?_)
      refine lv_aload_n hx hb dX11_odds_192 rfl (lv_at hl 1 rfl) ?_
      refine lv_lload hx hb dX11_odds_193 (lv_at hl 2 rfl) ?_
      refine lv_lload hx hb dX11_odds_195 (lv_at hl 0 rfl) ?_
      obtain ⟨g16, h⟩ := gzl_some h
      refine lv_ldiv hx hb dX11_odds_197 g16 ?_
      obtain ⟨y198, e17, h⟩ := bd_some h
      refine ct_V (ws' := fun _ => [oX11 q0 (.ref q1) (.int v_people) u0_2 u0_3 (.ref q2) (.int y198.1) (.int (0 : Int32)) rw70_0 (.int y70_1) (.int y70_2) (.int y70_3) (.int y70_4) u0_12 (.ref q3) u0_14 (.int v_ruleSize) (.int y70_5) (.ref q4) u0_18 u0_19 u0_20 (.ref q5) u0_22 u0_23 u0_24 u0_25 u0_26 u0_27 u0_28 u0_29 u0_30 u0_31 u0_32 u0_33 u0_34 u0_35 u0_36 u0_37 u0_38 u0_39 u0_40, aI cy q1 37 v_now, aJ cy q2 16 y198.2, aB cy q3 40 v_rule, aI cy q4 7 y70_6, aI cy q5 37 y70_7]) (st' := []) (rest := []) E hS vlX11_256 (c_X11_tell (l := l) (D := D) (cy := cy) (q0 := q0) (q1 := q2) (u0_0 := .ref q1) (u0_1 := .int v_people) (u0_2 := u0_2) (u0_3 := u0_3) (u0_6 := .int (0 : Int32)) (u0_7 := rw70_0) (u0_8 := .int y70_1) (u0_9 := .int y70_2) (u0_10 := .int y70_3) (u0_11 := .int y70_4) (u0_12 := u0_12) (u0_13 := .ref q3) (u0_14 := u0_14) (u0_15 := .int v_ruleSize) (u0_16 := .int y70_5) (u0_17 := .ref q4) (u0_18 := u0_18) (u0_19 := u0_19) (u0_20 := u0_20) (u0_21 := .ref q5) (u0_22 := u0_22) (u0_23 := u0_23) (u0_24 := u0_24) (u0_25 := u0_25) (u0_26 := u0_26) (u0_27 := u0_27) (u0_28 := u0_28) (u0_29 := u0_29) (u0_30 := u0_30) (u0_31 := u0_31) (u0_32 := u0_32) (u0_33 := u0_33) (u0_34 := u0_34) (u0_35 := u0_35) (u0_36 := u0_36) (u0_37 := u0_37) (u0_38 := u0_38) (u0_39 := u0_39) (u0_40 := u0_40) (v_rowMany := (0 : Int32)) (v_row := v_row) (p1 := (y70_0 / y182)) (r := y198) e17) [0, 2] rfl rfl (fun _ => rfl) (fun _ => rfl) rfl rfl rfl rfl (Nat.le_of_ble_eq_true rfl) hl.1 (by rw [hRf]; exact Nat.le_of_ble_eq_true rfl) (by rw [hRl]; exact Nat.le_of_ble_eq_true rfl) ⟨Nat.zero_le _, Nat.zero_le _⟩ dX11_odds_198 rfl (fun H locs _ hS => ?_)
      refine lv_aload_n hx hb dX11_odds_201 rfl (lv_at hl 1 rfl) ?_
      refine lv_lload hx hb dX11_odds_202 (lv_at hl 3 rfl) ?_
      refine lv_lload hx hb dX11_odds_204 (lv_at hl 0 rfl) ?_
      obtain ⟨g18, h⟩ := gzl_some h
      refine lv_ldiv hx hb dX11_odds_206 g18 ?_
      obtain ⟨y207, e19, h⟩ := bd_some h
      refine ct_V (ws' := fun _ => [oX11 q0 (.ref q1) (.int v_people) u0_2 u0_3 (.ref q2) (.int y207.1) (.int (0 : Int32)) rw70_0 (.int y70_1) (.int y70_2) (.int y70_3) (.int y70_4) u0_12 (.ref q3) u0_14 (.int v_ruleSize) (.int y70_5) (.ref q4) u0_18 u0_19 u0_20 (.ref q5) u0_22 u0_23 u0_24 u0_25 u0_26 u0_27 u0_28 u0_29 u0_30 u0_31 u0_32 u0_33 u0_34 u0_35 u0_36 u0_37 u0_38 u0_39 u0_40, aI cy q1 37 v_now, aJ cy q2 16 y207.2, aB cy q3 40 v_rule, aI cy q4 7 y70_6, aI cy q5 37 y70_7]) (st' := []) (rest := []) E hS vlX11_256 (c_X11_tell (l := l) (D := D) (cy := cy) (q0 := q0) (q1 := q2) (u0_0 := .ref q1) (u0_1 := .int v_people) (u0_2 := u0_2) (u0_3 := u0_3) (u0_6 := .int (0 : Int32)) (u0_7 := rw70_0) (u0_8 := .int y70_1) (u0_9 := .int y70_2) (u0_10 := .int y70_3) (u0_11 := .int y70_4) (u0_12 := u0_12) (u0_13 := .ref q3) (u0_14 := u0_14) (u0_15 := .int v_ruleSize) (u0_16 := .int y70_5) (u0_17 := .ref q4) (u0_18 := u0_18) (u0_19 := u0_19) (u0_20 := u0_20) (u0_21 := .ref q5) (u0_22 := u0_22) (u0_23 := u0_23) (u0_24 := u0_24) (u0_25 := u0_25) (u0_26 := u0_26) (u0_27 := u0_27) (u0_28 := u0_28) (u0_29 := u0_29) (u0_30 := u0_30) (u0_31 := u0_31) (u0_32 := u0_32) (u0_33 := u0_33) (u0_34 := u0_34) (u0_35 := u0_35) (u0_36 := u0_36) (u0_37 := u0_37) (u0_38 := u0_38) (u0_39 := u0_39) (u0_40 := u0_40) (v_rowMany := y198.1) (v_row := y198.2) (p1 := (y44_0 / y182)) (r := y207) e19) [0, 2] rfl rfl (fun _ => rfl) (fun _ => rfl) rfl rfl rfl rfl (Nat.le_of_ble_eq_true rfl) hl.1 (by rw [hRf]; exact Nat.le_of_ble_eq_true rfl) (by rw [hRl]; exact Nat.le_of_ble_eq_true rfl) ⟨Nat.zero_le _, Nat.zero_le _⟩ dX11_odds_207 rfl (fun H locs _ hS => ?_)
      refine lv_iconst (v := 0) hx hb dX11_odds_210 (by decide) ?_
      obtain rfl := Option.some.inj h
      exact rt_i E hQ (rw70_0) hS dX11_odds_211
    · have h := it_pos c3 h
      refine lv_iconst (v := -1) hx hb dX11_odds_23 (by decide) ?_
      obtain rfl := Option.some.inj h
      exact rt_i E hQ (u0_7) hS dX11_odds_24
set_option maxHeartbeats 4000000 in
set_option maxRecDepth 100000 in
theorem c_X11_greatest {l : Launch} {D : va_G} {cy : Nat → ClassId} (p0 : Int32) (r : Int32) (h : X11_greatest p0 = some r) : Ct l yX11_greatest cX11_greatest 2 (some .int) 0 0 D cy [.int p0] [] (fun _ => []) (some (.int r)) := by
  refine Ct.mk kX11_greatest (by decide +kernel) (Nat.le_of_ble_eq_true rfl) ?_
  intro p e s m below meth c A ls args R Q hRf hRl hQ E H locs hS hl
  have hx := E.x
  have hb := E.b
  have hl : lv_has ls 2 [(0, .int p0)] := hl
  unfold X11_greatest at h
  refine lv_iconst (v := 1) hx hb dX11_greatest_0 (by decide) ?_
  refine lv_istore_n (lv' := [(1, .int (1 : Int32)), (0, .int p0)]) hx hb dX11_greatest_1 rfl hl (by decide) rfl (fun ls hl => ?_)
  have hL2 : ∀ (n : Nat) (x2_0 : Int32) (y2 : Int32) (H : Heap) (locs : List Loc) (ls : Array Slot), lp (fun x2 => X11_greatest_s2 p0 x2) n x2_0 = some y2 → Sv D A s.heap [] H locs → lv_has ls 2 [(0, .int p0), (1, .int x2_0)] → ( ∀ (y2_0 : Int32), y2_0 = y2 → ∀ (H : Heap) (locs : List Loc) (ls : Array Slot), Sv D A s.heap [] H locs → lv_has ls 2 [(1, .int y2_0)] → W p l e R s m args below meth c H locs 0 0 Q (F0 m 22 ls [])) → W p l e R s m args below meth c H locs 0 0 Q (F0 m 2 ls []) := by
    intro n
    induction n with
    | zero =>
      intro x2_0 y2 H locs ls h
      exact lp_zero h
    | succ n ih2 =>
      intro x2_0 y2 H locs ls h hS hl hk2_0
      obtain ⟨z2, h, hz2a, hz2b⟩ := lp_succ h
      have h : X11_greatest_s2 p0 x2_0 = some z2 := h
      unfold X11_greatest_s2 at h
      refine lv_iconst (v := 2) hx hb dX11_greatest_2 (by decide) ?_
      refine lv_iload_n hx hb dX11_greatest_3 rfl (lv_at hl 1 rfl) ?_
      refine lv_imul hx hb dX11_greatest_4 ?_
      refine lv_iload_n hx hb dX11_greatest_5 rfl (lv_at hl 0 rfl) ?_
      refine lv_icmp_gt (tgt := 22) hx hb dX11_greatest_6 (by decide) (fun c1 => ?_) (fun c1 => ?_)
      · have h := it_pos c1 h
        exact hk2_0 x2_0 (hz2b _ (Option.some.inj h).symm)  H locs ls hS (lv_sub hl [1] rfl)
      · have h := it_neg c1 h
        refine lv_iload_n hx hb dX11_greatest_9 rfl (lv_at hl 1 rfl) ?_
        refine lv_bipush (v := 32) hx hb dX11_greatest_10 (by decide) ?_
        refine lv_icmp_ge (tgt := 22) hx hb dX11_greatest_12 (by decide) (fun c2 => ?_) (fun c2 => ?_)
        · have h := it_pos c2 h
          exact hk2_0 x2_0 (hz2b _ (Option.some.inj h).symm)  H locs ls hS (lv_sub hl [1] rfl)
        · have h := it_neg c2 h
          refine lv_iload_n hx hb dX11_greatest_15 rfl (lv_at hl 1 rfl) ?_
          refine lv_iconst (v := 2) hx hb dX11_greatest_16 (by decide) ?_
          refine lv_imul hx hb dX11_greatest_17 ?_
          refine lv_istore_n (lv' := [(1, .int (x2_0 * (2 : Int32))), (0, .int p0)]) hx hb dX11_greatest_18 rfl hl (by decide) rfl (fun ls hl => ?_)
          refine lv_goto (tgt := 2) hx hb dX11_greatest_19 (by decide) ?_
          exact ih2 (x2_0 * (2 : Int32)) y2  H locs ls (hz2a _ (Option.some.inj h).symm) hS (lv_sub hl [1, 0] rfl) hk2_0
  obtain ⟨y2, e2, h⟩ := bd_some h
  refine hL2 1000 (1 : Int32) y2  H locs ls e2 hS (lv_sub hl [1, 0] rfl) (fun y2_0 ey2 H locs ls hS hl => ?_)
  subst ey2
  refine lv_iload_n hx hb dX11_greatest_22 rfl (lv_at hl 0 rfl) ?_
  obtain rfl := Option.some.inj h
  exact rt_i E hQ (.null) hS dX11_greatest_23
set_option maxHeartbeats 4000000 in
set_option maxRecDepth 100000 in
theorem c_X11_sitsBy {l : Launch} {D : va_G} {cy : Nat → ClassId} (q0 : Nat) (q1 : Nat) (u0_0 : Value) (u0_1 : Value) (u0_2 : Value) (u0_3 : Value) (u0_4 : Value) (u0_5 : Value) (u0_6 : Value) (u0_7 : Value) (u0_8 : Value) (u0_9 : Value) (u0_10 : Value) (u0_11 : Value) (u0_12 : Value) (u0_13 : Value) (u0_14 : Value) (u0_15 : Value) (u0_16 : Value) (u0_17 : Value) (u0_18 : Value) (u0_19 : Value) (u0_20 : Value) (u0_21 : Value) (u0_22 : Value) (u0_23 : Value) (u0_24 : Value) (u0_25 : Value) (u0_26 : Value) (u0_27 : Value) (u0_28 : Value) (u0_29 : Value) (u0_30 : Value) (u0_31 : Value) (u0_32 : Value) (u0_33 : Value) (u0_34 : Value) (u0_36 : Value) (u0_37 : Value) (u0_38 : Value) (u0_39 : Value) (u0_40 : Value) (v_wins : Nat → Int32) (p1 : Int32) (r : Int32) (h : X11_sitsBy v_wins p1 = some r) : Ct l yX11_sitsBy cX11_sitsBy 2 (some .int) 1 21 D cy [.ref q0, .int p1] [oX11 q0 u0_0 u0_1 u0_2 u0_3 u0_4 u0_5 u0_6 u0_7 u0_8 u0_9 u0_10 u0_11 u0_12 u0_13 u0_14 u0_15 u0_16 u0_17 u0_18 u0_19 u0_20 u0_21 u0_22 u0_23 u0_24 u0_25 u0_26 u0_27 u0_28 u0_29 u0_30 u0_31 u0_32 u0_33 u0_34 (.ref q1) u0_36 u0_37 u0_38 u0_39 u0_40, aZ cy q1 61 v_wins] (fun _ => [oX11 q0 u0_0 u0_1 u0_2 u0_3 u0_4 u0_5 u0_6 u0_7 u0_8 u0_9 u0_10 u0_11 u0_12 u0_13 u0_14 u0_15 u0_16 u0_17 u0_18 u0_19 u0_20 u0_21 u0_22 u0_23 u0_24 u0_25 u0_26 u0_27 u0_28 u0_29 u0_30 u0_31 u0_32 u0_33 u0_34 (.ref q1) u0_36 u0_37 u0_38 u0_39 u0_40, aZ cy q1 61 v_wins]) (some (.int r)) := by
  refine Ct.mk kX11_sitsBy (by decide +kernel) (Nat.le_of_ble_eq_true rfl) ?_
  intro p e s m below meth c A ls args R Q hRf hRl hQ E H locs hS hl
  have hx := E.x
  have hb := E.b
  have hl : lv_has ls 2 [(0, .ref q0), (1, .int p1)] := hl
  unfold X11_sitsBy at h
  refine lv_iload_n hx hb dX11_sitsBy_0 rfl (lv_at hl 1 rfl) ?_
  refine lv_if_ne (tgt := 6) hx hb dX11_sitsBy_1 (by decide) (fun c1 => ?_) (fun c1 => ?_)
  · have h := it_neg c1 h
    refine lv_aload_n hx hb dX11_sitsBy_6 rfl (lv_at hl 0 rfl) ?_
    refine r_get E frX11_72 hS 0 rfl rfl dX11_sitsBy_7 ?_
    refine lv_iload_n hx hb dX11_sitsBy_10 rfl (lv_at hl 1 rfl) ?_
    refine lv_iconst (v := 1) hx hb dX11_sitsBy_11 (by decide) ?_
    refine lv_isub hx hb dX11_sitsBy_12 ?_
    obtain ⟨g2, h⟩ := gi_some h
    refine r_zald E hS 1 rfl g2 dX11_sitsBy_13 ?_
    refine lv_if_ne (tgt := 19) hx hb dX11_sitsBy_14 (by decide) (fun c3 => ?_) (fun c3 => ?_)
    · have h := it_neg c3 h
      refine lv_aload_n hx hb dX11_sitsBy_19 rfl (lv_at hl 0 rfl) ?_
      refine r_get E frX11_72 hS 0 rfl rfl dX11_sitsBy_20 ?_
      refine lv_iload_n hx hb dX11_sitsBy_23 rfl (lv_at hl 1 rfl) ?_
      refine lv_iload_n hx hb dX11_sitsBy_24 rfl (lv_at hl 1 rfl) ?_
      obtain ⟨y25, e4, h⟩ := bd_some h
      refine ct_S (ws' := fun _ => [oX11 q0 u0_0 u0_1 u0_2 u0_3 u0_4 u0_5 u0_6 u0_7 u0_8 u0_9 u0_10 u0_11 u0_12 u0_13 u0_14 u0_15 u0_16 u0_17 u0_18 u0_19 u0_20 u0_21 u0_22 u0_23 u0_24 u0_25 u0_26 u0_27 u0_28 u0_29 u0_30 u0_31 u0_32 u0_33 u0_34 (.ref q1) u0_36 u0_37 u0_38 u0_39 u0_40, aZ cy q1 61 v_wins]) (st' := [.int y25, .int p1, .ref q1]) (rest := [.int p1, .ref q1]) E hS slX11_350 (c_X11_greatest (l := l) (D := D) (cy := cy) (p0 := p1) (r := y25) e4) [] rfl rfl (fun _ => rfl) (fun _ => rfl) rfl rfl (Nat.le_of_ble_eq_true rfl) hl.1 (by rw [hRf]; exact Nat.le_of_ble_eq_true rfl) (by rw [hRl]; exact Nat.le_of_ble_eq_true rfl) ⟨Nat.zero_le _, Nat.zero_le _⟩ dX11_sitsBy_25 rfl (fun H locs _ hS => ?_)
      refine lv_isub hx hb dX11_sitsBy_28 ?_
      obtain ⟨g5, h⟩ := gi_some h
      refine r_zald E hS 1 rfl g5 dX11_sitsBy_29 ?_
      refine lv_if_eq (tgt := 37) hx hb dX11_sitsBy_30 (by decide) (fun c6 => ?_) (fun c6 => ?_)
      · have h := it_pos c6 h
        refine lv_iload_n hx hb dX11_sitsBy_37 rfl (lv_at hl 1 rfl) ?_
        obtain ⟨y38, e7, h⟩ := bd_some h
        refine ct_S (ws' := fun _ => [oX11 q0 u0_0 u0_1 u0_2 u0_3 u0_4 u0_5 u0_6 u0_7 u0_8 u0_9 u0_10 u0_11 u0_12 u0_13 u0_14 u0_15 u0_16 u0_17 u0_18 u0_19 u0_20 u0_21 u0_22 u0_23 u0_24 u0_25 u0_26 u0_27 u0_28 u0_29 u0_30 u0_31 u0_32 u0_33 u0_34 (.ref q1) u0_36 u0_37 u0_38 u0_39 u0_40, aZ cy q1 61 v_wins]) (st' := [.int y38]) (rest := []) E hS slX11_350 (c_X11_greatest (l := l) (D := D) (cy := cy) (p0 := p1) (r := y38) e7) [] rfl rfl (fun _ => rfl) (fun _ => rfl) rfl rfl (Nat.le_of_ble_eq_true rfl) hl.1 (by rw [hRf]; exact Nat.le_of_ble_eq_true rfl) (by rw [hRl]; exact Nat.le_of_ble_eq_true rfl) ⟨Nat.zero_le _, Nat.zero_le _⟩ dX11_sitsBy_38 rfl (fun H locs _ hS => ?_)
        obtain rfl := Option.some.inj h
        exact rt_i E hQ (.null) hS dX11_sitsBy_41
      · have h := it_neg c6 h
        refine lv_iconst (v := 0) hx hb dX11_sitsBy_33 (by decide) ?_
        refine lv_goto (tgt := 41) hx hb dX11_sitsBy_34 (by decide) ?_
        obtain rfl := Option.some.inj h
        exact rt_i E hQ (.null) hS dX11_sitsBy_41
    · have h := it_pos c3 h
      refine lv_iconst (v := 1) hx hb dX11_sitsBy_17 (by decide) ?_
      obtain rfl := Option.some.inj h
      exact rt_i E hQ (.null) hS dX11_sitsBy_18
  · have h := it_pos c1 h
    refine lv_iconst (v := 0) hx hb dX11_sitsBy_4 (by decide) ?_
    obtain rfl := Option.some.inj h
    exact rt_i E hQ (.null) hS dX11_sitsBy_5
set_option maxHeartbeats 4000000 in
set_option maxRecDepth 100000 in
theorem c_X11_vigil {l : Launch} {D : va_G} {cy : Nat → ClassId} (q0 : Nat) (q1 : Nat) (q2 : Nat) (u0_0 : Value) (u0_1 : Value) (u0_2 : Value) (u0_3 : Value) (u0_7 : Value) (u0_8 : Value) (u0_9 : Value) (u0_10 : Value) (u0_11 : Value) (u0_12 : Value) (u0_13 : Value) (u0_14 : Value) (u0_15 : Value) (u0_16 : Value) (u0_17 : Value) (u0_18 : Value) (u0_19 : Value) (u0_20 : Value) (u0_21 : Value) (u0_22 : Value) (u0_23 : Value) (u0_24 : Value) (u0_25 : Value) (u0_26 : Value) (u0_27 : Value) (u0_28 : Value) (u0_29 : Value) (u0_30 : Value) (u0_31 : Value) (u0_32 : Value) (u0_33 : Value) (u0_34 : Value) (u0_36 : Value) (u0_37 : Value) (u0_38 : Value) (u0_39 : Value) (u0_40 : Value) (v_rowMany : Int32) (v_thrown : Int32) (v_row : Nat → Int64) (v_wins : Nat → Int32) (p1 : Int32) (r : Int32 × Int32 × Int32 × (Nat → Int64) × (Nat → Int32)) (h : X11_vigil v_rowMany v_row v_wins p1 = some r) : Ct l yX11_vigil cX11_vigil 3 (some .int) 2 42 D cy [.ref q0, .int p1] [oX11 q0 u0_0 u0_1 u0_2 u0_3 (.ref q1) (.int v_rowMany) (.int v_thrown) u0_7 u0_8 u0_9 u0_10 u0_11 u0_12 u0_13 u0_14 u0_15 u0_16 u0_17 u0_18 u0_19 u0_20 u0_21 u0_22 u0_23 u0_24 u0_25 u0_26 u0_27 u0_28 u0_29 u0_30 u0_31 u0_32 u0_33 u0_34 (.ref q2) u0_36 u0_37 u0_38 u0_39 u0_40, aJ cy q1 16 v_row, aZ cy q2 61 v_wins] (fun _ => [oX11 q0 u0_0 u0_1 u0_2 u0_3 (.ref q1) (.int r.2.1) (.int r.2.2.1) u0_7 u0_8 u0_9 u0_10 u0_11 u0_12 u0_13 u0_14 u0_15 u0_16 u0_17 u0_18 u0_19 u0_20 u0_21 u0_22 u0_23 u0_24 u0_25 u0_26 u0_27 u0_28 u0_29 u0_30 u0_31 u0_32 u0_33 u0_34 (.ref q2) u0_36 u0_37 u0_38 u0_39 u0_40, aJ cy q1 16 r.2.2.2.1, aZ cy q2 61 r.2.2.2.2]) (some (.int r.1)) := by
  refine Ct.mk kX11_vigil (by decide +kernel) (Nat.le_of_ble_eq_true rfl) ?_
  intro p e s m below meth c A ls args R Q hRf hRl hQ E H locs hS hl
  have hx := E.x
  have hb := E.b
  have hl : lv_has ls 3 [(0, .ref q0), (1, .int p1)] := hl
  unfold X11_vigil at h
  refine lv_aload_n hx hb dX11_vigil_0 rfl (lv_at hl 0 rfl) ?_
  refine lv_iconst (v := 0) hx hb dX11_vigil_1 (by decide) ?_
  refine r_put (ws' := [oX11 q0 u0_0 u0_1 u0_2 u0_3 (.ref q1) (.int v_rowMany) (.int (0 : Int32)) u0_7 u0_8 u0_9 u0_10 u0_11 u0_12 u0_13 u0_14 u0_15 u0_16 u0_17 u0_18 u0_19 u0_20 u0_21 u0_22 u0_23 u0_24 u0_25 u0_26 u0_27 u0_28 u0_29 u0_30 u0_31 u0_32 u0_33 u0_34 (.ref q2) u0_36 u0_37 u0_38 u0_39 u0_40, aJ cy q1 16 v_row, aZ cy q2 61 v_wins]) E frX11_85 hS 0 rfl (Nat.le_of_ble_eq_true rfl) rfl rfl rfl rfl dX11_vigil_2 (fun H locs hS => ?_)
  refine lv_iload_n hx hb dX11_vigil_5 rfl (lv_at hl 1 rfl) ?_
  refine lv_iconst (v := 0) hx hb dX11_vigil_6 (by decide) ?_
  refine lv_bipush (v := 60) hx hb dX11_vigil_7 (by decide) ?_
  refine ct_S (ws' := fun _ => [oX11 q0 u0_0 u0_1 u0_2 u0_3 (.ref q1) (.int v_rowMany) (.int (0 : Int32)) u0_7 u0_8 u0_9 u0_10 u0_11 u0_12 u0_13 u0_14 u0_15 u0_16 u0_17 u0_18 u0_19 u0_20 u0_21 u0_22 u0_23 u0_24 u0_25 u0_26 u0_27 u0_28 u0_29 u0_30 u0_31 u0_32 u0_33 u0_34 (.ref q2) u0_36 u0_37 u0_38 u0_39 u0_40, aJ cy q1 16 v_row, aZ cy q2 61 v_wins]) (st' := [.int (X11_in p1 (0 : Int32) (60 : Int32))]) (rest := []) E hS slX11_95 (c_X11_in (l := l) (D := D) (cy := cy) (p0 := p1) (p1 := (0 : Int32)) (p2 := (60 : Int32)) (r := (X11_in p1 (0 : Int32) (60 : Int32))) rfl) [] rfl rfl (fun _ => rfl) (fun _ => rfl) rfl rfl (Nat.le_of_ble_eq_true rfl) hl.1 (by rw [hRf]; exact Nat.le_of_ble_eq_true rfl) (by rw [hRl]; exact Nat.le_of_ble_eq_true rfl) ⟨Nat.zero_le _, Nat.zero_le _⟩ dX11_vigil_9 rfl (fun H locs _ hS => ?_)
  refine lv_if_ne (tgt := 17) hx hb dX11_vigil_12 (by decide) (fun c1 => ?_) (fun c1 => ?_)
  · have h := it_neg c1 h
    refine lv_iconst (v := 0) hx hb dX11_vigil_17 (by decide) ?_
    refine lv_istore_n (lv' := [(2, .int (0 : Int32)), (0, .ref q0), (1, .int p1)]) hx hb dX11_vigil_18 rfl hl (by decide) rfl (fun ls hl => ?_)
    have hL19 : ∀ (n : Nat) (x19_0 : Int32) (x19_1 : Nat → Int32) (y19 : (Nat → Int32)) (H : Heap) (locs : List Loc) (ls : Array Slot), lp (fun x19 => X11_vigil_s19 p1 x19.1 x19.2) n (x19_0, x19_1) = some y19 → Sv D A s.heap [oX11 q0 u0_0 u0_1 u0_2 u0_3 (.ref q1) (.int v_rowMany) (.int (0 : Int32)) u0_7 u0_8 u0_9 u0_10 u0_11 u0_12 u0_13 u0_14 u0_15 u0_16 u0_17 u0_18 u0_19 u0_20 u0_21 u0_22 u0_23 u0_24 u0_25 u0_26 u0_27 u0_28 u0_29 u0_30 u0_31 u0_32 u0_33 u0_34 (.ref q2) u0_36 u0_37 u0_38 u0_39 u0_40, aJ cy q1 16 v_row, aZ cy q2 61 x19_1] H locs → lv_has ls 3 [(0, .ref q0), (1, .int p1), (2, .int x19_0)] → ( ∀ (y19_0 : Nat → Int32), y19_0 = y19 → ∀ (H : Heap) (locs : List Loc) (ls : Array Slot), Sv D A s.heap [oX11 q0 u0_0 u0_1 u0_2 u0_3 (.ref q1) (.int v_rowMany) (.int (0 : Int32)) u0_7 u0_8 u0_9 u0_10 u0_11 u0_12 u0_13 u0_14 u0_15 u0_16 u0_17 u0_18 u0_19 u0_20 u0_21 u0_22 u0_23 u0_24 u0_25 u0_26 u0_27 u0_28 u0_29 u0_30 u0_31 u0_32 u0_33 u0_34 (.ref q2) u0_36 u0_37 u0_38 u0_39 u0_40, aJ cy q1 16 v_row, aZ cy q2 61 y19_0] H locs → lv_has ls 3 [(0, .ref q0), (1, .int p1)] → W p l e R s m args below meth c H locs 0 0 Q (F0 m 49 ls [])) → W p l e R s m args below meth c H locs 0 0 Q (F0 m 19 ls []) := by
      intro n
      induction n with
      | zero =>
        intro x19_0 x19_1 y19 H locs ls h
        exact lp_zero h
      | succ n ih19 =>
        intro x19_0 x19_1 y19 H locs ls h hS hl hk19_0
        obtain ⟨z19, h, hz19a, hz19b⟩ := lp_succ h
        have h : X11_vigil_s19 p1 x19_0 x19_1 = some z19 := h
        unfold X11_vigil_s19 at h
        refine lv_iload_n hx hb dX11_vigil_19 rfl (lv_at hl 2 rfl) ?_
        refine lv_iload_n hx hb dX11_vigil_20 rfl (lv_at hl 1 rfl) ?_
        refine lv_icmp_gt (tgt := 49) hx hb dX11_vigil_21 (by decide) (fun c2 => ?_) (fun c2 => ?_)
        · have h := it_pos c2 h
          exact hk19_0 x19_1 (hz19b _ (Option.some.inj h).symm)  H locs ls hS (lv_sub hl [0, 1] rfl)
        · have h := it_neg c2 h
          refine lv_aload_n hx hb dX11_vigil_24 rfl (lv_at hl 0 rfl) ?_
          refine r_get E frX11_72 hS 0 rfl rfl dX11_vigil_25 ?_
          refine lv_iload_n hx hb dX11_vigil_28 rfl (lv_at hl 2 rfl) ?_
          refine lv_aload_n hx hb dX11_vigil_29 rfl (lv_at hl 0 rfl) ?_
          refine lv_iload_n hx hb dX11_vigil_30 rfl (lv_at hl 2 rfl) ?_
          obtain ⟨y31, e3, h⟩ := bd_some h
          refine ct_V (ws' := fun _ => [oX11 q0 u0_0 u0_1 u0_2 u0_3 (.ref q1) (.int v_rowMany) (.int (0 : Int32)) u0_7 u0_8 u0_9 u0_10 u0_11 u0_12 u0_13 u0_14 u0_15 u0_16 u0_17 u0_18 u0_19 u0_20 u0_21 u0_22 u0_23 u0_24 u0_25 u0_26 u0_27 u0_28 u0_29 u0_30 u0_31 u0_32 u0_33 u0_34 (.ref q2) u0_36 u0_37 u0_38 u0_39 u0_40, aJ cy q1 16 v_row, aZ cy q2 61 x19_1]) (st' := [.int y31, .int x19_0, .ref q2]) (rest := [.int x19_0, .ref q2]) E hS vlX11_353 (c_X11_sitsBy (l := l) (D := D) (cy := cy) (q0 := q0) (q1 := q2) (u0_0 := u0_0) (u0_1 := u0_1) (u0_2 := u0_2) (u0_3 := u0_3) (u0_4 := .ref q1) (u0_5 := .int v_rowMany) (u0_6 := .int (0 : Int32)) (u0_7 := u0_7) (u0_8 := u0_8) (u0_9 := u0_9) (u0_10 := u0_10) (u0_11 := u0_11) (u0_12 := u0_12) (u0_13 := u0_13) (u0_14 := u0_14) (u0_15 := u0_15) (u0_16 := u0_16) (u0_17 := u0_17) (u0_18 := u0_18) (u0_19 := u0_19) (u0_20 := u0_20) (u0_21 := u0_21) (u0_22 := u0_22) (u0_23 := u0_23) (u0_24 := u0_24) (u0_25 := u0_25) (u0_26 := u0_26) (u0_27 := u0_27) (u0_28 := u0_28) (u0_29 := u0_29) (u0_30 := u0_30) (u0_31 := u0_31) (u0_32 := u0_32) (u0_33 := u0_33) (u0_34 := u0_34) (u0_36 := u0_36) (u0_37 := u0_37) (u0_38 := u0_38) (u0_39 := u0_39) (u0_40 := u0_40) (v_wins := x19_1) (p1 := x19_0) (r := y31) e3) [0, 2] rfl rfl (fun _ => rfl) (fun _ => rfl) rfl rfl rfl rfl (Nat.le_of_ble_eq_true rfl) hl.1 (by rw [hRf]; exact Nat.le_of_ble_eq_true rfl) (by rw [hRl]; exact Nat.le_of_ble_eq_true rfl) ⟨Nat.zero_le _, Nat.zero_le _⟩ dX11_vigil_31 rfl (fun H locs _ hS => ?_)
          have hJ42 : ∀ (s42_2 : Int32) (ls : Array Slot), s42_2 = (if y31 ≤ 0 then (0 : Int32) else (1 : Int32)) → lv_has ls 3 [(0, .ref q0), (1, .int p1), (2, .int x19_0)] → W p l e R s m args below meth c H locs 0 0 Q (F0 m 42 ls [.int s42_2, .int x19_0, .ref q2]) := by
            intro s42_2 ls es42_2 hl
            subst es42_2
            obtain ⟨g4, h⟩ := gi_some h
            refine r_zast (ws' := [oX11 q0 u0_0 u0_1 u0_2 u0_3 (.ref q1) (.int v_rowMany) (.int (0 : Int32)) u0_7 u0_8 u0_9 u0_10 u0_11 u0_12 u0_13 u0_14 u0_15 u0_16 u0_17 u0_18 u0_19 u0_20 u0_21 u0_22 u0_23 u0_24 u0_25 u0_26 u0_27 u0_28 u0_29 u0_30 u0_31 u0_32 u0_33 u0_34 (.ref q2) u0_36 u0_37 u0_38 u0_39 u0_40, aJ cy q1 16 v_row, aZ cy q2 61 (upd x19_1 x19_0.toNatClampNeg (vp_nar .boolean (if y31 ≤ 0 then (0 : Int32) else (1 : Int32))))]) E hS 2 rfl g4 rfl dX11_vigil_42 (fun H locs hS => ?_)
            refine lv_iinc (v := (x19_0 + (1 : Int32))) (lv' := [(2, .int (x19_0 + (1 : Int32))), (0, .ref q0), (1, .int p1)]) hx hb dX11_vigil_43 hl (k := 2) rfl rfl (by decide) rfl (fun ls hl => ?_)
            refine lv_goto (tgt := 19) hx hb dX11_vigil_46 (by decide) ?_
            exact ih19 (x19_0 + (1 : Int32)) (upd x19_1 x19_0.toNatClampNeg (vp_nar .boolean (if y31 ≤ 0 then (0 : Int32) else (1 : Int32)))) y19  H locs ls (hz19a _ (Option.some.inj h).symm) hS (lv_sub hl [1, 2, 0] rfl) hk19_0
          refine lv_if_le (tgt := 41) hx hb dX11_vigil_34 (by decide) (fun c5 => ?_) (fun c5 => ?_)
          · refine lv_iconst (v := 0) hx hb dX11_vigil_41 (by decide) ?_
            exact hJ42 _ ls ((if_pos c5)).symm (lv_sub hl [0, 1, 2] rfl)
          · refine lv_iconst (v := 1) hx hb dX11_vigil_37 (by decide) ?_
            refine lv_goto (tgt := 42) hx hb dX11_vigil_38 (by decide) ?_
            exact hJ42 _ ls ((if_neg c5)).symm (lv_sub hl [0, 1, 2] rfl)
    obtain ⟨y19, e19, h⟩ := bd_some h
    refine hL19 1000 (0 : Int32) v_wins y19  H locs ls e19 hS (lv_sub hl [1, 2, 0] rfl) (fun y19_0 ey19 H locs ls hS hl => ?_)
    subst ey19
    refine lv_aload_n hx hb dX11_vigil_49 rfl (lv_at hl 0 rfl) ?_
    refine lv_iconst (v := 0) hx hb dX11_vigil_50 (by decide) ?_
    refine r_put (ws' := [oX11 q0 u0_0 u0_1 u0_2 u0_3 (.ref q1) (.int (0 : Int32)) (.int (0 : Int32)) u0_7 u0_8 u0_9 u0_10 u0_11 u0_12 u0_13 u0_14 u0_15 u0_16 u0_17 u0_18 u0_19 u0_20 u0_21 u0_22 u0_23 u0_24 u0_25 u0_26 u0_27 u0_28 u0_29 u0_30 u0_31 u0_32 u0_33 u0_34 (.ref q2) u0_36 u0_37 u0_38 u0_39 u0_40, aJ cy q1 16 v_row, aZ cy q2 61 y19_0]) E frX11_89 hS 0 rfl (Nat.le_of_ble_eq_true rfl) rfl rfl rfl rfl dX11_vigil_51 (fun H locs hS => ?_)
    refine lv_aload_n hx hb dX11_vigil_54 rfl (lv_at hl 0 rfl) ?_
    refine r_get E frX11_72 hS 0 rfl rfl dX11_vigil_55 ?_
    refine lv_iload_n hx hb dX11_vigil_58 rfl (lv_at hl 1 rfl) ?_
    obtain ⟨g6, h⟩ := gi_some h
    refine r_zald E hS 2 rfl g6 dX11_vigil_59 ?_
    refine lv_if_ne (tgt := 65) hx hb dX11_vigil_60 (by decide) (fun c7 => ?_) (fun c7 => ?_)
    · have h := it_neg c7 h
      refine lv_aload_n hx hb dX11_vigil_65 rfl (lv_at hl 0 rfl) ?_
      refine lv_aload_n hx hb dX11_vigil_66 rfl (lv_at hl 0 rfl) ?_
      refine lv_iload_n hx hb dX11_vigil_67 rfl (lv_at hl 1 rfl) ?_
      obtain ⟨y68, e8, h⟩ := bd_some h
      refine ct_V (ws' := fun _ => [oX11 q0 u0_0 u0_1 u0_2 u0_3 (.ref q1) (.int (0 : Int32)) (.int (0 : Int32)) u0_7 u0_8 u0_9 u0_10 u0_11 u0_12 u0_13 u0_14 u0_15 u0_16 u0_17 u0_18 u0_19 u0_20 u0_21 u0_22 u0_23 u0_24 u0_25 u0_26 u0_27 u0_28 u0_29 u0_30 u0_31 u0_32 u0_33 u0_34 (.ref q2) u0_36 u0_37 u0_38 u0_39 u0_40, aJ cy q1 16 v_row, aZ cy q2 61 y19_0]) (st' := [.int y68, .ref q0]) (rest := [.ref q0]) E hS vlX11_353 (c_X11_sitsBy (l := l) (D := D) (cy := cy) (q0 := q0) (q1 := q2) (u0_0 := u0_0) (u0_1 := u0_1) (u0_2 := u0_2) (u0_3 := u0_3) (u0_4 := .ref q1) (u0_5 := .int (0 : Int32)) (u0_6 := .int (0 : Int32)) (u0_7 := u0_7) (u0_8 := u0_8) (u0_9 := u0_9) (u0_10 := u0_10) (u0_11 := u0_11) (u0_12 := u0_12) (u0_13 := u0_13) (u0_14 := u0_14) (u0_15 := u0_15) (u0_16 := u0_16) (u0_17 := u0_17) (u0_18 := u0_18) (u0_19 := u0_19) (u0_20 := u0_20) (u0_21 := u0_21) (u0_22 := u0_22) (u0_23 := u0_23) (u0_24 := u0_24) (u0_25 := u0_25) (u0_26 := u0_26) (u0_27 := u0_27) (u0_28 := u0_28) (u0_29 := u0_29) (u0_30 := u0_30) (u0_31 := u0_31) (u0_32 := u0_32) (u0_33 := u0_33) (u0_34 := u0_34) (u0_36 := u0_36) (u0_37 := u0_37) (u0_38 := u0_38) (u0_39 := u0_39) (u0_40 := u0_40) (v_wins := y19_0) (p1 := p1) (r := y68) e8) [0, 2] rfl rfl (fun _ => rfl) (fun _ => rfl) rfl rfl rfl rfl (Nat.le_of_ble_eq_true rfl) hl.1 (by rw [hRf]; exact Nat.le_of_ble_eq_true rfl) (by rw [hRl]; exact Nat.le_of_ble_eq_true rfl) ⟨Nat.zero_le _, Nat.zero_le _⟩ dX11_vigil_68 rfl (fun H locs _ hS => ?_)
      refine lv_i2l (v := (y68.toInt64)) hx hb dX11_vigil_71 rfl ?_
      obtain ⟨y72, e9, h⟩ := bd_some h
      refine ct_V (ws' := fun _ => [oX11 q0 u0_0 u0_1 u0_2 u0_3 (.ref q1) (.int y72.1) (.int (0 : Int32)) u0_7 u0_8 u0_9 u0_10 u0_11 u0_12 u0_13 u0_14 u0_15 u0_16 u0_17 u0_18 u0_19 u0_20 u0_21 u0_22 u0_23 u0_24 u0_25 u0_26 u0_27 u0_28 u0_29 u0_30 u0_31 u0_32 u0_33 u0_34 (.ref q2) u0_36 u0_37 u0_38 u0_39 u0_40, aJ cy q1 16 y72.2, aZ cy q2 61 y19_0]) (st' := []) (rest := []) E hS vlX11_256 (c_X11_tell (l := l) (D := D) (cy := cy) (q0 := q0) (q1 := q1) (u0_0 := u0_0) (u0_1 := u0_1) (u0_2 := u0_2) (u0_3 := u0_3) (u0_6 := .int (0 : Int32)) (u0_7 := u0_7) (u0_8 := u0_8) (u0_9 := u0_9) (u0_10 := u0_10) (u0_11 := u0_11) (u0_12 := u0_12) (u0_13 := u0_13) (u0_14 := u0_14) (u0_15 := u0_15) (u0_16 := u0_16) (u0_17 := u0_17) (u0_18 := u0_18) (u0_19 := u0_19) (u0_20 := u0_20) (u0_21 := u0_21) (u0_22 := u0_22) (u0_23 := u0_23) (u0_24 := u0_24) (u0_25 := u0_25) (u0_26 := u0_26) (u0_27 := u0_27) (u0_28 := u0_28) (u0_29 := u0_29) (u0_30 := u0_30) (u0_31 := u0_31) (u0_32 := u0_32) (u0_33 := u0_33) (u0_34 := u0_34) (u0_35 := .ref q2) (u0_36 := u0_36) (u0_37 := u0_37) (u0_38 := u0_38) (u0_39 := u0_39) (u0_40 := u0_40) (v_rowMany := (0 : Int32)) (v_row := v_row) (p1 := (y68.toInt64)) (r := y72) e9) [0, 1] rfl rfl (fun _ => rfl) (fun _ => rfl) rfl rfl rfl rfl (Nat.le_of_ble_eq_true rfl) hl.1 (by rw [hRf]; exact Nat.le_of_ble_eq_true rfl) (by rw [hRl]; exact Nat.le_of_ble_eq_true rfl) ⟨Nat.zero_le _, Nat.zero_le _⟩ dX11_vigil_72 rfl (fun H locs _ hS => ?_)
      refine lv_iconst (v := 1) hx hb dX11_vigil_75 (by decide) ?_
      obtain rfl := Option.some.inj h
      exact rt_i E hQ (.null) hS dX11_vigil_76
    · have h := it_pos c7 h
      refine lv_iconst (v := 0) hx hb dX11_vigil_63 (by decide) ?_
      obtain rfl := Option.some.inj h
      exact rt_i E hQ (.null) hS dX11_vigil_64
  · have h := it_pos c1 h
    refine lv_iconst (v := -1) hx hb dX11_vigil_15 (by decide) ?_
    obtain rfl := Option.some.inj h
    exact rt_i E hQ (.null) hS dX11_vigil_16
set_option maxHeartbeats 4000000 in
set_option maxRecDepth 100000 in
theorem c_X11_gets {l : Launch} {D : va_G} {cy : Nat → ClassId} (p0 : Int32) (p1 : Int32) (p2 : Int32) (r : Int32) (h : X11_gets p0 p1 p2 = r) : Ct l yX11_gets cX11_gets 3 (some .int) 1 21 D cy [.int p0, .int p1, .int p2] [] (fun _ => []) (some (.int r)) := by
  refine Ct.mk kX11_gets (by decide +kernel) (Nat.le_of_ble_eq_true rfl) ?_
  intro p e s m below meth c A ls args R Q hRf hRl hQ E H locs hS hl
  have hx := E.x
  have hb := E.b
  have hl : lv_has ls 3 [(0, .int p0), (1, .int p1), (2, .int p2)] := hl
  unfold X11_gets at h
  refine lv_iconst (v := 2) hx hb dX11_gets_0 (by decide) ?_
  refine lv_iload_n hx hb dX11_gets_1 rfl (lv_at hl 0 rfl) ?_
  refine lv_imul hx hb dX11_gets_2 ?_
  refine lv_iload_n hx hb dX11_gets_3 rfl (lv_at hl 0 rfl) ?_
  refine lv_iload_n hx hb dX11_gets_4 rfl (lv_at hl 1 rfl) ?_
  have hJ13 : ∀ (s13_1 : Int32) (ls : Array Slot), s13_1 = (if p1 < p0 then (0 : Int32) else p2) → lv_has ls 3 [(0, .int p0), (1, .int p1)] → W p l e R s m args below meth c H locs 0 0 Q (F0 m 13 ls [.int s13_1, .int ((2 : Int32) * p0)]) := by
    intro s13_1 ls es13_1 hl
    subst es13_1
    refine lv_iadd hx hb dX11_gets_13 ?_
    refine lv_iconst (v := 0) hx hb dX11_gets_14 (by decide) ?_
    refine lv_iload_n hx hb dX11_gets_15 rfl (lv_at hl 0 rfl) ?_
    refine lv_iload_n hx hb dX11_gets_16 rfl (lv_at hl 1 rfl) ?_
    refine lv_iadd hx hb dX11_gets_17 ?_
    refine lv_bipush (v := 8) hx hb dX11_gets_18 (by decide) ?_
    refine lv_isub hx hb dX11_gets_20 ?_
    refine ct_S (ws' := fun _ => []) (st' := [.int (J9_max_7cf53 (0 : Int32) ((p0 + p1) - (8 : Int32))), .int (((2 : Int32) * p0) + (if p1 < p0 then (0 : Int32) else p2))]) (rest := [.int (((2 : Int32) * p0) + (if p1 < p0 then (0 : Int32) else p2))]) E hS slX11_229 (c_J9_max_7cf53 (l := l) (D := D) (cy := cy) (p0 := (0 : Int32)) (p1 := ((p0 + p1) - (8 : Int32))) (r := (J9_max_7cf53 (0 : Int32) ((p0 + p1) - (8 : Int32)))) rfl) [] rfl rfl (fun _ => rfl) (fun _ => rfl) rfl rfl (Nat.le_of_ble_eq_true rfl) hl.1 (by rw [hRf]; exact Nat.le_of_ble_eq_true rfl) (by rw [hRl]; exact Nat.le_of_ble_eq_true rfl) ⟨Nat.zero_le _, Nat.zero_le _⟩ dX11_gets_21 rfl (fun H locs _ hS => ?_)
    refine lv_isub hx hb dX11_gets_24 ?_
    subst h
    exact rt_i E hQ (.null) hS dX11_gets_25
  refine lv_icmp_gt (tgt := 12) hx hb dX11_gets_5 (by decide) (fun c1 => ?_) (fun c1 => ?_)
  · refine lv_iconst (v := 0) hx hb dX11_gets_12 (by decide) ?_
    exact hJ13 _ ls ((if_pos c1)).symm (lv_sub hl [0, 1] rfl)
  · refine lv_iload_n hx hb dX11_gets_8 rfl (lv_at hl 2 rfl) ?_
    refine lv_goto (tgt := 13) hx hb dX11_gets_9 (by decide) ?_
    exact hJ13 _ ls ((if_neg c1)).symm (lv_sub hl [0, 1] rfl)
set_option maxHeartbeats 4000000 in
set_option maxRecDepth 100000 in
theorem c_X11_isBest {l : Launch} {D : va_G} {cy : Nat → ClassId} (p0 : Int32) (p1 : Int32) (p2 : Int32) (r : Int32) (h : X11_isBest p0 p1 p2 = some r) : Ct l yX11_isBest cX11_isBest 4 (some .boolean) 2 43 D cy [.int p0, .int p1, .int p2] [] (fun _ => []) (some (.int r)) := by
  refine Ct.mk kX11_isBest (by decide +kernel) (Nat.le_of_ble_eq_true rfl) ?_
  intro p e s m below meth c A ls args R Q hRf hRl hQ E H locs hS hl
  have hx := E.x
  have hb := E.b
  have hl : lv_has ls 4 [(0, .int p0), (1, .int p1), (2, .int p2)] := hl
  unfold X11_isBest at h
  refine lv_iconst (v := 0) hx hb dX11_isBest_0 (by decide) ?_
  refine lv_istore_n (lv' := [(3, .int (0 : Int32)), (0, .int p0), (1, .int p1), (2, .int p2)]) hx hb dX11_isBest_1 rfl hl (by decide) rfl (fun ls hl => ?_)
  have hL2 : ∀ (n : Nat) (x2_0 : Int32) (y2 : (Unit) ⊕ (Unit)) (H : Heap) (locs : List Loc) (ls : Array Slot), lp (fun x2 => X11_isBest_s2 p0 p1 p2 x2) n x2_0 = some y2 → Sv D A s.heap [] H locs → lv_has ls 4 [(0, .int p0), (1, .int p1), (2, .int p2), (3, .int x2_0)] → ( .inl () = y2 → ∀ (H : Heap) (locs : List Loc) (ls : Array Slot), Sv D A s.heap [] H locs → lv_has ls 4 [] → W p l e R s m args below meth c H locs 0 0 Q (F0 m 31 ls [])) → ( .inr () = y2 → ∀ (H : Heap) (locs : List Loc) (ls : Array Slot), Sv D A s.heap [] H locs → lv_has ls 4 [] → W p l e R s m args below meth c H locs 0 0 Q (F0 m 23 ls [])) → W p l e R s m args below meth c H locs 0 0 Q (F0 m 2 ls []) := by
    intro n
    induction n with
    | zero =>
      intro x2_0 y2 H locs ls h
      exact lp_zero h
    | succ n ih2 =>
      intro x2_0 y2 H locs ls h hS hl hk2_0 hk2_1
      obtain ⟨z2, h, hz2a, hz2b⟩ := lp_succ h
      have h : X11_isBest_s2 p0 p1 p2 x2_0 = some z2 := h
      unfold X11_isBest_s2 at h
      refine lv_iload_n hx hb dX11_isBest_2 rfl (lv_at hl 3 rfl) ?_
      refine lv_bipush (v := 9) hx hb dX11_isBest_3 (by decide) ?_
      refine lv_icmp_gt (tgt := 31) hx hb dX11_isBest_5 (by decide) (fun c1 => ?_) (fun c1 => ?_)
      · have h := it_pos c1 h
        exact hk2_0  (hz2b _ (Option.some.inj h).symm)  H locs ls hS (lv_sub hl [] rfl)
      · have h := it_neg c1 h
        refine lv_iload_n hx hb dX11_isBest_8 rfl (lv_at hl 3 rfl) ?_
        refine lv_iload_n hx hb dX11_isBest_9 rfl (lv_at hl 1 rfl) ?_
        refine lv_iload_n hx hb dX11_isBest_10 rfl (lv_at hl 2 rfl) ?_
        refine ct_S (ws' := fun _ => []) (st' := [.int (X11_gets x2_0 p1 p2)]) (rest := []) E hS slX11_356 (c_X11_gets (l := l) (D := D) (cy := cy) (p0 := x2_0) (p1 := p1) (p2 := p2) (r := (X11_gets x2_0 p1 p2)) rfl) [] rfl rfl (fun _ => rfl) (fun _ => rfl) rfl rfl (Nat.le_of_ble_eq_true rfl) hl.1 (by rw [hRf]; exact Nat.le_of_ble_eq_true rfl) (by rw [hRl]; exact Nat.le_of_ble_eq_true rfl) ⟨Nat.zero_le _, Nat.zero_le _⟩ dX11_isBest_11 rfl (fun H locs _ hS => ?_)
        refine lv_iload_n hx hb dX11_isBest_14 rfl (lv_at hl 0 rfl) ?_
        refine lv_iload_n hx hb dX11_isBest_15 rfl (lv_at hl 1 rfl) ?_
        refine lv_iload_n hx hb dX11_isBest_16 rfl (lv_at hl 2 rfl) ?_
        refine ct_S (ws' := fun _ => []) (st' := [.int (X11_gets p0 p1 p2), .int (X11_gets x2_0 p1 p2)]) (rest := [.int (X11_gets x2_0 p1 p2)]) E hS slX11_356 (c_X11_gets (l := l) (D := D) (cy := cy) (p0 := p0) (p1 := p1) (p2 := p2) (r := (X11_gets p0 p1 p2)) rfl) [] rfl rfl (fun _ => rfl) (fun _ => rfl) rfl rfl (Nat.le_of_ble_eq_true rfl) hl.1 (by rw [hRf]; exact Nat.le_of_ble_eq_true rfl) (by rw [hRl]; exact Nat.le_of_ble_eq_true rfl) ⟨Nat.zero_le _, Nat.zero_le _⟩ dX11_isBest_17 rfl (fun H locs _ hS => ?_)
        refine lv_icmp_le (tgt := 25) hx hb dX11_isBest_20 (by decide) (fun c2 => ?_) (fun c2 => ?_)
        · have h := it_pos c2 h
          refine lv_iinc (v := (x2_0 + (1 : Int32))) (lv' := [(3, .int (x2_0 + (1 : Int32))), (0, .int p0), (1, .int p1), (2, .int p2)]) hx hb dX11_isBest_25 hl (k := 3) rfl rfl (by decide) rfl (fun ls hl => ?_)
          refine lv_goto (tgt := 2) hx hb dX11_isBest_28 (by decide) ?_
          exact ih2 (x2_0 + (1 : Int32)) y2  H locs ls (hz2a _ (Option.some.inj h).symm) hS (lv_sub hl [1, 2, 3, 0] rfl) hk2_0 hk2_1
        · have h := it_neg c2 h
          exact hk2_1  (hz2b _ (Option.some.inj h).symm)  H locs ls hS (lv_sub hl [] rfl)
  obtain ⟨y2, e2, h⟩ := bd_some h
  refine hL2 1000 (0 : Int32) y2  H locs ls e2 hS (lv_sub hl [1, 2, 3, 0] rfl) (fun ey2 H locs ls hS hl => ?_) (fun ey2 H locs ls hS hl => ?_)
  · subst ey2
    have h := sm_l h
    refine lv_iconst (v := 1) hx hb dX11_isBest_31 (by decide) ?_
    obtain rfl := Option.some.inj h
    exact rt_n E rfl hQ (.null) hS dX11_isBest_32
  · subst ey2
    have h := sm_r h
    refine lv_iconst (v := 0) hx hb dX11_isBest_23 (by decide) ?_
    obtain rfl := Option.some.inj h
    exact rt_n E rfl hQ (.null) hS dX11_isBest_24
set_option maxHeartbeats 4000000 in
set_option maxRecDepth 100000 in
theorem c_X11_rests {l : Launch} {D : va_G} {cy : Nat → ClassId} (q0 : Nat) (q1 : Nat) (u0_0 : Value) (u0_1 : Value) (u0_2 : Value) (u0_3 : Value) (u0_7 : Value) (u0_8 : Value) (u0_9 : Value) (u0_10 : Value) (u0_11 : Value) (u0_12 : Value) (u0_13 : Value) (u0_14 : Value) (u0_15 : Value) (u0_16 : Value) (u0_17 : Value) (u0_18 : Value) (u0_19 : Value) (u0_20 : Value) (u0_21 : Value) (u0_22 : Value) (u0_23 : Value) (u0_24 : Value) (u0_25 : Value) (u0_26 : Value) (u0_27 : Value) (u0_28 : Value) (u0_29 : Value) (u0_30 : Value) (u0_31 : Value) (u0_32 : Value) (u0_33 : Value) (u0_34 : Value) (u0_35 : Value) (u0_36 : Value) (u0_37 : Value) (u0_38 : Value) (u0_39 : Value) (u0_40 : Value) (v_rowMany : Int32) (v_thrown : Int32) (v_row : Nat → Int64) (p1 : Int32) (r : Int32 × Int32 × Int32 × (Nat → Int64)) (h : X11_rests v_rowMany v_row p1 = some r) : Ct l yX11_rests cX11_rests 5 (some .int) 3 66 D cy [.ref q0, .int p1] [oX11 q0 u0_0 u0_1 u0_2 u0_3 (.ref q1) (.int v_rowMany) (.int v_thrown) u0_7 u0_8 u0_9 u0_10 u0_11 u0_12 u0_13 u0_14 u0_15 u0_16 u0_17 u0_18 u0_19 u0_20 u0_21 u0_22 u0_23 u0_24 u0_25 u0_26 u0_27 u0_28 u0_29 u0_30 u0_31 u0_32 u0_33 u0_34 u0_35 u0_36 u0_37 u0_38 u0_39 u0_40, aJ cy q1 16 v_row] (fun _ => [oX11 q0 u0_0 u0_1 u0_2 u0_3 (.ref q1) (.int r.2.1) (.int r.2.2.1) u0_7 u0_8 u0_9 u0_10 u0_11 u0_12 u0_13 u0_14 u0_15 u0_16 u0_17 u0_18 u0_19 u0_20 u0_21 u0_22 u0_23 u0_24 u0_25 u0_26 u0_27 u0_28 u0_29 u0_30 u0_31 u0_32 u0_33 u0_34 u0_35 u0_36 u0_37 u0_38 u0_39 u0_40, aJ cy q1 16 r.2.2.2]) (some (.int r.1)) := by
  refine Ct.mk kX11_rests (by decide +kernel) (Nat.le_of_ble_eq_true rfl) ?_
  intro p e s m below meth c A ls args R Q hRf hRl hQ E H locs hS hl
  have hx := E.x
  have hb := E.b
  have hl : lv_has ls 5 [(0, .ref q0), (1, .int p1)] := hl
  unfold X11_rests at h
  refine lv_aload_n hx hb dX11_rests_0 rfl (lv_at hl 0 rfl) ?_
  refine lv_iconst (v := 0) hx hb dX11_rests_1 (by decide) ?_
  refine r_put (ws' := [oX11 q0 u0_0 u0_1 u0_2 u0_3 (.ref q1) (.int v_rowMany) (.int (0 : Int32)) u0_7 u0_8 u0_9 u0_10 u0_11 u0_12 u0_13 u0_14 u0_15 u0_16 u0_17 u0_18 u0_19 u0_20 u0_21 u0_22 u0_23 u0_24 u0_25 u0_26 u0_27 u0_28 u0_29 u0_30 u0_31 u0_32 u0_33 u0_34 u0_35 u0_36 u0_37 u0_38 u0_39 u0_40, aJ cy q1 16 v_row]) E frX11_85 hS 0 rfl (Nat.le_of_ble_eq_true rfl) rfl rfl rfl rfl dX11_rests_2 (fun H locs hS => ?_)
  refine lv_iload_n hx hb dX11_rests_5 rfl (lv_at hl 1 rfl) ?_
  refine lv_iconst (v := 0) hx hb dX11_rests_6 (by decide) ?_
  refine lv_bipush (v := 20) hx hb dX11_rests_7 (by decide) ?_
  refine ct_S (ws' := fun _ => [oX11 q0 u0_0 u0_1 u0_2 u0_3 (.ref q1) (.int v_rowMany) (.int (0 : Int32)) u0_7 u0_8 u0_9 u0_10 u0_11 u0_12 u0_13 u0_14 u0_15 u0_16 u0_17 u0_18 u0_19 u0_20 u0_21 u0_22 u0_23 u0_24 u0_25 u0_26 u0_27 u0_28 u0_29 u0_30 u0_31 u0_32 u0_33 u0_34 u0_35 u0_36 u0_37 u0_38 u0_39 u0_40, aJ cy q1 16 v_row]) (st' := [.int (X11_in p1 (0 : Int32) (20 : Int32))]) (rest := []) E hS slX11_95 (c_X11_in (l := l) (D := D) (cy := cy) (p0 := p1) (p1 := (0 : Int32)) (p2 := (20 : Int32)) (r := (X11_in p1 (0 : Int32) (20 : Int32))) rfl) [] rfl rfl (fun _ => rfl) (fun _ => rfl) rfl rfl (Nat.le_of_ble_eq_true rfl) hl.1 (by rw [hRf]; exact Nat.le_of_ble_eq_true rfl) (by rw [hRl]; exact Nat.le_of_ble_eq_true rfl) ⟨Nat.zero_le _, Nat.zero_le _⟩ dX11_rests_9 rfl (fun H locs _ hS => ?_)
  refine lv_if_ne (tgt := 17) hx hb dX11_rests_12 (by decide) (fun c1 => ?_) (fun c1 => ?_)
  · have h := it_neg c1 h
    refine lv_iconst (v := 0) hx hb dX11_rests_17 (by decide) ?_
    refine lv_istore_n (lv' := [(2, .int (0 : Int32)), (0, .ref q0), (1, .int p1)]) hx hb dX11_rests_18 rfl hl (by decide) rfl (fun ls hl => ?_)
    refine lv_aload_n hx hb dX11_rests_19 rfl (lv_at hl 1 rfl) ?_
    refine lv_iconst (v := 0) hx hb dX11_rests_20 (by decide) ?_
    refine r_put (ws' := [oX11 q0 u0_0 u0_1 u0_2 u0_3 (.ref q1) (.int (0 : Int32)) (.int (0 : Int32)) u0_7 u0_8 u0_9 u0_10 u0_11 u0_12 u0_13 u0_14 u0_15 u0_16 u0_17 u0_18 u0_19 u0_20 u0_21 u0_22 u0_23 u0_24 u0_25 u0_26 u0_27 u0_28 u0_29 u0_30 u0_31 u0_32 u0_33 u0_34 u0_35 u0_36 u0_37 u0_38 u0_39 u0_40, aJ cy q1 16 v_row]) E frX11_89 hS 0 rfl (Nat.le_of_ble_eq_true rfl) rfl rfl rfl rfl dX11_rests_21 (fun H locs hS => ?_)
    refine lv_iconst (v := 0) hx hb dX11_rests_24 (by decide) ?_
    refine lv_istore_n (lv' := [(3, .int (0 : Int32)), (2, .int (0 : Int32)), (0, .ref q0), (1, .int p1)]) hx hb dX11_rests_25 rfl hl (by decide) rfl (fun ls hl => ?_)
    have hL26 : ∀ (n : Nat) (x26_0 : Int32) (x26_1 : Int32) (x26_2 : Int32) (x26_3 : Nat → Int64) (y26 : Int32 × Int32 × (Nat → Int64)) (H : Heap) (locs : List Loc) (ls : Array Slot), lp (fun x26 => X11_rests_s26 p1 x26.1 x26.2.1 x26.2.2.1 x26.2.2.2) n (x26_0, x26_1, x26_2, x26_3) = some y26 → Sv D A s.heap [oX11 q0 u0_0 u0_1 u0_2 u0_3 (.ref q1) (.int x26_2) (.int (0 : Int32)) u0_7 u0_8 u0_9 u0_10 u0_11 u0_12 u0_13 u0_14 u0_15 u0_16 u0_17 u0_18 u0_19 u0_20 u0_21 u0_22 u0_23 u0_24 u0_25 u0_26 u0_27 u0_28 u0_29 u0_30 u0_31 u0_32 u0_33 u0_34 u0_35 u0_36 u0_37 u0_38 u0_39 u0_40, aJ cy q1 16 x26_3] H locs → lv_has ls 5 [(0, .ref q0), (1, .int p1), (2, .int x26_0), (3, .int x26_1)] → ( ∀ (y26_0 : Int32) (y26_1 : Int32) (y26_2 : Nat → Int64), (y26_0, y26_1, y26_2) = y26 → ∀ (H : Heap) (locs : List Loc) (ls : Array Slot), Sv D A s.heap [oX11 q0 u0_0 u0_1 u0_2 u0_3 (.ref q1) (.int y26_1) (.int (0 : Int32)) u0_7 u0_8 u0_9 u0_10 u0_11 u0_12 u0_13 u0_14 u0_15 u0_16 u0_17 u0_18 u0_19 u0_20 u0_21 u0_22 u0_23 u0_24 u0_25 u0_26 u0_27 u0_28 u0_29 u0_30 u0_31 u0_32 u0_33 u0_34 u0_35 u0_36 u0_37 u0_38 u0_39 u0_40, aJ cy q1 16 y26_2] H locs → lv_has ls 5 [(2, .int y26_0)] → W p l e R s m args below meth c H locs 0 0 Q (F0 m 97 ls [])) → W p l e R s m args below meth c H locs 0 0 Q (F0 m 26 ls []) := by
      intro n
      induction n with
      | zero =>
        intro x26_0 x26_1 x26_2 x26_3 y26 H locs ls h
        exact lp_zero h
      | succ n ih26 =>
        intro x26_0 x26_1 x26_2 x26_3 y26 H locs ls h hS hl hk26_0
        obtain ⟨z26, h, hz26a, hz26b⟩ := lp_succ h
        have h : X11_rests_s26 p1 x26_0 x26_1 x26_2 x26_3 = some z26 := h
        unfold X11_rests_s26 at h
        refine lv_iload_n hx hb dX11_rests_26 rfl (lv_at hl 3 rfl) ?_
        refine lv_bipush (v := 9) hx hb dX11_rests_27 (by decide) ?_
        refine lv_icmp_gt (tgt := 97) hx hb dX11_rests_29 (by decide) (fun c2 => ?_) (fun c2 => ?_)
        · have h := it_pos c2 h
          exact hk26_0 x26_0 x26_2 x26_3 (hz26b _ (Option.some.inj h).symm)  H locs ls hS (lv_sub hl [2] rfl)
        · have h := it_neg c2 h
          refine lv_iconst (v := 0) hx hb dX11_rests_32 (by decide) ?_
          refine lv_istore (lv' := [(4, .int (0 : Int32)), (0, .ref q0), (1, .int p1), (2, .int x26_0), (3, .int x26_1)]) hx hb dX11_rests_33 hl (by decide) rfl (fun ls hl => ?_)
          have hL35 : ∀ (n : Nat) (x35_0 : Int32) (x35_1 : Int32) (x35_2 : Int32) (x35_3 : Nat → Int64) (y35 : Int32 × Int32 × (Nat → Int64)) (H : Heap) (locs : List Loc) (ls : Array Slot), lp (fun x35 => X11_rests_s35 p1 x26_1 x35.1 x35.2.1 x35.2.2.1 x35.2.2.2) n (x35_0, x35_1, x35_2, x35_3) = some y35 → Sv D A s.heap [oX11 q0 u0_0 u0_1 u0_2 u0_3 (.ref q1) (.int x35_2) (.int (0 : Int32)) u0_7 u0_8 u0_9 u0_10 u0_11 u0_12 u0_13 u0_14 u0_15 u0_16 u0_17 u0_18 u0_19 u0_20 u0_21 u0_22 u0_23 u0_24 u0_25 u0_26 u0_27 u0_28 u0_29 u0_30 u0_31 u0_32 u0_33 u0_34 u0_35 u0_36 u0_37 u0_38 u0_39 u0_40, aJ cy q1 16 x35_3] H locs → lv_has ls 5 [(0, .ref q0), (1, .int p1), (2, .int x35_0), (3, .int x26_1), (4, .int x35_1)] → ( ∀ (y35_0 : Int32) (y35_1 : Int32) (y35_2 : Nat → Int64), (y35_0, y35_1, y35_2) = y35 → ∀ (H : Heap) (locs : List Loc) (ls : Array Slot), Sv D A s.heap [oX11 q0 u0_0 u0_1 u0_2 u0_3 (.ref q1) (.int y35_1) (.int (0 : Int32)) u0_7 u0_8 u0_9 u0_10 u0_11 u0_12 u0_13 u0_14 u0_15 u0_16 u0_17 u0_18 u0_19 u0_20 u0_21 u0_22 u0_23 u0_24 u0_25 u0_26 u0_27 u0_28 u0_29 u0_30 u0_31 u0_32 u0_33 u0_34 u0_35 u0_36 u0_37 u0_38 u0_39 u0_40, aJ cy q1 16 y35_2] H locs → lv_has ls 5 [(0, .ref q0), (1, .int p1), (2, .int y35_0), (3, .int x26_1)] → W p l e R s m args below meth c H locs 0 0 Q (F0 m 91 ls [])) → W p l e R s m args below meth c H locs 0 0 Q (F0 m 35 ls []) := by
            intro n
            induction n with
            | zero =>
              intro x35_0 x35_1 x35_2 x35_3 y35 H locs ls h
              exact lp_zero h
            | succ n ih35 =>
              intro x35_0 x35_1 x35_2 x35_3 y35 H locs ls h hS hl hk35_0
              obtain ⟨z35, h, hz35a, hz35b⟩ := lp_succ h
              have h : X11_rests_s35 p1 x26_1 x35_0 x35_1 x35_2 x35_3 = some z35 := h
              unfold X11_rests_s35 at h
              refine lv_iload hx hb dX11_rests_35 (lv_at hl 4 rfl) ?_
              refine lv_bipush (v := 9) hx hb dX11_rests_37 (by decide) ?_
              refine lv_icmp_gt (tgt := 91) hx hb dX11_rests_39 (by decide) (fun c3 => ?_) (fun c3 => ?_)
              · have h := it_pos c3 h
                exact hk35_0 x35_0 x35_2 x35_3 (hz35b _ (Option.some.inj h).symm)  H locs ls hS (lv_sub hl [0, 1, 2, 3] rfl)
              · have h := it_neg c3 h
                refine lv_iload_n hx hb dX11_rests_42 rfl (lv_at hl 3 rfl) ?_
                refine lv_iload hx hb dX11_rests_43 (lv_at hl 4 rfl) ?_
                refine lv_iload_n hx hb dX11_rests_45 rfl (lv_at hl 1 rfl) ?_
                obtain ⟨y46, e4, h⟩ := bd_some h
                refine ct_S (ws' := fun _ => [oX11 q0 u0_0 u0_1 u0_2 u0_3 (.ref q1) (.int x35_2) (.int (0 : Int32)) u0_7 u0_8 u0_9 u0_10 u0_11 u0_12 u0_13 u0_14 u0_15 u0_16 u0_17 u0_18 u0_19 u0_20 u0_21 u0_22 u0_23 u0_24 u0_25 u0_26 u0_27 u0_28 u0_29 u0_30 u0_31 u0_32 u0_33 u0_34 u0_35 u0_36 u0_37 u0_38 u0_39 u0_40, aJ cy q1 16 x35_3]) (st' := [.int y46]) (rest := []) E hS slX11_360 (c_X11_isBest (l := l) (D := D) (cy := cy) (p0 := x26_1) (p1 := x35_1) (p2 := p1) (r := y46) e4) [] rfl rfl (fun _ => rfl) (fun _ => rfl) rfl rfl (Nat.le_of_ble_eq_true rfl) hl.1 (by rw [hRf]; exact Nat.le_of_ble_eq_true rfl) (by rw [hRl]; exact Nat.le_of_ble_eq_true rfl) ⟨Nat.zero_le _, Nat.zero_le _⟩ dX11_rests_46 rfl (fun H locs _ hS => ?_)
                refine lv_if_eq (tgt := 85) hx hb dX11_rests_49 (by decide) (fun c5 => ?_) (fun c5 => ?_)
                · have h := it_pos c5 h
                  refine lv_iinc (v := (x35_1 + (1 : Int32))) (lv' := [(4, .int (x35_1 + (1 : Int32))), (0, .ref q0), (1, .int p1), (2, .int x35_0), (3, .int x26_1)]) hx hb dX11_rests_85 hl (k := 4) rfl rfl (by decide) rfl (fun ls hl => ?_)
                  refine lv_goto (tgt := 35) hx hb dX11_rests_88 (by decide) ?_
                  exact ih35 x35_0 (x35_1 + (1 : Int32)) x35_2 x35_3 y35  H locs ls (hz35a _ (Option.some.inj h).symm) hS (lv_sub hl [1, 2, 3, 4, 0] rfl) hk35_0
                · have h := it_neg c5 h
                  refine lv_iload hx hb dX11_rests_52 (lv_at hl 4 rfl) ?_
                  refine lv_iload_n hx hb dX11_rests_54 rfl (lv_at hl 3 rfl) ?_
                  refine lv_iload_n hx hb dX11_rests_55 rfl (lv_at hl 1 rfl) ?_
                  obtain ⟨y56, e6, h⟩ := bd_some h
                  refine ct_S (ws' := fun _ => [oX11 q0 u0_0 u0_1 u0_2 u0_3 (.ref q1) (.int x35_2) (.int (0 : Int32)) u0_7 u0_8 u0_9 u0_10 u0_11 u0_12 u0_13 u0_14 u0_15 u0_16 u0_17 u0_18 u0_19 u0_20 u0_21 u0_22 u0_23 u0_24 u0_25 u0_26 u0_27 u0_28 u0_29 u0_30 u0_31 u0_32 u0_33 u0_34 u0_35 u0_36 u0_37 u0_38 u0_39 u0_40, aJ cy q1 16 x35_3]) (st' := [.int y56]) (rest := []) E hS slX11_360 (c_X11_isBest (l := l) (D := D) (cy := cy) (p0 := x35_1) (p1 := x26_1) (p2 := p1) (r := y56) e6) [] rfl rfl (fun _ => rfl) (fun _ => rfl) rfl rfl (Nat.le_of_ble_eq_true rfl) hl.1 (by rw [hRf]; exact Nat.le_of_ble_eq_true rfl) (by rw [hRl]; exact Nat.le_of_ble_eq_true rfl) ⟨Nat.zero_le _, Nat.zero_le _⟩ dX11_rests_56 rfl (fun H locs _ hS => ?_)
                  refine lv_if_ne (tgt := 65) hx hb dX11_rests_59 (by decide) (fun c7 => ?_) (fun c7 => ?_)
                  · have h := it_neg c7 h
                    refine lv_iload_n hx hb dX11_rests_65 rfl (lv_at hl 2 rfl) ?_
                    refine lv_if_ne (tgt := 82) hx hb dX11_rests_66 (by decide) (fun c8 => ?_) (fun c8 => ?_)
                    · have h := it_neg c8 h
                      refine lv_iinc (v := (x35_0 + (1 : Int32))) (lv' := [(2, .int (x35_0 + (1 : Int32))), (0, .ref q0), (1, .int p1), (3, .int x26_1), (4, .int x35_1)]) hx hb dX11_rests_82 hl (k := 2) rfl rfl (by decide) rfl (fun ls hl => ?_)
                      refine lv_iinc (v := (x35_1 + (1 : Int32))) (lv' := [(4, .int (x35_1 + (1 : Int32))), (2, .int (x35_0 + (1 : Int32))), (0, .ref q0), (1, .int p1), (3, .int x26_1)]) hx hb dX11_rests_85 hl (k := 4) rfl rfl (by decide) rfl (fun ls hl => ?_)
                      refine lv_goto (tgt := 35) hx hb dX11_rests_88 (by decide) ?_
                      exact ih35 (x35_0 + (1 : Int32)) (x35_1 + (1 : Int32)) x35_2 x35_3 y35  H locs ls (hz35a _ (Option.some.inj h).symm) hS (lv_sub hl [2, 3, 1, 4, 0] rfl) hk35_0
                    · have h := it_pos c8 h
                      refine lv_aload_n hx hb dX11_rests_69 rfl (lv_at hl 0 rfl) ?_
                      refine lv_iload_n hx hb dX11_rests_70 rfl (lv_at hl 3 rfl) ?_
                      refine lv_i2l (v := (x26_1.toInt64)) hx hb dX11_rests_71 rfl ?_
                      obtain ⟨y72, e9, h⟩ := bd_some h
                      refine ct_V (ws' := fun _ => [oX11 q0 u0_0 u0_1 u0_2 u0_3 (.ref q1) (.int y72.1) (.int (0 : Int32)) u0_7 u0_8 u0_9 u0_10 u0_11 u0_12 u0_13 u0_14 u0_15 u0_16 u0_17 u0_18 u0_19 u0_20 u0_21 u0_22 u0_23 u0_24 u0_25 u0_26 u0_27 u0_28 u0_29 u0_30 u0_31 u0_32 u0_33 u0_34 u0_35 u0_36 u0_37 u0_38 u0_39 u0_40, aJ cy q1 16 y72.2]) (st' := []) (rest := []) E hS vlX11_256 (c_X11_tell (l := l) (D := D) (cy := cy) (q0 := q0) (q1 := q1) (u0_0 := u0_0) (u0_1 := u0_1) (u0_2 := u0_2) (u0_3 := u0_3) (u0_6 := .int (0 : Int32)) (u0_7 := u0_7) (u0_8 := u0_8) (u0_9 := u0_9) (u0_10 := u0_10) (u0_11 := u0_11) (u0_12 := u0_12) (u0_13 := u0_13) (u0_14 := u0_14) (u0_15 := u0_15) (u0_16 := u0_16) (u0_17 := u0_17) (u0_18 := u0_18) (u0_19 := u0_19) (u0_20 := u0_20) (u0_21 := u0_21) (u0_22 := u0_22) (u0_23 := u0_23) (u0_24 := u0_24) (u0_25 := u0_25) (u0_26 := u0_26) (u0_27 := u0_27) (u0_28 := u0_28) (u0_29 := u0_29) (u0_30 := u0_30) (u0_31 := u0_31) (u0_32 := u0_32) (u0_33 := u0_33) (u0_34 := u0_34) (u0_35 := u0_35) (u0_36 := u0_36) (u0_37 := u0_37) (u0_38 := u0_38) (u0_39 := u0_39) (u0_40 := u0_40) (v_rowMany := x35_2) (v_row := x35_3) (p1 := (x26_1.toInt64)) (r := y72) e9) [0, 1] rfl rfl (fun _ => rfl) (fun _ => rfl) rfl rfl rfl rfl (Nat.le_of_ble_eq_true rfl) hl.1 (by rw [hRf]; exact Nat.le_of_ble_eq_true rfl) (by rw [hRl]; exact Nat.le_of_ble_eq_true rfl) ⟨Nat.zero_le _, Nat.zero_le _⟩ dX11_rests_72 rfl (fun H locs _ hS => ?_)
                      refine lv_aload_n hx hb dX11_rests_75 rfl (lv_at hl 0 rfl) ?_
                      refine lv_iload hx hb dX11_rests_76 (lv_at hl 4 rfl) ?_
                      refine lv_i2l (v := (x35_1.toInt64)) hx hb dX11_rests_78 rfl ?_
                      obtain ⟨y79, e10, h⟩ := bd_some h
                      refine ct_V (ws' := fun _ => [oX11 q0 u0_0 u0_1 u0_2 u0_3 (.ref q1) (.int y79.1) (.int (0 : Int32)) u0_7 u0_8 u0_9 u0_10 u0_11 u0_12 u0_13 u0_14 u0_15 u0_16 u0_17 u0_18 u0_19 u0_20 u0_21 u0_22 u0_23 u0_24 u0_25 u0_26 u0_27 u0_28 u0_29 u0_30 u0_31 u0_32 u0_33 u0_34 u0_35 u0_36 u0_37 u0_38 u0_39 u0_40, aJ cy q1 16 y79.2]) (st' := []) (rest := []) E hS vlX11_256 (c_X11_tell (l := l) (D := D) (cy := cy) (q0 := q0) (q1 := q1) (u0_0 := u0_0) (u0_1 := u0_1) (u0_2 := u0_2) (u0_3 := u0_3) (u0_6 := .int (0 : Int32)) (u0_7 := u0_7) (u0_8 := u0_8) (u0_9 := u0_9) (u0_10 := u0_10) (u0_11 := u0_11) (u0_12 := u0_12) (u0_13 := u0_13) (u0_14 := u0_14) (u0_15 := u0_15) (u0_16 := u0_16) (u0_17 := u0_17) (u0_18 := u0_18) (u0_19 := u0_19) (u0_20 := u0_20) (u0_21 := u0_21) (u0_22 := u0_22) (u0_23 := u0_23) (u0_24 := u0_24) (u0_25 := u0_25) (u0_26 := u0_26) (u0_27 := u0_27) (u0_28 := u0_28) (u0_29 := u0_29) (u0_30 := u0_30) (u0_31 := u0_31) (u0_32 := u0_32) (u0_33 := u0_33) (u0_34 := u0_34) (u0_35 := u0_35) (u0_36 := u0_36) (u0_37 := u0_37) (u0_38 := u0_38) (u0_39 := u0_39) (u0_40 := u0_40) (v_rowMany := y72.1) (v_row := y72.2) (p1 := (x35_1.toInt64)) (r := y79) e10) [0, 1] rfl rfl (fun _ => rfl) (fun _ => rfl) rfl rfl rfl rfl (Nat.le_of_ble_eq_true rfl) hl.1 (by rw [hRf]; exact Nat.le_of_ble_eq_true rfl) (by rw [hRl]; exact Nat.le_of_ble_eq_true rfl) ⟨Nat.zero_le _, Nat.zero_le _⟩ dX11_rests_79 rfl (fun H locs _ hS => ?_)
                      refine lv_iinc (v := (x35_0 + (1 : Int32))) (lv' := [(2, .int (x35_0 + (1 : Int32))), (0, .ref q0), (1, .int p1), (3, .int x26_1), (4, .int x35_1)]) hx hb dX11_rests_82 hl (k := 2) rfl rfl (by decide) rfl (fun ls hl => ?_)
                      refine lv_iinc (v := (x35_1 + (1 : Int32))) (lv' := [(4, .int (x35_1 + (1 : Int32))), (2, .int (x35_0 + (1 : Int32))), (0, .ref q0), (1, .int p1), (3, .int x26_1)]) hx hb dX11_rests_85 hl (k := 4) rfl rfl (by decide) rfl (fun ls hl => ?_)
                      refine lv_goto (tgt := 35) hx hb dX11_rests_88 (by decide) ?_
                      exact ih35 (x35_0 + (1 : Int32)) (x35_1 + (1 : Int32)) y79.1 y79.2 y35  H locs ls (hz35a _ (Option.some.inj h).symm) hS (lv_sub hl [2, 3, 1, 4, 0] rfl) hk35_0
                  · have h := it_pos c7 h
                    refine lv_goto (tgt := 85) hx hb dX11_rests_62 (by decide) ?_
                    refine lv_iinc (v := (x35_1 + (1 : Int32))) (lv' := [(4, .int (x35_1 + (1 : Int32))), (0, .ref q0), (1, .int p1), (2, .int x35_0), (3, .int x26_1)]) hx hb dX11_rests_85 hl (k := 4) rfl rfl (by decide) rfl (fun ls hl => ?_)
                    refine lv_goto (tgt := 35) hx hb dX11_rests_88 (by decide) ?_
                    exact ih35 x35_0 (x35_1 + (1 : Int32)) x35_2 x35_3 y35  H locs ls (hz35a _ (Option.some.inj h).symm) hS (lv_sub hl [1, 2, 3, 4, 0] rfl) hk35_0
          obtain ⟨y35, e35, h⟩ := bd_some h
          refine hL35 1000 x26_0 (0 : Int32) x26_2 x26_3 y35  H locs ls e35 hS (lv_sub hl [1, 2, 3, 4, 0] rfl) (fun y35_0 y35_1 y35_2 ey35 H locs ls hS hl => ?_)
          subst ey35
          have h := un_r h
          have h := un_r h
          refine lv_iinc (v := (x26_1 + (1 : Int32))) (lv' := [(3, .int (x26_1 + (1 : Int32))), (0, .ref q0), (1, .int p1), (2, .int y35_0)]) hx hb dX11_rests_91 hl (k := 3) rfl rfl (by decide) rfl (fun ls hl => ?_)
          refine lv_goto (tgt := 26) hx hb dX11_rests_94 (by decide) ?_
          exact ih26 y35_0 (x26_1 + (1 : Int32)) y35_1 y35_2 y26  H locs ls (hz26a _ (Option.some.inj h).symm) hS (lv_sub hl [1, 2, 3, 0] rfl) hk26_0
    obtain ⟨y26, e26, h⟩ := bd_some h
    refine hL26 1000 (0 : Int32) (0 : Int32) (0 : Int32) v_row y26  H locs ls e26 hS (lv_sub hl [2, 3, 1, 0] rfl) (fun y26_0 y26_1 y26_2 ey26 H locs ls hS hl => ?_)
    subst ey26
    have h := un_r h
    have h := un_r h
    refine lv_iload_n hx hb dX11_rests_97 rfl (lv_at hl 0 rfl) ?_
    obtain rfl := Option.some.inj h
    exact rt_i E hQ (.null) hS dX11_rests_98
  · have h := it_pos c1 h
    refine lv_iconst (v := -1) hx hb dX11_rests_15 (by decide) ?_
    obtain rfl := Option.some.inj h
    exact rt_i E hQ (.null) hS dX11_rests_16
set_option maxHeartbeats 4000000 in
set_option maxRecDepth 100000 in
theorem c_X11_law {l : Launch} {D : va_G} {cy : Nat → ClassId} (q0 : Nat) (q1 : Nat) (q2 : Nat) (q3 : Nat) (q4 : Nat) (q5 : Nat) (q6 : Nat) (u0_7 : Value) (u0_12 : Value) (u0_18 : Value) (u0_19 : Value) (u0_20 : Value) (u0_21 : Value) (u0_22 : Value) (u0_23 : Value) (u0_24 : Value) (u0_25 : Value) (u0_26 : Value) (u0_27 : Value) (u0_28 : Value) (u0_29 : Value) (u0_30 : Value) (u0_31 : Value) (u0_32 : Value) (u0_33 : Value) (u0_34 : Value) (u0_35 : Value) (u0_36 : Value) (u0_37 : Value) (u0_38 : Value) (u0_39 : Value) (u0_40 : Value) (v_people : Int32) (v_typed : Int32) (v_rowMany : Int32) (v_thrown : Int32) (v_length : Int32) (v_top : Int32) (v_at : Int32) (v_wrong : Int32) (v_ruleSize : Int32) (v_isAsked : Int32) (v_now : Nat → Int32) (v_text : Nat → Int32) (v_row : Nat → Int64) (v_rule : Nat → Int32) (v_otherRule : Nat → Int32) (v_asked : Nat → Int32) (r : Int32 × Int32 × Int32 × Int32 × Int32 × Int32 × Int32 × Int32 × Int32 × Int32 × (Nat → Int64) × (Nat → Int32) × (Nat → Int32)) (h : X11_law v_people v_typed v_rowMany v_ruleSize v_now v_text v_row v_rule v_otherRule v_asked = some r) : Ct l yX11_law cX11_law 7 (some .int) 109 2603 D cy [.ref q0] [oX11 q0 (.ref q1) (.int v_people) (.ref q2) (.int v_typed) (.ref q3) (.int v_rowMany) (.int v_thrown) u0_7 (.int v_length) (.int v_top) (.int v_at) (.int v_wrong) u0_12 (.ref q4) (.ref q5) (.int v_ruleSize) (.int v_isAsked) (.ref q6) u0_18 u0_19 u0_20 u0_21 u0_22 u0_23 u0_24 u0_25 u0_26 u0_27 u0_28 u0_29 u0_30 u0_31 u0_32 u0_33 u0_34 u0_35 u0_36 u0_37 u0_38 u0_39 u0_40, aI cy q1 37 v_now, aB cy q2 80 v_text, aJ cy q3 16 v_row, aB cy q4 40 v_rule, aB cy q5 40 v_otherRule, aI cy q6 7 v_asked] (fun rv => [oX11 q0 (.ref q1) (.int v_people) (.ref q2) (.int r.2.1) (.ref q3) (.int r.2.2.1) (.int r.2.2.2.1) rv (.int r.2.2.2.2.1) (.int r.2.2.2.2.2.1) (.int r.2.2.2.2.2.2.1) (.int r.2.2.2.2.2.2.2.1) u0_12 (.ref q4) (.ref q5) (.int r.2.2.2.2.2.2.2.2.1) (.int r.2.2.2.2.2.2.2.2.2.1) (.ref q6) u0_18 u0_19 u0_20 u0_21 u0_22 u0_23 u0_24 u0_25 u0_26 u0_27 u0_28 u0_29 u0_30 u0_31 u0_32 u0_33 u0_34 u0_35 u0_36 u0_37 u0_38 u0_39 u0_40, aI cy q1 37 v_now, aB cy q2 80 v_text, aJ cy q3 16 r.2.2.2.2.2.2.2.2.2.2.1, aB cy q4 40 v_rule, aB cy q5 40 r.2.2.2.2.2.2.2.2.2.2.2.1, aI cy q6 7 r.2.2.2.2.2.2.2.2.2.2.2.2]) (some (.int r.1)) := by
  refine Ct.mk kX11_law (by decide +kernel) (Nat.le_of_ble_eq_true rfl) ?_
  intro p e s m below meth c A ls args R Q hRf hRl hQ E H locs hS hl
  have hx := E.x
  have hb := E.b
  have hl : lv_has ls 7 [(0, .ref q0)] := hl
  unfold X11_law at h
  refine lv_aload_n hx hb dX11_law_0 rfl (lv_at hl 0 rfl) ?_
  refine lv_iconst (v := 0) hx hb dX11_law_1 (by decide) ?_
  refine r_put (ws' := [oX11 q0 (.ref q1) (.int v_people) (.ref q2) (.int v_typed) (.ref q3) (.int v_rowMany) (.int (0 : Int32)) u0_7 (.int v_length) (.int v_top) (.int v_at) (.int v_wrong) u0_12 (.ref q4) (.ref q5) (.int v_ruleSize) (.int v_isAsked) (.ref q6) u0_18 u0_19 u0_20 u0_21 u0_22 u0_23 u0_24 u0_25 u0_26 u0_27 u0_28 u0_29 u0_30 u0_31 u0_32 u0_33 u0_34 u0_35 u0_36 u0_37 u0_38 u0_39 u0_40, aI cy q1 37 v_now, aB cy q2 80 v_text, aJ cy q3 16 v_row, aB cy q4 40 v_rule, aB cy q5 40 v_otherRule, aI cy q6 7 v_asked]) E frX11_85 hS 0 rfl (Nat.le_of_ble_eq_true rfl) rfl rfl rfl rfl dX11_law_2 (fun H locs hS => ?_)
  refine lv_aload_n hx hb dX11_law_5 rfl (lv_at hl 0 rfl) ?_
  refine r_get E frX11_103 hS 0 rfl rfl dX11_law_6 ?_
  refine lv_istore_n (lv' := [(1, .int v_typed), (0, .ref q0)]) hx hb dX11_law_9 rfl hl (by decide) rfl (fun ls hl => ?_)
  refine lv_aload_n hx hb dX11_law_10 rfl (lv_at hl 1 rfl) ?_
  obtain ⟨y11, e1, h⟩ := bd_some h
  refine ct_V (ws' := fun _ => [oX11 q0 (.ref q1) (.int v_people) (.ref q2) (.int y11.2.1) (.ref q3) (.int v_rowMany) (.int (0 : Int32)) (.ref q2) (.int y11.2.2.1) (.int y11.2.2.2.1) (.int y11.2.2.2.2.1) (.int y11.2.2.2.2.2.1) u0_12 (.ref q4) (.ref q5) (.int v_ruleSize) (.int y11.2.2.2.2.2.2) (.ref q6) u0_18 u0_19 u0_20 u0_21 u0_22 u0_23 u0_24 u0_25 u0_26 u0_27 u0_28 u0_29 u0_30 u0_31 u0_32 u0_33 u0_34 u0_35 u0_36 u0_37 u0_38 u0_39 u0_40, aI cy q1 37 v_now, aB cy q2 80 v_text, aJ cy q3 16 v_row, aB cy q4 40 v_rule, aB cy q5 40 v_otherRule, aI cy q6 7 v_asked]) (st' := [.int y11.1]) (rest := []) E hS vlX11_190 (c_X11_readRule (l := l) (D := D) (cy := cy) (q0 := q0) (q1 := q2) (q2 := q6) (u0_0 := .ref q1) (u0_1 := .int v_people) (u0_4 := .ref q3) (u0_5 := .int v_rowMany) (u0_6 := .int (0 : Int32)) (u0_7 := u0_7) (u0_12 := u0_12) (u0_13 := .ref q4) (u0_14 := .ref q5) (u0_15 := .int v_ruleSize) (u0_18 := u0_18) (u0_19 := u0_19) (u0_20 := u0_20) (u0_21 := u0_21) (u0_22 := u0_22) (u0_23 := u0_23) (u0_24 := u0_24) (u0_25 := u0_25) (u0_26 := u0_26) (u0_27 := u0_27) (u0_28 := u0_28) (u0_29 := u0_29) (u0_30 := u0_30) (u0_31 := u0_31) (u0_32 := u0_32) (u0_33 := u0_33) (u0_34 := u0_34) (u0_35 := u0_35) (u0_36 := u0_36) (u0_37 := u0_37) (u0_38 := u0_38) (u0_39 := u0_39) (u0_40 := u0_40) (v_typed := v_typed) (v_length := v_length) (v_top := v_top) (v_at := v_at) (v_wrong := v_wrong) (v_isAsked := v_isAsked) (v_text := v_text) (v_asked := v_asked) (r := y11) e1) [0, 2, 6] rfl rfl (fun _ => rfl) (fun _ => rfl) rfl rfl rfl rfl (Nat.le_of_ble_eq_true rfl) hl.1 (by rw [hRf]; exact Nat.le_of_ble_eq_true rfl) (by rw [hRl]; exact Nat.le_of_ble_eq_true rfl) ⟨Nat.zero_le _, Nat.zero_le _⟩ dX11_law_11 rfl (fun H locs _ hS => ?_)
  refine lv_if_ne (tgt := 26) hx hb dX11_law_14 (by decide) (fun c2 => ?_) (fun c2 => ?_)
  · have h := it_neg c2 h
    refine lv_aload_n hx hb dX11_law_26 rfl (lv_at hl 1 rfl) ?_
    refine lv_aload_n hx hb dX11_law_27 rfl (lv_at hl 1 rfl) ?_
    refine r_get E frX11_9 hS 0 rfl rfl dX11_law_28 ?_
    obtain ⟨y31, e3, h⟩ := bd_some h
    refine ct_V (ws' := fun rc4 => [oX11 q0 (.ref q1) (.int v_people) (.ref q2) (.int y11.2.1) (.ref q3) (.int v_rowMany) (.int (0 : Int32)) rc4 (.int y31.2.1) (.int y31.2.2.1) (.int y31.2.2.2.1) (.int y31.2.2.2.2.1) u0_12 (.ref q4) (.ref q5) (.int v_ruleSize) (.int y31.2.2.2.2.2.1) (.ref q6) u0_18 u0_19 u0_20 u0_21 u0_22 u0_23 u0_24 u0_25 u0_26 u0_27 u0_28 u0_29 u0_30 u0_31 u0_32 u0_33 u0_34 u0_35 u0_36 u0_37 u0_38 u0_39 u0_40, aI cy q1 37 v_now, aB cy q2 80 v_text, aJ cy q3 16 v_row, aB cy q4 40 v_rule, aB cy q5 40 v_otherRule, aI cy q6 7 y31.2.2.2.2.2.2]) (st' := [.int y31.1]) (rest := []) E hS vlX11_239 (c_X11_awake (l := l) (D := D) (cy := cy) (q0 := q0) (q1 := q4) (q2 := q6) (q3 := q1) (u0_0 := .ref q1) (u0_2 := .ref q2) (u0_3 := .int y11.2.1) (u0_4 := .ref q3) (u0_5 := .int v_rowMany) (u0_6 := .int (0 : Int32)) (u0_7 := .ref q2) (u0_12 := u0_12) (u0_14 := .ref q5) (u0_18 := u0_18) (u0_19 := u0_19) (u0_20 := u0_20) (u0_21 := u0_21) (u0_22 := u0_22) (u0_23 := u0_23) (u0_24 := u0_24) (u0_25 := u0_25) (u0_26 := u0_26) (u0_27 := u0_27) (u0_28 := u0_28) (u0_29 := u0_29) (u0_30 := u0_30) (u0_31 := u0_31) (u0_32 := u0_32) (u0_33 := u0_33) (u0_34 := u0_34) (u0_35 := u0_35) (u0_36 := u0_36) (u0_37 := u0_37) (u0_38 := u0_38) (u0_39 := u0_39) (u0_40 := u0_40) (v_people := v_people) (v_length := y11.2.2.1) (v_top := y11.2.2.2.1) (v_at := y11.2.2.2.2.1) (v_wrong := y11.2.2.2.2.2.1) (v_ruleSize := v_ruleSize) (v_isAsked := y11.2.2.2.2.2.2) (v_rule := v_rule) (v_asked := v_asked) (nw1_ := 37) (w1_ := v_now) (r := y31) e3) [0, 4, 6, 1] rfl rfl (fun _ => rfl) (fun _ => rfl) rfl rfl rfl rfl (Nat.le_of_ble_eq_true rfl) hl.1 (by rw [hRf]; exact Nat.le_of_ble_eq_true rfl) (by rw [hRl]; exact Nat.le_of_ble_eq_true rfl) ⟨Nat.zero_le _, Nat.zero_le _⟩ dX11_law_31 rfl (fun H locs rc4 hS => ?_)
    refine ct_S (ws' := fun _ => [oX11 q0 (.ref q1) (.int v_people) (.ref q2) (.int y11.2.1) (.ref q3) (.int v_rowMany) (.int (0 : Int32)) rc4 (.int y31.2.1) (.int y31.2.2.1) (.int y31.2.2.2.1) (.int y31.2.2.2.2.1) u0_12 (.ref q4) (.ref q5) (.int v_ruleSize) (.int y31.2.2.2.2.2.1) (.ref q6) u0_18 u0_19 u0_20 u0_21 u0_22 u0_23 u0_24 u0_25 u0_26 u0_27 u0_28 u0_29 u0_30 u0_31 u0_32 u0_33 u0_34 u0_35 u0_36 u0_37 u0_38 u0_39 u0_40, aI cy q1 37 v_now, aB cy q2 80 v_text, aJ cy q3 16 v_row, aB cy q4 40 v_rule, aB cy q5 40 v_otherRule, aI cy q6 7 y31.2.2.2.2.2.2]) (st' := [.int (J6_bitCount_0f7a4 y31.1)]) (rest := []) E hS slX11_204 (c_J6_bitCount_0f7a4 (l := l) (D := D) (cy := cy) (p0 := y31.1) (r := (J6_bitCount_0f7a4 y31.1)) rfl) [] rfl rfl (fun _ => rfl) (fun _ => rfl) rfl rfl (Nat.le_of_ble_eq_true rfl) hl.1 (by rw [hRf]; exact Nat.le_of_ble_eq_true rfl) (by rw [hRl]; exact Nat.le_of_ble_eq_true rfl) ⟨Nat.zero_le _, Nat.zero_le _⟩ dX11_law_34 rfl (fun H locs _ hS => ?_)
    refine lv_istore_n (lv' := [(2, .int (J6_bitCount_0f7a4 y31.1)), (1, .int v_typed), (0, .ref q0)]) hx hb dX11_law_37 rfl hl (by decide) rfl (fun ls hl => ?_)
    refine lv_aload_n hx hb dX11_law_38 rfl (lv_at hl 2 rfl) ?_
    refine r_get E frX11_24 hS 0 rfl rfl dX11_law_39 ?_
    refine lv_astore_n (lv' := [(3, .ref q4), (2, .int (J6_bitCount_0f7a4 y31.1)), (1, .int v_typed), (0, .ref q0)]) hx hb dX11_law_42 rfl hl (by decide) rfl (fun ls hl => ?_)
    refine lv_aload_n hx hb dX11_law_43 rfl (lv_at hl 3 rfl) ?_
    refine r_get E frX11_193 hS 0 rfl rfl dX11_law_44 ?_
    refine lv_istore (lv' := [(4, .int v_ruleSize), (3, .ref q4), (2, .int (J6_bitCount_0f7a4 y31.1)), (1, .int v_typed), (0, .ref q0)]) hx hb dX11_law_47 hl (by decide) rfl (fun ls hl => ?_)
    refine lv_aload_n hx hb dX11_law_49 rfl (lv_at hl 4 rfl) ?_
    refine lv_aload_n hx hb dX11_law_50 rfl (lv_at hl 4 rfl) ?_
    refine r_get E frX11_27 hS 0 rfl rfl dX11_law_51 ?_
    refine r_put (ws' := [oX11 q0 (.ref q1) (.int v_people) (.ref q2) (.int y11.2.1) (.ref q3) (.int v_rowMany) (.int (0 : Int32)) rc4 (.int y31.2.1) (.int y31.2.2.1) (.int y31.2.2.2.1) (.int y31.2.2.2.2.1) u0_12 (.ref q5) (.ref q5) (.int v_ruleSize) (.int y31.2.2.2.2.2.1) (.ref q6) u0_18 u0_19 u0_20 u0_21 u0_22 u0_23 u0_24 u0_25 u0_26 u0_27 u0_28 u0_29 u0_30 u0_31 u0_32 u0_33 u0_34 u0_35 u0_36 u0_37 u0_38 u0_39 u0_40, aI cy q1 37 v_now, aB cy q2 80 v_text, aJ cy q3 16 v_row, aB cy q4 40 v_rule, aB cy q5 40 v_otherRule, aI cy q6 7 y31.2.2.2.2.2.2]) E frX11_24 hS 0 rfl (Nat.le_of_ble_eq_true rfl) rfl rfl rfl rfl dX11_law_54 (fun H locs hS => ?_)
    refine lv_aload_n hx hb dX11_law_57 rfl (lv_at hl 4 rfl) ?_
    refine lv_iload_n hx hb dX11_law_58 rfl (lv_at hl 3 rfl) ?_
    refine r_put (ws' := [oX11 q0 (.ref q1) (.int v_people) (.ref q2) (.int y11.2.1) (.ref q3) (.int v_rowMany) (.int (0 : Int32)) rc4 (.int y31.2.1) (.int y31.2.2.1) (.int y31.2.2.2.1) (.int y31.2.2.2.2.1) u0_12 (.ref q5) (.ref q5) (.int v_typed) (.int y31.2.2.2.2.2.1) (.ref q6) u0_18 u0_19 u0_20 u0_21 u0_22 u0_23 u0_24 u0_25 u0_26 u0_27 u0_28 u0_29 u0_30 u0_31 u0_32 u0_33 u0_34 u0_35 u0_36 u0_37 u0_38 u0_39 u0_40, aI cy q1 37 v_now, aB cy q2 80 v_text, aJ cy q3 16 v_row, aB cy q4 40 v_rule, aB cy q5 40 v_otherRule, aI cy q6 7 y31.2.2.2.2.2.2]) E frX11_193 hS 0 rfl (Nat.le_of_ble_eq_true rfl) rfl rfl rfl rfl dX11_law_59 (fun H locs hS => ?_)
    refine lv_iconst (v := 0) hx hb dX11_law_62 (by decide) ?_
    refine lv_istore (lv' := [(5, .int (0 : Int32)), (4, .int v_ruleSize), (3, .ref q4), (2, .int (J6_bitCount_0f7a4 y31.1)), (1, .int v_typed), (0, .ref q0)]) hx hb dX11_law_63 hl (by decide) rfl (fun ls hl => ?_)
    have hL65 : ∀ (n : Nat) (x65_0 : Int32) (x65_1 : Nat → Int32) (y65 : (Nat → Int32)) (H : Heap) (locs : List Loc) (ls : Array Slot), lp (fun x65 => X11_law_s65 v_typed v_text x65.1 x65.2) n (x65_0, x65_1) = some y65 → Sv D A s.heap [oX11 q0 (.ref q1) (.int v_people) (.ref q2) (.int y11.2.1) (.ref q3) (.int v_rowMany) (.int (0 : Int32)) rc4 (.int y31.2.1) (.int y31.2.2.1) (.int y31.2.2.2.1) (.int y31.2.2.2.2.1) u0_12 (.ref q5) (.ref q5) (.int v_typed) (.int y31.2.2.2.2.2.1) (.ref q6) u0_18 u0_19 u0_20 u0_21 u0_22 u0_23 u0_24 u0_25 u0_26 u0_27 u0_28 u0_29 u0_30 u0_31 u0_32 u0_33 u0_34 u0_35 u0_36 u0_37 u0_38 u0_39 u0_40, aI cy q1 37 v_now, aB cy q2 80 v_text, aJ cy q3 16 v_row, aB cy q4 40 v_rule, aB cy q5 40 x65_1, aI cy q6 7 y31.2.2.2.2.2.2] H locs → lv_has ls 7 [(0, .ref q0), (1, .int v_typed), (2, .int (J6_bitCount_0f7a4 y31.1)), (3, .ref q4), (4, .int v_ruleSize), (5, .int x65_0)] → ( ∀ (y65_0 : Nat → Int32), y65_0 = y65 → ∀ (H : Heap) (locs : List Loc) (ls : Array Slot), Sv D A s.heap [oX11 q0 (.ref q1) (.int v_people) (.ref q2) (.int y11.2.1) (.ref q3) (.int v_rowMany) (.int (0 : Int32)) rc4 (.int y31.2.1) (.int y31.2.2.1) (.int y31.2.2.2.1) (.int y31.2.2.2.2.1) u0_12 (.ref q5) (.ref q5) (.int v_typed) (.int y31.2.2.2.2.2.1) (.ref q6) u0_18 u0_19 u0_20 u0_21 u0_22 u0_23 u0_24 u0_25 u0_26 u0_27 u0_28 u0_29 u0_30 u0_31 u0_32 u0_33 u0_34 u0_35 u0_36 u0_37 u0_38 u0_39 u0_40, aI cy q1 37 v_now, aB cy q2 80 v_text, aJ cy q3 16 v_row, aB cy q4 40 v_rule, aB cy q5 40 y65_0, aI cy q6 7 y31.2.2.2.2.2.2] H locs → lv_has ls 7 [(0, .ref q0), (2, .int (J6_bitCount_0f7a4 y31.1)), (3, .ref q4), (4, .int v_ruleSize)] → W p l e R s m args below meth c H locs 0 0 Q (F0 m 91 ls [])) → W p l e R s m args below meth c H locs 0 0 Q (F0 m 65 ls []) := by
      intro n
      induction n with
      | zero =>
        intro x65_0 x65_1 y65 H locs ls h
        exact lp_zero h
      | succ n ih65 =>
        intro x65_0 x65_1 y65 H locs ls h hS hl hk65_0
        obtain ⟨z65, h, hz65a, hz65b⟩ := lp_succ h
        have h : X11_law_s65 v_typed v_text x65_0 x65_1 = some z65 := h
        unfold X11_law_s65 at h
        refine lv_iload hx hb dX11_law_65 (lv_at hl 5 rfl) ?_
        refine lv_iload_n hx hb dX11_law_67 rfl (lv_at hl 1 rfl) ?_
        refine lv_icmp_ge (tgt := 91) hx hb dX11_law_68 (by decide) (fun c5 => ?_) (fun c5 => ?_)
        · have h := it_pos c5 h
          exact hk65_0 x65_1 (hz65b _ (Option.some.inj h).symm)  H locs ls hS (lv_sub hl [0, 2, 3, 4] rfl)
        · have h := it_neg c5 h
          refine lv_aload_n hx hb dX11_law_71 rfl (lv_at hl 0 rfl) ?_
          refine r_get E frX11_24 hS 0 rfl rfl dX11_law_72 ?_
          refine lv_iload hx hb dX11_law_75 (lv_at hl 5 rfl) ?_
          refine lv_aload_n hx hb dX11_law_77 rfl (lv_at hl 0 rfl) ?_
          refine r_get E frX11_13 hS 0 rfl rfl dX11_law_78 ?_
          refine lv_iload hx hb dX11_law_81 (lv_at hl 5 rfl) ?_
          obtain ⟨g6, h⟩ := gi_some h
          refine r_bald E hS 2 rfl g6 dX11_law_83 ?_
          obtain ⟨g7, h⟩ := gi_some h
          refine r_bast (ws' := [oX11 q0 (.ref q1) (.int v_people) (.ref q2) (.int y11.2.1) (.ref q3) (.int v_rowMany) (.int (0 : Int32)) rc4 (.int y31.2.1) (.int y31.2.2.1) (.int y31.2.2.2.1) (.int y31.2.2.2.2.1) u0_12 (.ref q5) (.ref q5) (.int v_typed) (.int y31.2.2.2.2.2.1) (.ref q6) u0_18 u0_19 u0_20 u0_21 u0_22 u0_23 u0_24 u0_25 u0_26 u0_27 u0_28 u0_29 u0_30 u0_31 u0_32 u0_33 u0_34 u0_35 u0_36 u0_37 u0_38 u0_39 u0_40, aI cy q1 37 v_now, aB cy q2 80 v_text, aJ cy q3 16 v_row, aB cy q4 40 v_rule, aB cy q5 40 (upd x65_1 x65_0.toNatClampNeg (vp_nar .byte (v_text x65_0.toNatClampNeg))), aI cy q6 7 y31.2.2.2.2.2.2]) E hS 5 rfl g7 rfl dX11_law_84 (fun H locs hS => ?_)
          refine lv_iinc (v := (x65_0 + (1 : Int32))) (lv' := [(5, .int (x65_0 + (1 : Int32))), (0, .ref q0), (1, .int v_typed), (2, .int (J6_bitCount_0f7a4 y31.1)), (3, .ref q4), (4, .int v_ruleSize)]) hx hb dX11_law_85 hl (k := 5) rfl rfl (by decide) rfl (fun ls hl => ?_)
          refine lv_goto (tgt := 65) hx hb dX11_law_88 (by decide) ?_
          exact ih65 (x65_0 + (1 : Int32)) (upd x65_1 x65_0.toNatClampNeg (vp_nar .byte (v_text x65_0.toNatClampNeg))) y65  H locs ls (hz65a _ (Option.some.inj h).symm) hS (lv_sub hl [1, 2, 3, 4, 5, 0] rfl) hk65_0
    obtain ⟨y65, e65, h⟩ := bd_some h
    refine hL65 1000 (0 : Int32) v_otherRule y65  H locs ls e65 hS (lv_sub hl [5, 4, 3, 2, 1, 0] rfl) (fun y65_0 ey65 H locs ls hS hl => ?_)
    subst ey65
    refine lv_aload_n hx hb dX11_law_91 rfl (lv_at hl 0 rfl) ?_
    refine lv_aload_n hx hb dX11_law_92 rfl (lv_at hl 0 rfl) ?_
    refine r_get E frX11_9 hS 0 rfl rfl dX11_law_93 ?_
    obtain ⟨y96, e8, h⟩ := bd_some h
    refine ct_V (ws' := fun rc9 => [oX11 q0 (.ref q1) (.int v_people) (.ref q2) (.int y11.2.1) (.ref q3) (.int v_rowMany) (.int (0 : Int32)) rc9 (.int y96.2.1) (.int y96.2.2.1) (.int y96.2.2.2.1) (.int y96.2.2.2.2.1) u0_12 (.ref q5) (.ref q5) (.int v_typed) (.int y96.2.2.2.2.2.1) (.ref q6) u0_18 u0_19 u0_20 u0_21 u0_22 u0_23 u0_24 u0_25 u0_26 u0_27 u0_28 u0_29 u0_30 u0_31 u0_32 u0_33 u0_34 u0_35 u0_36 u0_37 u0_38 u0_39 u0_40, aI cy q1 37 v_now, aB cy q2 80 v_text, aJ cy q3 16 v_row, aB cy q4 40 v_rule, aB cy q5 40 y65_0, aI cy q6 7 y96.2.2.2.2.2.2]) (st' := [.int y96.1]) (rest := []) E hS vlX11_239 (c_X11_awake (l := l) (D := D) (cy := cy) (q0 := q0) (q1 := q5) (q2 := q6) (q3 := q1) (u0_0 := .ref q1) (u0_2 := .ref q2) (u0_3 := .int y11.2.1) (u0_4 := .ref q3) (u0_5 := .int v_rowMany) (u0_6 := .int (0 : Int32)) (u0_7 := rc4) (u0_12 := u0_12) (u0_14 := .ref q5) (u0_18 := u0_18) (u0_19 := u0_19) (u0_20 := u0_20) (u0_21 := u0_21) (u0_22 := u0_22) (u0_23 := u0_23) (u0_24 := u0_24) (u0_25 := u0_25) (u0_26 := u0_26) (u0_27 := u0_27) (u0_28 := u0_28) (u0_29 := u0_29) (u0_30 := u0_30) (u0_31 := u0_31) (u0_32 := u0_32) (u0_33 := u0_33) (u0_34 := u0_34) (u0_35 := u0_35) (u0_36 := u0_36) (u0_37 := u0_37) (u0_38 := u0_38) (u0_39 := u0_39) (u0_40 := u0_40) (v_people := v_people) (v_length := y31.2.1) (v_top := y31.2.2.1) (v_at := y31.2.2.2.1) (v_wrong := y31.2.2.2.2.1) (v_ruleSize := v_typed) (v_isAsked := y31.2.2.2.2.2.1) (v_rule := y65_0) (v_asked := y31.2.2.2.2.2.2) (nw1_ := 37) (w1_ := v_now) (r := y96) e8) [0, 5, 6, 1] rfl rfl (fun _ => rfl) (fun _ => rfl) rfl rfl rfl rfl (Nat.le_of_ble_eq_true rfl) hl.1 (by rw [hRf]; exact Nat.le_of_ble_eq_true rfl) (by rw [hRl]; exact Nat.le_of_ble_eq_true rfl) ⟨Nat.zero_le _, Nat.zero_le _⟩ dX11_law_96 rfl (fun H locs rc9 hS => ?_)
    refine ct_S (ws' := fun _ => [oX11 q0 (.ref q1) (.int v_people) (.ref q2) (.int y11.2.1) (.ref q3) (.int v_rowMany) (.int (0 : Int32)) rc9 (.int y96.2.1) (.int y96.2.2.1) (.int y96.2.2.2.1) (.int y96.2.2.2.2.1) u0_12 (.ref q5) (.ref q5) (.int v_typed) (.int y96.2.2.2.2.2.1) (.ref q6) u0_18 u0_19 u0_20 u0_21 u0_22 u0_23 u0_24 u0_25 u0_26 u0_27 u0_28 u0_29 u0_30 u0_31 u0_32 u0_33 u0_34 u0_35 u0_36 u0_37 u0_38 u0_39 u0_40, aI cy q1 37 v_now, aB cy q2 80 v_text, aJ cy q3 16 v_row, aB cy q4 40 v_rule, aB cy q5 40 y65_0, aI cy q6 7 y96.2.2.2.2.2.2]) (st' := [.int (J6_bitCount_0f7a4 y96.1)]) (rest := []) E hS slX11_204 (c_J6_bitCount_0f7a4 (l := l) (D := D) (cy := cy) (p0 := y96.1) (r := (J6_bitCount_0f7a4 y96.1)) rfl) [] rfl rfl (fun _ => rfl) (fun _ => rfl) rfl rfl (Nat.le_of_ble_eq_true rfl) hl.1 (by rw [hRf]; exact Nat.le_of_ble_eq_true rfl) (by rw [hRl]; exact Nat.le_of_ble_eq_true rfl) ⟨Nat.zero_le _, Nat.zero_le _⟩ dX11_law_99 rfl (fun H locs _ hS => ?_)
    refine lv_istore (lv' := [(5, .int (J6_bitCount_0f7a4 y96.1)), (0, .ref q0), (2, .int (J6_bitCount_0f7a4 y31.1)), (3, .ref q4), (4, .int v_ruleSize)]) hx hb dX11_law_102 hl (by decide) rfl (fun ls hl => ?_)
    refine lv_aload_n hx hb dX11_law_104 rfl (lv_at hl 1 rfl) ?_
    refine lv_iconst (v := 0) hx hb dX11_law_105 (by decide) ?_
    refine r_put (ws' := [oX11 q0 (.ref q1) (.int v_people) (.ref q2) (.int y11.2.1) (.ref q3) (.int (0 : Int32)) (.int (0 : Int32)) rc9 (.int y96.2.1) (.int y96.2.2.1) (.int y96.2.2.2.1) (.int y96.2.2.2.2.1) u0_12 (.ref q5) (.ref q5) (.int v_typed) (.int y96.2.2.2.2.2.1) (.ref q6) u0_18 u0_19 u0_20 u0_21 u0_22 u0_23 u0_24 u0_25 u0_26 u0_27 u0_28 u0_29 u0_30 u0_31 u0_32 u0_33 u0_34 u0_35 u0_36 u0_37 u0_38 u0_39 u0_40, aI cy q1 37 v_now, aB cy q2 80 v_text, aJ cy q3 16 v_row, aB cy q4 40 v_rule, aB cy q5 40 y65_0, aI cy q6 7 y96.2.2.2.2.2.2]) E frX11_89 hS 0 rfl (Nat.le_of_ble_eq_true rfl) rfl rfl rfl rfl dX11_law_106 (fun H locs hS => ?_)
    refine lv_aload_n hx hb dX11_law_109 rfl (lv_at hl 1 rfl) ?_
    refine lv_iload hx hb dX11_law_110 (lv_at hl 0 rfl) ?_
    refine lv_i2l (v := ((J6_bitCount_0f7a4 y96.1).toInt64)) hx hb dX11_law_112 rfl ?_
    obtain ⟨y113, e10, h⟩ := bd_some h
    refine ct_V (ws' := fun _ => [oX11 q0 (.ref q1) (.int v_people) (.ref q2) (.int y11.2.1) (.ref q3) (.int y113.1) (.int (0 : Int32)) rc9 (.int y96.2.1) (.int y96.2.2.1) (.int y96.2.2.2.1) (.int y96.2.2.2.2.1) u0_12 (.ref q5) (.ref q5) (.int v_typed) (.int y96.2.2.2.2.2.1) (.ref q6) u0_18 u0_19 u0_20 u0_21 u0_22 u0_23 u0_24 u0_25 u0_26 u0_27 u0_28 u0_29 u0_30 u0_31 u0_32 u0_33 u0_34 u0_35 u0_36 u0_37 u0_38 u0_39 u0_40, aI cy q1 37 v_now, aB cy q2 80 v_text, aJ cy q3 16 y113.2, aB cy q4 40 v_rule, aB cy q5 40 y65_0, aI cy q6 7 y96.2.2.2.2.2.2]) (st' := []) (rest := []) E hS vlX11_256 (c_X11_tell (l := l) (D := D) (cy := cy) (q0 := q0) (q1 := q3) (u0_0 := .ref q1) (u0_1 := .int v_people) (u0_2 := .ref q2) (u0_3 := .int y11.2.1) (u0_6 := .int (0 : Int32)) (u0_7 := rc9) (u0_8 := .int y96.2.1) (u0_9 := .int y96.2.2.1) (u0_10 := .int y96.2.2.2.1) (u0_11 := .int y96.2.2.2.2.1) (u0_12 := u0_12) (u0_13 := .ref q5) (u0_14 := .ref q5) (u0_15 := .int v_typed) (u0_16 := .int y96.2.2.2.2.2.1) (u0_17 := .ref q6) (u0_18 := u0_18) (u0_19 := u0_19) (u0_20 := u0_20) (u0_21 := u0_21) (u0_22 := u0_22) (u0_23 := u0_23) (u0_24 := u0_24) (u0_25 := u0_25) (u0_26 := u0_26) (u0_27 := u0_27) (u0_28 := u0_28) (u0_29 := u0_29) (u0_30 := u0_30) (u0_31 := u0_31) (u0_32 := u0_32) (u0_33 := u0_33) (u0_34 := u0_34) (u0_35 := u0_35) (u0_36 := u0_36) (u0_37 := u0_37) (u0_38 := u0_38) (u0_39 := u0_39) (u0_40 := u0_40) (v_rowMany := (0 : Int32)) (v_row := v_row) (p1 := ((J6_bitCount_0f7a4 y96.1).toInt64)) (r := y113) e10) [0, 3] rfl rfl (fun _ => rfl) (fun _ => rfl) rfl rfl rfl rfl (Nat.le_of_ble_eq_true rfl) hl.1 (by rw [hRf]; exact Nat.le_of_ble_eq_true rfl) (by rw [hRl]; exact Nat.le_of_ble_eq_true rfl) ⟨Nat.zero_le _, Nat.zero_le _⟩ dX11_law_113 rfl (fun H locs _ hS => ?_)
    refine lv_aload_n hx hb dX11_law_116 rfl (lv_at hl 1 rfl) ?_
    refine lv_iload_n hx hb dX11_law_117 rfl (lv_at hl 2 rfl) ?_
    refine lv_i2l (v := ((J6_bitCount_0f7a4 y31.1).toInt64)) hx hb dX11_law_118 rfl ?_
    obtain ⟨y119, e11, h⟩ := bd_some h
    refine ct_V (ws' := fun _ => [oX11 q0 (.ref q1) (.int v_people) (.ref q2) (.int y11.2.1) (.ref q3) (.int y119.1) (.int (0 : Int32)) rc9 (.int y96.2.1) (.int y96.2.2.1) (.int y96.2.2.2.1) (.int y96.2.2.2.2.1) u0_12 (.ref q5) (.ref q5) (.int v_typed) (.int y96.2.2.2.2.2.1) (.ref q6) u0_18 u0_19 u0_20 u0_21 u0_22 u0_23 u0_24 u0_25 u0_26 u0_27 u0_28 u0_29 u0_30 u0_31 u0_32 u0_33 u0_34 u0_35 u0_36 u0_37 u0_38 u0_39 u0_40, aI cy q1 37 v_now, aB cy q2 80 v_text, aJ cy q3 16 y119.2, aB cy q4 40 v_rule, aB cy q5 40 y65_0, aI cy q6 7 y96.2.2.2.2.2.2]) (st' := []) (rest := []) E hS vlX11_256 (c_X11_tell (l := l) (D := D) (cy := cy) (q0 := q0) (q1 := q3) (u0_0 := .ref q1) (u0_1 := .int v_people) (u0_2 := .ref q2) (u0_3 := .int y11.2.1) (u0_6 := .int (0 : Int32)) (u0_7 := rc9) (u0_8 := .int y96.2.1) (u0_9 := .int y96.2.2.1) (u0_10 := .int y96.2.2.2.1) (u0_11 := .int y96.2.2.2.2.1) (u0_12 := u0_12) (u0_13 := .ref q5) (u0_14 := .ref q5) (u0_15 := .int v_typed) (u0_16 := .int y96.2.2.2.2.2.1) (u0_17 := .ref q6) (u0_18 := u0_18) (u0_19 := u0_19) (u0_20 := u0_20) (u0_21 := u0_21) (u0_22 := u0_22) (u0_23 := u0_23) (u0_24 := u0_24) (u0_25 := u0_25) (u0_26 := u0_26) (u0_27 := u0_27) (u0_28 := u0_28) (u0_29 := u0_29) (u0_30 := u0_30) (u0_31 := u0_31) (u0_32 := u0_32) (u0_33 := u0_33) (u0_34 := u0_34) (u0_35 := u0_35) (u0_36 := u0_36) (u0_37 := u0_37) (u0_38 := u0_38) (u0_39 := u0_39) (u0_40 := u0_40) (v_rowMany := y113.1) (v_row := y113.2) (p1 := ((J6_bitCount_0f7a4 y31.1).toInt64)) (r := y119) e11) [0, 3] rfl rfl (fun _ => rfl) (fun _ => rfl) rfl rfl rfl rfl (Nat.le_of_ble_eq_true rfl) hl.1 (by rw [hRf]; exact Nat.le_of_ble_eq_true rfl) (by rw [hRl]; exact Nat.le_of_ble_eq_true rfl) ⟨Nat.zero_le _, Nat.zero_le _⟩ dX11_law_119 rfl (fun H locs _ hS => ?_)
    refine lv_iconst (v := 0) hx hb dX11_law_122 (by decide) ?_
    refine lv_istore (lv' := [(6, .int (0 : Int32)), (5, .int (J6_bitCount_0f7a4 y96.1)), (0, .ref q0), (2, .int (J6_bitCount_0f7a4 y31.1)), (3, .ref q4), (4, .int v_ruleSize)]) hx hb dX11_law_123 hl (by decide) rfl (fun ls hl => ?_)
    have hL125 : ∀ (n : Nat) (x125_0 : Int32) (x125_1 : Int32) (x125_2 : Int32) (x125_3 : Int32) (x125_4 : Int32) (x125_5 : Int32) (x125_6 : Int32) (x125_7 : Nat → Int64) (x125_8 : Nat → Int32) (y125 : Int32 × Int32 × Int32 × Int32 × Int32 × Int32 × (Nat → Int64) × (Nat → Int32)) (rv125_0 : Value) (H : Heap) (locs : List Loc) (ls : Array Slot), lp (fun x125 => X11_law_s125 v_people v_typed v_now y65_0 x125.1 x125.2.1 x125.2.2.1 x125.2.2.2.1 x125.2.2.2.2.1 x125.2.2.2.2.2.1 x125.2.2.2.2.2.2.1 x125.2.2.2.2.2.2.2.1 x125.2.2.2.2.2.2.2.2) n (x125_0, x125_1, x125_2, x125_3, x125_4, x125_5, x125_6, x125_7, x125_8) = some y125 → Sv D A s.heap [oX11 q0 (.ref q1) (.int v_people) (.ref q2) (.int y11.2.1) (.ref q3) (.int x125_1) (.int (0 : Int32)) rv125_0 (.int x125_2) (.int x125_3) (.int x125_4) (.int x125_5) u0_12 (.ref q5) (.ref q5) (.int v_typed) (.int x125_6) (.ref q6) u0_18 u0_19 u0_20 u0_21 u0_22 u0_23 u0_24 u0_25 u0_26 u0_27 u0_28 u0_29 u0_30 u0_31 u0_32 u0_33 u0_34 u0_35 u0_36 u0_37 u0_38 u0_39 u0_40, aI cy q1 37 v_now, aB cy q2 80 v_text, aJ cy q3 16 x125_7, aB cy q4 40 v_rule, aB cy q5 40 y65_0, aI cy q6 7 x125_8] H locs → lv_has ls 7 [(0, .ref q0), (2, .int (J6_bitCount_0f7a4 y31.1)), (3, .ref q4), (4, .int v_ruleSize), (5, .int (J6_bitCount_0f7a4 y96.1)), (6, .int x125_0)] → ( ∀ (y125_0 : Int32) (y125_1 : Int32) (y125_2 : Int32) (y125_3 : Int32) (y125_4 : Int32) (y125_5 : Int32) (y125_6 : Nat → Int64) (y125_7 : Nat → Int32), (y125_0, y125_1, y125_2, y125_3, y125_4, y125_5, y125_6, y125_7) = y125 → ∀ (rv125_0 : Value), ∀ (H : Heap) (locs : List Loc) (ls : Array Slot), Sv D A s.heap [oX11 q0 (.ref q1) (.int v_people) (.ref q2) (.int y11.2.1) (.ref q3) (.int y125_0) (.int (0 : Int32)) rv125_0 (.int y125_1) (.int y125_2) (.int y125_3) (.int y125_4) u0_12 (.ref q5) (.ref q5) (.int v_typed) (.int y125_5) (.ref q6) u0_18 u0_19 u0_20 u0_21 u0_22 u0_23 u0_24 u0_25 u0_26 u0_27 u0_28 u0_29 u0_30 u0_31 u0_32 u0_33 u0_34 u0_35 u0_36 u0_37 u0_38 u0_39 u0_40, aI cy q1 37 v_now, aB cy q2 80 v_text, aJ cy q3 16 y125_6, aB cy q4 40 v_rule, aB cy q5 40 y65_0, aI cy q6 7 y125_7] H locs → lv_has ls 7 [(0, .ref q0), (2, .int (J6_bitCount_0f7a4 y31.1)), (3, .ref q4), (4, .int v_ruleSize), (5, .int (J6_bitCount_0f7a4 y96.1))] → W p l e R s m args below meth c H locs 0 0 Q (F0 m 155 ls [])) → W p l e R s m args below meth c H locs 0 0 Q (F0 m 125 ls []) := by
      intro n
      induction n with
      | zero =>
        intro x125_0 x125_1 x125_2 x125_3 x125_4 x125_5 x125_6 x125_7 x125_8 y125 rv125_0 H locs ls h
        exact lp_zero h
      | succ n ih125 =>
        intro x125_0 x125_1 x125_2 x125_3 x125_4 x125_5 x125_6 x125_7 x125_8 y125 rv125_0 H locs ls h hS hl hk125_0
        obtain ⟨z125, h, hz125a, hz125b⟩ := lp_succ h
        have h : X11_law_s125 v_people v_typed v_now y65_0 x125_0 x125_1 x125_2 x125_3 x125_4 x125_5 x125_6 x125_7 x125_8 = some z125 := h
        unfold X11_law_s125 at h
        refine lv_iload hx hb dX11_law_125 (lv_at hl 5 rfl) ?_
        refine lv_aload_n hx hb dX11_law_127 rfl (lv_at hl 0 rfl) ?_
        refine r_get E frX11_92 hS 0 rfl rfl dX11_law_128 ?_
        refine lv_icmp_ge (tgt := 155) hx hb dX11_law_131 (by decide) (fun c12 => ?_) (fun c12 => ?_)
        · have h := it_pos c12 h
          exact hk125_0 x125_1 x125_2 x125_3 x125_4 x125_5 x125_6 x125_7 x125_8 (hz125b _ (Option.some.inj h).symm) rv125_0 H locs ls hS (lv_sub hl [0, 1, 2, 3, 4] rfl)
        · have h := it_neg c12 h
          refine lv_aload_n hx hb dX11_law_134 rfl (lv_at hl 0 rfl) ?_
          refine lv_aload_n hx hb dX11_law_135 rfl (lv_at hl 0 rfl) ?_
          refine lv_aload_n hx hb dX11_law_136 rfl (lv_at hl 0 rfl) ?_
          refine r_get E frX11_9 hS 0 rfl rfl dX11_law_137 ?_
          refine lv_iload hx hb dX11_law_140 (lv_at hl 5 rfl) ?_
          obtain ⟨y142, e13, h⟩ := bd_some h
          refine ct_V (ws' := fun rc14 => [oX11 q0 (.ref q1) (.int v_people) (.ref q2) (.int y11.2.1) (.ref q3) (.int x125_1) (.int (0 : Int32)) rc14 (.int y142.2.1) (.int y142.2.2.1) (.int y142.2.2.2.1) (.int y142.2.2.2.2.1) u0_12 (.ref q5) (.ref q5) (.int v_typed) (.int y142.2.2.2.2.2.1) (.ref q6) u0_18 u0_19 u0_20 u0_21 u0_22 u0_23 u0_24 u0_25 u0_26 u0_27 u0_28 u0_29 u0_30 u0_31 u0_32 u0_33 u0_34 u0_35 u0_36 u0_37 u0_38 u0_39 u0_40, aI cy q1 37 v_now, aB cy q2 80 v_text, aJ cy q3 16 x125_7, aB cy q4 40 v_rule, aB cy q5 40 y65_0, aI cy q6 7 y142.2.2.2.2.2.2]) (st' := [.int y142.1, .ref q0]) (rest := [.ref q0]) E hS vlX11_213 (c_X11_neededBy (l := l) (D := D) (cy := cy) (q0 := q0) (q1 := q5) (q2 := q6) (q3 := q1) (u0_0 := .ref q1) (u0_2 := .ref q2) (u0_3 := .int y11.2.1) (u0_4 := .ref q3) (u0_5 := .int x125_1) (u0_6 := .int (0 : Int32)) (u0_7 := rv125_0) (u0_12 := u0_12) (u0_14 := .ref q5) (u0_18 := u0_18) (u0_19 := u0_19) (u0_20 := u0_20) (u0_21 := u0_21) (u0_22 := u0_22) (u0_23 := u0_23) (u0_24 := u0_24) (u0_25 := u0_25) (u0_26 := u0_26) (u0_27 := u0_27) (u0_28 := u0_28) (u0_29 := u0_29) (u0_30 := u0_30) (u0_31 := u0_31) (u0_32 := u0_32) (u0_33 := u0_33) (u0_34 := u0_34) (u0_35 := u0_35) (u0_36 := u0_36) (u0_37 := u0_37) (u0_38 := u0_38) (u0_39 := u0_39) (u0_40 := u0_40) (v_people := v_people) (v_length := x125_2) (v_top := x125_3) (v_at := x125_4) (v_wrong := x125_5) (v_ruleSize := v_typed) (v_isAsked := x125_6) (v_rule := y65_0) (v_asked := x125_8) (nw1_ := 37) (w1_ := v_now) (p2 := x125_0) (r := y142) e13) [0, 5, 6, 1] rfl rfl (fun _ => rfl) (fun _ => rfl) rfl rfl rfl rfl (Nat.le_of_ble_eq_true rfl) hl.1 (by rw [hRf]; exact Nat.le_of_ble_eq_true rfl) (by rw [hRl]; exact Nat.le_of_ble_eq_true rfl) ⟨Nat.zero_le _, Nat.zero_le _⟩ dX11_law_142 rfl (fun H locs rc14 hS => ?_)
          refine lv_i2l (v := (y142.1.toInt64)) hx hb dX11_law_145 rfl ?_
          obtain ⟨y146, e15, h⟩ := bd_some h
          refine ct_V (ws' := fun _ => [oX11 q0 (.ref q1) (.int v_people) (.ref q2) (.int y11.2.1) (.ref q3) (.int y146.1) (.int (0 : Int32)) rc14 (.int y142.2.1) (.int y142.2.2.1) (.int y142.2.2.2.1) (.int y142.2.2.2.2.1) u0_12 (.ref q5) (.ref q5) (.int v_typed) (.int y142.2.2.2.2.2.1) (.ref q6) u0_18 u0_19 u0_20 u0_21 u0_22 u0_23 u0_24 u0_25 u0_26 u0_27 u0_28 u0_29 u0_30 u0_31 u0_32 u0_33 u0_34 u0_35 u0_36 u0_37 u0_38 u0_39 u0_40, aI cy q1 37 v_now, aB cy q2 80 v_text, aJ cy q3 16 y146.2, aB cy q4 40 v_rule, aB cy q5 40 y65_0, aI cy q6 7 y142.2.2.2.2.2.2]) (st' := []) (rest := []) E hS vlX11_256 (c_X11_tell (l := l) (D := D) (cy := cy) (q0 := q0) (q1 := q3) (u0_0 := .ref q1) (u0_1 := .int v_people) (u0_2 := .ref q2) (u0_3 := .int y11.2.1) (u0_6 := .int (0 : Int32)) (u0_7 := rc14) (u0_8 := .int y142.2.1) (u0_9 := .int y142.2.2.1) (u0_10 := .int y142.2.2.2.1) (u0_11 := .int y142.2.2.2.2.1) (u0_12 := u0_12) (u0_13 := .ref q5) (u0_14 := .ref q5) (u0_15 := .int v_typed) (u0_16 := .int y142.2.2.2.2.2.1) (u0_17 := .ref q6) (u0_18 := u0_18) (u0_19 := u0_19) (u0_20 := u0_20) (u0_21 := u0_21) (u0_22 := u0_22) (u0_23 := u0_23) (u0_24 := u0_24) (u0_25 := u0_25) (u0_26 := u0_26) (u0_27 := u0_27) (u0_28 := u0_28) (u0_29 := u0_29) (u0_30 := u0_30) (u0_31 := u0_31) (u0_32 := u0_32) (u0_33 := u0_33) (u0_34 := u0_34) (u0_35 := u0_35) (u0_36 := u0_36) (u0_37 := u0_37) (u0_38 := u0_38) (u0_39 := u0_39) (u0_40 := u0_40) (v_rowMany := x125_1) (v_row := x125_7) (p1 := (y142.1.toInt64)) (r := y146) e15) [0, 3] rfl rfl (fun _ => rfl) (fun _ => rfl) rfl rfl rfl rfl (Nat.le_of_ble_eq_true rfl) hl.1 (by rw [hRf]; exact Nat.le_of_ble_eq_true rfl) (by rw [hRl]; exact Nat.le_of_ble_eq_true rfl) ⟨Nat.zero_le _, Nat.zero_le _⟩ dX11_law_146 rfl (fun H locs _ hS => ?_)
          refine lv_iinc (v := (x125_0 + (1 : Int32))) (lv' := [(6, .int (x125_0 + (1 : Int32))), (0, .ref q0), (2, .int (J6_bitCount_0f7a4 y31.1)), (3, .ref q4), (4, .int v_ruleSize), (5, .int (J6_bitCount_0f7a4 y96.1))]) hx hb dX11_law_149 hl (k := 5) rfl rfl (by decide) rfl (fun ls hl => ?_)
          refine lv_goto (tgt := 125) hx hb dX11_law_152 (by decide) ?_
          exact ih125 (x125_0 + (1 : Int32)) y146.1 y142.2.1 y142.2.2.1 y142.2.2.2.1 y142.2.2.2.2.1 y142.2.2.2.2.2.1 y146.2 y142.2.2.2.2.2.2 y125 rc14 H locs ls (hz125a _ (Option.some.inj h).symm) hS (lv_sub hl [1, 2, 3, 4, 5, 0] rfl) hk125_0
    obtain ⟨y125, e125, h⟩ := bd_some h
    refine hL125 1000 (0 : Int32) y119.1 y96.2.1 y96.2.2.1 y96.2.2.2.1 y96.2.2.2.2.1 y96.2.2.2.2.2.1 y119.2 y96.2.2.2.2.2.2 y125 rc9 H locs ls e125 hS (lv_sub hl [2, 3, 4, 5, 1, 0] rfl) (fun y125_0 y125_1 y125_2 y125_3 y125_4 y125_5 y125_6 y125_7 ey125 rw125_0 H locs ls hS hl => ?_)
    subst ey125
    have h := un_r h
    have h := un_r h
    have h := un_r h
    have h := un_r h
    have h := un_r h
    have h := un_r h
    have h := un_r h
    refine lv_aload_n hx hb dX11_law_155 rfl (lv_at hl 0 rfl) ?_
    refine lv_aload_n hx hb dX11_law_156 rfl (lv_at hl 2 rfl) ?_
    refine r_put (ws' := [oX11 q0 (.ref q1) (.int v_people) (.ref q2) (.int y11.2.1) (.ref q3) (.int y125_0) (.int (0 : Int32)) rw125_0 (.int y125_1) (.int y125_2) (.int y125_3) (.int y125_4) u0_12 (.ref q4) (.ref q5) (.int v_typed) (.int y125_5) (.ref q6) u0_18 u0_19 u0_20 u0_21 u0_22 u0_23 u0_24 u0_25 u0_26 u0_27 u0_28 u0_29 u0_30 u0_31 u0_32 u0_33 u0_34 u0_35 u0_36 u0_37 u0_38 u0_39 u0_40, aI cy q1 37 v_now, aB cy q2 80 v_text, aJ cy q3 16 y125_6, aB cy q4 40 v_rule, aB cy q5 40 y65_0, aI cy q6 7 y125_7]) E frX11_24 hS 0 rfl (Nat.le_of_ble_eq_true rfl) rfl rfl rfl rfl dX11_law_157 (fun H locs hS => ?_)
    refine lv_aload_n hx hb dX11_law_160 rfl (lv_at hl 0 rfl) ?_
    refine lv_iload hx hb dX11_law_161 (lv_at hl 3 rfl) ?_
    refine r_put (ws' := [oX11 q0 (.ref q1) (.int v_people) (.ref q2) (.int y11.2.1) (.ref q3) (.int y125_0) (.int (0 : Int32)) rw125_0 (.int y125_1) (.int y125_2) (.int y125_3) (.int y125_4) u0_12 (.ref q4) (.ref q5) (.int v_ruleSize) (.int y125_5) (.ref q6) u0_18 u0_19 u0_20 u0_21 u0_22 u0_23 u0_24 u0_25 u0_26 u0_27 u0_28 u0_29 u0_30 u0_31 u0_32 u0_33 u0_34 u0_35 u0_36 u0_37 u0_38 u0_39 u0_40, aI cy q1 37 v_now, aB cy q2 80 v_text, aJ cy q3 16 y125_6, aB cy q4 40 v_rule, aB cy q5 40 y65_0, aI cy q6 7 y125_7]) E frX11_193 hS 0 rfl (Nat.le_of_ble_eq_true rfl) rfl rfl rfl rfl dX11_law_163 (fun H locs hS => ?_)
    refine lv_iload hx hb dX11_law_166 (lv_at hl 4 rfl) ?_
    refine lv_iload_n hx hb dX11_law_168 rfl (lv_at hl 1 rfl) ?_
    refine lv_isub hx hb dX11_law_169 ?_
    obtain rfl := Option.some.inj h
    exact rt_i E hQ (rw125_0) hS dX11_law_170
  · have h := it_pos c2 h
    refine lv_sipush (v := -10000) hx hb dX11_law_17 (by decide) ?_
    refine lv_aload_n hx hb dX11_law_20 rfl (lv_at hl 1 rfl) ?_
    refine r_get E frX11_118 hS 0 rfl rfl dX11_law_21 ?_
    refine lv_isub hx hb dX11_law_24 ?_
    obtain rfl := Option.some.inj h
    exact rt_i E hQ (.ref q2) hS dX11_law_25
set_option maxHeartbeats 4000000 in
set_option maxRecDepth 100000 in
theorem c_X11_draw {l : Launch} {D : va_G} {cy : Nat → ClassId} (q0 : Nat) (u0_0 : Value) (u0_1 : Value) (u0_2 : Value) (u0_3 : Value) (u0_4 : Value) (u0_5 : Value) (u0_6 : Value) (u0_7 : Value) (u0_8 : Value) (u0_9 : Value) (u0_10 : Value) (u0_11 : Value) (u0_12 : Value) (u0_13 : Value) (u0_14 : Value) (u0_15 : Value) (u0_16 : Value) (u0_17 : Value) (u0_18 : Value) (u0_19 : Value) (u0_20 : Value) (u0_21 : Value) (u0_22 : Value) (u0_23 : Value) (u0_24 : Value) (u0_25 : Value) (u0_26 : Value) (u0_27 : Value) (u0_28 : Value) (u0_29 : Value) (u0_30 : Value) (u0_31 : Value) (u0_32 : Value) (u0_33 : Value) (u0_34 : Value) (u0_35 : Value) (u0_37 : Value) (u0_38 : Value) (u0_39 : Value) (u0_40 : Value) (v_drawn : Int32) (p1 : Int32) (r : Int32 × Int32) (h : X11_draw v_drawn p1 = some r) : Ct l yX11_draw cX11_draw 2 (some .int) 0 0 D cy [.ref q0, .int p1] [oX11 q0 u0_0 u0_1 u0_2 u0_3 u0_4 u0_5 u0_6 u0_7 u0_8 u0_9 u0_10 u0_11 u0_12 u0_13 u0_14 u0_15 u0_16 u0_17 u0_18 u0_19 u0_20 u0_21 u0_22 u0_23 u0_24 u0_25 u0_26 u0_27 u0_28 u0_29 u0_30 u0_31 u0_32 u0_33 u0_34 u0_35 (.int v_drawn) u0_37 u0_38 u0_39 u0_40] (fun _ => [oX11 q0 u0_0 u0_1 u0_2 u0_3 u0_4 u0_5 u0_6 u0_7 u0_8 u0_9 u0_10 u0_11 u0_12 u0_13 u0_14 u0_15 u0_16 u0_17 u0_18 u0_19 u0_20 u0_21 u0_22 u0_23 u0_24 u0_25 u0_26 u0_27 u0_28 u0_29 u0_30 u0_31 u0_32 u0_33 u0_34 u0_35 (.int r.2) u0_37 u0_38 u0_39 u0_40]) (some (.int r.1)) := by
  refine Ct.mk kX11_draw (by decide +kernel) (Nat.le_of_ble_eq_true rfl) ?_
  intro p e s m below meth c A ls args R Q hRf hRl hQ E H locs hS hl
  have hx := E.x
  have hb := E.b
  have hl : lv_has ls 2 [(0, .ref q0), (1, .int p1)] := hl
  unfold X11_draw at h
  refine lv_aload_n hx hb dX11_draw_0 rfl (lv_at hl 0 rfl) ?_
  refine lv_aload_n hx hb dX11_draw_1 rfl (lv_at hl 0 rfl) ?_
  refine r_get E frX11_363 hS 0 rfl rfl dX11_draw_2 ?_
  refine lv_ldcw hx hb E.ow (E.ts _ cnX11_366) dX11_draw_5 ?_
  refine lv_imul hx hb dX11_draw_8 ?_
  refine lv_sipush (v := 12345) hx hb dX11_draw_9 (by decide) ?_
  refine lv_iadd hx hb dX11_draw_12 ?_
  refine r_put (ws' := [oX11 q0 u0_0 u0_1 u0_2 u0_3 u0_4 u0_5 u0_6 u0_7 u0_8 u0_9 u0_10 u0_11 u0_12 u0_13 u0_14 u0_15 u0_16 u0_17 u0_18 u0_19 u0_20 u0_21 u0_22 u0_23 u0_24 u0_25 u0_26 u0_27 u0_28 u0_29 u0_30 u0_31 u0_32 u0_33 u0_34 u0_35 (.int ((v_drawn * (1103515245 : Int32)) + (12345 : Int32))) u0_37 u0_38 u0_39 u0_40]) E frX11_363 hS 0 rfl (Nat.le_of_ble_eq_true rfl) rfl rfl rfl rfl dX11_draw_13 (fun H locs hS => ?_)
  refine lv_aload_n hx hb dX11_draw_16 rfl (lv_at hl 0 rfl) ?_
  refine r_get E frX11_363 hS 0 rfl rfl dX11_draw_17 ?_
  refine lv_bipush (v := 16) hx hb dX11_draw_20 (by decide) ?_
  refine lv_iushr (v := iushr ((v_drawn * (1103515245 : Int32)) + (12345 : Int32)) (16 : Int32)) hx hb dX11_draw_22 rfl ?_
  refine lv_iload_n hx hb dX11_draw_23 rfl (lv_at hl 1 rfl) ?_
  obtain ⟨g1, h⟩ := gz_some h
  refine lv_irem hx hb dX11_draw_24 g1 ?_
  obtain rfl := Option.some.inj h
  exact rt_i E hQ (.null) hS dX11_draw_25
set_option maxHeartbeats 4000000 in
set_option maxRecDepth 100000 in
theorem c_X11_years {l : Launch} {D : va_G} {cy : Nat → ClassId} (q0 : Nat) (q1 : Nat) (q2 : Nat) (q3 : Nat) (q4 : Nat) (q5 : Nat) (u0_2 : Value) (u0_3 : Value) (u0_7 : Value) (u0_12 : Value) (u0_14 : Value) (u0_18 : Value) (u0_19 : Value) (u0_20 : Value) (u0_22 : Value) (u0_23 : Value) (u0_24 : Value) (u0_25 : Value) (u0_26 : Value) (u0_27 : Value) (u0_28 : Value) (u0_29 : Value) (u0_30 : Value) (u0_31 : Value) (u0_32 : Value) (u0_33 : Value) (u0_34 : Value) (u0_35 : Value) (u0_37 : Value) (u0_38 : Value) (u0_39 : Value) (u0_40 : Value) (v_people : Int32) (v_rowMany : Int32) (v_thrown : Int32) (v_length : Int32) (v_top : Int32) (v_at : Int32) (v_wrong : Int32) (v_ruleSize : Int32) (v_isAsked : Int32) (v_drawn : Int32) (v_now : Nat → Int32) (v_row : Nat → Int64) (v_rule : Nat → Int32) (v_asked : Nat → Int32) (v_then : Nat → Int32) (p1 : Int32) (p2 : Int32) (r : Int32 × Int32 × Int32 × Int32 × Int32 × Int32 × Int32 × Int32 × Int32 × (Nat → Int64) × (Nat → Int32) × (Nat → Int32)) (h : X11_years v_people v_rowMany v_length v_top v_at v_wrong v_ruleSize v_isAsked v_drawn v_now v_row v_rule v_asked v_then p1 p2 = some r) : Ct l yX11_years cX11_years 8 (some .int) 110 2626 D cy [.ref q0, .int p1, .int p2] [oX11 q0 (.ref q1) (.int v_people) u0_2 u0_3 (.ref q2) (.int v_rowMany) (.int v_thrown) u0_7 (.int v_length) (.int v_top) (.int v_at) (.int v_wrong) u0_12 (.ref q3) u0_14 (.int v_ruleSize) (.int v_isAsked) (.ref q4) u0_18 u0_19 u0_20 (.ref q5) u0_22 u0_23 u0_24 u0_25 u0_26 u0_27 u0_28 u0_29 u0_30 u0_31 u0_32 u0_33 u0_34 u0_35 (.int v_drawn) u0_37 u0_38 u0_39 u0_40, aI cy q1 37 v_now, aJ cy q2 16 v_row, aB cy q3 40 v_rule, aI cy q4 7 v_asked, aI cy q5 37 v_then] (fun rv => [oX11 q0 (.ref q1) (.int v_people) u0_2 u0_3 (.ref q2) (.int r.2.1) (.int r.2.2.1) rv (.int r.2.2.2.1) (.int r.2.2.2.2.1) (.int r.2.2.2.2.2.1) (.int r.2.2.2.2.2.2.1) u0_12 (.ref q3) u0_14 (.int v_ruleSize) (.int r.2.2.2.2.2.2.2.1) (.ref q4) u0_18 u0_19 u0_20 (.ref q5) u0_22 u0_23 u0_24 u0_25 u0_26 u0_27 u0_28 u0_29 u0_30 u0_31 u0_32 u0_33 u0_34 u0_35 (.int r.2.2.2.2.2.2.2.2.1) u0_37 u0_38 u0_39 u0_40, aI cy q1 37 v_now, aJ cy q2 16 r.2.2.2.2.2.2.2.2.2.1, aB cy q3 40 v_rule, aI cy q4 7 r.2.2.2.2.2.2.2.2.2.2.1, aI cy q5 37 r.2.2.2.2.2.2.2.2.2.2.2]) (some (.int r.1)) := by
  refine Ct.mk kX11_years (by decide +kernel) (Nat.le_of_ble_eq_true rfl) ?_
  intro p e s m below meth c A ls args R Q hRf hRl hQ E H locs hS hl
  have hx := E.x
  have hb := E.b
  have hl : lv_has ls 8 [(0, .ref q0), (1, .int p1), (2, .int p2)] := hl
  unfold X11_years at h
  refine lv_aload_n hx hb dX11_years_0 rfl (lv_at hl 0 rfl) ?_
  refine lv_iconst (v := 0) hx hb dX11_years_1 (by decide) ?_
  refine r_put (ws' := [oX11 q0 (.ref q1) (.int v_people) u0_2 u0_3 (.ref q2) (.int v_rowMany) (.int (0 : Int32)) u0_7 (.int v_length) (.int v_top) (.int v_at) (.int v_wrong) u0_12 (.ref q3) u0_14 (.int v_ruleSize) (.int v_isAsked) (.ref q4) u0_18 u0_19 u0_20 (.ref q5) u0_22 u0_23 u0_24 u0_25 u0_26 u0_27 u0_28 u0_29 u0_30 u0_31 u0_32 u0_33 u0_34 u0_35 (.int v_drawn) u0_37 u0_38 u0_39 u0_40, aI cy q1 37 v_now, aJ cy q2 16 v_row, aB cy q3 40 v_rule, aI cy q4 7 v_asked, aI cy q5 37 v_then]) E frX11_85 hS 0 rfl (Nat.le_of_ble_eq_true rfl) rfl rfl rfl rfl dX11_years_2 (fun H locs hS => ?_)
  refine lv_iload_n hx hb dX11_years_5 rfl (lv_at hl 2 rfl) ?_
  refine lv_iconst (v := 1) hx hb dX11_years_6 (by decide) ?_
  refine lv_bipush (v := 60) hx hb dX11_years_7 (by decide) ?_
  refine ct_S (ws' := fun _ => [oX11 q0 (.ref q1) (.int v_people) u0_2 u0_3 (.ref q2) (.int v_rowMany) (.int (0 : Int32)) u0_7 (.int v_length) (.int v_top) (.int v_at) (.int v_wrong) u0_12 (.ref q3) u0_14 (.int v_ruleSize) (.int v_isAsked) (.ref q4) u0_18 u0_19 u0_20 (.ref q5) u0_22 u0_23 u0_24 u0_25 u0_26 u0_27 u0_28 u0_29 u0_30 u0_31 u0_32 u0_33 u0_34 u0_35 (.int v_drawn) u0_37 u0_38 u0_39 u0_40, aI cy q1 37 v_now, aJ cy q2 16 v_row, aB cy q3 40 v_rule, aI cy q4 7 v_asked, aI cy q5 37 v_then]) (st' := [.int (X11_in p2 (1 : Int32) (60 : Int32))]) (rest := []) E hS slX11_95 (c_X11_in (l := l) (D := D) (cy := cy) (p0 := p2) (p1 := (1 : Int32)) (p2 := (60 : Int32)) (r := (X11_in p2 (1 : Int32) (60 : Int32))) rfl) [] rfl rfl (fun _ => rfl) (fun _ => rfl) rfl rfl (Nat.le_of_ble_eq_true rfl) hl.1 (by rw [hRf]; exact Nat.le_of_ble_eq_true rfl) (by rw [hRl]; exact Nat.le_of_ble_eq_true rfl) ⟨Nat.zero_le _, Nat.zero_le _⟩ dX11_years_9 rfl (fun H locs _ hS => ?_)
  refine lv_if_ne (tgt := 17) hx hb dX11_years_12 (by decide) (fun c1 => ?_) (fun c1 => ?_)
  · have h := it_neg c1 h
    refine lv_aload_n hx hb dX11_years_17 rfl (lv_at hl 0 rfl) ?_
    refine lv_iload_n hx hb dX11_years_18 rfl (lv_at hl 1 rfl) ?_
    refine r_put (ws' := [oX11 q0 (.ref q1) (.int v_people) u0_2 u0_3 (.ref q2) (.int v_rowMany) (.int (0 : Int32)) u0_7 (.int v_length) (.int v_top) (.int v_at) (.int v_wrong) u0_12 (.ref q3) u0_14 (.int v_ruleSize) (.int v_isAsked) (.ref q4) u0_18 u0_19 u0_20 (.ref q5) u0_22 u0_23 u0_24 u0_25 u0_26 u0_27 u0_28 u0_29 u0_30 u0_31 u0_32 u0_33 u0_34 u0_35 (.int p1) u0_37 u0_38 u0_39 u0_40, aI cy q1 37 v_now, aJ cy q2 16 v_row, aB cy q3 40 v_rule, aI cy q4 7 v_asked, aI cy q5 37 v_then]) E frX11_363 hS 0 rfl (Nat.le_of_ble_eq_true rfl) rfl rfl rfl rfl dX11_years_19 (fun H locs hS => ?_)
    refine lv_iconst (v := 0) hx hb dX11_years_22 (by decide) ?_
    refine lv_istore_n (lv' := [(3, .int (0 : Int32)), (0, .ref q0), (1, .int p1), (2, .int p2)]) hx hb dX11_years_23 rfl hl (by decide) rfl (fun ls hl => ?_)
    refine lv_aload_n hx hb dX11_years_24 rfl (lv_at hl 1 rfl) ?_
    refine r_get E frX11_9 hS 0 rfl rfl dX11_years_25 ?_
    refine lv_aload_n hx hb dX11_years_28 rfl (lv_at hl 1 rfl) ?_
    refine r_get E frX11_39 hS 0 rfl rfl dX11_years_29 ?_
    refine lv_iconst (v := 0) hx hb dX11_years_32 (by decide) ?_
    obtain ⟨y33, e2, h⟩ := bd_some h
    refine ct_S (ws' := fun _ => [oX11 q0 (.ref q1) (.int v_people) u0_2 u0_3 (.ref q2) (.int v_rowMany) (.int (0 : Int32)) u0_7 (.int v_length) (.int v_top) (.int v_at) (.int v_wrong) u0_12 (.ref q3) u0_14 (.int v_ruleSize) (.int v_isAsked) (.ref q4) u0_18 u0_19 u0_20 (.ref q5) u0_22 u0_23 u0_24 u0_25 u0_26 u0_27 u0_28 u0_29 u0_30 u0_31 u0_32 u0_33 u0_34 u0_35 (.int p1) u0_37 u0_38 u0_39 u0_40, aI cy q1 37 v_now, aJ cy q2 16 v_row, aB cy q3 40 v_rule, aI cy q4 7 v_asked, aI cy q5 37 y33]) (st' := []) (rest := []) E hS slX11_235 (c_X11_lay (l := l) (D := D) (cy := cy) (q0 := q1) (q1 := q5) (nw1_ := 37) (w1_ := v_now) (nw2_ := 37) (w2_ := v_then) (p2 := (0 : Int32)) (r := y33) e2) [1, 5] rfl rfl (fun _ => rfl) (fun _ => rfl) rfl rfl (Nat.le_of_ble_eq_true rfl) hl.1 (by rw [hRf]; exact Nat.le_of_ble_eq_true rfl) (by rw [hRl]; exact Nat.le_of_ble_eq_true rfl) ⟨Nat.zero_le _, Nat.zero_le _⟩ dX11_years_33 rfl (fun H locs _ hS => ?_)
    refine lv_iconst (v := 0) hx hb dX11_years_36 (by decide) ?_
    refine lv_istore (lv' := [(4, .int (0 : Int32)), (3, .int (0 : Int32)), (0, .ref q0), (1, .int p1), (2, .int p2)]) hx hb dX11_years_37 hl (by decide) rfl (fun ls hl => ?_)
    have hL39 : ∀ (n : Nat) (x39_0 : Int32) (x39_1 : Int32) (x39_2 : Int32) (x39_3 : Int32) (x39_4 : Int32) (x39_5 : Int32) (x39_6 : Int32) (x39_7 : Int32) (x39_8 : Nat → Int32) (x39_9 : Nat → Int32) (y39 : Int32 × Int32 × Int32 × Int32 × Int32 × Int32 × Int32 × (Nat → Int32) × (Nat → Int32)) (rv39_0 : Value) (H : Heap) (locs : List Loc) (ls : Array Slot), lp (fun x39 => X11_years_s39 v_people v_ruleSize v_rule p2 x39.1 x39.2.1 x39.2.2.1 x39.2.2.2.1 x39.2.2.2.2.1 x39.2.2.2.2.2.1 x39.2.2.2.2.2.2.1 x39.2.2.2.2.2.2.2.1 x39.2.2.2.2.2.2.2.2.1 x39.2.2.2.2.2.2.2.2.2) n (x39_0, x39_1, x39_2, x39_3, x39_4, x39_5, x39_6, x39_7, x39_8, x39_9) = some y39 → Sv D A s.heap [oX11 q0 (.ref q1) (.int v_people) u0_2 u0_3 (.ref q2) (.int v_rowMany) (.int (0 : Int32)) rv39_0 (.int x39_2) (.int x39_3) (.int x39_4) (.int x39_5) u0_12 (.ref q3) u0_14 (.int v_ruleSize) (.int x39_6) (.ref q4) u0_18 u0_19 u0_20 (.ref q5) u0_22 u0_23 u0_24 u0_25 u0_26 u0_27 u0_28 u0_29 u0_30 u0_31 u0_32 u0_33 u0_34 u0_35 (.int x39_7) u0_37 u0_38 u0_39 u0_40, aI cy q1 37 v_now, aJ cy q2 16 v_row, aB cy q3 40 v_rule, aI cy q4 7 x39_8, aI cy q5 37 x39_9] H locs → lv_has ls 8 [(0, .ref q0), (2, .int p2), (3, .int x39_0), (4, .int x39_1)] → ( ∀ (y39_0 : Int32) (y39_1 : Int32) (y39_2 : Int32) (y39_3 : Int32) (y39_4 : Int32) (y39_5 : Int32) (y39_6 : Int32) (y39_7 : Nat → Int32) (y39_8 : Nat → Int32), (y39_0, y39_1, y39_2, y39_3, y39_4, y39_5, y39_6, y39_7, y39_8) = y39 → ∀ (rv39_0 : Value), ∀ (H : Heap) (locs : List Loc) (ls : Array Slot), Sv D A s.heap [oX11 q0 (.ref q1) (.int v_people) u0_2 u0_3 (.ref q2) (.int v_rowMany) (.int (0 : Int32)) rv39_0 (.int y39_1) (.int y39_2) (.int y39_3) (.int y39_4) u0_12 (.ref q3) u0_14 (.int v_ruleSize) (.int y39_5) (.ref q4) u0_18 u0_19 u0_20 (.ref q5) u0_22 u0_23 u0_24 u0_25 u0_26 u0_27 u0_28 u0_29 u0_30 u0_31 u0_32 u0_33 u0_34 u0_35 (.int y39_6) u0_37 u0_38 u0_39 u0_40, aI cy q1 37 v_now, aJ cy q2 16 v_row, aB cy q3 40 v_rule, aI cy q4 7 y39_7, aI cy q5 37 y39_8] H locs → lv_has ls 8 [(0, .ref q0), (3, .int y39_0)] → W p l e R s m args below meth c H locs 0 0 Q (F0 m 167 ls [])) → W p l e R s m args below meth c H locs 0 0 Q (F0 m 39 ls []) := by
      intro n
      induction n with
      | zero =>
        intro x39_0 x39_1 x39_2 x39_3 x39_4 x39_5 x39_6 x39_7 x39_8 x39_9 y39 rv39_0 H locs ls h
        exact lp_zero h
      | succ n ih39 =>
        intro x39_0 x39_1 x39_2 x39_3 x39_4 x39_5 x39_6 x39_7 x39_8 x39_9 y39 rv39_0 H locs ls h hS hl hk39_0
        obtain ⟨z39, h, hz39a, hz39b⟩ := lp_succ h
        have h : X11_years_s39 v_people v_ruleSize v_rule p2 x39_0 x39_1 x39_2 x39_3 x39_4 x39_5 x39_6 x39_7 x39_8 x39_9 = some z39 := h
        unfold X11_years_s39 at h
        refine lv_iload hx hb dX11_years_39 (lv_at hl 3 rfl) ?_
        refine lv_iload_n hx hb dX11_years_41 rfl (lv_at hl 1 rfl) ?_
        refine lv_icmp_ge (tgt := 167) hx hb dX11_years_42 (by decide) (fun c3 => ?_) (fun c3 => ?_)
        · have h := it_pos c3 h
          exact hk39_0 x39_0 x39_2 x39_3 x39_4 x39_5 x39_6 x39_7 x39_8 x39_9 (hz39b _ (Option.some.inj h).symm) rv39_0 H locs ls hS (lv_sub hl [0, 2] rfl)
        · have h := it_neg c3 h
          refine lv_aload_n hx hb dX11_years_45 rfl (lv_at hl 0 rfl) ?_
          refine lv_iconst (v := 4) hx hb dX11_years_46 (by decide) ?_
          obtain ⟨y47, e4, h⟩ := bd_some h
          refine ct_V (ws' := fun _ => [oX11 q0 (.ref q1) (.int v_people) u0_2 u0_3 (.ref q2) (.int v_rowMany) (.int (0 : Int32)) rv39_0 (.int x39_2) (.int x39_3) (.int x39_4) (.int x39_5) u0_12 (.ref q3) u0_14 (.int v_ruleSize) (.int x39_6) (.ref q4) u0_18 u0_19 u0_20 (.ref q5) u0_22 u0_23 u0_24 u0_25 u0_26 u0_27 u0_28 u0_29 u0_30 u0_31 u0_32 u0_33 u0_34 u0_35 (.int y47.2) u0_37 u0_38 u0_39 u0_40, aI cy q1 37 v_now, aJ cy q2 16 v_row, aB cy q3 40 v_rule, aI cy q4 7 x39_8, aI cy q5 37 x39_9]) (st' := [.int y47.1]) (rest := []) E hS vlX11_367 (c_X11_draw (l := l) (D := D) (cy := cy) (q0 := q0) (u0_0 := .ref q1) (u0_1 := .int v_people) (u0_2 := u0_2) (u0_3 := u0_3) (u0_4 := .ref q2) (u0_5 := .int v_rowMany) (u0_6 := .int (0 : Int32)) (u0_7 := rv39_0) (u0_8 := .int x39_2) (u0_9 := .int x39_3) (u0_10 := .int x39_4) (u0_11 := .int x39_5) (u0_12 := u0_12) (u0_13 := .ref q3) (u0_14 := u0_14) (u0_15 := .int v_ruleSize) (u0_16 := .int x39_6) (u0_17 := .ref q4) (u0_18 := u0_18) (u0_19 := u0_19) (u0_20 := u0_20) (u0_21 := .ref q5) (u0_22 := u0_22) (u0_23 := u0_23) (u0_24 := u0_24) (u0_25 := u0_25) (u0_26 := u0_26) (u0_27 := u0_27) (u0_28 := u0_28) (u0_29 := u0_29) (u0_30 := u0_30) (u0_31 := u0_31) (u0_32 := u0_32) (u0_33 := u0_33) (u0_34 := u0_34) (u0_35 := u0_35) (u0_37 := u0_37) (u0_38 := u0_38) (u0_39 := u0_39) (u0_40 := u0_40) (v_drawn := x39_7) (p1 := (4 : Int32)) (r := y47) e4) [0] rfl rfl (fun _ => rfl) (fun _ => rfl) rfl rfl rfl rfl (Nat.le_of_ble_eq_true rfl) hl.1 (by rw [hRf]; exact Nat.le_of_ble_eq_true rfl) (by rw [hRl]; exact Nat.le_of_ble_eq_true rfl) ⟨Nat.zero_le _, Nat.zero_le _⟩ dX11_years_47 rfl (fun H locs _ hS => ?_)
          refine lv_istore (lv' := [(5, .int y47.1), (0, .ref q0), (2, .int p2), (3, .int x39_0), (4, .int x39_1)]) hx hb dX11_years_50 hl (by decide) rfl (fun ls hl => ?_)
          refine lv_iload hx hb dX11_years_52 (lv_at hl 0 rfl) ?_
          refine lv_iconst (v := 2) hx hb dX11_years_54 (by decide) ?_
          have hJ72 : ∀ (j72_l3 : Int32) (j72_v_length : Int32) (j72_v_top : Int32) (j72_v_at : Int32) (j72_v_wrong : Int32) (j72_v_isAsked : Int32) (j72_v_asked : Nat → Int32) (j72_v_then : Nat → Int32) (rj72_0 : Value) (H : Heap) (locs : List Loc) (ls : Array Slot), X11_years_k72 v_people x39_1 y47 j72_l3 j72_v_length j72_v_top j72_v_at j72_v_wrong j72_v_isAsked j72_v_asked j72_v_then = some z39 → Sv D A s.heap [oX11 q0 (.ref q1) (.int v_people) u0_2 u0_3 (.ref q2) (.int v_rowMany) (.int (0 : Int32)) rj72_0 (.int j72_v_length) (.int j72_v_top) (.int j72_v_at) (.int j72_v_wrong) u0_12 (.ref q3) u0_14 (.int v_ruleSize) (.int j72_v_isAsked) (.ref q4) u0_18 u0_19 u0_20 (.ref q5) u0_22 u0_23 u0_24 u0_25 u0_26 u0_27 u0_28 u0_29 u0_30 u0_31 u0_32 u0_33 u0_34 u0_35 (.int y47.2) u0_37 u0_38 u0_39 u0_40, aI cy q1 37 v_now, aJ cy q2 16 v_row, aB cy q3 40 v_rule, aI cy q4 7 j72_v_asked, aI cy q5 37 j72_v_then] H locs → lv_has ls 8 [(0, .ref q0), (2, .int p2), (3, .int j72_l3), (4, .int x39_1), (5, .int y47.1)] → W p l e R s m args below meth c H locs 0 0 Q (F0 m 72 ls []) := by
            intro j72_l3 j72_v_length j72_v_top j72_v_at j72_v_wrong j72_v_isAsked j72_v_asked j72_v_then rj72_0 H locs ls h hS hl
            unfold X11_years_k72 at h
            refine lv_iload hx hb dX11_years_72 (lv_at hl 4 rfl) ?_
            refine lv_iconst (v := 2) hx hb dX11_years_74 (by decide) ?_
            refine lv_icmp_lt (tgt := 161) hx hb dX11_years_75 (by decide) (fun c5 => ?_) (fun c5 => ?_)
            · have h := it_pos c5 h
              refine lv_iinc (v := (x39_1 + (1 : Int32))) (lv' := [(4, .int (x39_1 + (1 : Int32))), (0, .ref q0), (2, .int p2), (3, .int j72_l3), (5, .int y47.1)]) hx hb dX11_years_161 hl (k := 3) rfl rfl (by decide) rfl (fun ls hl => ?_)
              refine lv_goto (tgt := 39) hx hb dX11_years_164 (by decide) ?_
              exact ih39 j72_l3 (x39_1 + (1 : Int32)) j72_v_length j72_v_top j72_v_at j72_v_wrong j72_v_isAsked y47.2 j72_v_asked j72_v_then y39 rj72_0 H locs ls (hz39a _ (Option.some.inj h).symm) hS (lv_sub hl [1, 2, 3, 0] rfl) hk39_0
            · have h := it_neg c5 h
              refine lv_aload_n hx hb dX11_years_78 rfl (lv_at hl 0 rfl) ?_
              refine r_get E frX11_92 hS 0 rfl rfl dX11_years_79 ?_
              refine lv_if_ne (tgt := 88) hx hb dX11_years_82 (by decide) (fun c6 => ?_) (fun c6 => ?_)
              · have h := it_neg c6 h
                refine lv_aload_n hx hb dX11_years_88 rfl (lv_at hl 0 rfl) ?_
                refine lv_aload_n hx hb dX11_years_89 rfl (lv_at hl 0 rfl) ?_
                refine r_get E frX11_92 hS 0 rfl rfl dX11_years_90 ?_
                obtain ⟨y93, e7, h⟩ := bd_some h
                refine ct_V (ws' := fun _ => [oX11 q0 (.ref q1) (.int v_people) u0_2 u0_3 (.ref q2) (.int v_rowMany) (.int (0 : Int32)) rj72_0 (.int j72_v_length) (.int j72_v_top) (.int j72_v_at) (.int j72_v_wrong) u0_12 (.ref q3) u0_14 (.int v_ruleSize) (.int j72_v_isAsked) (.ref q4) u0_18 u0_19 u0_20 (.ref q5) u0_22 u0_23 u0_24 u0_25 u0_26 u0_27 u0_28 u0_29 u0_30 u0_31 u0_32 u0_33 u0_34 u0_35 (.int y93.2) u0_37 u0_38 u0_39 u0_40, aI cy q1 37 v_now, aJ cy q2 16 v_row, aB cy q3 40 v_rule, aI cy q4 7 j72_v_asked, aI cy q5 37 j72_v_then]) (st' := [.int y93.1]) (rest := []) E hS vlX11_367 (c_X11_draw (l := l) (D := D) (cy := cy) (q0 := q0) (u0_0 := .ref q1) (u0_1 := .int v_people) (u0_2 := u0_2) (u0_3 := u0_3) (u0_4 := .ref q2) (u0_5 := .int v_rowMany) (u0_6 := .int (0 : Int32)) (u0_7 := rj72_0) (u0_8 := .int j72_v_length) (u0_9 := .int j72_v_top) (u0_10 := .int j72_v_at) (u0_11 := .int j72_v_wrong) (u0_12 := u0_12) (u0_13 := .ref q3) (u0_14 := u0_14) (u0_15 := .int v_ruleSize) (u0_16 := .int j72_v_isAsked) (u0_17 := .ref q4) (u0_18 := u0_18) (u0_19 := u0_19) (u0_20 := u0_20) (u0_21 := .ref q5) (u0_22 := u0_22) (u0_23 := u0_23) (u0_24 := u0_24) (u0_25 := u0_25) (u0_26 := u0_26) (u0_27 := u0_27) (u0_28 := u0_28) (u0_29 := u0_29) (u0_30 := u0_30) (u0_31 := u0_31) (u0_32 := u0_32) (u0_33 := u0_33) (u0_34 := u0_34) (u0_35 := u0_35) (u0_37 := u0_37) (u0_38 := u0_38) (u0_39 := u0_39) (u0_40 := u0_40) (v_drawn := y47.2) (p1 := v_people) (r := y93) e7) [0] rfl rfl (fun _ => rfl) (fun _ => rfl) rfl rfl rfl rfl (Nat.le_of_ble_eq_true rfl) hl.1 (by rw [hRf]; exact Nat.le_of_ble_eq_true rfl) (by rw [hRl]; exact Nat.le_of_ble_eq_true rfl) ⟨Nat.zero_le _, Nat.zero_le _⟩ dX11_years_93 rfl (fun H locs _ hS => ?_)
                refine lv_istore (lv' := [(6, .int y93.1), (0, .ref q0), (2, .int p2), (3, .int j72_l3), (4, .int x39_1), (5, .int y47.1)]) hx hb dX11_years_96 hl (by decide) rfl (fun ls hl => ?_)
                refine lv_aload_n hx hb dX11_years_98 rfl (lv_at hl 1 rfl) ?_
                refine lv_iload hx hb dX11_years_99 (lv_at hl 5 rfl) ?_
                refine lv_iconst (v := 2) hx hb dX11_years_101 (by decide) ?_
                have hJ114 : ∀ (s114_1 : Int32) (ls : Array Slot), s114_1 = (if y47.1 = (2 : Int32) then v_people else (10 : Int32)) → lv_has ls 8 [(0, .ref q0), (2, .int p2), (3, .int j72_l3), (4, .int x39_1), (5, .int y47.1), (6, .int y93.1)] → W p l e R s m args below meth c H locs 0 0 Q (F0 m 114 ls [.int s114_1, .ref q0]) := by
                  intro s114_1 ls es114_1 hl
                  subst es114_1
                  obtain ⟨y114, e8, h⟩ := bd_some h
                  refine ct_V (ws' := fun _ => [oX11 q0 (.ref q1) (.int v_people) u0_2 u0_3 (.ref q2) (.int v_rowMany) (.int (0 : Int32)) rj72_0 (.int j72_v_length) (.int j72_v_top) (.int j72_v_at) (.int j72_v_wrong) u0_12 (.ref q3) u0_14 (.int v_ruleSize) (.int j72_v_isAsked) (.ref q4) u0_18 u0_19 u0_20 (.ref q5) u0_22 u0_23 u0_24 u0_25 u0_26 u0_27 u0_28 u0_29 u0_30 u0_31 u0_32 u0_33 u0_34 u0_35 (.int y114.2) u0_37 u0_38 u0_39 u0_40, aI cy q1 37 v_now, aJ cy q2 16 v_row, aB cy q3 40 v_rule, aI cy q4 7 j72_v_asked, aI cy q5 37 j72_v_then]) (st' := [.int y114.1]) (rest := []) E hS vlX11_367 (c_X11_draw (l := l) (D := D) (cy := cy) (q0 := q0) (u0_0 := .ref q1) (u0_1 := .int v_people) (u0_2 := u0_2) (u0_3 := u0_3) (u0_4 := .ref q2) (u0_5 := .int v_rowMany) (u0_6 := .int (0 : Int32)) (u0_7 := rj72_0) (u0_8 := .int j72_v_length) (u0_9 := .int j72_v_top) (u0_10 := .int j72_v_at) (u0_11 := .int j72_v_wrong) (u0_12 := u0_12) (u0_13 := .ref q3) (u0_14 := u0_14) (u0_15 := .int v_ruleSize) (u0_16 := .int j72_v_isAsked) (u0_17 := .ref q4) (u0_18 := u0_18) (u0_19 := u0_19) (u0_20 := u0_20) (u0_21 := .ref q5) (u0_22 := u0_22) (u0_23 := u0_23) (u0_24 := u0_24) (u0_25 := u0_25) (u0_26 := u0_26) (u0_27 := u0_27) (u0_28 := u0_28) (u0_29 := u0_29) (u0_30 := u0_30) (u0_31 := u0_31) (u0_32 := u0_32) (u0_33 := u0_33) (u0_34 := u0_34) (u0_35 := u0_35) (u0_37 := u0_37) (u0_38 := u0_38) (u0_39 := u0_39) (u0_40 := u0_40) (v_drawn := y93.2) (p1 := (if y47.1 = (2 : Int32) then v_people else (10 : Int32))) (r := y114) e8) [0] rfl rfl (fun _ => rfl) (fun _ => rfl) rfl rfl rfl rfl (Nat.le_of_ble_eq_true rfl) hl.1 (by rw [hRf]; exact Nat.le_of_ble_eq_true rfl) (by rw [hRl]; exact Nat.le_of_ble_eq_true rfl) ⟨Nat.zero_le _, Nat.zero_le _⟩ dX11_years_114 rfl (fun H locs _ hS => ?_)
                  refine lv_istore (lv' := [(7, .int y114.1), (0, .ref q0), (2, .int p2), (3, .int j72_l3), (4, .int x39_1), (5, .int y47.1), (6, .int y93.1)]) hx hb dX11_years_117 hl (by decide) rfl (fun ls hl => ?_)
                  refine lv_iload hx hb dX11_years_119 (lv_at hl 5 rfl) ?_
                  refine lv_iconst (v := 3) hx hb dX11_years_121 (by decide) ?_
                  refine lv_icmp_ne (tgt := 137) hx hb dX11_years_122 (by decide) (fun c9 => ?_) (fun c9 => ?_)
                  · have h := it_neg c9 h
                    refine lv_iload hx hb dX11_years_137 (lv_at hl 6 rfl) ?_
                    refine lv_iload hx hb dX11_years_139 (lv_at hl 0 rfl) ?_
                    refine lv_icmp_eq (tgt := 161) hx hb dX11_years_141 (by decide) (fun c10 => ?_) (fun c10 => ?_)
                    · have h := it_pos c10 h
                      refine lv_iinc (v := (x39_1 + (1 : Int32))) (lv' := [(4, .int (x39_1 + (1 : Int32))), (7, .int y114.1), (0, .ref q0), (2, .int p2), (3, .int j72_l3), (5, .int y47.1), (6, .int y93.1)]) hx hb dX11_years_161 hl (k := 4) rfl rfl (by decide) rfl (fun ls hl => ?_)
                      refine lv_goto (tgt := 39) hx hb dX11_years_164 (by decide) ?_
                      exact ih39 j72_l3 (x39_1 + (1 : Int32)) j72_v_length j72_v_top j72_v_at j72_v_wrong j72_v_isAsked y114.2 j72_v_asked j72_v_then y39 rj72_0 H locs ls (hz39a _ (Option.some.inj h).symm) hS (lv_sub hl [2, 3, 4, 0] rfl) hk39_0
                    · have h := it_neg c10 h
                      refine lv_aload_n hx hb dX11_years_144 rfl (lv_at hl 1 rfl) ?_
                      refine r_get E frX11_39 hS 0 rfl rfl dX11_years_145 ?_
                      refine lv_bipush (v := 28) hx hb dX11_years_148 (by decide) ?_
                      refine lv_iload hx hb dX11_years_150 (lv_at hl 6 rfl) ?_
                      refine lv_iadd hx hb dX11_years_152 ?_
                      refine lv_dup2_11 hx hb dX11_years_153 rfl rfl ?_
                      obtain ⟨g11, h⟩ := gi_some h
                      refine r_iald E hS 5 rfl g11 dX11_years_154 ?_
                      refine lv_iconst (v := 1) hx hb dX11_years_155 (by decide) ?_
                      refine lv_iload hx hb dX11_years_156 (lv_at hl 0 rfl) ?_
                      refine lv_ishl hx hb dX11_years_158 ?_
                      refine lv_ixor hx hb dX11_years_159 ?_
                      obtain ⟨g12, h⟩ := gi_some h
                      refine r_iast (ws' := [oX11 q0 (.ref q1) (.int v_people) u0_2 u0_3 (.ref q2) (.int v_rowMany) (.int (0 : Int32)) rj72_0 (.int j72_v_length) (.int j72_v_top) (.int j72_v_at) (.int j72_v_wrong) u0_12 (.ref q3) u0_14 (.int v_ruleSize) (.int j72_v_isAsked) (.ref q4) u0_18 u0_19 u0_20 (.ref q5) u0_22 u0_23 u0_24 u0_25 u0_26 u0_27 u0_28 u0_29 u0_30 u0_31 u0_32 u0_33 u0_34 u0_35 (.int y114.2) u0_37 u0_38 u0_39 u0_40, aI cy q1 37 v_now, aJ cy q2 16 v_row, aB cy q3 40 v_rule, aI cy q4 7 j72_v_asked, aI cy q5 37 (upd j72_v_then ((28 : Int32) + y93.1).toNatClampNeg ((j72_v_then ((28 : Int32) + y93.1).toNatClampNeg) ^^^ ((1 : Int32) <<< (y114.1 &&& 31))))]) E hS 5 rfl g12 rfl dX11_years_160 (fun H locs hS => ?_)
                      refine lv_iinc (v := (x39_1 + (1 : Int32))) (lv' := [(4, .int (x39_1 + (1 : Int32))), (7, .int y114.1), (0, .ref q0), (2, .int p2), (3, .int j72_l3), (5, .int y47.1), (6, .int y93.1)]) hx hb dX11_years_161 hl (k := 4) rfl rfl (by decide) rfl (fun ls hl => ?_)
                      refine lv_goto (tgt := 39) hx hb dX11_years_164 (by decide) ?_
                      exact ih39 j72_l3 (x39_1 + (1 : Int32)) j72_v_length j72_v_top j72_v_at j72_v_wrong j72_v_isAsked y114.2 j72_v_asked (upd j72_v_then ((28 : Int32) + y93.1).toNatClampNeg ((j72_v_then ((28 : Int32) + y93.1).toNatClampNeg) ^^^ ((1 : Int32) <<< (y114.1 &&& 31)))) y39 rj72_0 H locs ls (hz39a _ (Option.some.inj h).symm) hS (lv_sub hl [2, 3, 4, 0] rfl) hk39_0
                  · have h := it_pos c9 h
                    refine lv_aload_n hx hb dX11_years_125 rfl (lv_at hl 1 rfl) ?_
                    refine r_get E frX11_39 hS 0 rfl rfl dX11_years_126 ?_
                    refine lv_iload hx hb dX11_years_129 (lv_at hl 6 rfl) ?_
                    refine lv_iload hx hb dX11_years_131 (lv_at hl 0 rfl) ?_
                    obtain ⟨g13, h⟩ := gi_some h
                    refine r_iast (ws' := [oX11 q0 (.ref q1) (.int v_people) u0_2 u0_3 (.ref q2) (.int v_rowMany) (.int (0 : Int32)) rj72_0 (.int j72_v_length) (.int j72_v_top) (.int j72_v_at) (.int j72_v_wrong) u0_12 (.ref q3) u0_14 (.int v_ruleSize) (.int j72_v_isAsked) (.ref q4) u0_18 u0_19 u0_20 (.ref q5) u0_22 u0_23 u0_24 u0_25 u0_26 u0_27 u0_28 u0_29 u0_30 u0_31 u0_32 u0_33 u0_34 u0_35 (.int y114.2) u0_37 u0_38 u0_39 u0_40, aI cy q1 37 v_now, aJ cy q2 16 v_row, aB cy q3 40 v_rule, aI cy q4 7 j72_v_asked, aI cy q5 37 (upd j72_v_then y93.1.toNatClampNeg y114.1)]) E hS 5 rfl g13 rfl dX11_years_133 (fun H locs hS => ?_)
                    refine lv_goto (tgt := 161) hx hb dX11_years_134 (by decide) ?_
                    refine lv_iinc (v := (x39_1 + (1 : Int32))) (lv' := [(4, .int (x39_1 + (1 : Int32))), (7, .int y114.1), (0, .ref q0), (2, .int p2), (3, .int j72_l3), (5, .int y47.1), (6, .int y93.1)]) hx hb dX11_years_161 hl (k := 4) rfl rfl (by decide) rfl (fun ls hl => ?_)
                    refine lv_goto (tgt := 39) hx hb dX11_years_164 (by decide) ?_
                    exact ih39 j72_l3 (x39_1 + (1 : Int32)) j72_v_length j72_v_top j72_v_at j72_v_wrong j72_v_isAsked y114.2 j72_v_asked (upd j72_v_then y93.1.toNatClampNeg y114.1) y39 rj72_0 H locs ls (hz39a _ (Option.some.inj h).symm) hS (lv_sub hl [2, 3, 4, 0] rfl) hk39_0
                refine lv_icmp_ne (tgt := 112) hx hb dX11_years_102 (by decide) (fun c14 => ?_) (fun c14 => ?_)
                · refine lv_bipush (v := 10) hx hb dX11_years_112 (by decide) ?_
                  exact hJ114 _ ls ((if_neg c14)).symm (lv_sub hl [1, 2, 3, 4, 5, 0] rfl)
                · refine lv_aload_n hx hb dX11_years_105 rfl (lv_at hl 1 rfl) ?_
                  refine r_get E frX11_92 hS 0 rfl rfl dX11_years_106 ?_
                  refine lv_goto (tgt := 114) hx hb dX11_years_109 (by decide) ?_
                  exact hJ114 _ ls ((if_pos c14)).symm (lv_sub hl [1, 2, 3, 4, 5, 0] rfl)
              · have h := it_pos c6 h
                refine lv_goto (tgt := 161) hx hb dX11_years_85 (by decide) ?_
                refine lv_iinc (v := (x39_1 + (1 : Int32))) (lv' := [(4, .int (x39_1 + (1 : Int32))), (0, .ref q0), (2, .int p2), (3, .int j72_l3), (5, .int y47.1)]) hx hb dX11_years_161 hl (k := 3) rfl rfl (by decide) rfl (fun ls hl => ?_)
                refine lv_goto (tgt := 39) hx hb dX11_years_164 (by decide) ?_
                exact ih39 j72_l3 (x39_1 + (1 : Int32)) j72_v_length j72_v_top j72_v_at j72_v_wrong j72_v_isAsked y47.2 j72_v_asked j72_v_then y39 rj72_0 H locs ls (hz39a _ (Option.some.inj h).symm) hS (lv_sub hl [1, 2, 3, 0] rfl) hk39_0
          refine lv_icmp_ge (tgt := 72) hx hb dX11_years_55 (by decide) (fun c15 => ?_) (fun c15 => ?_)
          · have h := it_pos c15 h
            exact hJ72 x39_0 x39_2 x39_3 x39_4 x39_5 x39_6 x39_8 x39_9 rv39_0 H locs ls h hS (lv_sub hl [1, 2, 3, 4, 0] rfl)
          · have h := it_neg c15 h
            refine lv_iload_n hx hb dX11_years_58 rfl (lv_at hl 3 rfl) ?_
            refine lv_aload_n hx hb dX11_years_59 rfl (lv_at hl 1 rfl) ?_
            refine lv_aload_n hx hb dX11_years_60 rfl (lv_at hl 1 rfl) ?_
            refine r_get E frX11_39 hS 0 rfl rfl dX11_years_61 ?_
            obtain ⟨y64, e16, h⟩ := bd_some h
            refine ct_V (ws' := fun rc17 => [oX11 q0 (.ref q1) (.int v_people) u0_2 u0_3 (.ref q2) (.int v_rowMany) (.int (0 : Int32)) rc17 (.int y64.2.1) (.int y64.2.2.1) (.int y64.2.2.2.1) (.int y64.2.2.2.2.1) u0_12 (.ref q3) u0_14 (.int v_ruleSize) (.int y64.2.2.2.2.2.1) (.ref q4) u0_18 u0_19 u0_20 (.ref q5) u0_22 u0_23 u0_24 u0_25 u0_26 u0_27 u0_28 u0_29 u0_30 u0_31 u0_32 u0_33 u0_34 u0_35 (.int y47.2) u0_37 u0_38 u0_39 u0_40, aI cy q1 37 v_now, aJ cy q2 16 v_row, aB cy q3 40 v_rule, aI cy q4 7 y64.2.2.2.2.2.2.1, aI cy q5 37 y64.2.2.2.2.2.2.2]) (st' := [.int y64.1, .int x39_0]) (rest := [.int x39_0]) E hS vlX11_246 (c_X11_goMorning (l := l) (D := D) (cy := cy) (q0 := q0) (q1 := q3) (q2 := q4) (q3 := q5) (u0_0 := .ref q1) (u0_2 := u0_2) (u0_3 := u0_3) (u0_4 := .ref q2) (u0_5 := .int v_rowMany) (u0_6 := .int (0 : Int32)) (u0_7 := rv39_0) (u0_12 := u0_12) (u0_14 := u0_14) (u0_18 := u0_18) (u0_19 := u0_19) (u0_20 := u0_20) (u0_21 := .ref q5) (u0_22 := u0_22) (u0_23 := u0_23) (u0_24 := u0_24) (u0_25 := u0_25) (u0_26 := u0_26) (u0_27 := u0_27) (u0_28 := u0_28) (u0_29 := u0_29) (u0_30 := u0_30) (u0_31 := u0_31) (u0_32 := u0_32) (u0_33 := u0_33) (u0_34 := u0_34) (u0_35 := u0_35) (u0_36 := .int y47.2) (u0_37 := u0_37) (u0_38 := u0_38) (u0_39 := u0_39) (u0_40 := u0_40) (v_people := v_people) (v_length := x39_2) (v_top := x39_3) (v_at := x39_4) (v_wrong := x39_5) (v_ruleSize := v_ruleSize) (v_isAsked := x39_6) (v_rule := v_rule) (v_asked := x39_8) (nw1_ := 37) (w1_ := x39_9) (r := y64) e16) [0, 3, 4, 5] rfl rfl (fun _ => rfl) (fun _ => rfl) rfl rfl rfl rfl (Nat.le_of_ble_eq_true rfl) hl.1 (by rw [hRf]; exact Nat.le_of_ble_eq_true rfl) (by rw [hRl]; exact Nat.le_of_ble_eq_true rfl) ⟨Nat.zero_le _, Nat.zero_le _⟩ dX11_years_64 rfl (fun H locs rc17 hS => ?_)
            refine ct_S (ws' := fun _ => [oX11 q0 (.ref q1) (.int v_people) u0_2 u0_3 (.ref q2) (.int v_rowMany) (.int (0 : Int32)) rc17 (.int y64.2.1) (.int y64.2.2.1) (.int y64.2.2.2.1) (.int y64.2.2.2.2.1) u0_12 (.ref q3) u0_14 (.int v_ruleSize) (.int y64.2.2.2.2.2.1) (.ref q4) u0_18 u0_19 u0_20 (.ref q5) u0_22 u0_23 u0_24 u0_25 u0_26 u0_27 u0_28 u0_29 u0_30 u0_31 u0_32 u0_33 u0_34 u0_35 (.int y47.2) u0_37 u0_38 u0_39 u0_40, aI cy q1 37 v_now, aJ cy q2 16 v_row, aB cy q3 40 v_rule, aI cy q4 7 y64.2.2.2.2.2.2.1, aI cy q5 37 y64.2.2.2.2.2.2.2]) (st' := [.int (J6_bitCount_0f7a4 y64.1), .int x39_0]) (rest := [.int x39_0]) E hS slX11_204 (c_J6_bitCount_0f7a4 (l := l) (D := D) (cy := cy) (p0 := y64.1) (r := (J6_bitCount_0f7a4 y64.1)) rfl) [] rfl rfl (fun _ => rfl) (fun _ => rfl) rfl rfl (Nat.le_of_ble_eq_true rfl) hl.1 (by rw [hRf]; exact Nat.le_of_ble_eq_true rfl) (by rw [hRl]; exact Nat.le_of_ble_eq_true rfl) ⟨Nat.zero_le _, Nat.zero_le _⟩ dX11_years_67 rfl (fun H locs _ hS => ?_)
            refine lv_iadd hx hb dX11_years_70 ?_
            refine lv_istore_n (lv' := [(3, .int (x39_0 + (J6_bitCount_0f7a4 y64.1))), (5, .int y47.1), (0, .ref q0), (2, .int p2), (4, .int x39_1)]) hx hb dX11_years_71 rfl hl (by decide) rfl (fun ls hl => ?_)
            exact hJ72 (x39_0 + (J6_bitCount_0f7a4 y64.1)) y64.2.1 y64.2.2.1 y64.2.2.2.1 y64.2.2.2.2.1 y64.2.2.2.2.2.1 y64.2.2.2.2.2.2.1 y64.2.2.2.2.2.2.2 rc17 H locs ls h hS (lv_sub hl [2, 3, 0, 4, 1] rfl)
    obtain ⟨y39, e39, h⟩ := bd_some h
    refine hL39 1000 (0 : Int32) (0 : Int32) v_length v_top v_at v_wrong v_isAsked p1 v_asked y33 y39 u0_7 H locs ls e39 hS (lv_sub hl [2, 4, 1, 0] rfl) (fun y39_0 y39_1 y39_2 y39_3 y39_4 y39_5 y39_6 y39_7 y39_8 ey39 rw39_0 H locs ls hS hl => ?_)
    subst ey39
    have h := un_r h
    have h := un_r h
    have h := un_r h
    have h := un_r h
    have h := un_r h
    have h := un_r h
    have h := un_r h
    have h := un_r h
    refine lv_aload_n hx hb dX11_years_167 rfl (lv_at hl 0 rfl) ?_
    refine lv_iconst (v := 0) hx hb dX11_years_168 (by decide) ?_
    refine r_put (ws' := [oX11 q0 (.ref q1) (.int v_people) u0_2 u0_3 (.ref q2) (.int (0 : Int32)) (.int (0 : Int32)) rw39_0 (.int y39_1) (.int y39_2) (.int y39_3) (.int y39_4) u0_12 (.ref q3) u0_14 (.int v_ruleSize) (.int y39_5) (.ref q4) u0_18 u0_19 u0_20 (.ref q5) u0_22 u0_23 u0_24 u0_25 u0_26 u0_27 u0_28 u0_29 u0_30 u0_31 u0_32 u0_33 u0_34 u0_35 (.int y39_6) u0_37 u0_38 u0_39 u0_40, aI cy q1 37 v_now, aJ cy q2 16 v_row, aB cy q3 40 v_rule, aI cy q4 7 y39_7, aI cy q5 37 y39_8]) E frX11_89 hS 0 rfl (Nat.le_of_ble_eq_true rfl) rfl rfl rfl rfl dX11_years_169 (fun H locs hS => ?_)
    refine lv_aload_n hx hb dX11_years_172 rfl (lv_at hl 0 rfl) ?_
    refine lv_aload_n hx hb dX11_years_173 rfl (lv_at hl 0 rfl) ?_
    refine r_get E frX11_39 hS 0 rfl rfl dX11_years_174 ?_
    refine lv_bipush (v := 36) hx hb dX11_years_177 (by decide) ?_
    obtain ⟨g18, h⟩ := gi_some h
    refine r_iald E hS 5 rfl g18 dX11_years_179 ?_
    refine lv_aload_n hx hb dX11_years_180 rfl (lv_at hl 0 rfl) ?_
    refine r_get E frX11_9 hS 0 rfl rfl dX11_years_181 ?_
    refine lv_bipush (v := 36) hx hb dX11_years_184 (by decide) ?_
    obtain ⟨g19, h⟩ := gi_some h
    refine r_iald E hS 1 rfl g19 dX11_years_186 ?_
    refine lv_isub hx hb dX11_years_187 ?_
    refine lv_i2l (v := (((y39_8 (36 : Int32).toNatClampNeg) - (v_now (36 : Int32).toNatClampNeg)).toInt64)) hx hb dX11_years_188 rfl ?_
    obtain ⟨y189, e20, h⟩ := bd_some h
    refine ct_V (ws' := fun _ => [oX11 q0 (.ref q1) (.int v_people) u0_2 u0_3 (.ref q2) (.int y189.1) (.int (0 : Int32)) rw39_0 (.int y39_1) (.int y39_2) (.int y39_3) (.int y39_4) u0_12 (.ref q3) u0_14 (.int v_ruleSize) (.int y39_5) (.ref q4) u0_18 u0_19 u0_20 (.ref q5) u0_22 u0_23 u0_24 u0_25 u0_26 u0_27 u0_28 u0_29 u0_30 u0_31 u0_32 u0_33 u0_34 u0_35 (.int y39_6) u0_37 u0_38 u0_39 u0_40, aI cy q1 37 v_now, aJ cy q2 16 y189.2, aB cy q3 40 v_rule, aI cy q4 7 y39_7, aI cy q5 37 y39_8]) (st' := []) (rest := []) E hS vlX11_256 (c_X11_tell (l := l) (D := D) (cy := cy) (q0 := q0) (q1 := q2) (u0_0 := .ref q1) (u0_1 := .int v_people) (u0_2 := u0_2) (u0_3 := u0_3) (u0_6 := .int (0 : Int32)) (u0_7 := rw39_0) (u0_8 := .int y39_1) (u0_9 := .int y39_2) (u0_10 := .int y39_3) (u0_11 := .int y39_4) (u0_12 := u0_12) (u0_13 := .ref q3) (u0_14 := u0_14) (u0_15 := .int v_ruleSize) (u0_16 := .int y39_5) (u0_17 := .ref q4) (u0_18 := u0_18) (u0_19 := u0_19) (u0_20 := u0_20) (u0_21 := .ref q5) (u0_22 := u0_22) (u0_23 := u0_23) (u0_24 := u0_24) (u0_25 := u0_25) (u0_26 := u0_26) (u0_27 := u0_27) (u0_28 := u0_28) (u0_29 := u0_29) (u0_30 := u0_30) (u0_31 := u0_31) (u0_32 := u0_32) (u0_33 := u0_33) (u0_34 := u0_34) (u0_35 := u0_35) (u0_36 := .int y39_6) (u0_37 := u0_37) (u0_38 := u0_38) (u0_39 := u0_39) (u0_40 := u0_40) (v_rowMany := (0 : Int32)) (v_row := v_row) (p1 := (((y39_8 (36 : Int32).toNatClampNeg) - (v_now (36 : Int32).toNatClampNeg)).toInt64)) (r := y189) e20) [0, 2] rfl rfl (fun _ => rfl) (fun _ => rfl) rfl rfl rfl rfl (Nat.le_of_ble_eq_true rfl) hl.1 (by rw [hRf]; exact Nat.le_of_ble_eq_true rfl) (by rw [hRl]; exact Nat.le_of_ble_eq_true rfl) ⟨Nat.zero_le _, Nat.zero_le _⟩ dX11_years_189 rfl (fun H locs _ hS => ?_)
    refine lv_aload_n hx hb dX11_years_192 rfl (lv_at hl 0 rfl) ?_
    refine lv_aload_n hx hb dX11_years_193 rfl (lv_at hl 0 rfl) ?_
    refine lv_aload_n hx hb dX11_years_194 rfl (lv_at hl 0 rfl) ?_
    refine r_get E frX11_39 hS 0 rfl rfl dX11_years_195 ?_
    obtain ⟨y198, e21, h⟩ := bd_some h
    refine ct_V (ws' := fun rc22 => [oX11 q0 (.ref q1) (.int v_people) u0_2 u0_3 (.ref q2) (.int y189.1) (.int (0 : Int32)) rc22 (.int y198.2.1) (.int y198.2.2.1) (.int y198.2.2.2.1) (.int y198.2.2.2.2.1) u0_12 (.ref q3) u0_14 (.int v_ruleSize) (.int y198.2.2.2.2.2.1) (.ref q4) u0_18 u0_19 u0_20 (.ref q5) u0_22 u0_23 u0_24 u0_25 u0_26 u0_27 u0_28 u0_29 u0_30 u0_31 u0_32 u0_33 u0_34 u0_35 (.int y39_6) u0_37 u0_38 u0_39 u0_40, aI cy q1 37 v_now, aJ cy q2 16 y189.2, aB cy q3 40 v_rule, aI cy q4 7 y198.2.2.2.2.2.2, aI cy q5 37 y39_8]) (st' := [.int y198.1, .ref q0]) (rest := [.ref q0]) E hS vlX11_239 (c_X11_awake (l := l) (D := D) (cy := cy) (q0 := q0) (q1 := q3) (q2 := q4) (q3 := q5) (u0_0 := .ref q1) (u0_2 := u0_2) (u0_3 := u0_3) (u0_4 := .ref q2) (u0_5 := .int y189.1) (u0_6 := .int (0 : Int32)) (u0_7 := rw39_0) (u0_12 := u0_12) (u0_14 := u0_14) (u0_18 := u0_18) (u0_19 := u0_19) (u0_20 := u0_20) (u0_21 := .ref q5) (u0_22 := u0_22) (u0_23 := u0_23) (u0_24 := u0_24) (u0_25 := u0_25) (u0_26 := u0_26) (u0_27 := u0_27) (u0_28 := u0_28) (u0_29 := u0_29) (u0_30 := u0_30) (u0_31 := u0_31) (u0_32 := u0_32) (u0_33 := u0_33) (u0_34 := u0_34) (u0_35 := u0_35) (u0_36 := .int y39_6) (u0_37 := u0_37) (u0_38 := u0_38) (u0_39 := u0_39) (u0_40 := u0_40) (v_people := v_people) (v_length := y39_1) (v_top := y39_2) (v_at := y39_3) (v_wrong := y39_4) (v_ruleSize := v_ruleSize) (v_isAsked := y39_5) (v_rule := v_rule) (v_asked := y39_7) (nw1_ := 37) (w1_ := y39_8) (r := y198) e21) [0, 3, 4, 5] rfl rfl (fun _ => rfl) (fun _ => rfl) rfl rfl rfl rfl (Nat.le_of_ble_eq_true rfl) hl.1 (by rw [hRf]; exact Nat.le_of_ble_eq_true rfl) (by rw [hRl]; exact Nat.le_of_ble_eq_true rfl) ⟨Nat.zero_le _, Nat.zero_le _⟩ dX11_years_198 rfl (fun H locs rc22 hS => ?_)
    refine lv_i2l (v := (y198.1.toInt64)) hx hb dX11_years_201 rfl ?_
    obtain ⟨y202, e23, h⟩ := bd_some h
    refine ct_V (ws' := fun _ => [oX11 q0 (.ref q1) (.int v_people) u0_2 u0_3 (.ref q2) (.int y202.1) (.int (0 : Int32)) rc22 (.int y198.2.1) (.int y198.2.2.1) (.int y198.2.2.2.1) (.int y198.2.2.2.2.1) u0_12 (.ref q3) u0_14 (.int v_ruleSize) (.int y198.2.2.2.2.2.1) (.ref q4) u0_18 u0_19 u0_20 (.ref q5) u0_22 u0_23 u0_24 u0_25 u0_26 u0_27 u0_28 u0_29 u0_30 u0_31 u0_32 u0_33 u0_34 u0_35 (.int y39_6) u0_37 u0_38 u0_39 u0_40, aI cy q1 37 v_now, aJ cy q2 16 y202.2, aB cy q3 40 v_rule, aI cy q4 7 y198.2.2.2.2.2.2, aI cy q5 37 y39_8]) (st' := []) (rest := []) E hS vlX11_256 (c_X11_tell (l := l) (D := D) (cy := cy) (q0 := q0) (q1 := q2) (u0_0 := .ref q1) (u0_1 := .int v_people) (u0_2 := u0_2) (u0_3 := u0_3) (u0_6 := .int (0 : Int32)) (u0_7 := rc22) (u0_8 := .int y198.2.1) (u0_9 := .int y198.2.2.1) (u0_10 := .int y198.2.2.2.1) (u0_11 := .int y198.2.2.2.2.1) (u0_12 := u0_12) (u0_13 := .ref q3) (u0_14 := u0_14) (u0_15 := .int v_ruleSize) (u0_16 := .int y198.2.2.2.2.2.1) (u0_17 := .ref q4) (u0_18 := u0_18) (u0_19 := u0_19) (u0_20 := u0_20) (u0_21 := .ref q5) (u0_22 := u0_22) (u0_23 := u0_23) (u0_24 := u0_24) (u0_25 := u0_25) (u0_26 := u0_26) (u0_27 := u0_27) (u0_28 := u0_28) (u0_29 := u0_29) (u0_30 := u0_30) (u0_31 := u0_31) (u0_32 := u0_32) (u0_33 := u0_33) (u0_34 := u0_34) (u0_35 := u0_35) (u0_36 := .int y39_6) (u0_37 := u0_37) (u0_38 := u0_38) (u0_39 := u0_39) (u0_40 := u0_40) (v_rowMany := y189.1) (v_row := y189.2) (p1 := (y198.1.toInt64)) (r := y202) e23) [0, 2] rfl rfl (fun _ => rfl) (fun _ => rfl) rfl rfl rfl rfl (Nat.le_of_ble_eq_true rfl) hl.1 (by rw [hRf]; exact Nat.le_of_ble_eq_true rfl) (by rw [hRl]; exact Nat.le_of_ble_eq_true rfl) ⟨Nat.zero_le _, Nat.zero_le _⟩ dX11_years_202 rfl (fun H locs _ hS => ?_)
    refine lv_iload_n hx hb dX11_years_205 rfl (lv_at hl 1 rfl) ?_
    obtain rfl := Option.some.inj h
    exact rt_i E hQ (rc22) hS dX11_years_206
  · have h := it_pos c1 h
    refine lv_iconst (v := -1) hx hb dX11_years_15 (by decide) ?_
    obtain rfl := Option.some.inj h
    exact rt_i E hQ (u0_7) hS dX11_years_16
set_option maxHeartbeats 4000000 in
set_option maxRecDepth 100000 in
theorem c_X11_keep {l : Launch} {D : va_G} {cy : Nat → ClassId} (q0 : Nat) (q1 : Nat) (q2 : Nat) (q3 : Nat) (q4 : Nat) (u0_1 : Value) (u0_2 : Value) (u0_3 : Value) (u0_4 : Value) (u0_5 : Value) (u0_7 : Value) (u0_8 : Value) (u0_9 : Value) (u0_10 : Value) (u0_11 : Value) (u0_12 : Value) (u0_13 : Value) (u0_14 : Value) (u0_15 : Value) (u0_16 : Value) (u0_17 : Value) (u0_18 : Value) (u0_19 : Value) (u0_20 : Value) (u0_21 : Value) (u0_22 : Value) (u0_23 : Value) (u0_24 : Value) (u0_25 : Value) (u0_26 : Value) (u0_27 : Value) (u0_28 : Value) (u0_29 : Value) (u0_30 : Value) (u0_31 : Value) (u0_32 : Value) (u0_33 : Value) (u0_34 : Value) (u0_35 : Value) (u0_36 : Value) (v_thrown : Int32) (v_came : Int32) (v_now : Nat → Int32) (v_kept : Nat → Int32) (v_isKept : Nat → Int32) (v_keptCame : Nat → Int32) (p1 : Int32) (r : Int32 × Int32 × (Nat → Int32) × (Nat → Int32) × (Nat → Int32)) (h : X11_keep v_came v_now v_kept v_isKept v_keptCame p1 = some r) : Ct l yX11_keep cX11_keep 2 (some .boolean) 1 23 D cy [.ref q0, .int p1] [oX11 q0 (.ref q1) u0_1 u0_2 u0_3 u0_4 u0_5 (.int v_thrown) u0_7 u0_8 u0_9 u0_10 u0_11 u0_12 u0_13 u0_14 u0_15 u0_16 u0_17 u0_18 u0_19 u0_20 u0_21 u0_22 u0_23 u0_24 u0_25 u0_26 u0_27 u0_28 u0_29 u0_30 u0_31 u0_32 u0_33 u0_34 u0_35 u0_36 (.int v_came) (.ref q2) (.ref q3) (.ref q4), aI cy q1 37 v_now, aI cy q2 74 v_kept, aZ cy q3 2 v_isKept, aI cy q4 2 v_keptCame] (fun _ => [oX11 q0 (.ref q1) u0_1 u0_2 u0_3 u0_4 u0_5 (.int r.2.1) u0_7 u0_8 u0_9 u0_10 u0_11 u0_12 u0_13 u0_14 u0_15 u0_16 u0_17 u0_18 u0_19 u0_20 u0_21 u0_22 u0_23 u0_24 u0_25 u0_26 u0_27 u0_28 u0_29 u0_30 u0_31 u0_32 u0_33 u0_34 u0_35 u0_36 (.int v_came) (.ref q2) (.ref q3) (.ref q4), aI cy q1 37 v_now, aI cy q2 74 r.2.2.1, aZ cy q3 2 r.2.2.2.1, aI cy q4 2 r.2.2.2.2]) (some (.int r.1)) := by
  refine Ct.mk kX11_keep (by decide +kernel) (Nat.le_of_ble_eq_true rfl) ?_
  intro p e s m below meth c A ls args R Q hRf hRl hQ E H locs hS hl
  have hx := E.x
  have hb := E.b
  have hl : lv_has ls 2 [(0, .ref q0), (1, .int p1)] := hl
  unfold X11_keep at h
  refine lv_aload_n hx hb dX11_keep_0 rfl (lv_at hl 0 rfl) ?_
  refine lv_iconst (v := 0) hx hb dX11_keep_1 (by decide) ?_
  refine r_put (ws' := [oX11 q0 (.ref q1) u0_1 u0_2 u0_3 u0_4 u0_5 (.int (0 : Int32)) u0_7 u0_8 u0_9 u0_10 u0_11 u0_12 u0_13 u0_14 u0_15 u0_16 u0_17 u0_18 u0_19 u0_20 u0_21 u0_22 u0_23 u0_24 u0_25 u0_26 u0_27 u0_28 u0_29 u0_30 u0_31 u0_32 u0_33 u0_34 u0_35 u0_36 (.int v_came) (.ref q2) (.ref q3) (.ref q4), aI cy q1 37 v_now, aI cy q2 74 v_kept, aZ cy q3 2 v_isKept, aI cy q4 2 v_keptCame]) E frX11_85 hS 0 rfl (Nat.le_of_ble_eq_true rfl) rfl rfl rfl rfl dX11_keep_2 (fun H locs hS => ?_)
  refine lv_iload_n hx hb dX11_keep_5 rfl (lv_at hl 1 rfl) ?_
  refine lv_iconst (v := 0) hx hb dX11_keep_6 (by decide) ?_
  refine lv_iconst (v := 1) hx hb dX11_keep_7 (by decide) ?_
  refine ct_S (ws' := fun _ => [oX11 q0 (.ref q1) u0_1 u0_2 u0_3 u0_4 u0_5 (.int (0 : Int32)) u0_7 u0_8 u0_9 u0_10 u0_11 u0_12 u0_13 u0_14 u0_15 u0_16 u0_17 u0_18 u0_19 u0_20 u0_21 u0_22 u0_23 u0_24 u0_25 u0_26 u0_27 u0_28 u0_29 u0_30 u0_31 u0_32 u0_33 u0_34 u0_35 u0_36 (.int v_came) (.ref q2) (.ref q3) (.ref q4), aI cy q1 37 v_now, aI cy q2 74 v_kept, aZ cy q3 2 v_isKept, aI cy q4 2 v_keptCame]) (st' := [.int (X11_in p1 (0 : Int32) (1 : Int32))]) (rest := []) E hS slX11_95 (c_X11_in (l := l) (D := D) (cy := cy) (p0 := p1) (p1 := (0 : Int32)) (p2 := (1 : Int32)) (r := (X11_in p1 (0 : Int32) (1 : Int32))) rfl) [] rfl rfl (fun _ => rfl) (fun _ => rfl) rfl rfl (Nat.le_of_ble_eq_true rfl) hl.1 (by rw [hRf]; exact Nat.le_of_ble_eq_true rfl) (by rw [hRl]; exact Nat.le_of_ble_eq_true rfl) ⟨Nat.zero_le _, Nat.zero_le _⟩ dX11_keep_8 rfl (fun H locs _ hS => ?_)
  refine lv_if_ne (tgt := 16) hx hb dX11_keep_11 (by decide) (fun c1 => ?_) (fun c1 => ?_)
  · have h := it_neg c1 h
    refine lv_aload_n hx hb dX11_keep_16 rfl (lv_at hl 0 rfl) ?_
    refine r_get E frX11_79 hS 0 rfl rfl dX11_keep_17 ?_
    refine lv_iload_n hx hb dX11_keep_20 rfl (lv_at hl 1 rfl) ?_
    refine lv_iconst (v := 1) hx hb dX11_keep_21 (by decide) ?_
    obtain ⟨g2, h⟩ := gi_some h
    refine r_zast (ws' := [oX11 q0 (.ref q1) u0_1 u0_2 u0_3 u0_4 u0_5 (.int (0 : Int32)) u0_7 u0_8 u0_9 u0_10 u0_11 u0_12 u0_13 u0_14 u0_15 u0_16 u0_17 u0_18 u0_19 u0_20 u0_21 u0_22 u0_23 u0_24 u0_25 u0_26 u0_27 u0_28 u0_29 u0_30 u0_31 u0_32 u0_33 u0_34 u0_35 u0_36 (.int v_came) (.ref q2) (.ref q3) (.ref q4), aI cy q1 37 v_now, aI cy q2 74 v_kept, aZ cy q3 2 (upd v_isKept p1.toNatClampNeg (vp_nar .boolean (1 : Int32))), aI cy q4 2 v_keptCame]) E hS 3 rfl g2 rfl dX11_keep_22 (fun H locs hS => ?_)
    refine lv_aload_n hx hb dX11_keep_23 rfl (lv_at hl 0 rfl) ?_
    refine r_get E frX11_82 hS 0 rfl rfl dX11_keep_24 ?_
    refine lv_iload_n hx hb dX11_keep_27 rfl (lv_at hl 1 rfl) ?_
    refine lv_aload_n hx hb dX11_keep_28 rfl (lv_at hl 0 rfl) ?_
    refine r_get E frX11_148 hS 0 rfl rfl dX11_keep_29 ?_
    obtain ⟨g3, h⟩ := gi_some h
    refine r_iast (ws' := [oX11 q0 (.ref q1) u0_1 u0_2 u0_3 u0_4 u0_5 (.int (0 : Int32)) u0_7 u0_8 u0_9 u0_10 u0_11 u0_12 u0_13 u0_14 u0_15 u0_16 u0_17 u0_18 u0_19 u0_20 u0_21 u0_22 u0_23 u0_24 u0_25 u0_26 u0_27 u0_28 u0_29 u0_30 u0_31 u0_32 u0_33 u0_34 u0_35 u0_36 (.int v_came) (.ref q2) (.ref q3) (.ref q4), aI cy q1 37 v_now, aI cy q2 74 v_kept, aZ cy q3 2 (upd v_isKept p1.toNatClampNeg (vp_nar .boolean (1 : Int32))), aI cy q4 2 (upd v_keptCame p1.toNatClampNeg v_came)]) E hS 4 rfl g3 rfl dX11_keep_32 (fun H locs hS => ?_)
    refine lv_aload_n hx hb dX11_keep_33 rfl (lv_at hl 0 rfl) ?_
    refine r_get E frX11_9 hS 0 rfl rfl dX11_keep_34 ?_
    refine lv_aload_n hx hb dX11_keep_37 rfl (lv_at hl 0 rfl) ?_
    refine r_get E frX11_76 hS 0 rfl rfl dX11_keep_38 ?_
    refine lv_bipush (v := 37) hx hb dX11_keep_41 (by decide) ?_
    refine lv_iload_n hx hb dX11_keep_43 rfl (lv_at hl 1 rfl) ?_
    refine lv_imul hx hb dX11_keep_44 ?_
    obtain ⟨y45, e4, h⟩ := bd_some h
    refine ct_S (ws' := fun _ => [oX11 q0 (.ref q1) u0_1 u0_2 u0_3 u0_4 u0_5 (.int (0 : Int32)) u0_7 u0_8 u0_9 u0_10 u0_11 u0_12 u0_13 u0_14 u0_15 u0_16 u0_17 u0_18 u0_19 u0_20 u0_21 u0_22 u0_23 u0_24 u0_25 u0_26 u0_27 u0_28 u0_29 u0_30 u0_31 u0_32 u0_33 u0_34 u0_35 u0_36 (.int v_came) (.ref q2) (.ref q3) (.ref q4), aI cy q1 37 v_now, aI cy q2 74 y45, aZ cy q3 2 (upd v_isKept p1.toNatClampNeg (vp_nar .boolean (1 : Int32))), aI cy q4 2 (upd v_keptCame p1.toNatClampNeg v_came)]) (st' := []) (rest := []) E hS slX11_235 (c_X11_lay (l := l) (D := D) (cy := cy) (q0 := q1) (q1 := q2) (nw1_ := 37) (w1_ := v_now) (nw2_ := 74) (w2_ := v_kept) (p2 := ((37 : Int32) * p1)) (r := y45) e4) [1, 2] rfl rfl (fun _ => rfl) (fun _ => rfl) rfl rfl (Nat.le_of_ble_eq_true rfl) hl.1 (by rw [hRf]; exact Nat.le_of_ble_eq_true rfl) (by rw [hRl]; exact Nat.le_of_ble_eq_true rfl) ⟨Nat.zero_le _, Nat.zero_le _⟩ dX11_keep_45 rfl (fun H locs _ hS => ?_)
    refine lv_iconst (v := 1) hx hb dX11_keep_48 (by decide) ?_
    obtain rfl := Option.some.inj h
    exact rt_n E rfl hQ (.null) hS dX11_keep_49
  · have h := it_pos c1 h
    refine lv_iconst (v := 0) hx hb dX11_keep_14 (by decide) ?_
    obtain rfl := Option.some.inj h
    exact rt_n E rfl hQ (.null) hS dX11_keep_15
set_option maxHeartbeats 4000000 in
set_option maxRecDepth 100000 in
theorem c_X11_again {l : Launch} {D : va_G} {cy : Nat → ClassId} (q0 : Nat) (q1 : Nat) (q2 : Nat) (q3 : Nat) (q4 : Nat) (u0_1 : Value) (u0_2 : Value) (u0_3 : Value) (u0_4 : Value) (u0_5 : Value) (u0_7 : Value) (u0_8 : Value) (u0_9 : Value) (u0_10 : Value) (u0_11 : Value) (u0_12 : Value) (u0_13 : Value) (u0_14 : Value) (u0_15 : Value) (u0_16 : Value) (u0_17 : Value) (u0_18 : Value) (u0_20 : Value) (u0_21 : Value) (u0_22 : Value) (u0_23 : Value) (u0_24 : Value) (u0_25 : Value) (u0_26 : Value) (u0_27 : Value) (u0_28 : Value) (u0_29 : Value) (u0_30 : Value) (u0_31 : Value) (u0_32 : Value) (u0_33 : Value) (u0_34 : Value) (u0_35 : Value) (u0_36 : Value) (v_thrown : Int32) (v_undoMany : Int32) (v_came : Int32) (v_now : Nat → Int32) (v_kept : Nat → Int32) (v_isKept : Nat → Int32) (v_keptCame : Nat → Int32) (p1 : Int32) (r : Int32 × Int32 × Int32 × (Nat → Int32)) (h : X11_again v_undoMany v_came v_now v_kept v_isKept v_keptCame p1 = some r) : Ct l yX11_again cX11_again 3 (some .boolean) 1 22 D cy [.ref q0, .int p1] [oX11 q0 (.ref q1) u0_1 u0_2 u0_3 u0_4 u0_5 (.int v_thrown) u0_7 u0_8 u0_9 u0_10 u0_11 u0_12 u0_13 u0_14 u0_15 u0_16 u0_17 u0_18 (.int v_undoMany) u0_20 u0_21 u0_22 u0_23 u0_24 u0_25 u0_26 u0_27 u0_28 u0_29 u0_30 u0_31 u0_32 u0_33 u0_34 u0_35 u0_36 (.int v_came) (.ref q2) (.ref q3) (.ref q4), aI cy q1 37 v_now, aI cy q2 74 v_kept, aZ cy q3 2 v_isKept, aI cy q4 2 v_keptCame] (fun _ => [oX11 q0 (.ref q1) u0_1 u0_2 u0_3 u0_4 u0_5 (.int r.2.1) u0_7 u0_8 u0_9 u0_10 u0_11 u0_12 u0_13 u0_14 u0_15 u0_16 u0_17 u0_18 (.int r.2.2.1) u0_20 u0_21 u0_22 u0_23 u0_24 u0_25 u0_26 u0_27 u0_28 u0_29 u0_30 u0_31 u0_32 u0_33 u0_34 u0_35 u0_36 (.int v_came) (.ref q2) (.ref q3) (.ref q4), aI cy q1 37 r.2.2.2, aI cy q2 74 v_kept, aZ cy q3 2 v_isKept, aI cy q4 2 v_keptCame]) (some (.int r.1)) := by
  refine Ct.mk kX11_again (by decide +kernel) (Nat.le_of_ble_eq_true rfl) ?_
  intro p e s m below meth c A ls args R Q hRf hRl hQ E H locs hS hl
  have hx := E.x
  have hb := E.b
  have hl : lv_has ls 3 [(0, .ref q0), (1, .int p1)] := hl
  unfold X11_again at h
  refine lv_aload_n hx hb dX11_again_0 rfl (lv_at hl 0 rfl) ?_
  refine lv_iconst (v := 0) hx hb dX11_again_1 (by decide) ?_
  refine r_put (ws' := [oX11 q0 (.ref q1) u0_1 u0_2 u0_3 u0_4 u0_5 (.int (0 : Int32)) u0_7 u0_8 u0_9 u0_10 u0_11 u0_12 u0_13 u0_14 u0_15 u0_16 u0_17 u0_18 (.int v_undoMany) u0_20 u0_21 u0_22 u0_23 u0_24 u0_25 u0_26 u0_27 u0_28 u0_29 u0_30 u0_31 u0_32 u0_33 u0_34 u0_35 u0_36 (.int v_came) (.ref q2) (.ref q3) (.ref q4), aI cy q1 37 v_now, aI cy q2 74 v_kept, aZ cy q3 2 v_isKept, aI cy q4 2 v_keptCame]) E frX11_85 hS 0 rfl (Nat.le_of_ble_eq_true rfl) rfl rfl rfl rfl dX11_again_2 (fun H locs hS => ?_)
  refine lv_iload_n hx hb dX11_again_5 rfl (lv_at hl 1 rfl) ?_
  refine lv_iconst (v := 0) hx hb dX11_again_6 (by decide) ?_
  refine lv_iconst (v := 1) hx hb dX11_again_7 (by decide) ?_
  refine ct_S (ws' := fun _ => [oX11 q0 (.ref q1) u0_1 u0_2 u0_3 u0_4 u0_5 (.int (0 : Int32)) u0_7 u0_8 u0_9 u0_10 u0_11 u0_12 u0_13 u0_14 u0_15 u0_16 u0_17 u0_18 (.int v_undoMany) u0_20 u0_21 u0_22 u0_23 u0_24 u0_25 u0_26 u0_27 u0_28 u0_29 u0_30 u0_31 u0_32 u0_33 u0_34 u0_35 u0_36 (.int v_came) (.ref q2) (.ref q3) (.ref q4), aI cy q1 37 v_now, aI cy q2 74 v_kept, aZ cy q3 2 v_isKept, aI cy q4 2 v_keptCame]) (st' := [.int (X11_in p1 (0 : Int32) (1 : Int32))]) (rest := []) E hS slX11_95 (c_X11_in (l := l) (D := D) (cy := cy) (p0 := p1) (p1 := (0 : Int32)) (p2 := (1 : Int32)) (r := (X11_in p1 (0 : Int32) (1 : Int32))) rfl) [] rfl rfl (fun _ => rfl) (fun _ => rfl) rfl rfl (Nat.le_of_ble_eq_true rfl) hl.1 (by rw [hRf]; exact Nat.le_of_ble_eq_true rfl) (by rw [hRl]; exact Nat.le_of_ble_eq_true rfl) ⟨Nat.zero_le _, Nat.zero_le _⟩ dX11_again_8 rfl (fun H locs _ hS => ?_)
  refine lv_if_eq (tgt := 36) hx hb dX11_again_11 (by decide) (fun c1 => ?_) (fun c1 => ?_)
  · have h := it_pos c1 h
    refine lv_iconst (v := 0) hx hb dX11_again_36 (by decide) ?_
    obtain rfl := Option.some.inj h
    exact rt_n E rfl hQ (.null) hS dX11_again_37
  · have h := it_neg c1 h
    refine lv_aload_n hx hb dX11_again_14 rfl (lv_at hl 0 rfl) ?_
    refine r_get E frX11_79 hS 0 rfl rfl dX11_again_15 ?_
    refine lv_iload_n hx hb dX11_again_18 rfl (lv_at hl 1 rfl) ?_
    obtain ⟨g2, h⟩ := gi_some h
    refine r_zald E hS 3 rfl g2 dX11_again_19 ?_
    refine lv_if_eq (tgt := 36) hx hb dX11_again_20 (by decide) (fun c3 => ?_) (fun c3 => ?_)
    · have h := it_pos c3 h
      refine lv_iconst (v := 0) hx hb dX11_again_36 (by decide) ?_
      obtain rfl := Option.some.inj h
      exact rt_n E rfl hQ (.null) hS dX11_again_37
    · have h := it_neg c3 h
      refine lv_aload_n hx hb dX11_again_23 rfl (lv_at hl 0 rfl) ?_
      refine r_get E frX11_82 hS 0 rfl rfl dX11_again_24 ?_
      refine lv_iload_n hx hb dX11_again_27 rfl (lv_at hl 1 rfl) ?_
      obtain ⟨g4, h⟩ := gi_some h
      refine r_iald E hS 4 rfl g4 dX11_again_28 ?_
      refine lv_aload_n hx hb dX11_again_29 rfl (lv_at hl 0 rfl) ?_
      refine r_get E frX11_148 hS 0 rfl rfl dX11_again_30 ?_
      refine lv_icmp_eq (tgt := 38) hx hb dX11_again_33 (by decide) (fun c5 => ?_) (fun c5 => ?_)
      · have h := it_pos c5 h
        refine lv_iconst (v := 0) hx hb dX11_again_38 (by decide) ?_
        refine lv_istore_n (lv' := [(2, .int (0 : Int32)), (0, .ref q0), (1, .int p1)]) hx hb dX11_again_39 rfl hl (by decide) rfl (fun ls hl => ?_)
        have hL40 : ∀ (n : Nat) (x40_0 : Int32) (x40_1 : Nat → Int32) (y40 : (Nat → Int32)) (H : Heap) (locs : List Loc) (ls : Array Slot), lp (fun x40 => X11_again_s40 v_kept p1 x40.1 x40.2) n (x40_0, x40_1) = some y40 → Sv D A s.heap [oX11 q0 (.ref q1) u0_1 u0_2 u0_3 u0_4 u0_5 (.int (0 : Int32)) u0_7 u0_8 u0_9 u0_10 u0_11 u0_12 u0_13 u0_14 u0_15 u0_16 u0_17 u0_18 (.int v_undoMany) u0_20 u0_21 u0_22 u0_23 u0_24 u0_25 u0_26 u0_27 u0_28 u0_29 u0_30 u0_31 u0_32 u0_33 u0_34 u0_35 u0_36 (.int v_came) (.ref q2) (.ref q3) (.ref q4), aI cy q1 37 x40_1, aI cy q2 74 v_kept, aZ cy q3 2 v_isKept, aI cy q4 2 v_keptCame] H locs → lv_has ls 3 [(0, .ref q0), (1, .int p1), (2, .int x40_0)] → ( ∀ (y40_0 : Nat → Int32), y40_0 = y40 → ∀ (H : Heap) (locs : List Loc) (ls : Array Slot), Sv D A s.heap [oX11 q0 (.ref q1) u0_1 u0_2 u0_3 u0_4 u0_5 (.int (0 : Int32)) u0_7 u0_8 u0_9 u0_10 u0_11 u0_12 u0_13 u0_14 u0_15 u0_16 u0_17 u0_18 (.int v_undoMany) u0_20 u0_21 u0_22 u0_23 u0_24 u0_25 u0_26 u0_27 u0_28 u0_29 u0_30 u0_31 u0_32 u0_33 u0_34 u0_35 u0_36 (.int v_came) (.ref q2) (.ref q3) (.ref q4), aI cy q1 37 y40_0, aI cy q2 74 v_kept, aZ cy q3 2 v_isKept, aI cy q4 2 v_keptCame] H locs → lv_has ls 3 [(0, .ref q0)] → W p l e R s m args below meth c H locs 0 0 Q (F0 m 69 ls [])) → W p l e R s m args below meth c H locs 0 0 Q (F0 m 40 ls []) := by
          intro n
          induction n with
          | zero =>
            intro x40_0 x40_1 y40 H locs ls h
            exact lp_zero h
          | succ n ih40 =>
            intro x40_0 x40_1 y40 H locs ls h hS hl hk40_0
            obtain ⟨z40, h, hz40a, hz40b⟩ := lp_succ h
            have h : X11_again_s40 v_kept p1 x40_0 x40_1 = some z40 := h
            unfold X11_again_s40 at h
            refine lv_iload_n hx hb dX11_again_40 rfl (lv_at hl 2 rfl) ?_
            refine lv_bipush (v := 37) hx hb dX11_again_41 (by decide) ?_
            refine lv_icmp_ge (tgt := 69) hx hb dX11_again_43 (by decide) (fun c6 => ?_) (fun c6 => ?_)
            · have h := it_pos c6 h
              exact hk40_0 x40_1 (hz40b _ (Option.some.inj h).symm)  H locs ls hS (lv_sub hl [0] rfl)
            · have h := it_neg c6 h
              refine lv_aload_n hx hb dX11_again_46 rfl (lv_at hl 0 rfl) ?_
              refine r_get E frX11_9 hS 0 rfl rfl dX11_again_47 ?_
              refine lv_iload_n hx hb dX11_again_50 rfl (lv_at hl 2 rfl) ?_
              refine lv_aload_n hx hb dX11_again_51 rfl (lv_at hl 0 rfl) ?_
              refine r_get E frX11_76 hS 0 rfl rfl dX11_again_52 ?_
              refine lv_bipush (v := 37) hx hb dX11_again_55 (by decide) ?_
              refine lv_iload_n hx hb dX11_again_57 rfl (lv_at hl 1 rfl) ?_
              refine lv_imul hx hb dX11_again_58 ?_
              refine lv_iload_n hx hb dX11_again_59 rfl (lv_at hl 2 rfl) ?_
              refine lv_iadd hx hb dX11_again_60 ?_
              obtain ⟨g7, h⟩ := gi_some h
              refine r_iald E hS 2 rfl g7 dX11_again_61 ?_
              obtain ⟨g8, h⟩ := gi_some h
              refine r_iast (ws' := [oX11 q0 (.ref q1) u0_1 u0_2 u0_3 u0_4 u0_5 (.int (0 : Int32)) u0_7 u0_8 u0_9 u0_10 u0_11 u0_12 u0_13 u0_14 u0_15 u0_16 u0_17 u0_18 (.int v_undoMany) u0_20 u0_21 u0_22 u0_23 u0_24 u0_25 u0_26 u0_27 u0_28 u0_29 u0_30 u0_31 u0_32 u0_33 u0_34 u0_35 u0_36 (.int v_came) (.ref q2) (.ref q3) (.ref q4), aI cy q1 37 (upd x40_1 x40_0.toNatClampNeg (v_kept (((37 : Int32) * p1) + x40_0).toNatClampNeg)), aI cy q2 74 v_kept, aZ cy q3 2 v_isKept, aI cy q4 2 v_keptCame]) E hS 1 rfl g8 rfl dX11_again_62 (fun H locs hS => ?_)
              refine lv_iinc (v := (x40_0 + (1 : Int32))) (lv' := [(2, .int (x40_0 + (1 : Int32))), (0, .ref q0), (1, .int p1)]) hx hb dX11_again_63 hl (k := 2) rfl rfl (by decide) rfl (fun ls hl => ?_)
              refine lv_goto (tgt := 40) hx hb dX11_again_66 (by decide) ?_
              exact ih40 (x40_0 + (1 : Int32)) (upd x40_1 x40_0.toNatClampNeg (v_kept (((37 : Int32) * p1) + x40_0).toNatClampNeg)) y40  H locs ls (hz40a _ (Option.some.inj h).symm) hS (lv_sub hl [1, 2, 0] rfl) hk40_0
        obtain ⟨y40, e40, h⟩ := bd_some h
        refine hL40 1000 (0 : Int32) v_now y40  H locs ls e40 hS (lv_sub hl [1, 2, 0] rfl) (fun y40_0 ey40 H locs ls hS hl => ?_)
        subst ey40
        refine lv_aload_n hx hb dX11_again_69 rfl (lv_at hl 0 rfl) ?_
        refine lv_iconst (v := 0) hx hb dX11_again_70 (by decide) ?_
        refine r_put (ws' := [oX11 q0 (.ref q1) u0_1 u0_2 u0_3 u0_4 u0_5 (.int (0 : Int32)) u0_7 u0_8 u0_9 u0_10 u0_11 u0_12 u0_13 u0_14 u0_15 u0_16 u0_17 u0_18 (.int (0 : Int32)) u0_20 u0_21 u0_22 u0_23 u0_24 u0_25 u0_26 u0_27 u0_28 u0_29 u0_30 u0_31 u0_32 u0_33 u0_34 u0_35 u0_36 (.int v_came) (.ref q2) (.ref q3) (.ref q4), aI cy q1 37 y40_0, aI cy q2 74 v_kept, aZ cy q3 2 v_isKept, aI cy q4 2 v_keptCame]) E frX11_145 hS 0 rfl (Nat.le_of_ble_eq_true rfl) rfl rfl rfl rfl dX11_again_71 (fun H locs hS => ?_)
        refine lv_iconst (v := 1) hx hb dX11_again_74 (by decide) ?_
        obtain rfl := Option.some.inj h
        exact rt_n E rfl hQ (.null) hS dX11_again_75
      · have h := it_neg c5 h
        refine lv_iconst (v := 0) hx hb dX11_again_36 (by decide) ?_
        obtain rfl := Option.some.inj h
        exact rt_n E rfl hQ (.null) hS dX11_again_37
set_option maxHeartbeats 4000000 in
set_option maxRecDepth 100000 in
theorem c_X11_allWants {l : Launch} {D : va_G} {cy : Nat → ClassId} (q0 : Nat) (q1 : Nat) (u0_2 : Value) (u0_3 : Value) (u0_4 : Value) (u0_5 : Value) (u0_6 : Value) (u0_7 : Value) (u0_8 : Value) (u0_9 : Value) (u0_10 : Value) (u0_11 : Value) (u0_12 : Value) (u0_13 : Value) (u0_14 : Value) (u0_15 : Value) (u0_16 : Value) (u0_17 : Value) (u0_18 : Value) (u0_19 : Value) (u0_20 : Value) (u0_21 : Value) (u0_22 : Value) (u0_23 : Value) (u0_24 : Value) (u0_25 : Value) (u0_26 : Value) (u0_27 : Value) (u0_28 : Value) (u0_29 : Value) (u0_30 : Value) (u0_31 : Value) (u0_32 : Value) (u0_33 : Value) (u0_34 : Value) (u0_35 : Value) (u0_36 : Value) (u0_37 : Value) (u0_38 : Value) (u0_39 : Value) (u0_40 : Value) (v_people : Int32) (v_now : Nat → Int32) (r : Int32) (h : X11_allWants v_people v_now = some r) : Ct l yX11_allWants cX11_allWants 3 (some .int) 1 20 D cy [.ref q0] [oX11 q0 (.ref q1) (.int v_people) u0_2 u0_3 u0_4 u0_5 u0_6 u0_7 u0_8 u0_9 u0_10 u0_11 u0_12 u0_13 u0_14 u0_15 u0_16 u0_17 u0_18 u0_19 u0_20 u0_21 u0_22 u0_23 u0_24 u0_25 u0_26 u0_27 u0_28 u0_29 u0_30 u0_31 u0_32 u0_33 u0_34 u0_35 u0_36 u0_37 u0_38 u0_39 u0_40, aI cy q1 37 v_now] (fun _ => [oX11 q0 (.ref q1) (.int v_people) u0_2 u0_3 u0_4 u0_5 u0_6 u0_7 u0_8 u0_9 u0_10 u0_11 u0_12 u0_13 u0_14 u0_15 u0_16 u0_17 u0_18 u0_19 u0_20 u0_21 u0_22 u0_23 u0_24 u0_25 u0_26 u0_27 u0_28 u0_29 u0_30 u0_31 u0_32 u0_33 u0_34 u0_35 u0_36 u0_37 u0_38 u0_39 u0_40, aI cy q1 37 v_now]) (some (.int r)) := by
  refine Ct.mk kX11_allWants (by decide +kernel) (Nat.le_of_ble_eq_true rfl) ?_
  intro p e s m below meth c A ls args R Q hRf hRl hQ E H locs hS hl
  have hx := E.x
  have hb := E.b
  have hl : lv_has ls 3 [(0, .ref q0)] := hl
  unfold X11_allWants at h
  refine lv_iconst (v := 0) hx hb dX11_allWants_0 (by decide) ?_
  refine lv_istore_n (lv' := [(1, .int (0 : Int32)), (0, .ref q0)]) hx hb dX11_allWants_1 rfl hl (by decide) rfl (fun ls hl => ?_)
  refine lv_iconst (v := 0) hx hb dX11_allWants_2 (by decide) ?_
  refine lv_istore_n (lv' := [(2, .int (0 : Int32)), (1, .int (0 : Int32)), (0, .ref q0)]) hx hb dX11_allWants_3 rfl hl (by decide) rfl (fun ls hl => ?_)
  have hL4 : ∀ (n : Nat) (x4_0 : Int32) (x4_1 : Int32) (y4 : Int32) (H : Heap) (locs : List Loc) (ls : Array Slot), lp (fun x4 => X11_allWants_s4 v_people v_now x4.1 x4.2) n (x4_0, x4_1) = some y4 → Sv D A s.heap [oX11 q0 (.ref q1) (.int v_people) u0_2 u0_3 u0_4 u0_5 u0_6 u0_7 u0_8 u0_9 u0_10 u0_11 u0_12 u0_13 u0_14 u0_15 u0_16 u0_17 u0_18 u0_19 u0_20 u0_21 u0_22 u0_23 u0_24 u0_25 u0_26 u0_27 u0_28 u0_29 u0_30 u0_31 u0_32 u0_33 u0_34 u0_35 u0_36 u0_37 u0_38 u0_39 u0_40, aI cy q1 37 v_now] H locs → lv_has ls 3 [(0, .ref q0), (1, .int x4_0), (2, .int x4_1)] → ( ∀ (y4_0 : Int32), y4_0 = y4 → ∀ (H : Heap) (locs : List Loc) (ls : Array Slot), Sv D A s.heap [oX11 q0 (.ref q1) (.int v_people) u0_2 u0_3 u0_4 u0_5 u0_6 u0_7 u0_8 u0_9 u0_10 u0_11 u0_12 u0_13 u0_14 u0_15 u0_16 u0_17 u0_18 u0_19 u0_20 u0_21 u0_22 u0_23 u0_24 u0_25 u0_26 u0_27 u0_28 u0_29 u0_30 u0_31 u0_32 u0_33 u0_34 u0_35 u0_36 u0_37 u0_38 u0_39 u0_40, aI cy q1 37 v_now] H locs → lv_has ls 3 [(1, .int y4_0)] → W p l e R s m args below meth c H locs 0 0 Q (F0 m 33 ls [])) → W p l e R s m args below meth c H locs 0 0 Q (F0 m 4 ls []) := by
    intro n
    induction n with
    | zero =>
      intro x4_0 x4_1 y4 H locs ls h
      exact lp_zero h
    | succ n ih4 =>
      intro x4_0 x4_1 y4 H locs ls h hS hl hk4_0
      obtain ⟨z4, h, hz4a, hz4b⟩ := lp_succ h
      have h : X11_allWants_s4 v_people v_now x4_0 x4_1 = some z4 := h
      unfold X11_allWants_s4 at h
      refine lv_iload_n hx hb dX11_allWants_4 rfl (lv_at hl 2 rfl) ?_
      refine lv_aload_n hx hb dX11_allWants_5 rfl (lv_at hl 0 rfl) ?_
      refine r_get E frX11_92 hS 0 rfl rfl dX11_allWants_6 ?_
      refine lv_icmp_ge (tgt := 33) hx hb dX11_allWants_9 (by decide) (fun c1 => ?_) (fun c1 => ?_)
      · have h := it_pos c1 h
        exact hk4_0 x4_0 (hz4b _ (Option.some.inj h).symm)  H locs ls hS (lv_sub hl [1] rfl)
      · have h := it_neg c1 h
        refine lv_iload_n hx hb dX11_allWants_12 rfl (lv_at hl 1 rfl) ?_
        refine lv_aload_n hx hb dX11_allWants_13 rfl (lv_at hl 0 rfl) ?_
        refine r_get E frX11_9 hS 0 rfl rfl dX11_allWants_14 ?_
        refine lv_bipush (v := 28) hx hb dX11_allWants_17 (by decide) ?_
        refine lv_iload_n hx hb dX11_allWants_19 rfl (lv_at hl 2 rfl) ?_
        refine lv_iadd hx hb dX11_allWants_20 ?_
        obtain ⟨g2, h⟩ := gi_some h
        refine r_iald E hS 1 rfl g2 dX11_allWants_21 ?_
        refine ct_S (ws' := fun _ => [oX11 q0 (.ref q1) (.int v_people) u0_2 u0_3 u0_4 u0_5 u0_6 u0_7 u0_8 u0_9 u0_10 u0_11 u0_12 u0_13 u0_14 u0_15 u0_16 u0_17 u0_18 u0_19 u0_20 u0_21 u0_22 u0_23 u0_24 u0_25 u0_26 u0_27 u0_28 u0_29 u0_30 u0_31 u0_32 u0_33 u0_34 u0_35 u0_36 u0_37 u0_38 u0_39 u0_40, aI cy q1 37 v_now]) (st' := [.int (J6_bitCount_0f7a4 (v_now ((28 : Int32) + x4_1).toNatClampNeg)), .int x4_0]) (rest := [.int x4_0]) E hS slX11_204 (c_J6_bitCount_0f7a4 (l := l) (D := D) (cy := cy) (p0 := (v_now ((28 : Int32) + x4_1).toNatClampNeg)) (r := (J6_bitCount_0f7a4 (v_now ((28 : Int32) + x4_1).toNatClampNeg))) rfl) [] rfl rfl (fun _ => rfl) (fun _ => rfl) rfl rfl (Nat.le_of_ble_eq_true rfl) hl.1 (by rw [hRf]; exact Nat.le_of_ble_eq_true rfl) (by rw [hRl]; exact Nat.le_of_ble_eq_true rfl) ⟨Nat.zero_le _, Nat.zero_le _⟩ dX11_allWants_22 rfl (fun H locs _ hS => ?_)
        refine lv_iadd hx hb dX11_allWants_25 ?_
        refine lv_istore_n (lv' := [(1, .int (x4_0 + (J6_bitCount_0f7a4 (v_now ((28 : Int32) + x4_1).toNatClampNeg)))), (0, .ref q0), (2, .int x4_1)]) hx hb dX11_allWants_26 rfl hl (by decide) rfl (fun ls hl => ?_)
        refine lv_iinc (v := (x4_1 + (1 : Int32))) (lv' := [(2, .int (x4_1 + (1 : Int32))), (1, .int (x4_0 + (J6_bitCount_0f7a4 (v_now ((28 : Int32) + x4_1).toNatClampNeg)))), (0, .ref q0)]) hx hb dX11_allWants_27 hl (k := 2) rfl rfl (by decide) rfl (fun ls hl => ?_)
        refine lv_goto (tgt := 4) hx hb dX11_allWants_30 (by decide) ?_
        exact ih4 (x4_0 + (J6_bitCount_0f7a4 (v_now ((28 : Int32) + x4_1).toNatClampNeg))) (x4_1 + (1 : Int32)) y4  H locs ls (hz4a _ (Option.some.inj h).symm) hS (lv_sub hl [2, 1, 0] rfl) hk4_0
  obtain ⟨y4, e4, h⟩ := bd_some h
  refine hL4 1000 (0 : Int32) (0 : Int32) y4  H locs ls e4 hS (lv_sub hl [2, 1, 0] rfl) (fun y4_0 ey4 H locs ls hS hl => ?_)
  subst ey4
  refine lv_iload_n hx hb dX11_allWants_33 rfl (lv_at hl 0 rfl) ?_
  obtain rfl := Option.some.inj h
  exact rt_i E hQ (.null) hS dX11_allWants_34
set_option maxHeartbeats 4000000 in
set_option maxRecDepth 100000 in
theorem c_X11_count {l : Launch} {D : va_G} {cy : Nat → ClassId} (q0 : Nat) (q1 : Nat) (u0_2 : Value) (u0_4 : Value) (u0_7 : Value) (u0_8 : Value) (u0_9 : Value) (u0_10 : Value) (u0_11 : Value) (u0_12 : Value) (u0_13 : Value) (u0_14 : Value) (u0_15 : Value) (u0_16 : Value) (u0_17 : Value) (u0_18 : Value) (u0_20 : Value) (u0_21 : Value) (u0_22 : Value) (u0_23 : Value) (u0_24 : Value) (u0_25 : Value) (u0_26 : Value) (u0_27 : Value) (u0_28 : Value) (u0_29 : Value) (u0_30 : Value) (u0_32 : Value) (u0_33 : Value) (u0_35 : Value) (u0_36 : Value) (u0_37 : Value) (u0_38 : Value) (u0_39 : Value) (u0_40 : Value) (v_people : Int32) (v_typed : Int32) (v_rowMany : Int32) (v_thrown : Int32) (v_undoMany : Int32) (v_heardMany : Int32) (v_sawMany : Int32) (v_now : Nat → Int32) (p1 : Int32) (r : Int32 × Int32) (h : X11_count v_people v_typed v_rowMany v_undoMany v_heardMany v_sawMany v_now p1 = some r) : Ct l yX11_count cX11_count 2 (some .int) 2 42 D cy [.ref q0, .int p1] [oX11 q0 (.ref q1) (.int v_people) u0_2 (.int v_typed) u0_4 (.int v_rowMany) (.int v_thrown) u0_7 u0_8 u0_9 u0_10 u0_11 u0_12 u0_13 u0_14 u0_15 u0_16 u0_17 u0_18 (.int v_undoMany) u0_20 u0_21 u0_22 u0_23 u0_24 u0_25 u0_26 u0_27 u0_28 u0_29 u0_30 (.int v_heardMany) u0_32 u0_33 (.int v_sawMany) u0_35 u0_36 u0_37 u0_38 u0_39 u0_40, aI cy q1 37 v_now] (fun _ => [oX11 q0 (.ref q1) (.int v_people) u0_2 (.int v_typed) u0_4 (.int v_rowMany) (.int r.2) u0_7 u0_8 u0_9 u0_10 u0_11 u0_12 u0_13 u0_14 u0_15 u0_16 u0_17 u0_18 (.int v_undoMany) u0_20 u0_21 u0_22 u0_23 u0_24 u0_25 u0_26 u0_27 u0_28 u0_29 u0_30 (.int v_heardMany) u0_32 u0_33 (.int v_sawMany) u0_35 u0_36 u0_37 u0_38 u0_39 u0_40, aI cy q1 37 v_now]) (some (.int r.1)) := by
  refine Ct.mk kX11_count (by decide +kernel) (Nat.le_of_ble_eq_true rfl) ?_
  intro p e s m below meth c A ls args R Q hRf hRl hQ E H locs hS hl
  have hx := E.x
  have hb := E.b
  have hl : lv_has ls 2 [(0, .ref q0), (1, .int p1)] := hl
  unfold X11_count at h
  refine lv_aload_n hx hb dX11_count_0 rfl (lv_at hl 0 rfl) ?_
  refine lv_iconst (v := 0) hx hb dX11_count_1 (by decide) ?_
  refine r_put (ws' := [oX11 q0 (.ref q1) (.int v_people) u0_2 (.int v_typed) u0_4 (.int v_rowMany) (.int (0 : Int32)) u0_7 u0_8 u0_9 u0_10 u0_11 u0_12 u0_13 u0_14 u0_15 u0_16 u0_17 u0_18 (.int v_undoMany) u0_20 u0_21 u0_22 u0_23 u0_24 u0_25 u0_26 u0_27 u0_28 u0_29 u0_30 (.int v_heardMany) u0_32 u0_33 (.int v_sawMany) u0_35 u0_36 u0_37 u0_38 u0_39 u0_40, aI cy q1 37 v_now]) E frX11_85 hS 0 rfl (Nat.le_of_ble_eq_true rfl) rfl rfl rfl rfl dX11_count_2 (fun H locs hS => ?_)
  refine lv_iload_n hx hb dX11_count_5 rfl (lv_at hl 1 rfl) ?_
  rcases Decidable.em (p1 = 0) with c1 | c1
  · have h := it_pos c1 h
    refine lv_tableIn (off := 66) (tgt := 72) hx hb dX11_count_6 (by rw [c1]; decide) (by rw [c1]; decide) (by rw [c1]; rfl) (by decide) ?_
    refine lv_aload_n hx hb dX11_count_72 rfl (lv_at hl 0 rfl) ?_
    refine r_get E frX11_92 hS 0 rfl rfl dX11_count_73 ?_
    obtain rfl := Option.some.inj h
    exact rt_i E hQ (.null) hS dX11_count_76
  · have h := it_neg c1 h
    rcases Decidable.em (p1 = 1) with c2 | c2
    · have h := it_pos c2 h
      refine lv_tableIn (off := 71) (tgt := 77) hx hb dX11_count_6 (by rw [c2]; decide) (by rw [c2]; decide) (by rw [c2]; rfl) (by decide) ?_
      refine lv_aload_n hx hb dX11_count_77 rfl (lv_at hl 0 rfl) ?_
      refine r_get E frX11_9 hS 0 rfl rfl dX11_count_78 ?_
      refine lv_bipush (v := 35) hx hb dX11_count_81 (by decide) ?_
      obtain ⟨g3, h⟩ := gi_some h
      refine r_iald E hS 1 rfl g3 dX11_count_83 ?_
      obtain rfl := Option.some.inj h
      exact rt_i E hQ (.null) hS dX11_count_84
    · have h := it_neg c2 h
      rcases Decidable.em (p1 = 2) with c4 | c4
      · have h := it_pos c4 h
        refine lv_tableIn (off := 79) (tgt := 85) hx hb dX11_count_6 (by rw [c4]; decide) (by rw [c4]; decide) (by rw [c4]; rfl) (by decide) ?_
        refine lv_aload_n hx hb dX11_count_85 rfl (lv_at hl 0 rfl) ?_
        refine r_get E frX11_9 hS 0 rfl rfl dX11_count_86 ?_
        refine lv_bipush (v := 36) hx hb dX11_count_89 (by decide) ?_
        obtain ⟨g5, h⟩ := gi_some h
        refine r_iald E hS 1 rfl g5 dX11_count_91 ?_
        obtain rfl := Option.some.inj h
        exact rt_i E hQ (.null) hS dX11_count_92
      · have h := it_neg c4 h
        rcases Decidable.em (p1 = 3) with c6 | c6
        · have h := it_pos c6 h
          refine lv_tableIn (off := 87) (tgt := 93) hx hb dX11_count_6 (by rw [c6]; decide) (by rw [c6]; decide) (by rw [c6]; rfl) (by decide) ?_
          refine lv_aload_n hx hb dX11_count_93 rfl (lv_at hl 0 rfl) ?_
          obtain ⟨y94, e7, h⟩ := bd_some h
          refine ct_V (ws' := fun _ => [oX11 q0 (.ref q1) (.int v_people) u0_2 (.int v_typed) u0_4 (.int v_rowMany) (.int (0 : Int32)) u0_7 u0_8 u0_9 u0_10 u0_11 u0_12 u0_13 u0_14 u0_15 u0_16 u0_17 u0_18 (.int v_undoMany) u0_20 u0_21 u0_22 u0_23 u0_24 u0_25 u0_26 u0_27 u0_28 u0_29 u0_30 (.int v_heardMany) u0_32 u0_33 (.int v_sawMany) u0_35 u0_36 u0_37 u0_38 u0_39 u0_40, aI cy q1 37 v_now]) (st' := [.int y94]) (rest := []) E hS vlX11_370 (c_X11_allWants (l := l) (D := D) (cy := cy) (q0 := q0) (q1 := q1) (u0_2 := u0_2) (u0_3 := .int v_typed) (u0_4 := u0_4) (u0_5 := .int v_rowMany) (u0_6 := .int (0 : Int32)) (u0_7 := u0_7) (u0_8 := u0_8) (u0_9 := u0_9) (u0_10 := u0_10) (u0_11 := u0_11) (u0_12 := u0_12) (u0_13 := u0_13) (u0_14 := u0_14) (u0_15 := u0_15) (u0_16 := u0_16) (u0_17 := u0_17) (u0_18 := u0_18) (u0_19 := .int v_undoMany) (u0_20 := u0_20) (u0_21 := u0_21) (u0_22 := u0_22) (u0_23 := u0_23) (u0_24 := u0_24) (u0_25 := u0_25) (u0_26 := u0_26) (u0_27 := u0_27) (u0_28 := u0_28) (u0_29 := u0_29) (u0_30 := u0_30) (u0_31 := .int v_heardMany) (u0_32 := u0_32) (u0_33 := u0_33) (u0_34 := .int v_sawMany) (u0_35 := u0_35) (u0_36 := u0_36) (u0_37 := u0_37) (u0_38 := u0_38) (u0_39 := u0_39) (u0_40 := u0_40) (v_people := v_people) (v_now := v_now) (r := y94) e7) [0, 1] rfl rfl (fun _ => rfl) (fun _ => rfl) rfl rfl rfl rfl (Nat.le_of_ble_eq_true rfl) hl.1 (by rw [hRf]; exact Nat.le_of_ble_eq_true rfl) (by rw [hRl]; exact Nat.le_of_ble_eq_true rfl) ⟨Nat.zero_le _, Nat.zero_le _⟩ dX11_count_94 rfl (fun H locs _ hS => ?_)
          obtain rfl := Option.some.inj h
          exact rt_i E hQ (.null) hS dX11_count_97
        · have h := it_neg c6 h
          rcases Decidable.em (p1 = 4) with c8 | c8
          · have h := it_pos c8 h
            refine lv_tableIn (off := 92) (tgt := 98) hx hb dX11_count_6 (by rw [c8]; decide) (by rw [c8]; decide) (by rw [c8]; rfl) (by decide) ?_
            refine lv_aload_n hx hb dX11_count_98 rfl (lv_at hl 0 rfl) ?_
            refine lv_aload_n hx hb dX11_count_99 rfl (lv_at hl 0 rfl) ?_
            refine r_get E frX11_9 hS 0 rfl rfl dX11_count_100 ?_
            refine lv_iconst (v := 0) hx hb dX11_count_103 (by decide) ?_
            obtain ⟨y104, e9, h⟩ := bd_some h
            refine ct_V (ws' := fun _ => [oX11 q0 (.ref q1) (.int v_people) u0_2 (.int v_typed) u0_4 (.int v_rowMany) (.int (0 : Int32)) u0_7 u0_8 u0_9 u0_10 u0_11 u0_12 u0_13 u0_14 u0_15 u0_16 u0_17 u0_18 (.int v_undoMany) u0_20 u0_21 u0_22 u0_23 u0_24 u0_25 u0_26 u0_27 u0_28 u0_29 u0_30 (.int v_heardMany) u0_32 u0_33 (.int v_sawMany) u0_35 u0_36 u0_37 u0_38 u0_39 u0_40, aI cy q1 37 v_now]) (st' := [.int y104]) (rest := []) E hS vlX11_232 (c_X11_sumOf (l := l) (D := D) (cy := cy) (q0 := q0) (q1 := q1) (u0_0 := .ref q1) (u0_2 := u0_2) (u0_3 := .int v_typed) (u0_4 := u0_4) (u0_5 := .int v_rowMany) (u0_6 := .int (0 : Int32)) (u0_7 := u0_7) (u0_8 := u0_8) (u0_9 := u0_9) (u0_10 := u0_10) (u0_11 := u0_11) (u0_12 := u0_12) (u0_13 := u0_13) (u0_14 := u0_14) (u0_15 := u0_15) (u0_16 := u0_16) (u0_17 := u0_17) (u0_18 := u0_18) (u0_19 := .int v_undoMany) (u0_20 := u0_20) (u0_21 := u0_21) (u0_22 := u0_22) (u0_23 := u0_23) (u0_24 := u0_24) (u0_25 := u0_25) (u0_26 := u0_26) (u0_27 := u0_27) (u0_28 := u0_28) (u0_29 := u0_29) (u0_30 := u0_30) (u0_31 := .int v_heardMany) (u0_32 := u0_32) (u0_33 := u0_33) (u0_34 := .int v_sawMany) (u0_35 := u0_35) (u0_36 := u0_36) (u0_37 := u0_37) (u0_38 := u0_38) (u0_39 := u0_39) (u0_40 := u0_40) (v_people := v_people) (nw1_ := 37) (w1_ := v_now) (p2 := (0 : Int32)) (r := y104) e9) [0, 1] rfl rfl (fun _ => rfl) (fun _ => rfl) rfl rfl rfl rfl (Nat.le_of_ble_eq_true rfl) hl.1 (by rw [hRf]; exact Nat.le_of_ble_eq_true rfl) (by rw [hRl]; exact Nat.le_of_ble_eq_true rfl) ⟨Nat.zero_le _, Nat.zero_le _⟩ dX11_count_104 rfl (fun H locs _ hS => ?_)
            obtain rfl := Option.some.inj h
            exact rt_i E hQ (.null) hS dX11_count_107
          · have h := it_neg c8 h
            rcases Decidable.em (p1 = 5) with c10 | c10
            · have h := it_pos c10 h
              refine lv_tableIn (off := 102) (tgt := 108) hx hb dX11_count_6 (by rw [c10]; decide) (by rw [c10]; decide) (by rw [c10]; rfl) (by decide) ?_
              refine lv_aload_n hx hb dX11_count_108 rfl (lv_at hl 0 rfl) ?_
              refine lv_aload_n hx hb dX11_count_109 rfl (lv_at hl 0 rfl) ?_
              refine r_get E frX11_9 hS 0 rfl rfl dX11_count_110 ?_
              refine lv_bipush (v := 7) hx hb dX11_count_113 (by decide) ?_
              obtain ⟨y115, e11, h⟩ := bd_some h
              refine ct_V (ws' := fun _ => [oX11 q0 (.ref q1) (.int v_people) u0_2 (.int v_typed) u0_4 (.int v_rowMany) (.int (0 : Int32)) u0_7 u0_8 u0_9 u0_10 u0_11 u0_12 u0_13 u0_14 u0_15 u0_16 u0_17 u0_18 (.int v_undoMany) u0_20 u0_21 u0_22 u0_23 u0_24 u0_25 u0_26 u0_27 u0_28 u0_29 u0_30 (.int v_heardMany) u0_32 u0_33 (.int v_sawMany) u0_35 u0_36 u0_37 u0_38 u0_39 u0_40, aI cy q1 37 v_now]) (st' := [.int y115]) (rest := []) E hS vlX11_232 (c_X11_sumOf (l := l) (D := D) (cy := cy) (q0 := q0) (q1 := q1) (u0_0 := .ref q1) (u0_2 := u0_2) (u0_3 := .int v_typed) (u0_4 := u0_4) (u0_5 := .int v_rowMany) (u0_6 := .int (0 : Int32)) (u0_7 := u0_7) (u0_8 := u0_8) (u0_9 := u0_9) (u0_10 := u0_10) (u0_11 := u0_11) (u0_12 := u0_12) (u0_13 := u0_13) (u0_14 := u0_14) (u0_15 := u0_15) (u0_16 := u0_16) (u0_17 := u0_17) (u0_18 := u0_18) (u0_19 := .int v_undoMany) (u0_20 := u0_20) (u0_21 := u0_21) (u0_22 := u0_22) (u0_23 := u0_23) (u0_24 := u0_24) (u0_25 := u0_25) (u0_26 := u0_26) (u0_27 := u0_27) (u0_28 := u0_28) (u0_29 := u0_29) (u0_30 := u0_30) (u0_31 := .int v_heardMany) (u0_32 := u0_32) (u0_33 := u0_33) (u0_34 := .int v_sawMany) (u0_35 := u0_35) (u0_36 := u0_36) (u0_37 := u0_37) (u0_38 := u0_38) (u0_39 := u0_39) (u0_40 := u0_40) (v_people := v_people) (nw1_ := 37) (w1_ := v_now) (p2 := (7 : Int32)) (r := y115) e11) [0, 1] rfl rfl (fun _ => rfl) (fun _ => rfl) rfl rfl rfl rfl (Nat.le_of_ble_eq_true rfl) hl.1 (by rw [hRf]; exact Nat.le_of_ble_eq_true rfl) (by rw [hRl]; exact Nat.le_of_ble_eq_true rfl) ⟨Nat.zero_le _, Nat.zero_le _⟩ dX11_count_115 rfl (fun H locs _ hS => ?_)
              obtain rfl := Option.some.inj h
              exact rt_i E hQ (.null) hS dX11_count_118
            · have h := it_neg c10 h
              rcases Decidable.em (p1 = 6) with c12 | c12
              · have h := it_pos c12 h
                refine lv_tableIn (off := 113) (tgt := 119) hx hb dX11_count_6 (by rw [c12]; decide) (by rw [c12]; decide) (by rw [c12]; rfl) (by decide) ?_
                refine lv_aload_n hx hb dX11_count_119 rfl (lv_at hl 0 rfl) ?_
                refine lv_aload_n hx hb dX11_count_120 rfl (lv_at hl 0 rfl) ?_
                refine r_get E frX11_9 hS 0 rfl rfl dX11_count_121 ?_
                refine lv_bipush (v := 14) hx hb dX11_count_124 (by decide) ?_
                obtain ⟨y126, e13, h⟩ := bd_some h
                refine ct_V (ws' := fun _ => [oX11 q0 (.ref q1) (.int v_people) u0_2 (.int v_typed) u0_4 (.int v_rowMany) (.int (0 : Int32)) u0_7 u0_8 u0_9 u0_10 u0_11 u0_12 u0_13 u0_14 u0_15 u0_16 u0_17 u0_18 (.int v_undoMany) u0_20 u0_21 u0_22 u0_23 u0_24 u0_25 u0_26 u0_27 u0_28 u0_29 u0_30 (.int v_heardMany) u0_32 u0_33 (.int v_sawMany) u0_35 u0_36 u0_37 u0_38 u0_39 u0_40, aI cy q1 37 v_now]) (st' := [.int y126]) (rest := []) E hS vlX11_232 (c_X11_sumOf (l := l) (D := D) (cy := cy) (q0 := q0) (q1 := q1) (u0_0 := .ref q1) (u0_2 := u0_2) (u0_3 := .int v_typed) (u0_4 := u0_4) (u0_5 := .int v_rowMany) (u0_6 := .int (0 : Int32)) (u0_7 := u0_7) (u0_8 := u0_8) (u0_9 := u0_9) (u0_10 := u0_10) (u0_11 := u0_11) (u0_12 := u0_12) (u0_13 := u0_13) (u0_14 := u0_14) (u0_15 := u0_15) (u0_16 := u0_16) (u0_17 := u0_17) (u0_18 := u0_18) (u0_19 := .int v_undoMany) (u0_20 := u0_20) (u0_21 := u0_21) (u0_22 := u0_22) (u0_23 := u0_23) (u0_24 := u0_24) (u0_25 := u0_25) (u0_26 := u0_26) (u0_27 := u0_27) (u0_28 := u0_28) (u0_29 := u0_29) (u0_30 := u0_30) (u0_31 := .int v_heardMany) (u0_32 := u0_32) (u0_33 := u0_33) (u0_34 := .int v_sawMany) (u0_35 := u0_35) (u0_36 := u0_36) (u0_37 := u0_37) (u0_38 := u0_38) (u0_39 := u0_39) (u0_40 := u0_40) (v_people := v_people) (nw1_ := 37) (w1_ := v_now) (p2 := (14 : Int32)) (r := y126) e13) [0, 1] rfl rfl (fun _ => rfl) (fun _ => rfl) rfl rfl rfl rfl (Nat.le_of_ble_eq_true rfl) hl.1 (by rw [hRf]; exact Nat.le_of_ble_eq_true rfl) (by rw [hRl]; exact Nat.le_of_ble_eq_true rfl) ⟨Nat.zero_le _, Nat.zero_le _⟩ dX11_count_126 rfl (fun H locs _ hS => ?_)
                obtain rfl := Option.some.inj h
                exact rt_i E hQ (.null) hS dX11_count_129
              · have h := it_neg c12 h
                rcases Decidable.em (p1 = 7) with c14 | c14
                · have h := it_pos c14 h
                  refine lv_tableIn (off := 124) (tgt := 130) hx hb dX11_count_6 (by rw [c14]; decide) (by rw [c14]; decide) (by rw [c14]; rfl) (by decide) ?_
                  refine lv_aload_n hx hb dX11_count_130 rfl (lv_at hl 0 rfl) ?_
                  refine lv_aload_n hx hb dX11_count_131 rfl (lv_at hl 0 rfl) ?_
                  refine r_get E frX11_9 hS 0 rfl rfl dX11_count_132 ?_
                  refine lv_bipush (v := 21) hx hb dX11_count_135 (by decide) ?_
                  obtain ⟨y137, e15, h⟩ := bd_some h
                  refine ct_V (ws' := fun _ => [oX11 q0 (.ref q1) (.int v_people) u0_2 (.int v_typed) u0_4 (.int v_rowMany) (.int (0 : Int32)) u0_7 u0_8 u0_9 u0_10 u0_11 u0_12 u0_13 u0_14 u0_15 u0_16 u0_17 u0_18 (.int v_undoMany) u0_20 u0_21 u0_22 u0_23 u0_24 u0_25 u0_26 u0_27 u0_28 u0_29 u0_30 (.int v_heardMany) u0_32 u0_33 (.int v_sawMany) u0_35 u0_36 u0_37 u0_38 u0_39 u0_40, aI cy q1 37 v_now]) (st' := [.int y137]) (rest := []) E hS vlX11_232 (c_X11_sumOf (l := l) (D := D) (cy := cy) (q0 := q0) (q1 := q1) (u0_0 := .ref q1) (u0_2 := u0_2) (u0_3 := .int v_typed) (u0_4 := u0_4) (u0_5 := .int v_rowMany) (u0_6 := .int (0 : Int32)) (u0_7 := u0_7) (u0_8 := u0_8) (u0_9 := u0_9) (u0_10 := u0_10) (u0_11 := u0_11) (u0_12 := u0_12) (u0_13 := u0_13) (u0_14 := u0_14) (u0_15 := u0_15) (u0_16 := u0_16) (u0_17 := u0_17) (u0_18 := u0_18) (u0_19 := .int v_undoMany) (u0_20 := u0_20) (u0_21 := u0_21) (u0_22 := u0_22) (u0_23 := u0_23) (u0_24 := u0_24) (u0_25 := u0_25) (u0_26 := u0_26) (u0_27 := u0_27) (u0_28 := u0_28) (u0_29 := u0_29) (u0_30 := u0_30) (u0_31 := .int v_heardMany) (u0_32 := u0_32) (u0_33 := u0_33) (u0_34 := .int v_sawMany) (u0_35 := u0_35) (u0_36 := u0_36) (u0_37 := u0_37) (u0_38 := u0_38) (u0_39 := u0_39) (u0_40 := u0_40) (v_people := v_people) (nw1_ := 37) (w1_ := v_now) (p2 := (21 : Int32)) (r := y137) e15) [0, 1] rfl rfl (fun _ => rfl) (fun _ => rfl) rfl rfl rfl rfl (Nat.le_of_ble_eq_true rfl) hl.1 (by rw [hRf]; exact Nat.le_of_ble_eq_true rfl) (by rw [hRl]; exact Nat.le_of_ble_eq_true rfl) ⟨Nat.zero_le _, Nat.zero_le _⟩ dX11_count_137 rfl (fun H locs _ hS => ?_)
                  obtain rfl := Option.some.inj h
                  exact rt_i E hQ (.null) hS dX11_count_140
                · have h := it_neg c14 h
                  rcases Decidable.em (p1 = 8) with c16 | c16
                  · have h := it_pos c16 h
                    refine lv_tableIn (off := 135) (tgt := 141) hx hb dX11_count_6 (by rw [c16]; decide) (by rw [c16]; decide) (by rw [c16]; rfl) (by decide) ?_
                    refine lv_aload_n hx hb dX11_count_141 rfl (lv_at hl 0 rfl) ?_
                    refine r_get E frX11_326 hS 0 rfl rfl dX11_count_142 ?_
                    obtain rfl := Option.some.inj h
                    exact rt_i E hQ (.null) hS dX11_count_145
                  · have h := it_neg c16 h
                    rcases Decidable.em (p1 = 9) with c17 | c17
                    · have h := it_pos c17 h
                      refine lv_tableIn (off := 140) (tgt := 146) hx hb dX11_count_6 (by rw [c17]; decide) (by rw [c17]; decide) (by rw [c17]; rfl) (by decide) ?_
                      refine lv_aload_n hx hb dX11_count_146 rfl (lv_at hl 0 rfl) ?_
                      refine r_get E frX11_335 hS 0 rfl rfl dX11_count_147 ?_
                      obtain rfl := Option.some.inj h
                      exact rt_i E hQ (.null) hS dX11_count_150
                    · have h := it_neg c17 h
                      rcases Decidable.em (p1 = 10) with c18 | c18
                      · have h := it_pos c18 h
                        refine lv_tableIn (off := 145) (tgt := 151) hx hb dX11_count_6 (by rw [c18]; decide) (by rw [c18]; decide) (by rw [c18]; rfl) (by decide) ?_
                        refine lv_aload_n hx hb dX11_count_151 rfl (lv_at hl 0 rfl) ?_
                        refine r_get E frX11_145 hS 0 rfl rfl dX11_count_152 ?_
                        obtain rfl := Option.some.inj h
                        exact rt_i E hQ (.null) hS dX11_count_155
                      · have h := it_neg c18 h
                        rcases Decidable.em (p1 = 11) with c19 | c19
                        · have h := it_pos c19 h
                          refine lv_tableIn (off := 150) (tgt := 156) hx hb dX11_count_6 (by rw [c19]; decide) (by rw [c19]; decide) (by rw [c19]; rfl) (by decide) ?_
                          refine lv_aload_n hx hb dX11_count_156 rfl (lv_at hl 0 rfl) ?_
                          refine r_get E frX11_89 hS 0 rfl rfl dX11_count_157 ?_
                          obtain rfl := Option.some.inj h
                          exact rt_i E hQ (.null) hS dX11_count_160
                        · have h := it_neg c19 h
                          rcases Decidable.em (p1 = 12) with c20 | c20
                          · have h := it_pos c20 h
                            refine lv_tableIn (off := 155) (tgt := 161) hx hb dX11_count_6 (by rw [c20]; decide) (by rw [c20]; decide) (by rw [c20]; rfl) (by decide) ?_
                            refine lv_aload_n hx hb dX11_count_161 rfl (lv_at hl 0 rfl) ?_
                            refine r_get E frX11_103 hS 0 rfl rfl dX11_count_162 ?_
                            obtain rfl := Option.some.inj h
                            exact rt_i E hQ (.null) hS dX11_count_165
                          · have h := it_neg c20 h
                            have ht : p1.toInt < 0 ∨ (12 : Int) < p1.toInt := by
                              refine tb_neg (fun k h1 h2 => ?_)
                              have hh : k = 0 ∨ k = 1 ∨ k = 2 ∨ k = 3 ∨ k = 4 ∨ k = 5 ∨ k = 6 ∨ k = 7 ∨ k = 8 ∨ k = 9 ∨ k = 10 ∨ k = 11 ∨ k = 12 := by omega
                              rcases hh with rfl | rfl | rfl | rfl | rfl | rfl | rfl | rfl | rfl | rfl | rfl | rfl | rfl
                              · exact c1
                              · exact c2
                              · exact c4
                              · exact c6
                              · exact c8
                              · exact c10
                              · exact c12
                              · exact c14
                              · exact c16
                              · exact c17
                              · exact c18
                              · exact c19
                              · exact c20
                            refine lv_tableOut (tgt := 166) hx hb dX11_count_6 ht (by decide) ?_
                            refine lv_iconst (v := -1) hx hb dX11_count_166 (by decide) ?_
                            obtain rfl := Option.some.inj h
                            exact rt_i E hQ (.null) hS dX11_count_167
set_option maxHeartbeats 4000000 in
set_option maxRecDepth 100000 in
theorem c_X11_row {l : Launch} {D : va_G} {cy : Nat → ClassId} (q0 : Nat) (q1 : Nat) (u0_0 : Value) (u0_1 : Value) (u0_2 : Value) (u0_3 : Value) (u0_7 : Value) (u0_8 : Value) (u0_9 : Value) (u0_10 : Value) (u0_11 : Value) (u0_12 : Value) (u0_13 : Value) (u0_14 : Value) (u0_15 : Value) (u0_16 : Value) (u0_17 : Value) (u0_18 : Value) (u0_19 : Value) (u0_20 : Value) (u0_21 : Value) (u0_22 : Value) (u0_23 : Value) (u0_24 : Value) (u0_25 : Value) (u0_26 : Value) (u0_27 : Value) (u0_28 : Value) (u0_29 : Value) (u0_30 : Value) (u0_31 : Value) (u0_32 : Value) (u0_33 : Value) (u0_34 : Value) (u0_35 : Value) (u0_36 : Value) (u0_37 : Value) (u0_38 : Value) (u0_39 : Value) (u0_40 : Value) (v_rowMany : Int32) (v_thrown : Int32) (v_row : Nat → Int64) (p1 : Int32) (r : Int64 × Int32) (h : X11_row v_rowMany v_row p1 = some r) : Ct l yX11_row cX11_row 2 (some .long) 1 22 D cy [.ref q0, .int p1] [oX11 q0 u0_0 u0_1 u0_2 u0_3 (.ref q1) (.int v_rowMany) (.int v_thrown) u0_7 u0_8 u0_9 u0_10 u0_11 u0_12 u0_13 u0_14 u0_15 u0_16 u0_17 u0_18 u0_19 u0_20 u0_21 u0_22 u0_23 u0_24 u0_25 u0_26 u0_27 u0_28 u0_29 u0_30 u0_31 u0_32 u0_33 u0_34 u0_35 u0_36 u0_37 u0_38 u0_39 u0_40, aJ cy q1 16 v_row] (fun _ => [oX11 q0 u0_0 u0_1 u0_2 u0_3 (.ref q1) (.int v_rowMany) (.int r.2) u0_7 u0_8 u0_9 u0_10 u0_11 u0_12 u0_13 u0_14 u0_15 u0_16 u0_17 u0_18 u0_19 u0_20 u0_21 u0_22 u0_23 u0_24 u0_25 u0_26 u0_27 u0_28 u0_29 u0_30 u0_31 u0_32 u0_33 u0_34 u0_35 u0_36 u0_37 u0_38 u0_39 u0_40, aJ cy q1 16 v_row]) (some (.long r.1)) := by
  refine Ct.mk kX11_row (by decide +kernel) (Nat.le_of_ble_eq_true rfl) ?_
  intro p e s m below meth c A ls args R Q hRf hRl hQ E H locs hS hl
  have hx := E.x
  have hb := E.b
  have hl : lv_has ls 2 [(0, .ref q0), (1, .int p1)] := hl
  unfold X11_row at h
  refine lv_aload_n hx hb dX11_row_0 rfl (lv_at hl 0 rfl) ?_
  refine lv_iconst (v := 0) hx hb dX11_row_1 (by decide) ?_
  refine r_put (ws' := [oX11 q0 u0_0 u0_1 u0_2 u0_3 (.ref q1) (.int v_rowMany) (.int (0 : Int32)) u0_7 u0_8 u0_9 u0_10 u0_11 u0_12 u0_13 u0_14 u0_15 u0_16 u0_17 u0_18 u0_19 u0_20 u0_21 u0_22 u0_23 u0_24 u0_25 u0_26 u0_27 u0_28 u0_29 u0_30 u0_31 u0_32 u0_33 u0_34 u0_35 u0_36 u0_37 u0_38 u0_39 u0_40, aJ cy q1 16 v_row]) E frX11_85 hS 0 rfl (Nat.le_of_ble_eq_true rfl) rfl rfl rfl rfl dX11_row_2 (fun H locs hS => ?_)
  refine lv_iload_n hx hb dX11_row_5 rfl (lv_at hl 1 rfl) ?_
  refine lv_iconst (v := 0) hx hb dX11_row_6 (by decide) ?_
  refine lv_aload_n hx hb dX11_row_7 rfl (lv_at hl 0 rfl) ?_
  refine r_get E frX11_89 hS 0 rfl rfl dX11_row_8 ?_
  refine lv_iconst (v := 1) hx hb dX11_row_11 (by decide) ?_
  refine lv_isub hx hb dX11_row_12 ?_
  refine ct_S (ws' := fun _ => [oX11 q0 u0_0 u0_1 u0_2 u0_3 (.ref q1) (.int v_rowMany) (.int (0 : Int32)) u0_7 u0_8 u0_9 u0_10 u0_11 u0_12 u0_13 u0_14 u0_15 u0_16 u0_17 u0_18 u0_19 u0_20 u0_21 u0_22 u0_23 u0_24 u0_25 u0_26 u0_27 u0_28 u0_29 u0_30 u0_31 u0_32 u0_33 u0_34 u0_35 u0_36 u0_37 u0_38 u0_39 u0_40, aJ cy q1 16 v_row]) (st' := [.int (X11_in p1 (0 : Int32) (v_rowMany - (1 : Int32)))]) (rest := []) E hS slX11_95 (c_X11_in (l := l) (D := D) (cy := cy) (p0 := p1) (p1 := (0 : Int32)) (p2 := (v_rowMany - (1 : Int32))) (r := (X11_in p1 (0 : Int32) (v_rowMany - (1 : Int32)))) rfl) [] rfl rfl (fun _ => rfl) (fun _ => rfl) rfl rfl (Nat.le_of_ble_eq_true rfl) hl.1 (by rw [hRf]; exact Nat.le_of_ble_eq_true rfl) (by rw [hRl]; exact Nat.le_of_ble_eq_true rfl) ⟨Nat.zero_le _, Nat.zero_le _⟩ dX11_row_13 rfl (fun H locs _ hS => ?_)
  refine lv_if_eq (tgt := 28) hx hb dX11_row_16 (by decide) (fun c1 => ?_) (fun c1 => ?_)
  · have h := it_pos c1 h
    refine lv_aload_n hx hb dX11_row_28 rfl (lv_at hl 0 rfl) ?_
    refine ct_V (ws' := fun _ => [oX11 q0 u0_0 u0_1 u0_2 u0_3 (.ref q1) (.int v_rowMany) (.int X11_lost.2) u0_7 u0_8 u0_9 u0_10 u0_11 u0_12 u0_13 u0_14 u0_15 u0_16 u0_17 u0_18 u0_19 u0_20 u0_21 u0_22 u0_23 u0_24 u0_25 u0_26 u0_27 u0_28 u0_29 u0_30 u0_31 u0_32 u0_33 u0_34 u0_35 u0_36 u0_37 u0_38 u0_39 u0_40, aJ cy q1 16 v_row]) (st' := [.int X11_lost.1]) (rest := []) E hS vlX11_220 (c_X11_lost (l := l) (D := D) (cy := cy) (q0 := q0) (u0_0 := u0_0) (u0_1 := u0_1) (u0_2 := u0_2) (u0_3 := u0_3) (u0_4 := .ref q1) (u0_5 := .int v_rowMany) (u0_7 := u0_7) (u0_8 := u0_8) (u0_9 := u0_9) (u0_10 := u0_10) (u0_11 := u0_11) (u0_12 := u0_12) (u0_13 := u0_13) (u0_14 := u0_14) (u0_15 := u0_15) (u0_16 := u0_16) (u0_17 := u0_17) (u0_18 := u0_18) (u0_19 := u0_19) (u0_20 := u0_20) (u0_21 := u0_21) (u0_22 := u0_22) (u0_23 := u0_23) (u0_24 := u0_24) (u0_25 := u0_25) (u0_26 := u0_26) (u0_27 := u0_27) (u0_28 := u0_28) (u0_29 := u0_29) (u0_30 := u0_30) (u0_31 := u0_31) (u0_32 := u0_32) (u0_33 := u0_33) (u0_34 := u0_34) (u0_35 := u0_35) (u0_36 := u0_36) (u0_37 := u0_37) (u0_38 := u0_38) (u0_39 := u0_39) (u0_40 := u0_40) (v_thrown := (0 : Int32)) (r := X11_lost) rfl) [0] rfl rfl (fun _ => rfl) (fun _ => rfl) rfl rfl rfl rfl (Nat.le_of_ble_eq_true rfl) hl.1 (by rw [hRf]; exact Nat.le_of_ble_eq_true rfl) (by rw [hRl]; exact Nat.le_of_ble_eq_true rfl) ⟨Nat.zero_le _, Nat.zero_le _⟩ dX11_row_29 rfl (fun H locs _ hS => ?_)
    refine lv_i2l (v := (X11_lost.1.toInt64)) hx hb dX11_row_32 rfl ?_
    obtain rfl := Option.some.inj h
    exact rt_l E hQ (.null) hS dX11_row_33
  · have h := it_neg c1 h
    refine lv_aload_n hx hb dX11_row_19 rfl (lv_at hl 0 rfl) ?_
    refine r_get E frX11_17 hS 0 rfl rfl dX11_row_20 ?_
    refine lv_iload_n hx hb dX11_row_23 rfl (lv_at hl 1 rfl) ?_
    obtain ⟨g2, h⟩ := gi_some h
    refine r_lald E hS 1 rfl g2 dX11_row_24 ?_
    refine lv_goto (tgt := 33) hx hb dX11_row_25 (by decide) ?_
    obtain rfl := Option.some.inj h
    exact rt_l E hQ (.null) hS dX11_row_33

