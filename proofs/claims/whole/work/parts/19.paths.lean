theorem X4_goes_z {C : Prop} {v_length : Int32} {v_path : Nat → Int32} {v_longest : Nat → Int32} {w1_number : Int32} {w1_wanted : Nat → Int32} {p2 : Int32} {p3 : Int32} {p4 : Int32} {r : Int32 × (Nat → Int32) × (Nat → Int32)} (h : X4_goes 0 v_length v_path v_longest w1_number w1_wanted p2 p3 p4 = some r) : C := by
  rw [X4_goes] at h
  cases h
set_option maxHeartbeats 8000000 in
set_option maxRecDepth 100000 in
theorem g_X4_goes {l : Launch} {D : va_G} {cy : Nat → ClassId} : ∀ n : Nat, (∀ (q0 : Nat) (q1 : Nat) (q2 : Nat) (q3 : Nat) (q4 : Nat) (u0_2 : Value) (u3_0 : Value) (u3_1 : Value) (u3_2 : Value) (u3_3 : Value) (u3_6 : Value) (u3_7 : Value) (v_length : Int32) (v_path : Nat → Int32) (v_longest : Nat → Int32) (w1_number : Int32) (w1_wanted : Nat → Int32) (p2 : Int32) (p3 : Int32) (p4 : Int32) (r : Int32 × (Nat → Int32) × (Nat → Int32)), X4_goes n v_length v_path v_longest w1_number w1_wanted p2 p3 p4 = some r → Ct l yX4_goesOn cX4_goesOn 8 none (1 + n) (21 + n * 27) D cy [.ref q0, .ref q3, .int p2, .int p3, .int p4] [oX4 q0 (.ref q1) (.ref q2) u0_2 (.int v_length), aI cy q1 7 v_path, aI cy q2 7 v_longest, oX0 q3 u3_0 u3_1 u3_2 u3_3 (.ref q4) (.int w1_number) u3_6 u3_7, aI cy q4 7 w1_wanted] (fun _ => [oX4 q0 (.ref q1) (.ref q2) u0_2 (.int r.1), aI cy q1 7 r.2.1, aI cy q2 7 r.2.2, oX0 q3 u3_0 u3_1 u3_2 u3_3 (.ref q4) (.int w1_number) u3_6 u3_7, aI cy q4 7 w1_wanted]) (none)) := by
  intro n
  induction n with
  | zero =>
    exact fun _ _ _ _ _ _ _ _ _ _ _ _ _ _ _ _ _ _ _ _ _ h => X4_goes_z h
  | succ n ih =>
    have ih0 := ih
    intro q0 q1 q2 q3 q4 u0_2 u3_0 u3_1 u3_2 u3_3 u3_6 u3_7 v_length v_path v_longest w1_number w1_wanted p2 p3 p4 r h
    have h : X4_goes_b0 (X4_goes n) v_length v_path v_longest w1_number w1_wanted p2 p3 p4 = some r := h
    generalize X4_goes n = rec at ih0 h
    unfold X4_goes_b0 at h
    refine Ct.mk kX4_goesOn (by decide +kernel) (Nat.le_of_ble_eq_true rfl) ?_
    intro p e s m below meth c A ls args R Q hRf hRl hQ E H locs hS hl
    have hx := E.x
    have hb := E.b
    have hl : lv_has ls 8 [(0, .ref q0), (1, .ref q3), (2, .int p2), (3, .int p3), (4, .int p4)] := hl
    refine lv_iload hx hb dX4_goesOn_0 (lv_at hl 4 rfl) ?_
    refine lv_if_lt (tgt := 31) hx hb dX4_goesOn_2 (by decide) (fun c1 => ?_) (fun c1 => ?_)
    · have h := it_pos c1 h
      obtain rfl := Option.some.inj h
      exact rt_v E hQ (.null) hS dX4_goesOn_31
    · have h := it_neg c1 h
      refine lv_iload hx hb dX4_goesOn_5 (lv_at hl 4 rfl) ?_
      refine lv_bipush (v := 7) hx hb dX4_goesOn_7 (by decide) ?_
      refine lv_icmp_ge (tgt := 31) hx hb dX4_goesOn_9 (by decide) (fun c2 => ?_) (fun c2 => ?_)
      · have h := it_pos c2 h
        obtain rfl := Option.some.inj h
        exact rt_v E hQ (.null) hS dX4_goesOn_31
      · have h := it_neg c2 h
        refine lv_aload_n hx hb dX4_goesOn_12 rfl (lv_at hl 0 rfl) ?_
        refine r_get E frX4_21 hS 0 rfl rfl dX4_goesOn_13 ?_
        refine lv_aload_n hx hb dX4_goesOn_16 rfl (lv_at hl 1 rfl) ?_
        refine r_get E frX4_38 hS 3 rfl rfl dX4_goesOn_17 ?_
        refine lv_icmp_ge (tgt := 31) hx hb dX4_goesOn_20 (by decide) (fun c3 => ?_) (fun c3 => ?_)
        · have h := it_pos c3 h
          obtain rfl := Option.some.inj h
          exact rt_v E hQ (.null) hS dX4_goesOn_31
        · have h := it_neg c3 h
          refine lv_aload_n hx hb dX4_goesOn_23 rfl (lv_at hl 1 rfl) ?_
          refine lv_iload_n hx hb dX4_goesOn_24 rfl (lv_at hl 2 rfl) ?_
          refine ct_V (ws' := fun _ => [oX4 q0 (.ref q1) (.ref q2) u0_2 (.int v_length), aI cy q1 7 v_path, aI cy q2 7 v_longest, oX0 q3 u3_0 u3_1 u3_2 u3_3 (.ref q4) (.int w1_number) u3_6 u3_7, aI cy q4 7 w1_wanted]) (st' := [.int (X0_has w1_number p2)]) (rest := []) E hS vlX4_43 (c_X0_has (l := l) (D := D) (cy := cy) (q0 := q3) (u0_0 := u3_0) (u0_1 := u3_1) (u0_2 := u3_2) (u0_3 := u3_3) (u0_4 := .ref q4) (u0_6 := u3_6) (u0_7 := u3_7) (v_number := w1_number) (p1 := p2) (r := (X0_has w1_number p2)) rfl) [3] rfl rfl (fun _ => rfl) (fun _ => rfl) rfl rfl rfl rfl (Nat.le_of_ble_eq_true rfl) hl.1 (by rw [hRf]; omega) (by rw [hRl]; omega) ⟨Nat.zero_le _, Nat.zero_le _⟩ dX4_goesOn_25 rfl (fun H locs _ hS => ?_)
          refine lv_if_ne (tgt := 32) hx hb dX4_goesOn_28 (by decide) (fun c4 => ?_) (fun c4 => ?_)
          · have h := it_neg c4 h
            refine lv_aload_n hx hb dX4_goesOn_32 rfl (lv_at hl 0 rfl) ?_
            refine r_get E frX4_9 hS 0 rfl rfl dX4_goesOn_33 ?_
            refine lv_iload hx hb dX4_goesOn_36 (lv_at hl 4 rfl) ?_
            refine lv_iload_n hx hb dX4_goesOn_38 rfl (lv_at hl 2 rfl) ?_
            obtain ⟨g5, h⟩ := gi_some h
            refine r_iast (ws' := [oX4 q0 (.ref q1) (.ref q2) u0_2 (.int v_length), aI cy q1 7 (upd v_path p4.toNatClampNeg p2), aI cy q2 7 v_longest, oX0 q3 u3_0 u3_1 u3_2 u3_3 (.ref q4) (.int w1_number) u3_6 u3_7, aI cy q4 7 w1_wanted]) E hS 1 rfl g5 rfl dX4_goesOn_39 (fun H locs hS => ?_)
            refine lv_iload hx hb dX4_goesOn_40 (lv_at hl 4 rfl) ?_
            refine lv_aload_n hx hb dX4_goesOn_42 rfl (lv_at hl 0 rfl) ?_
            refine r_get E frX4_21 hS 0 rfl rfl dX4_goesOn_43 ?_
            have hJ87 : ∀ (j87_v_length : Int32) (j87_v_longest : Nat → Int32) (H : Heap) (locs : List Loc) (ls : Array Slot), X4_goesOn_k87 rec v_path w1_number w1_wanted p2 p3 p4 j87_v_length j87_v_longest = some r → Sv D A s.heap [oX4 q0 (.ref q1) (.ref q2) u0_2 (.int j87_v_length), aI cy q1 7 (upd v_path p4.toNatClampNeg p2), aI cy q2 7 j87_v_longest, oX0 q3 u3_0 u3_1 u3_2 u3_3 (.ref q4) (.int w1_number) u3_6 u3_7, aI cy q4 7 w1_wanted] H locs → lv_has ls 8 [(0, .ref q0), (1, .ref q3), (2, .int p2), (3, .int p3), (4, .int p4)] → W p l e R s m args below meth c H locs 0 0 Q (F0 m 87 ls []) := by
              intro j87_v_length j87_v_longest H locs ls h hS hl
              unfold X4_goesOn_k87 at h
              refine lv_iload_n hx hb dX4_goesOn_87 rfl (lv_at hl 3 rfl) ?_
              refine lv_iconst (v := 1) hx hb dX4_goesOn_88 (by decide) ?_
              refine lv_iload_n hx hb dX4_goesOn_89 rfl (lv_at hl 2 rfl) ?_
              refine lv_ishl hx hb dX4_goesOn_90 ?_
              refine lv_ior hx hb dX4_goesOn_91 ?_
              refine lv_istore (lv' := [(5, .int (p3 ||| ((1 : Int32) <<< (p2 &&& 31)))), (0, .ref q0), (1, .ref q3), (2, .int p2), (3, .int p3), (4, .int p4)]) hx hb dX4_goesOn_92 hl (by decide) rfl (fun ls hl => ?_)
              refine lv_aload_n hx hb dX4_goesOn_94 rfl (lv_at hl 2 rfl) ?_
              refine r_get E frX4_47 hS 3 rfl rfl dX4_goesOn_95 ?_
              refine lv_iload_n hx hb dX4_goesOn_98 rfl (lv_at hl 3 rfl) ?_
              obtain ⟨g6, h⟩ := gi_some h
              refine r_iald E hS 4 rfl g6 dX4_goesOn_99 ?_
              refine lv_iload hx hb dX4_goesOn_100 (lv_at hl 0 rfl) ?_
              refine lv_iconst (v := -1) hx hb dX4_goesOn_102 (by decide) ?_
              refine lv_ixor hx hb dX4_goesOn_103 ?_
              refine lv_iand hx hb dX4_goesOn_104 ?_
              refine lv_istore (lv' := [(6, .int ((w1_wanted p2.toNatClampNeg) &&& ((p3 ||| ((1 : Int32) <<< (p2 &&& 31))) ^^^ (-1 : Int32)))), (5, .int (p3 ||| ((1 : Int32) <<< (p2 &&& 31)))), (0, .ref q0), (1, .ref q3), (2, .int p2), (3, .int p3), (4, .int p4)]) hx hb dX4_goesOn_105 hl (by decide) rfl (fun ls hl => ?_)
              refine lv_iconst (v := 0) hx hb dX4_goesOn_107 (by decide) ?_
              refine lv_istore (lv' := [(7, .int (0 : Int32)), (6, .int ((w1_wanted p2.toNatClampNeg) &&& ((p3 ||| ((1 : Int32) <<< (p2 &&& 31))) ^^^ (-1 : Int32)))), (5, .int (p3 ||| ((1 : Int32) <<< (p2 &&& 31)))), (0, .ref q0), (1, .ref q3), (2, .int p2), (3, .int p3), (4, .int p4)]) hx hb dX4_goesOn_108 hl (by decide) rfl (fun ls hl => ?_)
              have hL110 : ∀ (n : Nat) (x110_0 : Int32) (x110_1 : Int32) (x110_2 : Nat → Int32) (x110_3 : Nat → Int32) (y110 : Int32 × (Nat → Int32) × (Nat → Int32)) (H : Heap) (locs : List Loc) (ls : Array Slot), lp (fun x110 => X4_goesOn_s110 rec w1_number w1_wanted p2 p3 p4 x110.1 x110.2.1 x110.2.2.1 x110.2.2.2) n (x110_0, x110_1, x110_2, x110_3) = some y110 → Sv D A s.heap [oX4 q0 (.ref q1) (.ref q2) u0_2 (.int x110_1), aI cy q1 7 x110_2, aI cy q2 7 x110_3, oX0 q3 u3_0 u3_1 u3_2 u3_3 (.ref q4) (.int w1_number) u3_6 u3_7, aI cy q4 7 w1_wanted] H locs → lv_has ls 8 [(0, .ref q0), (1, .ref q3), (4, .int p4), (5, .int (p3 ||| ((1 : Int32) <<< (p2 &&& 31)))), (6, .int ((w1_wanted p2.toNatClampNeg) &&& ((p3 ||| ((1 : Int32) <<< (p2 &&& 31))) ^^^ (-1 : Int32)))), (7, .int x110_0)] → ( ∀ (y110_0 : Int32) (y110_1 : Nat → Int32) (y110_2 : Nat → Int32), (y110_0, y110_1, y110_2) = y110 → ∀ (H : Heap) (locs : List Loc) (ls : Array Slot), Sv D A s.heap [oX4 q0 (.ref q1) (.ref q2) u0_2 (.int y110_0), aI cy q1 7 y110_1, aI cy q2 7 y110_2, oX0 q3 u3_0 u3_1 u3_2 u3_3 (.ref q4) (.int w1_number) u3_6 u3_7, aI cy q4 7 w1_wanted] H locs → lv_has ls 8 [] → W p l e R s m args below meth c H locs 0 0 Q (F0 m 148 ls [])) → W p l e R s m args below meth c H locs 0 0 Q (F0 m 110 ls []) := by
                intro n
                induction n with
                | zero =>
                  intro x110_0 x110_1 x110_2 x110_3 y110 H locs ls h
                  exact lp_zero h
                | succ n ih110 =>
                  intro x110_0 x110_1 x110_2 x110_3 y110 H locs ls h hS hl hk110_0
                  obtain ⟨z110, h, hz110a, hz110b⟩ := lp_succ h
                  have h : X4_goesOn_s110 rec w1_number w1_wanted p2 p3 p4 x110_0 x110_1 x110_2 x110_3 = some z110 := h
                  unfold X4_goesOn_s110 at h
                  refine lv_iload hx hb dX4_goesOn_110 (lv_at hl 5 rfl) ?_
                  refine lv_aload_n hx hb dX4_goesOn_112 rfl (lv_at hl 1 rfl) ?_
                  refine r_get E frX4_38 hS 3 rfl rfl dX4_goesOn_113 ?_
                  refine lv_icmp_ge (tgt := 148) hx hb dX4_goesOn_116 (by decide) (fun c7 => ?_) (fun c7 => ?_)
                  · have h := it_pos c7 h
                    exact hk110_0 x110_1 x110_2 x110_3 (hz110b _ (Option.some.inj h).symm)  H locs ls hS (lv_sub hl [] rfl)
                  · have h := it_neg c7 h
                    refine lv_iload hx hb dX4_goesOn_119 (lv_at hl 4 rfl) ?_
                    refine lv_iload hx hb dX4_goesOn_121 (lv_at hl 5 rfl) ?_
                    refine lv_ishr hx hb dX4_goesOn_123 ?_
                    refine lv_iconst (v := 1) hx hb dX4_goesOn_124 (by decide) ?_
                    refine lv_iand hx hb dX4_goesOn_125 ?_
                    refine lv_if_eq (tgt := 142) hx hb dX4_goesOn_126 (by decide) (fun c8 => ?_) (fun c8 => ?_)
                    · have h := it_pos c8 h
                      refine lv_iinc (v := (x110_0 + (1 : Int32))) (lv' := [(7, .int (x110_0 + (1 : Int32))), (0, .ref q0), (1, .ref q3), (4, .int p4), (5, .int (p3 ||| ((1 : Int32) <<< (p2 &&& 31)))), (6, .int ((w1_wanted p2.toNatClampNeg) &&& ((p3 ||| ((1 : Int32) <<< (p2 &&& 31))) ^^^ (-1 : Int32))))]) hx hb dX4_goesOn_142 hl (k := 5) rfl rfl (by decide) rfl (fun ls hl => ?_)
                      refine lv_goto (tgt := 110) hx hb dX4_goesOn_145 (by decide) ?_
                      exact ih110 (x110_0 + (1 : Int32)) x110_1 x110_2 x110_3 y110  H locs ls (hz110a _ (Option.some.inj h).symm) hS (lv_sub hl [1, 2, 3, 4, 5, 0] rfl) hk110_0
                    · have h := it_neg c8 h
                      refine lv_aload_n hx hb dX4_goesOn_129 rfl (lv_at hl 0 rfl) ?_
                      refine lv_aload_n hx hb dX4_goesOn_130 rfl (lv_at hl 1 rfl) ?_
                      refine lv_iload hx hb dX4_goesOn_131 (lv_at hl 5 rfl) ?_
                      refine lv_iload hx hb dX4_goesOn_133 (lv_at hl 3 rfl) ?_
                      refine lv_iload hx hb dX4_goesOn_135 (lv_at hl 2 rfl) ?_
                      refine lv_iconst (v := 1) hx hb dX4_goesOn_137 (by decide) ?_
                      refine lv_iadd hx hb dX4_goesOn_138 ?_
                      obtain ⟨y139, e9, h⟩ := bd_some h
                      refine ct_V (ws' := fun _ => [oX4 q0 (.ref q1) (.ref q2) u0_2 (.int y139.1), aI cy q1 7 y139.2.1, aI cy q2 7 y139.2.2, oX0 q3 u3_0 u3_1 u3_2 u3_3 (.ref q4) (.int w1_number) u3_6 u3_7, aI cy q4 7 w1_wanted]) (st' := []) (rest := []) E hS vlX4_25 (ih0 q0 q1 q2 q3 q4 u0_2 u3_0 u3_1 u3_2 u3_3 u3_6 u3_7 x110_1 x110_2 x110_3 w1_number w1_wanted x110_0 (p3 ||| ((1 : Int32) <<< (p2 &&& 31))) (p4 + (1 : Int32)) y139 e9) [0, 1, 2, 3, 4] rfl rfl (fun _ => rfl) (fun _ => rfl) rfl rfl rfl rfl (Nat.le_of_ble_eq_true rfl) hl.1 (by rw [hRf]; omega) (by rw [hRl]; omega) ⟨Nat.zero_le _, Nat.zero_le _⟩ dX4_goesOn_139 rfl (fun H locs _ hS => ?_)
                      refine lv_iinc (v := (x110_0 + (1 : Int32))) (lv' := [(7, .int (x110_0 + (1 : Int32))), (0, .ref q0), (1, .ref q3), (4, .int p4), (5, .int (p3 ||| ((1 : Int32) <<< (p2 &&& 31)))), (6, .int ((w1_wanted p2.toNatClampNeg) &&& ((p3 ||| ((1 : Int32) <<< (p2 &&& 31))) ^^^ (-1 : Int32))))]) hx hb dX4_goesOn_142 hl (k := 5) rfl rfl (by decide) rfl (fun ls hl => ?_)
                      refine lv_goto (tgt := 110) hx hb dX4_goesOn_145 (by decide) ?_
                      exact ih110 (x110_0 + (1 : Int32)) y139.1 y139.2.1 y139.2.2 y110  H locs ls (hz110a _ (Option.some.inj h).symm) hS (lv_sub hl [1, 2, 3, 4, 5, 0] rfl) hk110_0
              obtain ⟨y110, e110, h⟩ := bd_some h
              refine hL110 1000 (0 : Int32) j87_v_length (upd v_path p4.toNatClampNeg p2) j87_v_longest y110  H locs ls e110 hS (lv_sub hl [3, 4, 7, 2, 1, 0] rfl) (fun y110_0 y110_1 y110_2 ey110 H locs ls hS hl => ?_)
              subst ey110
              have h := un_r h
              have h := un_r h
              obtain rfl := Option.some.inj h
              exact rt_v E hQ (.null) hS dX4_goesOn_148
            refine lv_icmp_lt (tgt := 87) hx hb dX4_goesOn_46 (by decide) (fun c10 => ?_) (fun c10 => ?_)
            · have h := it_pos c10 h
              exact hJ87 v_length v_longest  H locs ls h hS (lv_sub hl [0, 1, 2, 3, 4] rfl)
            · have h := it_neg c10 h
              refine lv_aload_n hx hb dX4_goesOn_49 rfl (lv_at hl 0 rfl) ?_
              refine lv_iload hx hb dX4_goesOn_50 (lv_at hl 4 rfl) ?_
              refine lv_iconst (v := 1) hx hb dX4_goesOn_52 (by decide) ?_
              refine lv_iadd hx hb dX4_goesOn_53 ?_
              refine r_put (ws' := [oX4 q0 (.ref q1) (.ref q2) u0_2 (.int (p4 + (1 : Int32))), aI cy q1 7 (upd v_path p4.toNatClampNeg p2), aI cy q2 7 v_longest, oX0 q3 u3_0 u3_1 u3_2 u3_3 (.ref q4) (.int w1_number) u3_6 u3_7, aI cy q4 7 w1_wanted]) E frX4_21 hS 0 rfl (Nat.le_of_ble_eq_true rfl) rfl rfl rfl rfl dX4_goesOn_54 (fun H locs hS => ?_)
              refine lv_iconst (v := 0) hx hb dX4_goesOn_57 (by decide) ?_
              refine lv_istore (lv' := [(5, .int (0 : Int32)), (0, .ref q0), (1, .ref q3), (2, .int p2), (3, .int p3), (4, .int p4)]) hx hb dX4_goesOn_58 hl (by decide) rfl (fun ls hl => ?_)
              have hL60 : ∀ (n : Nat) (x60_0 : Int32) (x60_1 : Nat → Int32) (y60 : (Nat → Int32)) (H : Heap) (locs : List Loc) (ls : Array Slot), lp (fun x60 => X4_goesOn_s60 v_path p2 p4 x60.1 x60.2) n (x60_0, x60_1) = some y60 → Sv D A s.heap [oX4 q0 (.ref q1) (.ref q2) u0_2 (.int (p4 + (1 : Int32))), aI cy q1 7 (upd v_path p4.toNatClampNeg p2), aI cy q2 7 x60_1, oX0 q3 u3_0 u3_1 u3_2 u3_3 (.ref q4) (.int w1_number) u3_6 u3_7, aI cy q4 7 w1_wanted] H locs → lv_has ls 8 [(0, .ref q0), (1, .ref q3), (2, .int p2), (3, .int p3), (4, .int p4), (5, .int x60_0)] → ( ∀ (y60_0 : Nat → Int32), y60_0 = y60 → ∀ (H : Heap) (locs : List Loc) (ls : Array Slot), Sv D A s.heap [oX4 q0 (.ref q1) (.ref q2) u0_2 (.int (p4 + (1 : Int32))), aI cy q1 7 (upd v_path p4.toNatClampNeg p2), aI cy q2 7 y60_0, oX0 q3 u3_0 u3_1 u3_2 u3_3 (.ref q4) (.int w1_number) u3_6 u3_7, aI cy q4 7 w1_wanted] H locs → lv_has ls 8 [(0, .ref q0), (1, .ref q3), (2, .int p2), (3, .int p3), (4, .int p4)] → W p l e R s m args below meth c H locs 0 0 Q (F0 m 87 ls [])) → W p l e R s m args below meth c H locs 0 0 Q (F0 m 60 ls []) := by
                intro n
                induction n with
                | zero =>
                  intro x60_0 x60_1 y60 H locs ls h
                  exact lp_zero h
                | succ n ih60 =>
                  intro x60_0 x60_1 y60 H locs ls h hS hl hk60_0
                  obtain ⟨z60, h, hz60a, hz60b⟩ := lp_succ h
                  have h : X4_goesOn_s60 v_path p2 p4 x60_0 x60_1 = some z60 := h
                  unfold X4_goesOn_s60 at h
                  refine lv_iload hx hb dX4_goesOn_60 (lv_at hl 5 rfl) ?_
                  refine lv_iload hx hb dX4_goesOn_62 (lv_at hl 4 rfl) ?_
                  refine lv_icmp_gt (tgt := 87) hx hb dX4_goesOn_64 (by decide) (fun c11 => ?_) (fun c11 => ?_)
                  · have h := it_pos c11 h
                    exact hk60_0 x60_1 (hz60b _ (Option.some.inj h).symm)  H locs ls hS (lv_sub hl [0, 1, 2, 3, 4] rfl)
                  · have h := it_neg c11 h
                    refine lv_aload_n hx hb dX4_goesOn_67 rfl (lv_at hl 0 rfl) ?_
                    refine r_get E frX4_15 hS 0 rfl rfl dX4_goesOn_68 ?_
                    refine lv_iload hx hb dX4_goesOn_71 (lv_at hl 5 rfl) ?_
                    refine lv_aload_n hx hb dX4_goesOn_73 rfl (lv_at hl 0 rfl) ?_
                    refine r_get E frX4_9 hS 0 rfl rfl dX4_goesOn_74 ?_
                    refine lv_iload hx hb dX4_goesOn_77 (lv_at hl 5 rfl) ?_
                    obtain ⟨g12, h⟩ := gi_some h
                    refine r_iald E hS 1 rfl g12 dX4_goesOn_79 ?_
                    obtain ⟨g13, h⟩ := gi_some h
                    refine r_iast (ws' := [oX4 q0 (.ref q1) (.ref q2) u0_2 (.int (p4 + (1 : Int32))), aI cy q1 7 (upd v_path p4.toNatClampNeg p2), aI cy q2 7 (upd x60_1 x60_0.toNatClampNeg ((upd v_path p4.toNatClampNeg p2) x60_0.toNatClampNeg)), oX0 q3 u3_0 u3_1 u3_2 u3_3 (.ref q4) (.int w1_number) u3_6 u3_7, aI cy q4 7 w1_wanted]) E hS 2 rfl g13 rfl dX4_goesOn_80 (fun H locs hS => ?_)
                    refine lv_iinc (v := (x60_0 + (1 : Int32))) (lv' := [(5, .int (x60_0 + (1 : Int32))), (0, .ref q0), (1, .ref q3), (2, .int p2), (3, .int p3), (4, .int p4)]) hx hb dX4_goesOn_81 hl (k := 5) rfl rfl (by decide) rfl (fun ls hl => ?_)
                    refine lv_goto (tgt := 60) hx hb dX4_goesOn_84 (by decide) ?_
                    exact ih60 (x60_0 + (1 : Int32)) (upd x60_1 x60_0.toNatClampNeg ((upd v_path p4.toNatClampNeg p2) x60_0.toNatClampNeg)) y60  H locs ls (hz60a _ (Option.some.inj h).symm) hS (lv_sub hl [1, 2, 3, 4, 5, 0] rfl) hk60_0
              obtain ⟨y60, e60, h⟩ := bd_some h
              refine hL60 1000 (0 : Int32) v_longest y60  H locs ls e60 hS (lv_sub hl [1, 2, 3, 4, 5, 0] rfl) (fun y60_0 ey60 H locs ls hS hl => ?_)
              subst ey60
              exact hJ87 (p4 + (1 : Int32)) y60_0  H locs ls h hS (lv_sub hl [0, 1, 2, 3, 4] rfl)
          · have h := it_pos c4 h
            obtain rfl := Option.some.inj h
            exact rt_v E hQ (.null) hS dX4_goesOn_31
theorem c_X4_goesOn {l : Launch} {D : va_G} {cy : Nat → ClassId} (q0 : Nat) (q1 : Nat) (q2 : Nat) (q3 : Nat) (q4 : Nat) (u0_2 : Value) (u3_0 : Value) (u3_1 : Value) (u3_2 : Value) (u3_3 : Value) (u3_6 : Value) (u3_7 : Value) (v_length : Int32) (v_path : Nat → Int32) (v_longest : Nat → Int32) (w1_number : Int32) (w1_wanted : Nat → Int32) (p2 : Int32) (p3 : Int32) (p4 : Int32) (r : Int32 × (Nat → Int32) × (Nat → Int32)) (h : X4_goes 100 v_length v_path v_longest w1_number w1_wanted p2 p3 p4 = some r) : Ct l yX4_goesOn cX4_goesOn 8 none 101 2721 D cy [.ref q0, .ref q3, .int p2, .int p3, .int p4] [oX4 q0 (.ref q1) (.ref q2) u0_2 (.int v_length), aI cy q1 7 v_path, aI cy q2 7 v_longest, oX0 q3 u3_0 u3_1 u3_2 u3_3 (.ref q4) (.int w1_number) u3_6 u3_7, aI cy q4 7 w1_wanted] (fun _ => [oX4 q0 (.ref q1) (.ref q2) u0_2 (.int r.1), aI cy q1 7 r.2.1, aI cy q2 7 r.2.2, oX0 q3 u3_0 u3_1 u3_2 u3_3 (.ref q4) (.int w1_number) u3_6 u3_7, aI cy q4 7 w1_wanted]) (none) := (g_X4_goes 100) q0 q1 q2 q3 q4 u0_2 u3_0 u3_1 u3_2 u3_3 u3_6 u3_7 v_length v_path v_longest w1_number w1_wanted p2 p3 p4 r h
set_option maxHeartbeats 4000000 in
set_option maxRecDepth 100000 in
theorem c_X4_tellsLongest {l : Launch} {D : va_G} {cy : Nat → ClassId} (q0 : Nat) (q1 : Nat) (q2 : Nat) (q3 : Nat) (q4 : Nat) (q5 : Nat) (q6 : Nat) (u0_2 : Value) (u3_0 : Value) (u3_1 : Value) (u3_2 : Value) (u3_3 : Value) (u3_6 : Value) (u3_7 : Value) (v_length : Int32) (v_path : Nat → Int32) (v_longest : Nat → Int32) (w1_number : Int32) (w1_wanted : Nat → Int32) (w3_size : Int32) (w3_number : Nat → Int64) (p2 : Int32) (r : Int32 × Int32 × (Nat → Int32) × (Nat → Int32) × Int32 × (Nat → Int64)) (h : X4_tellsLongest v_path v_longest w1_number w1_wanted w3_number p2 = some r) : Ct l yX4_tellsLongest cX4_tellsLongest 5 (some .int) 102 2748 D cy [.ref q0, .ref q3, .int p2, .ref q5] [oX4 q0 (.ref q1) (.ref q2) u0_2 (.int v_length), aI cy q1 7 v_path, aI cy q2 7 v_longest, oX0 q3 u3_0 u3_1 u3_2 u3_3 (.ref q4) (.int w1_number) u3_6 u3_7, aI cy q4 7 w1_wanted, oX2 q5 (.ref q6) (.int w3_size), aJ cy q6 16 w3_number] (fun _ => [oX4 q0 (.ref q1) (.ref q2) u0_2 (.int r.2.1), aI cy q1 7 r.2.2.1, aI cy q2 7 r.2.2.2.1, oX0 q3 u3_0 u3_1 u3_2 u3_3 (.ref q4) (.int w1_number) u3_6 u3_7, aI cy q4 7 w1_wanted, oX2 q5 (.ref q6) (.int r.2.2.2.2.1), aJ cy q6 16 r.2.2.2.2.2]) (some (.int r.1)) := by
  refine Ct.mk kX4_tellsLongest (by decide +kernel) (Nat.le_of_ble_eq_true rfl) ?_
  intro p e s m below meth c A ls args R Q hRf hRl hQ E H locs hS hl
  have hx := E.x
  have hb := E.b
  have hl : lv_has ls 5 [(0, .ref q0), (1, .ref q3), (2, .int p2), (3, .ref q5)] := hl
  unfold X4_tellsLongest at h
  refine lv_aload_n hx hb dX4_tellsLongest_0 rfl (lv_at hl 0 rfl) ?_
  refine lv_iconst (v := 0) hx hb dX4_tellsLongest_1 (by decide) ?_
  refine r_put (ws' := [oX4 q0 (.ref q1) (.ref q2) u0_2 (.int (0 : Int32)), aI cy q1 7 v_path, aI cy q2 7 v_longest, oX0 q3 u3_0 u3_1 u3_2 u3_3 (.ref q4) (.int w1_number) u3_6 u3_7, aI cy q4 7 w1_wanted, oX2 q5 (.ref q6) (.int w3_size), aJ cy q6 16 w3_number]) E frX4_21 hS 0 rfl (Nat.le_of_ble_eq_true rfl) rfl rfl rfl rfl dX4_tellsLongest_2 (fun H locs hS => ?_)
  refine lv_aload_n hx hb dX4_tellsLongest_5 rfl (lv_at hl 0 rfl) ?_
  refine lv_aload_n hx hb dX4_tellsLongest_6 rfl (lv_at hl 1 rfl) ?_
  refine lv_iload_n hx hb dX4_tellsLongest_7 rfl (lv_at hl 2 rfl) ?_
  refine lv_iconst (v := 0) hx hb dX4_tellsLongest_8 (by decide) ?_
  refine lv_iconst (v := 0) hx hb dX4_tellsLongest_9 (by decide) ?_
  obtain ⟨y10, e1, h⟩ := bd_some h
  refine ct_V (ws' := fun _ => [oX4 q0 (.ref q1) (.ref q2) u0_2 (.int y10.1), aI cy q1 7 y10.2.1, aI cy q2 7 y10.2.2, oX0 q3 u3_0 u3_1 u3_2 u3_3 (.ref q4) (.int w1_number) u3_6 u3_7, aI cy q4 7 w1_wanted, oX2 q5 (.ref q6) (.int w3_size), aJ cy q6 16 w3_number]) (st' := []) (rest := []) E hS vlX4_25 (c_X4_goesOn (l := l) (D := D) (cy := cy) (q0 := q0) (q1 := q1) (q2 := q2) (q3 := q3) (q4 := q4) (u0_2 := u0_2) (u3_0 := u3_0) (u3_1 := u3_1) (u3_2 := u3_2) (u3_3 := u3_3) (u3_6 := u3_6) (u3_7 := u3_7) (v_length := (0 : Int32)) (v_path := v_path) (v_longest := v_longest) (w1_number := w1_number) (w1_wanted := w1_wanted) (p2 := p2) (p3 := (0 : Int32)) (p4 := (0 : Int32)) (r := y10) e1) [0, 1, 2, 3, 4] rfl rfl (fun _ => rfl) (fun _ => rfl) rfl rfl rfl rfl (Nat.le_of_ble_eq_true rfl) hl.1 (by rw [hRf]; exact Nat.le_of_ble_eq_true rfl) (by rw [hRl]; exact Nat.le_of_ble_eq_true rfl) ⟨Nat.zero_le _, Nat.zero_le _⟩ dX4_tellsLongest_10 rfl (fun H locs _ hS => ?_)
  refine lv_aload_n hx hb dX4_tellsLongest_13 rfl (lv_at hl 3 rfl) ?_
  refine ct_V (ws' := fun _ => [oX4 q0 (.ref q1) (.ref q2) u0_2 (.int y10.1), aI cy q1 7 y10.2.1, aI cy q2 7 y10.2.2, oX0 q3 u3_0 u3_1 u3_2 u3_3 (.ref q4) (.int w1_number) u3_6 u3_7, aI cy q4 7 w1_wanted, oX2 q5 (.ref q6) (.int X2_clears), aJ cy q6 16 w3_number]) (st' := []) (rest := []) E hS vlX4_29 (c_X2_clears (l := l) (D := D) (cy := cy) (q0 := q5) (u0_0 := .ref q6) (v_size := w3_size) (r := X2_clears) rfl) [5] rfl rfl (fun _ => rfl) (fun _ => rfl) rfl rfl rfl rfl (Nat.le_of_ble_eq_true rfl) hl.1 (by rw [hRf]; exact Nat.le_of_ble_eq_true rfl) (by rw [hRl]; exact Nat.le_of_ble_eq_true rfl) ⟨Nat.zero_le _, Nat.zero_le _⟩ dX4_tellsLongest_14 rfl (fun H locs _ hS => ?_)
  refine lv_iconst (v := 0) hx hb dX4_tellsLongest_17 (by decide) ?_
  refine lv_istore (lv' := [(4, .int (0 : Int32)), (0, .ref q0), (1, .ref q3), (2, .int p2), (3, .ref q5)]) hx hb dX4_tellsLongest_18 hl (by decide) rfl (fun ls hl => ?_)
  have hL20 : ∀ (n : Nat) (x20_0 : Int32) (x20_1 : Int32) (x20_2 : Nat → Int64) (y20 : Int32 × (Nat → Int64)) (H : Heap) (locs : List Loc) (ls : Array Slot), lp (fun x20 => X4_tellsLongest_s20 y10 x20.1 x20.2.1 x20.2.2) n (x20_0, x20_1, x20_2) = some y20 → Sv D A s.heap [oX4 q0 (.ref q1) (.ref q2) u0_2 (.int y10.1), aI cy q1 7 y10.2.1, aI cy q2 7 y10.2.2, oX0 q3 u3_0 u3_1 u3_2 u3_3 (.ref q4) (.int w1_number) u3_6 u3_7, aI cy q4 7 w1_wanted, oX2 q5 (.ref q6) (.int x20_1), aJ cy q6 16 x20_2] H locs → lv_has ls 5 [(0, .ref q0), (3, .ref q5), (4, .int x20_0)] → ( ∀ (y20_0 : Int32) (y20_1 : Nat → Int64), (y20_0, y20_1) = y20 → ∀ (H : Heap) (locs : List Loc) (ls : Array Slot), Sv D A s.heap [oX4 q0 (.ref q1) (.ref q2) u0_2 (.int y10.1), aI cy q1 7 y10.2.1, aI cy q2 7 y10.2.2, oX0 q3 u3_0 u3_1 u3_2 u3_3 (.ref q4) (.int w1_number) u3_6 u3_7, aI cy q4 7 w1_wanted, oX2 q5 (.ref q6) (.int y20_0), aJ cy q6 16 y20_1] H locs → lv_has ls 5 [(0, .ref q0)] → W p l e R s m args below meth c H locs 0 0 Q (F0 m 54 ls [])) → W p l e R s m args below meth c H locs 0 0 Q (F0 m 20 ls []) := by
    intro n
    induction n with
    | zero =>
      intro x20_0 x20_1 x20_2 y20 H locs ls h
      exact lp_zero h
    | succ n ih20 =>
      intro x20_0 x20_1 x20_2 y20 H locs ls h hS hl hk20_0
      obtain ⟨z20, h, hz20a, hz20b⟩ := lp_succ h
      have h : X4_tellsLongest_s20 y10 x20_0 x20_1 x20_2 = some z20 := h
      unfold X4_tellsLongest_s20 at h
      refine lv_iload hx hb dX4_tellsLongest_20 (lv_at hl 2 rfl) ?_
      refine lv_aload_n hx hb dX4_tellsLongest_22 rfl (lv_at hl 0 rfl) ?_
      refine r_get E frX4_21 hS 0 rfl rfl dX4_tellsLongest_23 ?_
      refine lv_icmp_ge (tgt := 54) hx hb dX4_tellsLongest_26 (by decide) (fun c2 => ?_) (fun c2 => ?_)
      · have h := it_pos c2 h
        exact hk20_0 x20_1 x20_2 (hz20b _ (Option.some.inj h).symm)  H locs ls hS (lv_sub hl [0] rfl)
      · have h := it_neg c2 h
        refine lv_iload hx hb dX4_tellsLongest_29 (lv_at hl 2 rfl) ?_
        refine lv_bipush (v := 7) hx hb dX4_tellsLongest_31 (by decide) ?_
        refine lv_icmp_ge (tgt := 54) hx hb dX4_tellsLongest_33 (by decide) (fun c3 => ?_) (fun c3 => ?_)
        · have h := it_pos c3 h
          exact hk20_0 x20_1 x20_2 (hz20b _ (Option.some.inj h).symm)  H locs ls hS (lv_sub hl [0] rfl)
        · have h := it_neg c3 h
          refine lv_aload_n hx hb dX4_tellsLongest_36 rfl (lv_at hl 1 rfl) ?_
          refine lv_aload_n hx hb dX4_tellsLongest_37 rfl (lv_at hl 0 rfl) ?_
          refine r_get E frX4_15 hS 0 rfl rfl dX4_tellsLongest_38 ?_
          refine lv_iload hx hb dX4_tellsLongest_41 (lv_at hl 2 rfl) ?_
          obtain ⟨g4, h⟩ := gi_some h
          refine r_iald E hS 2 rfl g4 dX4_tellsLongest_43 ?_
          refine lv_i2l (v := ((y10.2.2 x20_0.toNatClampNeg).toInt64)) hx hb dX4_tellsLongest_44 rfl ?_
          obtain ⟨y45, e5, h⟩ := bd_some h
          refine ct_V (ws' := fun _ => [oX4 q0 (.ref q1) (.ref q2) u0_2 (.int y10.1), aI cy q1 7 y10.2.1, aI cy q2 7 y10.2.2, oX0 q3 u3_0 u3_1 u3_2 u3_3 (.ref q4) (.int w1_number) u3_6 u3_7, aI cy q4 7 w1_wanted, oX2 q5 (.ref q6) (.int y45.1), aJ cy q6 16 y45.2]) (st' := []) (rest := []) E hS vlX4_34 (c_X2_adds (l := l) (D := D) (cy := cy) (q0 := q5) (q1 := q6) (v_size := x20_1) (v_number := x20_2) (p1 := ((y10.2.2 x20_0.toNatClampNeg).toInt64)) (r := y45) e5) [5, 6] rfl rfl (fun _ => rfl) (fun _ => rfl) rfl rfl rfl rfl (Nat.le_of_ble_eq_true rfl) hl.1 (by rw [hRf]; exact Nat.le_of_ble_eq_true rfl) (by rw [hRl]; exact Nat.le_of_ble_eq_true rfl) ⟨Nat.zero_le _, Nat.zero_le _⟩ dX4_tellsLongest_45 rfl (fun H locs _ hS => ?_)
          refine lv_iinc (v := (x20_0 + (1 : Int32))) (lv' := [(4, .int (x20_0 + (1 : Int32))), (0, .ref q0), (3, .ref q5)]) hx hb dX4_tellsLongest_48 hl (k := 2) rfl rfl (by decide) rfl (fun ls hl => ?_)
          refine lv_goto (tgt := 20) hx hb dX4_tellsLongest_51 (by decide) ?_
          exact ih20 (x20_0 + (1 : Int32)) y45.1 y45.2 y20  H locs ls (hz20a _ (Option.some.inj h).symm) hS (lv_sub hl [1, 2, 0] rfl) hk20_0
  obtain ⟨y20, e20, h⟩ := bd_some h
  refine hL20 1000 (0 : Int32) X2_clears w3_number y20  H locs ls e20 hS (lv_sub hl [1, 4, 0] rfl) (fun y20_0 y20_1 ey20 H locs ls hS hl => ?_)
  subst ey20
  have h := un_r h
  refine lv_aload_n hx hb dX4_tellsLongest_54 rfl (lv_at hl 0 rfl) ?_
  refine r_get E frX4_21 hS 0 rfl rfl dX4_tellsLongest_55 ?_
  obtain rfl := Option.some.inj h
  exact rt_i E hQ (.null) hS dX4_tellsLongest_58
set_option maxHeartbeats 4000000 in
set_option maxRecDepth 100000 in
theorem c_X4_measures {l : Launch} {D : va_G} {cy : Nat → ClassId} (q0 : Nat) (q1 : Nat) (q2 : Nat) (q3 : Nat) (u0_0 : Value) (u0_1 : Value) (u0_3 : Value) (u2_0 : Value) (u2_1 : Value) (u2_2 : Value) (u2_3 : Value) (u2_6 : Value) (u2_7 : Value) (v_far : Nat → Int32) (w1_number : Int32) (w1_wanted : Nat → Int32) (p2 : Int32) (p3 : Int32) (r : (Nat → Int32)) (h : X4_measures v_far w1_number w1_wanted p2 p3 = some r) : Ct l yX4_measures cX4_measures 8 none 0 0 D cy [.ref q0, .ref q2, .int p2, .int p3] [oX4 q0 u0_0 u0_1 (.ref q1) u0_3, aI cy q1 7 v_far, oX0 q2 u2_0 u2_1 u2_2 u2_3 (.ref q3) (.int w1_number) u2_6 u2_7, aI cy q3 7 w1_wanted] (fun _ => [oX4 q0 u0_0 u0_1 (.ref q1) u0_3, aI cy q1 7 r, oX0 q2 u2_0 u2_1 u2_2 u2_3 (.ref q3) (.int w1_number) u2_6 u2_7, aI cy q3 7 w1_wanted]) (none) := by
  refine Ct.mk kX4_measures (by decide +kernel) (Nat.le_of_ble_eq_true rfl) ?_
  intro p e s m below meth c A ls args R Q hRf hRl hQ E H locs hS hl
  have hx := E.x
  have hb := E.b
  have hl : lv_has ls 8 [(0, .ref q0), (1, .ref q2), (2, .int p2), (3, .int p3)] := hl
  unfold X4_measures at h
  refine lv_iconst (v := 0) hx hb dX4_measures_0 (by decide) ?_
  refine lv_istore (lv' := [(4, .int (0 : Int32)), (0, .ref q0), (1, .ref q2), (2, .int p2), (3, .int p3)]) hx hb dX4_measures_1 hl (by decide) rfl (fun ls hl => ?_)
  have hL3 : ∀ (n : Nat) (x3_0 : Int32) (x3_1 : Nat → Int32) (y3 : (Nat → Int32)) (H : Heap) (locs : List Loc) (ls : Array Slot), lp (fun x3 => X4_measures_s3 p2 x3.1 x3.2) n (x3_0, x3_1) = some y3 → Sv D A s.heap [oX4 q0 u0_0 u0_1 (.ref q1) u0_3, aI cy q1 7 x3_1, oX0 q2 u2_0 u2_1 u2_2 u2_3 (.ref q3) (.int w1_number) u2_6 u2_7, aI cy q3 7 w1_wanted] H locs → lv_has ls 8 [(0, .ref q0), (1, .ref q2), (2, .int p2), (3, .int p3), (4, .int x3_0)] → ( ∀ (y3_0 : Nat → Int32), y3_0 = y3 → ∀ (H : Heap) (locs : List Loc) (ls : Array Slot), Sv D A s.heap [oX4 q0 u0_0 u0_1 (.ref q1) u0_3, aI cy q1 7 y3_0, oX0 q2 u2_0 u2_1 u2_2 u2_3 (.ref q3) (.int w1_number) u2_6 u2_7, aI cy q3 7 w1_wanted] H locs → lv_has ls 8 [(0, .ref q0), (1, .ref q2), (2, .int p2), (3, .int p3)] → W p l e R s m args below meth c H locs 0 0 Q (F0 m 34 ls [])) → W p l e R s m args below meth c H locs 0 0 Q (F0 m 3 ls []) := by
    intro n
    induction n with
    | zero =>
      intro x3_0 x3_1 y3 H locs ls h
      exact lp_zero h
    | succ n ih3 =>
      intro x3_0 x3_1 y3 H locs ls h hS hl hk3_0
      obtain ⟨z3, h, hz3a, hz3b⟩ := lp_succ h
      have h : X4_measures_s3 p2 x3_0 x3_1 = some z3 := h
      unfold X4_measures_s3 at h
      refine lv_iload hx hb dX4_measures_3 (lv_at hl 4 rfl) ?_
      refine lv_bipush (v := 7) hx hb dX4_measures_5 (by decide) ?_
      refine lv_icmp_ge (tgt := 34) hx hb dX4_measures_7 (by decide) (fun c1 => ?_) (fun c1 => ?_)
      · have h := it_pos c1 h
        exact hk3_0 x3_1 (hz3b _ (Option.some.inj h).symm)  H locs ls hS (lv_sub hl [0, 1, 2, 3] rfl)
      · have h := it_neg c1 h
        refine lv_aload_n hx hb dX4_measures_10 rfl (lv_at hl 0 rfl) ?_
        refine r_get E frX4_18 hS 0 rfl rfl dX4_measures_11 ?_
        refine lv_iload hx hb dX4_measures_14 (lv_at hl 4 rfl) ?_
        refine lv_iload hx hb dX4_measures_16 (lv_at hl 4 rfl) ?_
        refine lv_iload_n hx hb dX4_measures_18 rfl (lv_at hl 2 rfl) ?_
        have hJ27 : ∀ (s27_2 : Int32) (ls : Array Slot), s27_2 = (if x3_0 = p2 then (0 : Int32) else (-1 : Int32)) → lv_has ls 8 [(0, .ref q0), (1, .ref q2), (2, .int p2), (3, .int p3), (4, .int x3_0)] → W p l e R s m args below meth c H locs 0 0 Q (F0 m 27 ls [.int s27_2, .int x3_0, .ref q1]) := by
          intro s27_2 ls es27_2 hl
          subst es27_2
          obtain ⟨g2, h⟩ := gi_some h
          refine r_iast (ws' := [oX4 q0 u0_0 u0_1 (.ref q1) u0_3, aI cy q1 7 (upd x3_1 x3_0.toNatClampNeg (if x3_0 = p2 then (0 : Int32) else (-1 : Int32))), oX0 q2 u2_0 u2_1 u2_2 u2_3 (.ref q3) (.int w1_number) u2_6 u2_7, aI cy q3 7 w1_wanted]) E hS 1 rfl g2 rfl dX4_measures_27 (fun H locs hS => ?_)
          refine lv_iinc (v := (x3_0 + (1 : Int32))) (lv' := [(4, .int (x3_0 + (1 : Int32))), (0, .ref q0), (1, .ref q2), (2, .int p2), (3, .int p3)]) hx hb dX4_measures_28 hl (k := 4) rfl rfl (by decide) rfl (fun ls hl => ?_)
          refine lv_goto (tgt := 3) hx hb dX4_measures_31 (by decide) ?_
          exact ih3 (x3_0 + (1 : Int32)) (upd x3_1 x3_0.toNatClampNeg (if x3_0 = p2 then (0 : Int32) else (-1 : Int32))) y3  H locs ls (hz3a _ (Option.some.inj h).symm) hS (lv_sub hl [1, 2, 3, 4, 0] rfl) hk3_0
        refine lv_icmp_ne (tgt := 26) hx hb dX4_measures_19 (by decide) (fun c3 => ?_) (fun c3 => ?_)
        · refine lv_iconst (v := -1) hx hb dX4_measures_26 (by decide) ?_
          exact hJ27 _ ls ((if_neg c3)).symm (lv_sub hl [0, 1, 2, 3, 4] rfl)
        · refine lv_iconst (v := 0) hx hb dX4_measures_22 (by decide) ?_
          refine lv_goto (tgt := 27) hx hb dX4_measures_23 (by decide) ?_
          exact hJ27 _ ls ((if_pos c3)).symm (lv_sub hl [0, 1, 2, 3, 4] rfl)
  obtain ⟨y3, e3, h⟩ := bd_some h
  refine hL3 1000 (0 : Int32) v_far y3  H locs ls e3 hS (lv_sub hl [1, 2, 3, 4, 0] rfl) (fun y3_0 ey3 H locs ls hS hl => ?_)
  subst ey3
  refine lv_iconst (v := 1) hx hb dX4_measures_34 (by decide) ?_
  refine lv_iload_n hx hb dX4_measures_35 rfl (lv_at hl 2 rfl) ?_
  refine lv_ishl hx hb dX4_measures_36 ?_
  refine lv_istore (lv' := [(4, .int ((1 : Int32) <<< (p2 &&& 31))), (0, .ref q0), (1, .ref q2), (2, .int p2), (3, .int p3)]) hx hb dX4_measures_37 hl (by decide) rfl (fun ls hl => ?_)
  refine lv_iconst (v := 1) hx hb dX4_measures_39 (by decide) ?_
  refine lv_istore (lv' := [(5, .int (1 : Int32)), (4, .int ((1 : Int32) <<< (p2 &&& 31))), (0, .ref q0), (1, .ref q2), (2, .int p2), (3, .int p3)]) hx hb dX4_measures_40 hl (by decide) rfl (fun ls hl => ?_)
  have hL42 : ∀ (n : Nat) (x42_0 : Int32) (x42_1 : Int32) (x42_2 : Nat → Int32) (y42 : (Nat → Int32)) (H : Heap) (locs : List Loc) (ls : Array Slot), lp (fun x42 => X4_measures_s42 w1_number w1_wanted p3 x42.1 x42.2.1 x42.2.2) n (x42_0, x42_1, x42_2) = some y42 → Sv D A s.heap [oX4 q0 u0_0 u0_1 (.ref q1) u0_3, aI cy q1 7 x42_2, oX0 q2 u2_0 u2_1 u2_2 u2_3 (.ref q3) (.int w1_number) u2_6 u2_7, aI cy q3 7 w1_wanted] H locs → lv_has ls 8 [(0, .ref q0), (1, .ref q2), (3, .int p3), (4, .int x42_0), (5, .int x42_1)] → ( ∀ (y42_0 : Nat → Int32), y42_0 = y42 → ∀ (H : Heap) (locs : List Loc) (ls : Array Slot), Sv D A s.heap [oX4 q0 u0_0 u0_1 (.ref q1) u0_3, aI cy q1 7 y42_0, oX0 q2 u2_0 u2_1 u2_2 u2_3 (.ref q3) (.int w1_number) u2_6 u2_7, aI cy q3 7 w1_wanted] H locs → lv_has ls 8 [] → W p l e R s m args below meth c H locs 0 0 Q (F0 m 132 ls [])) → W p l e R s m args below meth c H locs 0 0 Q (F0 m 42 ls []) := by
    intro n
    induction n with
    | zero =>
      intro x42_0 x42_1 x42_2 y42 H locs ls h
      exact lp_zero h
    | succ n ih42 =>
      intro x42_0 x42_1 x42_2 y42 H locs ls h hS hl hk42_0
      obtain ⟨z42, h, hz42a, hz42b⟩ := lp_succ h
      have h : X4_measures_s42 w1_number w1_wanted p3 x42_0 x42_1 x42_2 = some z42 := h
      unfold X4_measures_s42 at h
      refine lv_iload hx hb dX4_measures_42 (lv_at hl 4 rfl) ?_
      refine lv_aload_n hx hb dX4_measures_44 rfl (lv_at hl 1 rfl) ?_
      refine r_get E frX4_38 hS 2 rfl rfl dX4_measures_45 ?_
      refine lv_icmp_ge (tgt := 132) hx hb dX4_measures_48 (by decide) (fun c4 => ?_) (fun c4 => ?_)
      · have h := it_pos c4 h
        exact hk42_0 x42_2 (hz42b _ (Option.some.inj h).symm)  H locs ls hS (lv_sub hl [] rfl)
      · have h := it_neg c4 h
        refine lv_iconst (v := 0) hx hb dX4_measures_51 (by decide) ?_
        refine lv_istore (lv' := [(6, .int (0 : Int32)), (0, .ref q0), (1, .ref q2), (3, .int p3), (4, .int x42_0), (5, .int x42_1)]) hx hb dX4_measures_52 hl (by decide) rfl (fun ls hl => ?_)
        refine lv_iconst (v := 0) hx hb dX4_measures_54 (by decide) ?_
        refine lv_istore (lv' := [(7, .int (0 : Int32)), (6, .int (0 : Int32)), (0, .ref q0), (1, .ref q2), (3, .int p3), (4, .int x42_0), (5, .int x42_1)]) hx hb dX4_measures_55 hl (by decide) rfl (fun ls hl => ?_)
        have hL57 : ∀ (n : Nat) (x57_0 : Int32) (x57_1 : Int32) (x57_2 : Nat → Int32) (y57 : Int32 × (Nat → Int32)) (H : Heap) (locs : List Loc) (ls : Array Slot), lp (fun x57 => X4_measures_s57 w1_number w1_wanted p3 x42_0 x42_1 x57.1 x57.2.1 x57.2.2) n (x57_0, x57_1, x57_2) = some y57 → Sv D A s.heap [oX4 q0 u0_0 u0_1 (.ref q1) u0_3, aI cy q1 7 x57_2, oX0 q2 u2_0 u2_1 u2_2 u2_3 (.ref q3) (.int w1_number) u2_6 u2_7, aI cy q3 7 w1_wanted] H locs → lv_has ls 8 [(0, .ref q0), (1, .ref q2), (3, .int p3), (4, .int x42_0), (5, .int x42_1), (6, .int x57_0), (7, .int x57_1)] → ( ∀ (y57_0 : Int32) (y57_1 : Nat → Int32), (y57_0, y57_1) = y57 → ∀ (H : Heap) (locs : List Loc) (ls : Array Slot), Sv D A s.heap [oX4 q0 u0_0 u0_1 (.ref q1) u0_3, aI cy q1 7 y57_1, oX0 q2 u2_0 u2_1 u2_2 u2_3 (.ref q3) (.int w1_number) u2_6 u2_7, aI cy q3 7 w1_wanted] H locs → lv_has ls 8 [(0, .ref q0), (1, .ref q2), (3, .int p3), (5, .int x42_1), (6, .int y57_0)] → W p l e R s m args below meth c H locs 0 0 Q (F0 m 122 ls [])) → W p l e R s m args below meth c H locs 0 0 Q (F0 m 57 ls []) := by
          intro n
          induction n with
          | zero =>
            intro x57_0 x57_1 x57_2 y57 H locs ls h
            exact lp_zero h
          | succ n ih57 =>
            intro x57_0 x57_1 x57_2 y57 H locs ls h hS hl hk57_0
            obtain ⟨z57, h, hz57a, hz57b⟩ := lp_succ h
            have h : X4_measures_s57 w1_number w1_wanted p3 x42_0 x42_1 x57_0 x57_1 x57_2 = some z57 := h
            unfold X4_measures_s57 at h
            refine lv_iload hx hb dX4_measures_57 (lv_at hl 6 rfl) ?_
            refine lv_aload_n hx hb dX4_measures_59 rfl (lv_at hl 1 rfl) ?_
            refine r_get E frX4_38 hS 2 rfl rfl dX4_measures_60 ?_
            refine lv_icmp_ge (tgt := 122) hx hb dX4_measures_63 (by decide) (fun c5 => ?_) (fun c5 => ?_)
            · have h := it_pos c5 h
              exact hk57_0 x57_0 x57_2 (hz57b _ (Option.some.inj h).symm)  H locs ls hS (lv_sub hl [0, 1, 2, 4, 5] rfl)
            · have h := it_neg c5 h
              refine lv_aload_n hx hb dX4_measures_66 rfl (lv_at hl 0 rfl) ?_
              refine r_get E frX4_18 hS 0 rfl rfl dX4_measures_67 ?_
              refine lv_iload hx hb dX4_measures_70 (lv_at hl 6 rfl) ?_
              obtain ⟨g6, h⟩ := gi_some h
              refine r_iald E hS 1 rfl g6 dX4_measures_72 ?_
              refine lv_if_ge (tgt := 116) hx hb dX4_measures_73 (by decide) (fun c7 => ?_) (fun c7 => ?_)
              · have h := it_pos c7 h
                refine lv_iinc (v := (x57_1 + (1 : Int32))) (lv' := [(7, .int (x57_1 + (1 : Int32))), (0, .ref q0), (1, .ref q2), (3, .int p3), (4, .int x42_0), (5, .int x42_1), (6, .int x57_0)]) hx hb dX4_measures_116 hl (k := 6) rfl rfl (by decide) rfl (fun ls hl => ?_)
                refine lv_goto (tgt := 57) hx hb dX4_measures_119 (by decide) ?_
                exact ih57 x57_0 (x57_1 + (1 : Int32)) x57_2 y57  H locs ls (hz57a _ (Option.some.inj h).symm) hS (lv_sub hl [1, 2, 3, 4, 5, 6, 0] rfl) hk57_0
              · have h := it_neg c7 h
                refine lv_iload_n hx hb dX4_measures_76 rfl (lv_at hl 2 rfl) ?_
                refine lv_iload hx hb dX4_measures_77 (lv_at hl 6 rfl) ?_
                refine lv_ishr hx hb dX4_measures_79 ?_
                refine lv_iconst (v := 1) hx hb dX4_measures_80 (by decide) ?_
                refine lv_iand hx hb dX4_measures_81 ?_
                refine lv_if_eq (tgt := 116) hx hb dX4_measures_82 (by decide) (fun c8 => ?_) (fun c8 => ?_)
                · have h := it_pos c8 h
                  refine lv_iinc (v := (x57_1 + (1 : Int32))) (lv' := [(7, .int (x57_1 + (1 : Int32))), (0, .ref q0), (1, .ref q2), (3, .int p3), (4, .int x42_0), (5, .int x42_1), (6, .int x57_0)]) hx hb dX4_measures_116 hl (k := 6) rfl rfl (by decide) rfl (fun ls hl => ?_)
                  refine lv_goto (tgt := 57) hx hb dX4_measures_119 (by decide) ?_
                  exact ih57 x57_0 (x57_1 + (1 : Int32)) x57_2 y57  H locs ls (hz57a _ (Option.some.inj h).symm) hS (lv_sub hl [1, 2, 3, 4, 5, 6, 0] rfl) hk57_0
                · have h := it_neg c8 h
                  refine lv_aload_n hx hb dX4_measures_85 rfl (lv_at hl 1 rfl) ?_
                  refine r_get E frX4_47 hS 2 rfl rfl dX4_measures_86 ?_
                  refine lv_iload hx hb dX4_measures_89 (lv_at hl 6 rfl) ?_
                  obtain ⟨g9, h⟩ := gi_some h
                  refine r_iald E hS 3 rfl g9 dX4_measures_91 ?_
                  refine lv_iload hx hb dX4_measures_92 (lv_at hl 3 rfl) ?_
                  refine lv_iand hx hb dX4_measures_94 ?_
                  refine lv_if_eq (tgt := 116) hx hb dX4_measures_95 (by decide) (fun c10 => ?_) (fun c10 => ?_)
                  · have h := it_pos c10 h
                    refine lv_iinc (v := (x57_1 + (1 : Int32))) (lv' := [(7, .int (x57_1 + (1 : Int32))), (0, .ref q0), (1, .ref q2), (3, .int p3), (4, .int x42_0), (5, .int x42_1), (6, .int x57_0)]) hx hb dX4_measures_116 hl (k := 6) rfl rfl (by decide) rfl (fun ls hl => ?_)
                    refine lv_goto (tgt := 57) hx hb dX4_measures_119 (by decide) ?_
                    exact ih57 x57_0 (x57_1 + (1 : Int32)) x57_2 y57  H locs ls (hz57a _ (Option.some.inj h).symm) hS (lv_sub hl [1, 2, 3, 4, 5, 6, 0] rfl) hk57_0
                  · have h := it_neg c10 h
                    refine lv_aload_n hx hb dX4_measures_98 rfl (lv_at hl 0 rfl) ?_
                    refine r_get E frX4_18 hS 0 rfl rfl dX4_measures_99 ?_
                    refine lv_iload hx hb dX4_measures_102 (lv_at hl 6 rfl) ?_
                    refine lv_iload hx hb dX4_measures_104 (lv_at hl 4 rfl) ?_
                    obtain ⟨g11, h⟩ := gi_some h
                    refine r_iast (ws' := [oX4 q0 u0_0 u0_1 (.ref q1) u0_3, aI cy q1 7 (upd x57_2 x57_1.toNatClampNeg x42_1), oX0 q2 u2_0 u2_1 u2_2 u2_3 (.ref q3) (.int w1_number) u2_6 u2_7, aI cy q3 7 w1_wanted]) E hS 1 rfl g11 rfl dX4_measures_106 (fun H locs hS => ?_)
                    refine lv_iload hx hb dX4_measures_107 (lv_at hl 5 rfl) ?_
                    refine lv_iconst (v := 1) hx hb dX4_measures_109 (by decide) ?_
                    refine lv_iload hx hb dX4_measures_110 (lv_at hl 6 rfl) ?_
                    refine lv_ishl hx hb dX4_measures_112 ?_
                    refine lv_ior hx hb dX4_measures_113 ?_
                    refine lv_istore (lv' := [(6, .int (x57_0 ||| ((1 : Int32) <<< (x57_1 &&& 31)))), (0, .ref q0), (1, .ref q2), (3, .int p3), (4, .int x42_0), (5, .int x42_1), (7, .int x57_1)]) hx hb dX4_measures_114 hl (by decide) rfl (fun ls hl => ?_)
                    refine lv_iinc (v := (x57_1 + (1 : Int32))) (lv' := [(7, .int (x57_1 + (1 : Int32))), (6, .int (x57_0 ||| ((1 : Int32) <<< (x57_1 &&& 31)))), (0, .ref q0), (1, .ref q2), (3, .int p3), (4, .int x42_0), (5, .int x42_1)]) hx hb dX4_measures_116 hl (k := 6) rfl rfl (by decide) rfl (fun ls hl => ?_)
                    refine lv_goto (tgt := 57) hx hb dX4_measures_119 (by decide) ?_
                    exact ih57 (x57_0 ||| ((1 : Int32) <<< (x57_1 &&& 31))) (x57_1 + (1 : Int32)) (upd x57_2 x57_1.toNatClampNeg x42_1) y57  H locs ls (hz57a _ (Option.some.inj h).symm) hS (lv_sub hl [2, 3, 4, 5, 6, 1, 0] rfl) hk57_0
        obtain ⟨y57, e57, h⟩ := bd_some h
        refine hL57 1000 (0 : Int32) (0 : Int32) x42_2 y57  H locs ls e57 hS (lv_sub hl [2, 3, 4, 5, 6, 1, 0] rfl) (fun y57_0 y57_1 ey57 H locs ls hS hl => ?_)
        subst ey57
        have h := un_r h
        refine lv_iload hx hb dX4_measures_122 (lv_at hl 4 rfl) ?_
        refine lv_istore (lv' := [(4, .int y57_0), (0, .ref q0), (1, .ref q2), (3, .int p3), (5, .int x42_1), (6, .int y57_0)]) hx hb dX4_measures_124 hl (by decide) rfl (fun ls hl => ?_)
        refine lv_iinc (v := (x42_1 + (1 : Int32))) (lv' := [(5, .int (x42_1 + (1 : Int32))), (4, .int y57_0), (0, .ref q0), (1, .ref q2), (3, .int p3), (6, .int y57_0)]) hx hb dX4_measures_126 hl (k := 4) rfl rfl (by decide) rfl (fun ls hl => ?_)
        refine lv_goto (tgt := 42) hx hb dX4_measures_129 (by decide) ?_
        exact ih42 y57_0 (x42_1 + (1 : Int32)) y57_1 y42  H locs ls (hz42a _ (Option.some.inj h).symm) hS (lv_sub hl [2, 3, 4, 1, 0] rfl) hk42_0
  obtain ⟨y42, e42, h⟩ := bd_some h
  refine hL42 1000 ((1 : Int32) <<< (p2 &&& 31)) (1 : Int32) y3_0 y42  H locs ls e42 hS (lv_sub hl [2, 3, 5, 1, 0] rfl) (fun y42_0 ey42 H locs ls hS hl => ?_)
  subst ey42
  obtain rfl := Option.some.inj h
  exact rt_v E hQ (.null) hS dX4_measures_132
set_option maxHeartbeats 4000000 in
set_option maxRecDepth 100000 in
theorem c_X4_farOf {l : Launch} {D : va_G} {cy : Nat → ClassId} (q0 : Nat) (q1 : Nat) (u0_0 : Value) (u0_1 : Value) (u0_3 : Value) (v_far : Nat → Int32) (p1 : Int32) (r : Int32) (h : X4_farOf v_far p1 = some r) : Ct l yX4_farOf cX4_farOf 2 (some .int) 0 0 D cy [.ref q0, .int p1] [oX4 q0 u0_0 u0_1 (.ref q1) u0_3, aI cy q1 7 v_far] (fun _ => [oX4 q0 u0_0 u0_1 (.ref q1) u0_3, aI cy q1 7 v_far]) (some (.int r)) := by
  refine Ct.mk kX4_farOf (by decide +kernel) (Nat.le_of_ble_eq_true rfl) ?_
  intro p e s m below meth c A ls args R Q hRf hRl hQ E H locs hS hl
  have hx := E.x
  have hb := E.b
  have hl : lv_has ls 2 [(0, .ref q0), (1, .int p1)] := hl
  unfold X4_farOf at h
  refine lv_iload_n hx hb dX4_farOf_0 rfl (lv_at hl 1 rfl) ?_
  refine lv_if_lt (tgt := 19) hx hb dX4_farOf_1 (by decide) (fun c1 => ?_) (fun c1 => ?_)
  · have h := it_pos c1 h
    refine lv_iconst (v := -1) hx hb dX4_farOf_19 (by decide) ?_
    obtain rfl := Option.some.inj h
    exact rt_i E hQ (.null) hS dX4_farOf_20
  · have h := it_neg c1 h
    refine lv_iload_n hx hb dX4_farOf_4 rfl (lv_at hl 1 rfl) ?_
    refine lv_bipush (v := 7) hx hb dX4_farOf_5 (by decide) ?_
    refine lv_icmp_ge (tgt := 19) hx hb dX4_farOf_7 (by decide) (fun c2 => ?_) (fun c2 => ?_)
    · have h := it_pos c2 h
      refine lv_iconst (v := -1) hx hb dX4_farOf_19 (by decide) ?_
      obtain rfl := Option.some.inj h
      exact rt_i E hQ (.null) hS dX4_farOf_20
    · have h := it_neg c2 h
      refine lv_aload_n hx hb dX4_farOf_10 rfl (lv_at hl 0 rfl) ?_
      refine r_get E frX4_18 hS 0 rfl rfl dX4_farOf_11 ?_
      refine lv_iload_n hx hb dX4_farOf_14 rfl (lv_at hl 1 rfl) ?_
      obtain ⟨g3, h⟩ := gi_some h
      refine r_iald E hS 1 rfl g3 dX4_farOf_15 ?_
      refine lv_goto (tgt := 20) hx hb dX4_farOf_16 (by decide) ?_
      obtain rfl := Option.some.inj h
      exact rt_i E hQ (.null) hS dX4_farOf_20
set_option maxHeartbeats 4000000 in
set_option maxRecDepth 100000 in
theorem c_X4_nearer {l : Launch} {D : va_G} {cy : Nat → ClassId} (q0 : Nat) (q1 : Nat) (q2 : Nat) (q3 : Nat) (u0_0 : Value) (u0_1 : Value) (u0_3 : Value) (u2_0 : Value) (u2_1 : Value) (u2_2 : Value) (u2_3 : Value) (u2_6 : Value) (u2_7 : Value) (v_far : Nat → Int32) (w1_number : Int32) (w1_wanted : Nat → Int32) (p2 : Int32) (p3 : Int32) (r : Int32) (h : X4_nearer v_far w1_number w1_wanted p2 p3 = some r) : Ct l yX4_nearer cX4_nearer 5 (some .int) 1 21 D cy [.ref q0, .ref q2, .int p2, .int p3] [oX4 q0 u0_0 u0_1 (.ref q1) u0_3, aI cy q1 7 v_far, oX0 q2 u2_0 u2_1 u2_2 u2_3 (.ref q3) (.int w1_number) u2_6 u2_7, aI cy q3 7 w1_wanted] (fun _ => [oX4 q0 u0_0 u0_1 (.ref q1) u0_3, aI cy q1 7 v_far, oX0 q2 u2_0 u2_1 u2_2 u2_3 (.ref q3) (.int w1_number) u2_6 u2_7, aI cy q3 7 w1_wanted]) (some (.int r)) := by
  refine Ct.mk kX4_nearer (by decide +kernel) (Nat.le_of_ble_eq_true rfl) ?_
  intro p e s m below meth c A ls args R Q hRf hRl hQ E H locs hS hl
  have hx := E.x
  have hb := E.b
  have hl : lv_has ls 5 [(0, .ref q0), (1, .ref q2), (2, .int p2), (3, .int p3)] := hl
  unfold X4_nearer at h
  refine lv_aload_n hx hb dX4_nearer_0 rfl (lv_at hl 1 rfl) ?_
  refine lv_iload_n hx hb dX4_nearer_1 rfl (lv_at hl 2 rfl) ?_
  refine ct_V (ws' := fun _ => [oX4 q0 u0_0 u0_1 (.ref q1) u0_3, aI cy q1 7 v_far, oX0 q2 u2_0 u2_1 u2_2 u2_3 (.ref q3) (.int w1_number) u2_6 u2_7, aI cy q3 7 w1_wanted]) (st' := [.int (X0_has w1_number p2)]) (rest := []) E hS vlX4_43 (c_X0_has (l := l) (D := D) (cy := cy) (q0 := q2) (u0_0 := u2_0) (u0_1 := u2_1) (u0_2 := u2_2) (u0_3 := u2_3) (u0_4 := .ref q3) (u0_6 := u2_6) (u0_7 := u2_7) (v_number := w1_number) (p1 := p2) (r := (X0_has w1_number p2)) rfl) [2] rfl rfl (fun _ => rfl) (fun _ => rfl) rfl rfl rfl rfl (Nat.le_of_ble_eq_true rfl) hl.1 (by rw [hRf]; exact Nat.le_of_ble_eq_true rfl) (by rw [hRl]; exact Nat.le_of_ble_eq_true rfl) ⟨Nat.zero_le _, Nat.zero_le _⟩ dX4_nearer_2 rfl (fun H locs _ hS => ?_)
  refine lv_if_ne (tgt := 10) hx hb dX4_nearer_5 (by decide) (fun c1 => ?_) (fun c1 => ?_)
  · have h := it_neg c1 h
    refine lv_iconst (v := 0) hx hb dX4_nearer_10 (by decide) ?_
    refine lv_istore (lv' := [(4, .int (0 : Int32)), (0, .ref q0), (1, .ref q2), (2, .int p2), (3, .int p3)]) hx hb dX4_nearer_11 hl (by decide) rfl (fun ls hl => ?_)
    have hL13 : ∀ (n : Nat) (x13_0 : Int32) (y13 : (Unit) ⊕ (Int32)) (H : Heap) (locs : List Loc) (ls : Array Slot), lp (fun x13 => X4_nearer_s13 v_far w1_number w1_wanted p2 p3 x13) n x13_0 = some y13 → Sv D A s.heap [oX4 q0 u0_0 u0_1 (.ref q1) u0_3, aI cy q1 7 v_far, oX0 q2 u2_0 u2_1 u2_2 u2_3 (.ref q3) (.int w1_number) u2_6 u2_7, aI cy q3 7 w1_wanted] H locs → lv_has ls 5 [(0, .ref q0), (1, .ref q2), (2, .int p2), (3, .int p3), (4, .int x13_0)] → ( .inl () = y13 → ∀ (H : Heap) (locs : List Loc) (ls : Array Slot), Sv D A s.heap [oX4 q0 u0_0 u0_1 (.ref q1) u0_3, aI cy q1 7 v_far, oX0 q2 u2_0 u2_1 u2_2 u2_3 (.ref q3) (.int w1_number) u2_6 u2_7, aI cy q3 7 w1_wanted] H locs → lv_has ls 5 [] → W p l e R s m args below meth c H locs 0 0 Q (F0 m 56 ls [])) → ( ∀ (ye13_1_0 : Int32), .inr ye13_1_0 = y13 → ∀ (H : Heap) (locs : List Loc) (ls : Array Slot), Sv D A s.heap [oX4 q0 u0_0 u0_1 (.ref q1) u0_3, aI cy q1 7 v_far, oX0 q2 u2_0 u2_1 u2_2 u2_3 (.ref q3) (.int w1_number) u2_6 u2_7, aI cy q3 7 w1_wanted] H locs → lv_has ls 5 [(4, .int ye13_1_0)] → W p l e R s m args below meth c H locs 0 0 Q (F0 m 47 ls [])) → W p l e R s m args below meth c H locs 0 0 Q (F0 m 13 ls []) := by
      intro n
      induction n with
      | zero =>
        intro x13_0 y13 H locs ls h
        exact lp_zero h
      | succ n ih13 =>
        intro x13_0 y13 H locs ls h hS hl hk13_0 hk13_1
        obtain ⟨z13, h, hz13a, hz13b⟩ := lp_succ h
        have h : X4_nearer_s13 v_far w1_number w1_wanted p2 p3 x13_0 = some z13 := h
        unfold X4_nearer_s13 at h
        refine lv_iload hx hb dX4_nearer_13 (lv_at hl 4 rfl) ?_
        refine lv_aload_n hx hb dX4_nearer_15 rfl (lv_at hl 1 rfl) ?_
        refine r_get E frX4_38 hS 2 rfl rfl dX4_nearer_16 ?_
        refine lv_icmp_ge (tgt := 56) hx hb dX4_nearer_19 (by decide) (fun c2 => ?_) (fun c2 => ?_)
        · have h := it_pos c2 h
          exact hk13_0  (hz13b _ (Option.some.inj h).symm)  H locs ls hS (lv_sub hl [] rfl)
        · have h := it_neg c2 h
          refine lv_aload_n hx hb dX4_nearer_22 rfl (lv_at hl 1 rfl) ?_
          refine r_get E frX4_47 hS 2 rfl rfl dX4_nearer_23 ?_
          refine lv_iload_n hx hb dX4_nearer_26 rfl (lv_at hl 2 rfl) ?_
          obtain ⟨g3, h⟩ := gi_some h
          refine r_iald E hS 3 rfl g3 dX4_nearer_27 ?_
          refine lv_iload hx hb dX4_nearer_28 (lv_at hl 4 rfl) ?_
          refine lv_ishr hx hb dX4_nearer_30 ?_
          refine lv_iconst (v := 1) hx hb dX4_nearer_31 (by decide) ?_
          refine lv_iand hx hb dX4_nearer_32 ?_
          refine lv_if_eq (tgt := 50) hx hb dX4_nearer_33 (by decide) (fun c4 => ?_) (fun c4 => ?_)
          · have h := it_pos c4 h
            refine lv_iinc (v := (x13_0 + (1 : Int32))) (lv' := [(4, .int (x13_0 + (1 : Int32))), (0, .ref q0), (1, .ref q2), (2, .int p2), (3, .int p3)]) hx hb dX4_nearer_50 hl (k := 4) rfl rfl (by decide) rfl (fun ls hl => ?_)
            refine lv_goto (tgt := 13) hx hb dX4_nearer_53 (by decide) ?_
            exact ih13 (x13_0 + (1 : Int32)) y13  H locs ls (hz13a _ (Option.some.inj h).symm) hS (lv_sub hl [1, 2, 3, 4, 0] rfl) hk13_0 hk13_1
          · have h := it_neg c4 h
            refine lv_aload_n hx hb dX4_nearer_36 rfl (lv_at hl 0 rfl) ?_
            refine r_get E frX4_18 hS 0 rfl rfl dX4_nearer_37 ?_
            refine lv_iload hx hb dX4_nearer_40 (lv_at hl 4 rfl) ?_
            obtain ⟨g5, h⟩ := gi_some h
            refine r_iald E hS 1 rfl g5 dX4_nearer_42 ?_
            refine lv_iload_n hx hb dX4_nearer_43 rfl (lv_at hl 3 rfl) ?_
            refine lv_icmp_ne (tgt := 50) hx hb dX4_nearer_44 (by decide) (fun c6 => ?_) (fun c6 => ?_)
            · have h := it_neg c6 h
              refine lv_iinc (v := (x13_0 + (1 : Int32))) (lv' := [(4, .int (x13_0 + (1 : Int32))), (0, .ref q0), (1, .ref q2), (2, .int p2), (3, .int p3)]) hx hb dX4_nearer_50 hl (k := 4) rfl rfl (by decide) rfl (fun ls hl => ?_)
              refine lv_goto (tgt := 13) hx hb dX4_nearer_53 (by decide) ?_
              exact ih13 (x13_0 + (1 : Int32)) y13  H locs ls (hz13a _ (Option.some.inj h).symm) hS (lv_sub hl [1, 2, 3, 4, 0] rfl) hk13_0 hk13_1
            · have h := it_pos c6 h
              exact hk13_1 x13_0 (hz13b _ (Option.some.inj h).symm)  H locs ls hS (lv_sub hl [4] rfl)
    obtain ⟨y13, e13, h⟩ := bd_some h
    refine hL13 1000 (0 : Int32) y13  H locs ls e13 hS (lv_sub hl [1, 2, 3, 4, 0] rfl) (fun ey13 H locs ls hS hl => ?_) (fun ye13_1_0 ey13 H locs ls hS hl => ?_)
    · subst ey13
      have h := sm_l h
      refine lv_iconst (v := -1) hx hb dX4_nearer_56 (by decide) ?_
      obtain rfl := Option.some.inj h
      exact rt_i E hQ (.null) hS dX4_nearer_57
    · subst ey13
      have h := sm_r h
      refine lv_iload hx hb dX4_nearer_47 (lv_at hl 0 rfl) ?_
      obtain rfl := Option.some.inj h
      exact rt_i E hQ (.null) hS dX4_nearer_49
  · have h := it_pos c1 h
    refine lv_iconst (v := -1) hx hb dX4_nearer_8 (by decide) ?_
    obtain rfl := Option.some.inj h
    exact rt_i E hQ (.null) hS dX4_nearer_9
set_option maxHeartbeats 4000000 in
set_option maxRecDepth 100000 in
theorem c_X4_tellsWay {l : Launch} {D : va_G} {cy : Nat → ClassId} (q0 : Nat) (q1 : Nat) (q2 : Nat) (q3 : Nat) (q4 : Nat) (q5 : Nat) (u0_0 : Value) (u0_1 : Value) (u0_3 : Value) (u2_0 : Value) (u2_1 : Value) (u2_2 : Value) (u2_3 : Value) (u2_6 : Value) (u2_7 : Value) (v_far : Nat → Int32) (w1_number : Int32) (w1_wanted : Nat → Int32) (w4_size : Int32) (w4_number : Nat → Int64) (p2 : Int32) (p3 : Int32) (r : Int32 × (Nat → Int32) × Int32 × (Nat → Int64)) (h : X4_tellsWay v_far w1_number w1_wanted w4_size w4_number p2 p3 = some r) : Ct l yX4_tellsWay cX4_tellsWay 8 (some .int) 2 45 D cy [.ref q0, .ref q2, .int p2, .int p3, .ref q4] [oX4 q0 u0_0 u0_1 (.ref q1) u0_3, aI cy q1 7 v_far, oX0 q2 u2_0 u2_1 u2_2 u2_3 (.ref q3) (.int w1_number) u2_6 u2_7, aI cy q3 7 w1_wanted, oX2 q4 (.ref q5) (.int w4_size), aJ cy q5 16 w4_number] (fun _ => [oX4 q0 u0_0 u0_1 (.ref q1) u0_3, aI cy q1 7 r.2.1, oX0 q2 u2_0 u2_1 u2_2 u2_3 (.ref q3) (.int w1_number) u2_6 u2_7, aI cy q3 7 w1_wanted, oX2 q4 (.ref q5) (.int r.2.2.1), aJ cy q5 16 r.2.2.2]) (some (.int r.1)) := by
  refine Ct.mk kX4_tellsWay (by decide +kernel) (Nat.le_of_ble_eq_true rfl) ?_
  intro p e s m below meth c A ls args R Q hRf hRl hQ E H locs hS hl
  have hx := E.x
  have hb := E.b
  have hl : lv_has ls 8 [(0, .ref q0), (1, .ref q2), (2, .int p2), (3, .int p3), (4, .ref q4)] := hl
  unfold X4_tellsWay at h
  refine lv_aload_n hx hb dX4_tellsWay_0 rfl (lv_at hl 0 rfl) ?_
  refine lv_aload_n hx hb dX4_tellsWay_1 rfl (lv_at hl 1 rfl) ?_
  refine lv_iload_n hx hb dX4_tellsWay_2 rfl (lv_at hl 3 rfl) ?_
  refine lv_aload_n hx hb dX4_tellsWay_3 rfl (lv_at hl 1 rfl) ?_
  refine ct_V (ws' := fun _ => [oX4 q0 u0_0 u0_1 (.ref q1) u0_3, aI cy q1 7 v_far, oX0 q2 u2_0 u2_1 u2_2 u2_3 (.ref q3) (.int w1_number) u2_6 u2_7, aI cy q3 7 w1_wanted, oX2 q4 (.ref q5) (.int w4_size), aJ cy q5 16 w4_number]) (st' := [.int (X0_everybody w1_number), .int p3, .ref q2, .ref q0]) (rest := [.int p3, .ref q2, .ref q0]) E hS vlX4_50 (c_X0_everybody (l := l) (D := D) (cy := cy) (q0 := q2) (u0_0 := u2_0) (u0_1 := u2_1) (u0_2 := u2_2) (u0_3 := u2_3) (u0_4 := .ref q3) (u0_6 := u2_6) (u0_7 := u2_7) (v_number := w1_number) (r := (X0_everybody w1_number)) rfl) [2] rfl rfl (fun _ => rfl) (fun _ => rfl) rfl rfl rfl rfl (Nat.le_of_ble_eq_true rfl) hl.1 (by rw [hRf]; exact Nat.le_of_ble_eq_true rfl) (by rw [hRl]; exact Nat.le_of_ble_eq_true rfl) ⟨Nat.zero_le _, Nat.zero_le _⟩ dX4_tellsWay_4 rfl (fun H locs _ hS => ?_)
  obtain ⟨y7, e1, h⟩ := bd_some h
  refine ct_V (ws' := fun _ => [oX4 q0 u0_0 u0_1 (.ref q1) u0_3, aI cy q1 7 y7, oX0 q2 u2_0 u2_1 u2_2 u2_3 (.ref q3) (.int w1_number) u2_6 u2_7, aI cy q3 7 w1_wanted, oX2 q4 (.ref q5) (.int w4_size), aJ cy q5 16 w4_number]) (st' := []) (rest := []) E hS vlX4_54 (c_X4_measures (l := l) (D := D) (cy := cy) (q0 := q0) (q1 := q1) (q2 := q2) (q3 := q3) (u0_0 := u0_0) (u0_1 := u0_1) (u0_3 := u0_3) (u2_0 := u2_0) (u2_1 := u2_1) (u2_2 := u2_2) (u2_3 := u2_3) (u2_6 := u2_6) (u2_7 := u2_7) (v_far := v_far) (w1_number := w1_number) (w1_wanted := w1_wanted) (p2 := p3) (p3 := (X0_everybody w1_number)) (r := y7) e1) [0, 1, 2, 3] rfl rfl (fun _ => rfl) (fun _ => rfl) rfl rfl rfl rfl (Nat.le_of_ble_eq_true rfl) hl.1 (by rw [hRf]; exact Nat.le_of_ble_eq_true rfl) (by rw [hRl]; exact Nat.le_of_ble_eq_true rfl) ⟨Nat.zero_le _, Nat.zero_le _⟩ dX4_tellsWay_7 rfl (fun H locs _ hS => ?_)
  refine lv_aload_n hx hb dX4_tellsWay_10 rfl (lv_at hl 0 rfl) ?_
  refine lv_iload_n hx hb dX4_tellsWay_11 rfl (lv_at hl 2 rfl) ?_
  obtain ⟨y12, e2, h⟩ := bd_some h
  refine ct_V (ws' := fun _ => [oX4 q0 u0_0 u0_1 (.ref q1) u0_3, aI cy q1 7 y7, oX0 q2 u2_0 u2_1 u2_2 u2_3 (.ref q3) (.int w1_number) u2_6 u2_7, aI cy q3 7 w1_wanted, oX2 q4 (.ref q5) (.int w4_size), aJ cy q5 16 w4_number]) (st' := [.int y12]) (rest := []) E hS vlX4_58 (c_X4_farOf (l := l) (D := D) (cy := cy) (q0 := q0) (q1 := q1) (u0_0 := u0_0) (u0_1 := u0_1) (u0_3 := u0_3) (v_far := y7) (p1 := p2) (r := y12) e2) [0, 1] rfl rfl (fun _ => rfl) (fun _ => rfl) rfl rfl rfl rfl (Nat.le_of_ble_eq_true rfl) hl.1 (by rw [hRf]; exact Nat.le_of_ble_eq_true rfl) (by rw [hRl]; exact Nat.le_of_ble_eq_true rfl) ⟨Nat.zero_le _, Nat.zero_le _⟩ dX4_tellsWay_12 rfl (fun H locs _ hS => ?_)
  refine lv_istore (lv' := [(5, .int y12), (0, .ref q0), (1, .ref q2), (2, .int p2), (3, .int p3), (4, .ref q4)]) hx hb dX4_tellsWay_15 hl (by decide) rfl (fun ls hl => ?_)
  refine lv_iload hx hb dX4_tellsWay_17 (lv_at hl 0 rfl) ?_
  refine lv_if_ge (tgt := 25) hx hb dX4_tellsWay_19 (by decide) (fun c3 => ?_) (fun c3 => ?_)
  · have h := it_pos c3 h
    refine lv_aload hx hb dX4_tellsWay_25 (lv_at hl 5 rfl) ?_
    refine lv_iload_n hx hb dX4_tellsWay_27 rfl (lv_at hl 3 rfl) ?_
    refine lv_i2l (v := (p2.toInt64)) hx hb dX4_tellsWay_28 rfl ?_
    obtain ⟨y29, e4, h⟩ := bd_some h
    refine ct_V (ws' := fun _ => [oX4 q0 u0_0 u0_1 (.ref q1) u0_3, aI cy q1 7 y7, oX0 q2 u2_0 u2_1 u2_2 u2_3 (.ref q3) (.int w1_number) u2_6 u2_7, aI cy q3 7 w1_wanted, oX2 q4 (.ref q5) (.int y29.1), aJ cy q5 16 y29.2]) (st' := []) (rest := []) E hS vlX4_62 (c_X2_tellsOne (l := l) (D := D) (cy := cy) (q0 := q4) (q1 := q5) (v_size := w4_size) (v_number := w4_number) (p1 := (p2.toInt64)) (r := y29) e4) [4, 5] rfl rfl (fun _ => rfl) (fun _ => rfl) rfl rfl rfl rfl (Nat.le_of_ble_eq_true rfl) hl.1 (by rw [hRf]; exact Nat.le_of_ble_eq_true rfl) (by rw [hRl]; exact Nat.le_of_ble_eq_true rfl) ⟨Nat.zero_le _, Nat.zero_le _⟩ dX4_tellsWay_29 rfl (fun H locs _ hS => ?_)
    refine lv_iload_n hx hb dX4_tellsWay_32 rfl (lv_at hl 3 rfl) ?_
    refine lv_istore (lv' := [(6, .int p2), (5, .int y12), (0, .ref q0), (1, .ref q2), (2, .int p2), (3, .int p3), (4, .ref q4)]) hx hb dX4_tellsWay_33 hl (by decide) rfl (fun ls hl => ?_)
    refine lv_iload hx hb dX4_tellsWay_35 (lv_at hl 1 rfl) ?_
    refine lv_iconst (v := 1) hx hb dX4_tellsWay_37 (by decide) ?_
    refine lv_isub hx hb dX4_tellsWay_38 ?_
    refine lv_istore (lv' := [(7, .int (y12 - (1 : Int32))), (6, .int p2), (5, .int y12), (0, .ref q0), (1, .ref q2), (2, .int p2), (3, .int p3), (4, .ref q4)]) hx hb dX4_tellsWay_39 hl (by decide) rfl (fun ls hl => ?_)
    have hL41 : ∀ (n : Nat) (x41_0 : Int32) (x41_1 : Int32) (x41_2 : Int32) (x41_3 : Nat → Int64) (y41 : Int32 × (Nat → Int64)) (H : Heap) (locs : List Loc) (ls : Array Slot), lp (fun x41 => X4_tellsWay_s41 w1_number w1_wanted y7 x41.1 x41.2.1 x41.2.2.1 x41.2.2.2) n (x41_0, x41_1, x41_2, x41_3) = some y41 → Sv D A s.heap [oX4 q0 u0_0 u0_1 (.ref q1) u0_3, aI cy q1 7 y7, oX0 q2 u2_0 u2_1 u2_2 u2_3 (.ref q3) (.int w1_number) u2_6 u2_7, aI cy q3 7 w1_wanted, oX2 q4 (.ref q5) (.int x41_2), aJ cy q5 16 x41_3] H locs → lv_has ls 8 [(0, .ref q0), (1, .ref q2), (4, .ref q4), (5, .int y12), (6, .int x41_0), (7, .int x41_1)] → ( ∀ (y41_0 : Int32) (y41_1 : Nat → Int64), (y41_0, y41_1) = y41 → ∀ (H : Heap) (locs : List Loc) (ls : Array Slot), Sv D A s.heap [oX4 q0 u0_0 u0_1 (.ref q1) u0_3, aI cy q1 7 y7, oX0 q2 u2_0 u2_1 u2_2 u2_3 (.ref q3) (.int w1_number) u2_6 u2_7, aI cy q3 7 w1_wanted, oX2 q4 (.ref q5) (.int y41_0), aJ cy q5 16 y41_1] H locs → lv_has ls 8 [(5, .int y12)] → W p l e R s m args below meth c H locs 0 0 Q (F0 m 71 ls [])) → W p l e R s m args below meth c H locs 0 0 Q (F0 m 41 ls []) := by
      intro n
      induction n with
      | zero =>
        intro x41_0 x41_1 x41_2 x41_3 y41 H locs ls h
        exact lp_zero h
      | succ n ih41 =>
        intro x41_0 x41_1 x41_2 x41_3 y41 H locs ls h hS hl hk41_0
        obtain ⟨z41, h, hz41a, hz41b⟩ := lp_succ h
        have h : X4_tellsWay_s41 w1_number w1_wanted y7 x41_0 x41_1 x41_2 x41_3 = some z41 := h
        unfold X4_tellsWay_s41 at h
        refine lv_iload hx hb dX4_tellsWay_41 (lv_at hl 5 rfl) ?_
        refine lv_if_lt (tgt := 71) hx hb dX4_tellsWay_43 (by decide) (fun c5 => ?_) (fun c5 => ?_)
        · have h := it_pos c5 h
          exact hk41_0 x41_2 x41_3 (hz41b _ (Option.some.inj h).symm)  H locs ls hS (lv_sub hl [3] rfl)
        · have h := it_neg c5 h
          refine lv_aload_n hx hb dX4_tellsWay_46 rfl (lv_at hl 0 rfl) ?_
          refine lv_aload_n hx hb dX4_tellsWay_47 rfl (lv_at hl 1 rfl) ?_
          refine lv_iload hx hb dX4_tellsWay_48 (lv_at hl 4 rfl) ?_
          refine lv_iload hx hb dX4_tellsWay_50 (lv_at hl 5 rfl) ?_
          obtain ⟨y52, e6, h⟩ := bd_some h
          refine ct_V (ws' := fun _ => [oX4 q0 u0_0 u0_1 (.ref q1) u0_3, aI cy q1 7 y7, oX0 q2 u2_0 u2_1 u2_2 u2_3 (.ref q3) (.int w1_number) u2_6 u2_7, aI cy q3 7 w1_wanted, oX2 q4 (.ref q5) (.int x41_2), aJ cy q5 16 x41_3]) (st' := [.int y52]) (rest := []) E hS vlX4_65 (c_X4_nearer (l := l) (D := D) (cy := cy) (q0 := q0) (q1 := q1) (q2 := q2) (q3 := q3) (u0_0 := u0_0) (u0_1 := u0_1) (u0_3 := u0_3) (u2_0 := u2_0) (u2_1 := u2_1) (u2_2 := u2_2) (u2_3 := u2_3) (u2_6 := u2_6) (u2_7 := u2_7) (v_far := y7) (w1_number := w1_number) (w1_wanted := w1_wanted) (p2 := x41_0) (p3 := x41_1) (r := y52) e6) [0, 1, 2, 3] rfl rfl (fun _ => rfl) (fun _ => rfl) rfl rfl rfl rfl (Nat.le_of_ble_eq_true rfl) hl.1 (by rw [hRf]; exact Nat.le_of_ble_eq_true rfl) (by rw [hRl]; exact Nat.le_of_ble_eq_true rfl) ⟨Nat.zero_le _, Nat.zero_le _⟩ dX4_tellsWay_52 rfl (fun H locs _ hS => ?_)
          refine lv_istore (lv' := [(6, .int y52), (0, .ref q0), (1, .ref q2), (4, .ref q4), (5, .int y12), (7, .int x41_1)]) hx hb dX4_tellsWay_55 hl (by decide) rfl (fun ls hl => ?_)
          refine lv_aload hx hb dX4_tellsWay_57 (lv_at hl 3 rfl) ?_
          refine lv_iload hx hb dX4_tellsWay_59 (lv_at hl 0 rfl) ?_
          refine lv_i2l (v := (y52.toInt64)) hx hb dX4_tellsWay_61 rfl ?_
          obtain ⟨y62, e7, h⟩ := bd_some h
          refine ct_V (ws' := fun _ => [oX4 q0 u0_0 u0_1 (.ref q1) u0_3, aI cy q1 7 y7, oX0 q2 u2_0 u2_1 u2_2 u2_3 (.ref q3) (.int w1_number) u2_6 u2_7, aI cy q3 7 w1_wanted, oX2 q4 (.ref q5) (.int y62.1), aJ cy q5 16 y62.2]) (st' := []) (rest := []) E hS vlX4_34 (c_X2_adds (l := l) (D := D) (cy := cy) (q0 := q4) (q1 := q5) (v_size := x41_2) (v_number := x41_3) (p1 := (y52.toInt64)) (r := y62) e7) [4, 5] rfl rfl (fun _ => rfl) (fun _ => rfl) rfl rfl rfl rfl (Nat.le_of_ble_eq_true rfl) hl.1 (by rw [hRf]; exact Nat.le_of_ble_eq_true rfl) (by rw [hRl]; exact Nat.le_of_ble_eq_true rfl) ⟨Nat.zero_le _, Nat.zero_le _⟩ dX4_tellsWay_62 rfl (fun H locs _ hS => ?_)
          refine lv_iinc (v := (x41_1 + (-1 : Int32))) (lv' := [(7, .int (x41_1 + (-1 : Int32))), (6, .int y52), (0, .ref q0), (1, .ref q2), (4, .ref q4), (5, .int y12)]) hx hb dX4_tellsWay_65 hl (k := 5) rfl rfl (by decide) rfl (fun ls hl => ?_)
          refine lv_goto (tgt := 41) hx hb dX4_tellsWay_68 (by decide) ?_
          exact ih41 y52 (x41_1 + (-1 : Int32)) y62.1 y62.2 y41  H locs ls (hz41a _ (Option.some.inj h).symm) hS (lv_sub hl [2, 3, 4, 5, 1, 0] rfl) hk41_0
    obtain ⟨y41, e41, h⟩ := bd_some h
    refine hL41 1000 p2 (y12 - (1 : Int32)) y29.1 y29.2 y41  H locs ls e41 hS (lv_sub hl [3, 4, 7, 2, 1, 0] rfl) (fun y41_0 y41_1 ey41 H locs ls hS hl => ?_)
    subst ey41
    have h := un_r h
    refine lv_iload hx hb dX4_tellsWay_71 (lv_at hl 0 rfl) ?_
    obtain rfl := Option.some.inj h
    exact rt_i E hQ (.null) hS dX4_tellsWay_73
  · have h := it_neg c3 h
    refine lv_bipush (v := -2) hx hb dX4_tellsWay_22 (by decide) ?_
    obtain rfl := Option.some.inj h
    exact rt_i E hQ (.null) hS dX4_tellsWay_24
set_option maxHeartbeats 4000000 in
set_option maxRecDepth 100000 in
theorem c_X4_roundFrom {l : Launch} {D : va_G} {cy : Nat → ClassId} (q0 : Nat) (q1 : Nat) (q2 : Nat) (q3 : Nat) (u0_0 : Value) (u0_1 : Value) (u0_3 : Value) (u2_0 : Value) (u2_1 : Value) (u2_2 : Value) (u2_3 : Value) (u2_6 : Value) (u2_7 : Value) (v_far : Nat → Int32) (w1_number : Int32) (w1_wanted : Nat → Int32) (p2 : Int32) (r : Int32 × (Nat → Int32)) (h : X4_roundFrom v_far w1_number w1_wanted p2 = some r) : Ct l yX4_roundFrom cX4_roundFrom 4 (some .int) 2 45 D cy [.ref q0, .ref q2, .int p2] [oX4 q0 u0_0 u0_1 (.ref q1) u0_3, aI cy q1 7 v_far, oX0 q2 u2_0 u2_1 u2_2 u2_3 (.ref q3) (.int w1_number) u2_6 u2_7, aI cy q3 7 w1_wanted] (fun _ => [oX4 q0 u0_0 u0_1 (.ref q1) u0_3, aI cy q1 7 r.2, oX0 q2 u2_0 u2_1 u2_2 u2_3 (.ref q3) (.int w1_number) u2_6 u2_7, aI cy q3 7 w1_wanted]) (some (.int r.1)) := by
  refine Ct.mk kX4_roundFrom (by decide +kernel) (Nat.le_of_ble_eq_true rfl) ?_
  intro p e s m below meth c A ls args R Q hRf hRl hQ E H locs hS hl
  have hx := E.x
  have hb := E.b
  have hl : lv_has ls 4 [(0, .ref q0), (1, .ref q2), (2, .int p2)] := hl
  unfold X4_roundFrom at h
  refine lv_aload_n hx hb dX4_roundFrom_0 rfl (lv_at hl 0 rfl) ?_
  refine lv_aload_n hx hb dX4_roundFrom_1 rfl (lv_at hl 1 rfl) ?_
  refine lv_iload_n hx hb dX4_roundFrom_2 rfl (lv_at hl 2 rfl) ?_
  refine lv_aload_n hx hb dX4_roundFrom_3 rfl (lv_at hl 1 rfl) ?_
  refine ct_V (ws' := fun _ => [oX4 q0 u0_0 u0_1 (.ref q1) u0_3, aI cy q1 7 v_far, oX0 q2 u2_0 u2_1 u2_2 u2_3 (.ref q3) (.int w1_number) u2_6 u2_7, aI cy q3 7 w1_wanted]) (st' := [.int (X0_everybody w1_number), .int p2, .ref q2, .ref q0]) (rest := [.int p2, .ref q2, .ref q0]) E hS vlX4_50 (c_X0_everybody (l := l) (D := D) (cy := cy) (q0 := q2) (u0_0 := u2_0) (u0_1 := u2_1) (u0_2 := u2_2) (u0_3 := u2_3) (u0_4 := .ref q3) (u0_6 := u2_6) (u0_7 := u2_7) (v_number := w1_number) (r := (X0_everybody w1_number)) rfl) [2] rfl rfl (fun _ => rfl) (fun _ => rfl) rfl rfl rfl rfl (Nat.le_of_ble_eq_true rfl) hl.1 (by rw [hRf]; exact Nat.le_of_ble_eq_true rfl) (by rw [hRl]; exact Nat.le_of_ble_eq_true rfl) ⟨Nat.zero_le _, Nat.zero_le _⟩ dX4_roundFrom_4 rfl (fun H locs _ hS => ?_)
  refine lv_iconst (v := 1) hx hb dX4_roundFrom_7 (by decide) ?_
  refine lv_iload_n hx hb dX4_roundFrom_8 rfl (lv_at hl 2 rfl) ?_
  refine lv_ishl hx hb dX4_roundFrom_9 ?_
  refine lv_ineg hx hb dX4_roundFrom_10 ?_
  refine lv_iand hx hb dX4_roundFrom_11 ?_
  obtain ⟨y12, e1, h⟩ := bd_some h
  refine ct_V (ws' := fun _ => [oX4 q0 u0_0 u0_1 (.ref q1) u0_3, aI cy q1 7 y12, oX0 q2 u2_0 u2_1 u2_2 u2_3 (.ref q3) (.int w1_number) u2_6 u2_7, aI cy q3 7 w1_wanted]) (st' := []) (rest := []) E hS vlX4_54 (c_X4_measures (l := l) (D := D) (cy := cy) (q0 := q0) (q1 := q1) (q2 := q2) (q3 := q3) (u0_0 := u0_0) (u0_1 := u0_1) (u0_3 := u0_3) (u2_0 := u2_0) (u2_1 := u2_1) (u2_2 := u2_2) (u2_3 := u2_3) (u2_6 := u2_6) (u2_7 := u2_7) (v_far := v_far) (w1_number := w1_number) (w1_wanted := w1_wanted) (p2 := p2) (p3 := ((X0_everybody w1_number) &&& (-((1 : Int32) <<< (p2 &&& 31))))) (r := y12) e1) [0, 1, 2, 3] rfl rfl (fun _ => rfl) (fun _ => rfl) rfl rfl rfl rfl (Nat.le_of_ble_eq_true rfl) hl.1 (by rw [hRf]; exact Nat.le_of_ble_eq_true rfl) (by rw [hRl]; exact Nat.le_of_ble_eq_true rfl) ⟨Nat.zero_le _, Nat.zero_le _⟩ dX4_roundFrom_12 rfl (fun H locs _ hS => ?_)
  refine lv_iconst (v := 1) hx hb dX4_roundFrom_15 (by decide) ?_
  refine lv_istore_n (lv' := [(3, .int (1 : Int32)), (0, .ref q0), (1, .ref q2), (2, .int p2)]) hx hb dX4_roundFrom_16 rfl hl (by decide) rfl (fun ls hl => ?_)
  have hL17 : ∀ (n : Nat) (x17_0 : Int32) (y17 : (Unit) ⊕ (Int32)) (H : Heap) (locs : List Loc) (ls : Array Slot), lp (fun x17 => X4_roundFrom_s17 w1_number w1_wanted p2 y12 x17) n x17_0 = some y17 → Sv D A s.heap [oX4 q0 u0_0 u0_1 (.ref q1) u0_3, aI cy q1 7 y12, oX0 q2 u2_0 u2_1 u2_2 u2_3 (.ref q3) (.int w1_number) u2_6 u2_7, aI cy q3 7 w1_wanted] H locs → lv_has ls 4 [(0, .ref q0), (1, .ref q2), (2, .int p2), (3, .int x17_0)] → ( .inl () = y17 → ∀ (H : Heap) (locs : List Loc) (ls : Array Slot), Sv D A s.heap [oX4 q0 u0_0 u0_1 (.ref q1) u0_3, aI cy q1 7 y12, oX0 q2 u2_0 u2_1 u2_2 u2_3 (.ref q3) (.int w1_number) u2_6 u2_7, aI cy q3 7 w1_wanted] H locs → lv_has ls 4 [] → W p l e R s m args below meth c H locs 0 0 Q (F0 m 45 ls [])) → ( ∀ (ye17_1_0 : Int32), .inr ye17_1_0 = y17 → ∀ (H : Heap) (locs : List Loc) (ls : Array Slot), Sv D A s.heap [oX4 q0 u0_0 u0_1 (.ref q1) u0_3, aI cy q1 7 y12, oX0 q2 u2_0 u2_1 u2_2 u2_3 (.ref q3) (.int w1_number) u2_6 u2_7, aI cy q3 7 w1_wanted] H locs → lv_has ls 4 [(3, .int ye17_1_0)] → W p l e R s m args below meth c H locs 0 0 Q (F0 m 35 ls [])) → W p l e R s m args below meth c H locs 0 0 Q (F0 m 17 ls []) := by
    intro n
    induction n with
    | zero =>
      intro x17_0 y17 H locs ls h
      exact lp_zero h
    | succ n ih17 =>
      intro x17_0 y17 H locs ls h hS hl hk17_0 hk17_1
      obtain ⟨z17, h, hz17a, hz17b⟩ := lp_succ h
      have h : X4_roundFrom_s17 w1_number w1_wanted p2 y12 x17_0 = some z17 := h
      unfold X4_roundFrom_s17 at h
      refine lv_iload_n hx hb dX4_roundFrom_17 rfl (lv_at hl 3 rfl) ?_
      refine lv_aload_n hx hb dX4_roundFrom_18 rfl (lv_at hl 1 rfl) ?_
      refine r_get E frX4_38 hS 2 rfl rfl dX4_roundFrom_19 ?_
      refine lv_icmp_ge (tgt := 45) hx hb dX4_roundFrom_22 (by decide) (fun c2 => ?_) (fun c2 => ?_)
      · have h := it_pos c2 h
        exact hk17_0  (hz17b _ (Option.some.inj h).symm)  H locs ls hS (lv_sub hl [] rfl)
      · have h := it_neg c2 h
        refine lv_aload_n hx hb dX4_roundFrom_25 rfl (lv_at hl 0 rfl) ?_
        refine lv_aload_n hx hb dX4_roundFrom_26 rfl (lv_at hl 1 rfl) ?_
        refine lv_iload_n hx hb dX4_roundFrom_27 rfl (lv_at hl 2 rfl) ?_
        refine lv_iload_n hx hb dX4_roundFrom_28 rfl (lv_at hl 3 rfl) ?_
        obtain ⟨y29, e3, h⟩ := bd_some h
        refine ct_V (ws' := fun _ => [oX4 q0 u0_0 u0_1 (.ref q1) u0_3, aI cy q1 7 y12, oX0 q2 u2_0 u2_1 u2_2 u2_3 (.ref q3) (.int w1_number) u2_6 u2_7, aI cy q3 7 w1_wanted]) (st' := [.int y29]) (rest := []) E hS vlX4_65 (c_X4_nearer (l := l) (D := D) (cy := cy) (q0 := q0) (q1 := q1) (q2 := q2) (q3 := q3) (u0_0 := u0_0) (u0_1 := u0_1) (u0_3 := u0_3) (u2_0 := u2_0) (u2_1 := u2_1) (u2_2 := u2_2) (u2_3 := u2_3) (u2_6 := u2_6) (u2_7 := u2_7) (v_far := y12) (w1_number := w1_number) (w1_wanted := w1_wanted) (p2 := p2) (p3 := x17_0) (r := y29) e3) [0, 1, 2, 3] rfl rfl (fun _ => rfl) (fun _ => rfl) rfl rfl rfl rfl (Nat.le_of_ble_eq_true rfl) hl.1 (by rw [hRf]; exact Nat.le_of_ble_eq_true rfl) (by rw [hRl]; exact Nat.le_of_ble_eq_true rfl) ⟨Nat.zero_le _, Nat.zero_le _⟩ dX4_roundFrom_29 rfl (fun H locs _ hS => ?_)
        refine lv_if_lt (tgt := 39) hx hb dX4_roundFrom_32 (by decide) (fun c4 => ?_) (fun c4 => ?_)
        · have h := it_pos c4 h
          refine lv_iinc (v := (x17_0 + (1 : Int32))) (lv' := [(3, .int (x17_0 + (1 : Int32))), (0, .ref q0), (1, .ref q2), (2, .int p2)]) hx hb dX4_roundFrom_39 hl (k := 3) rfl rfl (by decide) rfl (fun ls hl => ?_)
          refine lv_goto (tgt := 17) hx hb dX4_roundFrom_42 (by decide) ?_
          exact ih17 (x17_0 + (1 : Int32)) y17  H locs ls (hz17a _ (Option.some.inj h).symm) hS (lv_sub hl [1, 2, 3, 0] rfl) hk17_0 hk17_1
        · have h := it_neg c4 h
          exact hk17_1 x17_0 (hz17b _ (Option.some.inj h).symm)  H locs ls hS (lv_sub hl [3] rfl)
  obtain ⟨y17, e17, h⟩ := bd_some h
  refine hL17 1000 (1 : Int32) y17  H locs ls e17 hS (lv_sub hl [1, 2, 3, 0] rfl) (fun ey17 H locs ls hS hl => ?_) (fun ye17_1_0 ey17 H locs ls hS hl => ?_)
  · subst ey17
    have h := sm_l h
    refine lv_iconst (v := 0) hx hb dX4_roundFrom_45 (by decide) ?_
    obtain rfl := Option.some.inj h
    exact rt_i E hQ (.null) hS dX4_roundFrom_46
  · subst ey17
    have h := sm_r h
    refine lv_iload_n hx hb dX4_roundFrom_35 rfl (lv_at hl 0 rfl) ?_
    refine lv_iconst (v := 1) hx hb dX4_roundFrom_36 (by decide) ?_
    refine lv_iadd hx hb dX4_roundFrom_37 ?_
    obtain rfl := Option.some.inj h
    exact rt_i E hQ (.null) hS dX4_roundFrom_38
set_option maxHeartbeats 4000000 in
set_option maxRecDepth 100000 in
theorem c_X4_tellsRing {l : Launch} {D : va_G} {cy : Nat → ClassId} (q0 : Nat) (q1 : Nat) (q2 : Nat) (q3 : Nat) (q4 : Nat) (q5 : Nat) (u0_0 : Value) (u0_1 : Value) (u0_3 : Value) (u2_0 : Value) (u2_1 : Value) (u2_2 : Value) (u2_3 : Value) (u2_6 : Value) (u2_7 : Value) (v_far : Nat → Int32) (w1_number : Int32) (w1_wanted : Nat → Int32) (w2_size : Int32) (w2_number : Nat → Int64) (r : Int32 × (Nat → Int32) × Int32 × (Nat → Int64)) (h : X4_tellsRing v_far w1_number w1_wanted w2_size w2_number = some r) : Ct l yX4_tellsRing cX4_tellsRing 7 (some .int) 3 68 D cy [.ref q0, .ref q2, .ref q4] [oX4 q0 u0_0 u0_1 (.ref q1) u0_3, aI cy q1 7 v_far, oX0 q2 u2_0 u2_1 u2_2 u2_3 (.ref q3) (.int w1_number) u2_6 u2_7, aI cy q3 7 w1_wanted, oX2 q4 (.ref q5) (.int w2_size), aJ cy q5 16 w2_number] (fun _ => [oX4 q0 u0_0 u0_1 (.ref q1) u0_3, aI cy q1 7 r.2.1, oX0 q2 u2_0 u2_1 u2_2 u2_3 (.ref q3) (.int w1_number) u2_6 u2_7, aI cy q3 7 w1_wanted, oX2 q4 (.ref q5) (.int r.2.2.1), aJ cy q5 16 r.2.2.2]) (some (.int r.1)) := by
  refine Ct.mk kX4_tellsRing (by decide +kernel) (Nat.le_of_ble_eq_true rfl) ?_
  intro p e s m below meth c A ls args R Q hRf hRl hQ E H locs hS hl
  have hx := E.x
  have hb := E.b
  have hl : lv_has ls 7 [(0, .ref q0), (1, .ref q2), (2, .ref q4)] := hl
  unfold X4_tellsRing at h
  refine lv_bipush (v := 8) hx hb dX4_tellsRing_0 (by decide) ?_
  refine lv_istore_n (lv' := [(3, .int (8 : Int32)), (0, .ref q0), (1, .ref q2), (2, .ref q4)]) hx hb dX4_tellsRing_2 rfl hl (by decide) rfl (fun ls hl => ?_)
  refine lv_iconst (v := -1) hx hb dX4_tellsRing_3 (by decide) ?_
  refine lv_istore (lv' := [(4, .int (-1 : Int32)), (3, .int (8 : Int32)), (0, .ref q0), (1, .ref q2), (2, .ref q4)]) hx hb dX4_tellsRing_4 hl (by decide) rfl (fun ls hl => ?_)
  refine lv_iconst (v := 0) hx hb dX4_tellsRing_6 (by decide) ?_
  refine lv_istore (lv' := [(5, .int (0 : Int32)), (4, .int (-1 : Int32)), (3, .int (8 : Int32)), (0, .ref q0), (1, .ref q2), (2, .ref q4)]) hx hb dX4_tellsRing_7 hl (by decide) rfl (fun ls hl => ?_)
  have hL9 : ∀ (n : Nat) (x9_0 : Int32) (x9_1 : Int32) (x9_2 : Int32) (x9_3 : Nat → Int32) (y9 : Int32 × Int32 × (Nat → Int32)) (H : Heap) (locs : List Loc) (ls : Array Slot), lp (fun x9 => X4_tellsRing_s9 w1_number w1_wanted x9.1 x9.2.1 x9.2.2.1 x9.2.2.2) n (x9_0, x9_1, x9_2, x9_3) = some y9 → Sv D A s.heap [oX4 q0 u0_0 u0_1 (.ref q1) u0_3, aI cy q1 7 x9_3, oX0 q2 u2_0 u2_1 u2_2 u2_3 (.ref q3) (.int w1_number) u2_6 u2_7, aI cy q3 7 w1_wanted, oX2 q4 (.ref q5) (.int w2_size), aJ cy q5 16 w2_number] H locs → lv_has ls 7 [(0, .ref q0), (1, .ref q2), (2, .ref q4), (3, .int x9_0), (4, .int x9_1), (5, .int x9_2)] → ( ∀ (y9_0 : Int32) (y9_1 : Int32) (y9_2 : Nat → Int32), (y9_0, y9_1, y9_2) = y9 → ∀ (H : Heap) (locs : List Loc) (ls : Array Slot), Sv D A s.heap [oX4 q0 u0_0 u0_1 (.ref q1) u0_3, aI cy q1 7 y9_2, oX0 q2 u2_0 u2_1 u2_2 u2_3 (.ref q3) (.int w1_number) u2_6 u2_7, aI cy q3 7 w1_wanted, oX2 q4 (.ref q5) (.int w2_size), aJ cy q5 16 w2_number] H locs → lv_has ls 7 [(0, .ref q0), (1, .ref q2), (2, .ref q4), (3, .int y9_0), (4, .int y9_1)] → W p l e R s m args below meth c H locs 0 0 Q (F0 m 51 ls [])) → W p l e R s m args below meth c H locs 0 0 Q (F0 m 9 ls []) := by
    intro n
    induction n with
    | zero =>
      intro x9_0 x9_1 x9_2 x9_3 y9 H locs ls h
      exact lp_zero h
    | succ n ih9 =>
      intro x9_0 x9_1 x9_2 x9_3 y9 H locs ls h hS hl hk9_0
      obtain ⟨z9, h, hz9a, hz9b⟩ := lp_succ h
      have h : X4_tellsRing_s9 w1_number w1_wanted x9_0 x9_1 x9_2 x9_3 = some z9 := h
      unfold X4_tellsRing_s9 at h
      refine lv_iload hx hb dX4_tellsRing_9 (lv_at hl 5 rfl) ?_
      refine lv_aload_n hx hb dX4_tellsRing_11 rfl (lv_at hl 1 rfl) ?_
      refine r_get E frX4_38 hS 2 rfl rfl dX4_tellsRing_12 ?_
      refine lv_icmp_ge (tgt := 51) hx hb dX4_tellsRing_15 (by decide) (fun c1 => ?_) (fun c1 => ?_)
      · have h := it_pos c1 h
        exact hk9_0 x9_0 x9_1 x9_3 (hz9b _ (Option.some.inj h).symm)  H locs ls hS (lv_sub hl [0, 1, 2, 3, 4] rfl)
      · have h := it_neg c1 h
        refine lv_aload_n hx hb dX4_tellsRing_18 rfl (lv_at hl 0 rfl) ?_
        refine lv_aload_n hx hb dX4_tellsRing_19 rfl (lv_at hl 1 rfl) ?_
        refine lv_iload hx hb dX4_tellsRing_20 (lv_at hl 5 rfl) ?_
        obtain ⟨y22, e2, h⟩ := bd_some h
        refine ct_V (ws' := fun _ => [oX4 q0 u0_0 u0_1 (.ref q1) u0_3, aI cy q1 7 y22.2, oX0 q2 u2_0 u2_1 u2_2 u2_3 (.ref q3) (.int w1_number) u2_6 u2_7, aI cy q3 7 w1_wanted, oX2 q4 (.ref q5) (.int w2_size), aJ cy q5 16 w2_number]) (st' := [.int y22.1]) (rest := []) E hS vlX4_69 (c_X4_roundFrom (l := l) (D := D) (cy := cy) (q0 := q0) (q1 := q1) (q2 := q2) (q3 := q3) (u0_0 := u0_0) (u0_1 := u0_1) (u0_3 := u0_3) (u2_0 := u2_0) (u2_1 := u2_1) (u2_2 := u2_2) (u2_3 := u2_3) (u2_6 := u2_6) (u2_7 := u2_7) (v_far := x9_3) (w1_number := w1_number) (w1_wanted := w1_wanted) (p2 := x9_2) (r := y22) e2) [0, 1, 2, 3] rfl rfl (fun _ => rfl) (fun _ => rfl) rfl rfl rfl rfl (Nat.le_of_ble_eq_true rfl) hl.1 (by rw [hRf]; exact Nat.le_of_ble_eq_true rfl) (by rw [hRl]; exact Nat.le_of_ble_eq_true rfl) ⟨Nat.zero_le _, Nat.zero_le _⟩ dX4_tellsRing_22 rfl (fun H locs _ hS => ?_)
        refine lv_istore (lv' := [(6, .int y22.1), (0, .ref q0), (1, .ref q2), (2, .ref q4), (3, .int x9_0), (4, .int x9_1), (5, .int x9_2)]) hx hb dX4_tellsRing_25 hl (by decide) rfl (fun ls hl => ?_)
        refine lv_iload hx hb dX4_tellsRing_27 (lv_at hl 0 rfl) ?_
        have hJ45 : ∀ (s45_l3 : Int32) (s45_l4 : Int32) (ls : Array Slot), s45_l3 = (if y22.1 ≤ 0 then x9_0 else (if x9_0 ≤ y22.1 then x9_0 else y22.1)) → s45_l4 = (if y22.1 ≤ 0 then x9_1 else (if x9_0 ≤ y22.1 then x9_1 else x9_2)) → lv_has ls 7 [(0, .ref q0), (1, .ref q2), (2, .ref q4), (3, .int s45_l3), (4, .int s45_l4), (5, .int x9_2)] → W p l e R s m args below meth c H locs 0 0 Q (F0 m 45 ls []) := by
          intro s45_l3 s45_l4 ls es45_l3 es45_l4 hl
          subst es45_l3
          subst es45_l4
          refine lv_iinc (v := (x9_2 + (1 : Int32))) (lv' := [(5, .int (x9_2 + (1 : Int32))), (0, .ref q0), (1, .ref q2), (2, .ref q4), (3, .int (if y22.1 ≤ 0 then x9_0 else (if x9_0 ≤ y22.1 then x9_0 else y22.1))), (4, .int (if y22.1 ≤ 0 then x9_1 else (if x9_0 ≤ y22.1 then x9_1 else x9_2)))]) hx hb dX4_tellsRing_45 hl (k := 5) rfl rfl (by decide) rfl (fun ls hl => ?_)
          refine lv_goto (tgt := 9) hx hb dX4_tellsRing_48 (by decide) ?_
          exact ih9 (if y22.1 ≤ 0 then x9_0 else (if x9_0 ≤ y22.1 then x9_0 else y22.1)) (if y22.1 ≤ 0 then x9_1 else (if x9_0 ≤ y22.1 then x9_1 else x9_2)) (x9_2 + (1 : Int32)) y22.2 y9  H locs ls (hz9a _ (Option.some.inj h).symm) hS (lv_sub hl [1, 2, 3, 4, 5, 0] rfl) hk9_0
        refine lv_if_le (tgt := 45) hx hb dX4_tellsRing_29 (by decide) (fun c3 => ?_) (fun c3 => ?_)
        · exact hJ45 _ _ ls ((if_pos c3)).symm ((if_pos c3)).symm (lv_sub hl [1, 2, 3, 4, 5, 6] rfl)
        · refine lv_iload hx hb dX4_tellsRing_32 (lv_at hl 0 rfl) ?_
          refine lv_iload_n hx hb dX4_tellsRing_34 rfl (lv_at hl 4 rfl) ?_
          refine lv_icmp_ge (tgt := 45) hx hb dX4_tellsRing_35 (by decide) (fun c4 => ?_) (fun c4 => ?_)
          · exact hJ45 _ _ ls (((if_neg c3).trans (if_pos c4))).symm (((if_neg c3).trans (if_pos c4))).symm (lv_sub hl [1, 2, 3, 4, 5, 6] rfl)
          · refine lv_iload hx hb dX4_tellsRing_38 (lv_at hl 0 rfl) ?_
            refine lv_istore_n (lv' := [(3, .int y22.1), (6, .int y22.1), (0, .ref q0), (1, .ref q2), (2, .ref q4), (4, .int x9_1), (5, .int x9_2)]) hx hb dX4_tellsRing_40 rfl hl (by decide) rfl (fun ls hl => ?_)
            refine lv_iload hx hb dX4_tellsRing_41 (lv_at hl 6 rfl) ?_
            refine lv_istore (lv' := [(4, .int x9_2), (3, .int y22.1), (6, .int y22.1), (0, .ref q0), (1, .ref q2), (2, .ref q4), (5, .int x9_2)]) hx hb dX4_tellsRing_43 hl (by decide) rfl (fun ls hl => ?_)
            exact hJ45 _ _ ls (((if_neg c3).trans (if_neg c4))).symm (((if_neg c3).trans (if_neg c4))).symm (lv_sub hl [3, 4, 5, 1, 0, 6] rfl)
  obtain ⟨y9, e9, h⟩ := bd_some h
  refine hL9 1000 (8 : Int32) (-1 : Int32) (0 : Int32) v_far y9  H locs ls e9 hS (lv_sub hl [3, 4, 5, 2, 1, 0] rfl) (fun y9_0 y9_1 y9_2 ey9 H locs ls hS hl => ?_)
  subst ey9
  have h := un_r h
  have h := un_r h
  refine lv_iload hx hb dX4_tellsRing_51 (lv_at hl 4 rfl) ?_
  refine lv_if_ge (tgt := 59) hx hb dX4_tellsRing_53 (by decide) (fun c5 => ?_) (fun c5 => ?_)
  · have h := it_pos c5 h
    refine lv_aload_n hx hb dX4_tellsRing_59 rfl (lv_at hl 0 rfl) ?_
    refine lv_aload_n hx hb dX4_tellsRing_60 rfl (lv_at hl 1 rfl) ?_
    refine lv_iload hx hb dX4_tellsRing_61 (lv_at hl 4 rfl) ?_
    obtain ⟨y63, e6, h⟩ := bd_some h
    refine ct_V (ws' := fun _ => [oX4 q0 u0_0 u0_1 (.ref q1) u0_3, aI cy q1 7 y63.2, oX0 q2 u2_0 u2_1 u2_2 u2_3 (.ref q3) (.int w1_number) u2_6 u2_7, aI cy q3 7 w1_wanted, oX2 q4 (.ref q5) (.int w2_size), aJ cy q5 16 w2_number]) (st' := [.int y63.1]) (rest := []) E hS vlX4_69 (c_X4_roundFrom (l := l) (D := D) (cy := cy) (q0 := q0) (q1 := q1) (q2 := q2) (q3 := q3) (u0_0 := u0_0) (u0_1 := u0_1) (u0_3 := u0_3) (u2_0 := u2_0) (u2_1 := u2_1) (u2_2 := u2_2) (u2_3 := u2_3) (u2_6 := u2_6) (u2_7 := u2_7) (v_far := y9_2) (w1_number := w1_number) (w1_wanted := w1_wanted) (p2 := y9_1) (r := y63) e6) [0, 1, 2, 3] rfl rfl (fun _ => rfl) (fun _ => rfl) rfl rfl rfl rfl (Nat.le_of_ble_eq_true rfl) hl.1 (by rw [hRf]; exact Nat.le_of_ble_eq_true rfl) (by rw [hRl]; exact Nat.le_of_ble_eq_true rfl) ⟨Nat.zero_le _, Nat.zero_le _⟩ dX4_tellsRing_63 rfl (fun H locs _ hS => ?_)
    refine lv_pop hx hb dX4_tellsRing_66 rfl ?_
    refine lv_aload_n hx hb dX4_tellsRing_67 rfl (lv_at hl 2 rfl) ?_
    refine lv_iload hx hb dX4_tellsRing_68 (lv_at hl 4 rfl) ?_
    refine lv_i2l (v := (y9_1.toInt64)) hx hb dX4_tellsRing_70 rfl ?_
    obtain ⟨y71, e7, h⟩ := bd_some h
    refine ct_V (ws' := fun _ => [oX4 q0 u0_0 u0_1 (.ref q1) u0_3, aI cy q1 7 y63.2, oX0 q2 u2_0 u2_1 u2_2 u2_3 (.ref q3) (.int w1_number) u2_6 u2_7, aI cy q3 7 w1_wanted, oX2 q4 (.ref q5) (.int y71.1), aJ cy q5 16 y71.2]) (st' := []) (rest := []) E hS vlX4_62 (c_X2_tellsOne (l := l) (D := D) (cy := cy) (q0 := q4) (q1 := q5) (v_size := w2_size) (v_number := w2_number) (p1 := (y9_1.toInt64)) (r := y71) e7) [4, 5] rfl rfl (fun _ => rfl) (fun _ => rfl) rfl rfl rfl rfl (Nat.le_of_ble_eq_true rfl) hl.1 (by rw [hRf]; exact Nat.le_of_ble_eq_true rfl) (by rw [hRl]; exact Nat.le_of_ble_eq_true rfl) ⟨Nat.zero_le _, Nat.zero_le _⟩ dX4_tellsRing_71 rfl (fun H locs _ hS => ?_)
    refine lv_iload hx hb dX4_tellsRing_74 (lv_at hl 4 rfl) ?_
    refine lv_istore (lv' := [(5, .int y9_1), (0, .ref q0), (1, .ref q2), (2, .ref q4), (3, .int y9_0), (4, .int y9_1)]) hx hb dX4_tellsRing_76 hl (by decide) rfl (fun ls hl => ?_)
    refine lv_iload_n hx hb dX4_tellsRing_78 rfl (lv_at hl 4 rfl) ?_
    refine lv_iconst (v := 1) hx hb dX4_tellsRing_79 (by decide) ?_
    refine lv_isub hx hb dX4_tellsRing_80 ?_
    refine lv_istore (lv' := [(6, .int (y9_0 - (1 : Int32))), (5, .int y9_1), (0, .ref q0), (1, .ref q2), (2, .ref q4), (3, .int y9_0), (4, .int y9_1)]) hx hb dX4_tellsRing_81 hl (by decide) rfl (fun ls hl => ?_)
    have hL83 : ∀ (n : Nat) (x83_0 : Int32) (x83_1 : Int32) (x83_2 : Int32) (x83_3 : Nat → Int64) (y83 : Int32 × (Nat → Int64)) (H : Heap) (locs : List Loc) (ls : Array Slot), lp (fun x83 => X4_tellsRing_s83 w1_number w1_wanted y63 x83.1 x83.2.1 x83.2.2.1 x83.2.2.2) n (x83_0, x83_1, x83_2, x83_3) = some y83 → Sv D A s.heap [oX4 q0 u0_0 u0_1 (.ref q1) u0_3, aI cy q1 7 y63.2, oX0 q2 u2_0 u2_1 u2_2 u2_3 (.ref q3) (.int w1_number) u2_6 u2_7, aI cy q3 7 w1_wanted, oX2 q4 (.ref q5) (.int x83_2), aJ cy q5 16 x83_3] H locs → lv_has ls 7 [(0, .ref q0), (1, .ref q2), (2, .ref q4), (3, .int y9_0), (5, .int x83_0), (6, .int x83_1)] → ( ∀ (y83_0 : Int32) (y83_1 : Nat → Int64), (y83_0, y83_1) = y83 → ∀ (H : Heap) (locs : List Loc) (ls : Array Slot), Sv D A s.heap [oX4 q0 u0_0 u0_1 (.ref q1) u0_3, aI cy q1 7 y63.2, oX0 q2 u2_0 u2_1 u2_2 u2_3 (.ref q3) (.int w1_number) u2_6 u2_7, aI cy q3 7 w1_wanted, oX2 q4 (.ref q5) (.int y83_0), aJ cy q5 16 y83_1] H locs → lv_has ls 7 [(3, .int y9_0)] → W p l e R s m args below meth c H locs 0 0 Q (F0 m 112 ls [])) → W p l e R s m args below meth c H locs 0 0 Q (F0 m 83 ls []) := by
      intro n
      induction n with
      | zero =>
        intro x83_0 x83_1 x83_2 x83_3 y83 H locs ls h
        exact lp_zero h
      | succ n ih83 =>
        intro x83_0 x83_1 x83_2 x83_3 y83 H locs ls h hS hl hk83_0
        obtain ⟨z83, h, hz83a, hz83b⟩ := lp_succ h
        have h : X4_tellsRing_s83 w1_number w1_wanted y63 x83_0 x83_1 x83_2 x83_3 = some z83 := h
        unfold X4_tellsRing_s83 at h
        refine lv_iload hx hb dX4_tellsRing_83 (lv_at hl 5 rfl) ?_
        refine lv_if_le (tgt := 112) hx hb dX4_tellsRing_85 (by decide) (fun c8 => ?_) (fun c8 => ?_)
        · have h := it_pos c8 h
          exact hk83_0 x83_2 x83_3 (hz83b _ (Option.some.inj h).symm)  H locs ls hS (lv_sub hl [3] rfl)
        · have h := it_neg c8 h
          refine lv_aload_n hx hb dX4_tellsRing_88 rfl (lv_at hl 0 rfl) ?_
          refine lv_aload_n hx hb dX4_tellsRing_89 rfl (lv_at hl 1 rfl) ?_
          refine lv_iload hx hb dX4_tellsRing_90 (lv_at hl 4 rfl) ?_
          refine lv_iload hx hb dX4_tellsRing_92 (lv_at hl 5 rfl) ?_
          obtain ⟨y94, e9, h⟩ := bd_some h
          refine ct_V (ws' := fun _ => [oX4 q0 u0_0 u0_1 (.ref q1) u0_3, aI cy q1 7 y63.2, oX0 q2 u2_0 u2_1 u2_2 u2_3 (.ref q3) (.int w1_number) u2_6 u2_7, aI cy q3 7 w1_wanted, oX2 q4 (.ref q5) (.int x83_2), aJ cy q5 16 x83_3]) (st' := [.int y94]) (rest := []) E hS vlX4_65 (c_X4_nearer (l := l) (D := D) (cy := cy) (q0 := q0) (q1 := q1) (q2 := q2) (q3 := q3) (u0_0 := u0_0) (u0_1 := u0_1) (u0_3 := u0_3) (u2_0 := u2_0) (u2_1 := u2_1) (u2_2 := u2_2) (u2_3 := u2_3) (u2_6 := u2_6) (u2_7 := u2_7) (v_far := y63.2) (w1_number := w1_number) (w1_wanted := w1_wanted) (p2 := x83_0) (p3 := x83_1) (r := y94) e9) [0, 1, 2, 3] rfl rfl (fun _ => rfl) (fun _ => rfl) rfl rfl rfl rfl (Nat.le_of_ble_eq_true rfl) hl.1 (by rw [hRf]; exact Nat.le_of_ble_eq_true rfl) (by rw [hRl]; exact Nat.le_of_ble_eq_true rfl) ⟨Nat.zero_le _, Nat.zero_le _⟩ dX4_tellsRing_94 rfl (fun H locs _ hS => ?_)
          refine lv_istore (lv' := [(5, .int y94), (0, .ref q0), (1, .ref q2), (2, .ref q4), (3, .int y9_0), (6, .int x83_1)]) hx hb dX4_tellsRing_97 hl (by decide) rfl (fun ls hl => ?_)
          refine lv_aload_n hx hb dX4_tellsRing_99 rfl (lv_at hl 3 rfl) ?_
          refine lv_iload hx hb dX4_tellsRing_100 (lv_at hl 0 rfl) ?_
          refine lv_i2l (v := (y94.toInt64)) hx hb dX4_tellsRing_102 rfl ?_
          obtain ⟨y103, e10, h⟩ := bd_some h
          refine ct_V (ws' := fun _ => [oX4 q0 u0_0 u0_1 (.ref q1) u0_3, aI cy q1 7 y63.2, oX0 q2 u2_0 u2_1 u2_2 u2_3 (.ref q3) (.int w1_number) u2_6 u2_7, aI cy q3 7 w1_wanted, oX2 q4 (.ref q5) (.int y103.1), aJ cy q5 16 y103.2]) (st' := []) (rest := []) E hS vlX4_34 (c_X2_adds (l := l) (D := D) (cy := cy) (q0 := q4) (q1 := q5) (v_size := x83_2) (v_number := x83_3) (p1 := (y94.toInt64)) (r := y103) e10) [4, 5] rfl rfl (fun _ => rfl) (fun _ => rfl) rfl rfl rfl rfl (Nat.le_of_ble_eq_true rfl) hl.1 (by rw [hRf]; exact Nat.le_of_ble_eq_true rfl) (by rw [hRl]; exact Nat.le_of_ble_eq_true rfl) ⟨Nat.zero_le _, Nat.zero_le _⟩ dX4_tellsRing_103 rfl (fun H locs _ hS => ?_)
          refine lv_iinc (v := (x83_1 + (-1 : Int32))) (lv' := [(6, .int (x83_1 + (-1 : Int32))), (5, .int y94), (0, .ref q0), (1, .ref q2), (2, .ref q4), (3, .int y9_0)]) hx hb dX4_tellsRing_106 hl (k := 5) rfl rfl (by decide) rfl (fun ls hl => ?_)
          refine lv_goto (tgt := 83) hx hb dX4_tellsRing_109 (by decide) ?_
          exact ih83 y94 (x83_1 + (-1 : Int32)) y103.1 y103.2 y83  H locs ls (hz83a _ (Option.some.inj h).symm) hS (lv_sub hl [2, 3, 4, 5, 1, 0] rfl) hk83_0
    obtain ⟨y83, e83, h⟩ := bd_some h
    refine hL83 1000 y9_1 (y9_0 - (1 : Int32)) y71.1 y71.2 y83  H locs ls e83 hS (lv_sub hl [2, 3, 4, 5, 1, 0] rfl) (fun y83_0 y83_1 ey83 H locs ls hS hl => ?_)
    subst ey83
    have h := un_r h
    refine lv_iload_n hx hb dX4_tellsRing_112 rfl (lv_at hl 0 rfl) ?_
    obtain rfl := Option.some.inj h
    exact rt_i E hQ (.null) hS dX4_tellsRing_113
  · have h := it_neg c5 h
    refine lv_bipush (v := -2) hx hb dX4_tellsRing_56 (by decide) ?_
    obtain rfl := Option.some.inj h
    exact rt_i E hQ (.null) hS dX4_tellsRing_58

