set_option maxHeartbeats 4000000 in
set_option maxRecDepth 100000 in
theorem c_X6_begins {l : Launch} {g : Gt} {D : va_G} {cy : Nat → ClassId} (q0 : Nat) (q1 : Nat) (q2 : Nat) (q3 : Nat) (u2_1 : Value) (u2_2 : Value) (v_waits : Int32) (v_depth : Int32) (v_compared : Int32) (v_digits : Int32) (v_hasThing : Int32) (v_waiting : Nat → Int32) (w2_size : Int32) (w2_code : Nat → Int32) (p1 : Int32) (r : Int32 × Int32 × Int32 × Int32 × Int32 × Int32 × (Nat → Int32) × Int32 × (Nat → Int32)) (h : X6_begins v_waits v_depth v_compared v_digits v_hasThing v_waiting w2_size w2_code p1 = some r) : Cg l yX6_begins cX6_begins 4 (some .boolean) 4 91 D cy g [.ref q0, .int p1, .ref q2] [oX6 q0 (.ref q1) (.int v_waits) (.int v_depth) (.int v_compared) (.int v_digits) (.int v_hasThing), aI cy q1 40 v_waiting, oX5 q2 (.ref q3) u2_1 u2_2 (.int w2_size), aI cy q3 40 w2_code] (fun _ => [oX6 q0 (.ref q1) (.int r.2.1) (.int r.2.2.1) (.int r.2.2.2.1) (.int r.2.2.2.2.1) (.int r.2.2.2.2.2.1), aI cy q1 40 r.2.2.2.2.2.2.1, oX5 q2 (.ref q3) u2_1 u2_2 (.int r.2.2.2.2.2.2.2.1), aI cy q3 40 r.2.2.2.2.2.2.2.2]) (some (.int r.1)) := by
  refine Cg.mk kX6_begins (by decide +kernel) (Nat.le_of_ble_eq_true rfl) ?_
  intro p e s m below meth c A ls args R Q hRf hRl hQ hG E H locs hS hl
  have hx := E.x
  have hb := E.b
  have hl : lv_has ls 4 [(0, .ref q0), (1, .int p1), (2, .ref q2)] := hl
  unfold X6_begins at h
  refine va_ldcS hx hb E.ow hG.2.2.2.2.2 dX6_begins_0 ?_
  refine lv_iload_n hx hb dX6_begins_2 rfl (lv_at hl 1 rfl) ?_
  obtain ⟨y3, e1, h⟩ := bd_some h
  refine ct_VG (ws' := fun _ => [oX6 q0 (.ref q1) (.int v_waits) (.int v_depth) (.int v_compared) (.int v_digits) (.int v_hasThing), aI cy q1 40 v_waiting, oX5 q2 (.ref q3) u2_1 u2_2 (.int w2_size), aI cy q3 40 w2_code]) (st' := [.int y3]) (rest := []) E hG hS vlX6_50 (c_J0_indexOf_0f7a4 1 (by decide) p1 y3 e1) [] rfl rfl (fun _ => rfl) (fun _ => rfl) (vk_recv hG.2.2.2.1 (i := 1) (by decide) hS.2.2) rfl rfl (Nat.le_of_ble_eq_true rfl) hl.1 (by rw [hRf]; exact Nat.le_of_ble_eq_true rfl) (by rw [hRl]; exact Nat.le_of_ble_eq_true rfl) ⟨Nat.zero_le _, Nat.zero_le _⟩ dX6_begins_3 rfl (fun H locs _ hS => ?_)
  refine lv_istore_n (lv' := [(3, .int y3), (0, .ref q0), (1, .int p1), (2, .ref q2)]) hx hb dX6_begins_6 rfl hl (by decide) rfl (fun ls hl => ?_)
  refine lv_iload_n hx hb dX6_begins_7 rfl (lv_at hl 2 rfl) ?_
  refine lv_bipush (v := 48) hx hb dX6_begins_8 (by decide) ?_
  have hJ40 : ∀ (H : Heap) (locs : List Loc) (ls : Array Slot), X6_begins_k40 v_waits v_depth v_compared v_digits v_hasThing v_waiting w2_size w2_code p1 y3 = some r → Sv D A s.heap [oX6 q0 (.ref q1) (.int v_waits) (.int v_depth) (.int v_compared) (.int v_digits) (.int v_hasThing), aI cy q1 40 v_waiting, oX5 q2 (.ref q3) u2_1 u2_2 (.int w2_size), aI cy q3 40 w2_code] H locs → lv_has ls 4 [(0, .ref q0), (1, .int p1), (2, .ref q2), (3, .int y3)] → W p l e R s m args below meth c H locs 0 0 Q (F0 m 40 ls []) := by
    intro H locs ls h hS hl
    unfold X6_begins_k40 at h
    refine lv_iload_n hx hb dX6_begins_40 rfl (lv_at hl 3 rfl) ?_
    refine lv_if_lt (tgt := 66) hx hb dX6_begins_41 (by decide) (fun c2 => ?_) (fun c2 => ?_)
    · have h := it_pos c2 h
      refine lv_iload_n hx hb dX6_begins_66 rfl (lv_at hl 1 rfl) ?_
      refine lv_bipush (v := 45) hx hb dX6_begins_67 (by decide) ?_
      refine lv_icmp_ne (tgt := 82) hx hb dX6_begins_69 (by decide) (fun c3 => ?_) (fun c3 => ?_)
      · have h := it_neg c3 h
        refine lv_iload_n hx hb dX6_begins_82 rfl (lv_at hl 1 rfl) ?_
        refine lv_bipush (v := 40) hx hb dX6_begins_83 (by decide) ?_
        refine lv_icmp_ne (tgt := 131) hx hb dX6_begins_85 (by decide) (fun c4 => ?_) (fun c4 => ?_)
        · have h := it_neg c4 h
          refine lv_iconst (v := 0) hx hb dX6_begins_131 (by decide) ?_
          obtain rfl := Option.some.inj h
          exact rt_n E rfl hQ (.null) hS dX6_begins_132
        · have h := it_pos c4 h
          refine lv_aload_n hx hb dX6_begins_88 rfl (lv_at hl 0 rfl) ?_
          refine r_get E frX6_19 hS 0 rfl rfl dX6_begins_89 ?_
          refine lv_iconst (v := 4) hx hb dX6_begins_92 (by decide) ?_
          refine lv_icmp_ge (tgt := 131) hx hb dX6_begins_93 (by decide) (fun c5 => ?_) (fun c5 => ?_)
          · have h := it_pos c5 h
            refine lv_iconst (v := 0) hx hb dX6_begins_131 (by decide) ?_
            obtain rfl := Option.some.inj h
            exact rt_n E rfl hQ (.null) hS dX6_begins_132
          · have h := it_neg c5 h
            refine lv_aload_n hx hb dX6_begins_96 rfl (lv_at hl 0 rfl) ?_
            refine lv_dup hx hb dX6_begins_97 rfl ?_
            refine r_get E frX6_19 hS 0 rfl rfl dX6_begins_98 ?_
            refine lv_iconst (v := 1) hx hb dX6_begins_101 (by decide) ?_
            refine lv_iadd hx hb dX6_begins_102 ?_
            refine r_put (ws' := [oX6 q0 (.ref q1) (.int v_waits) (.int (v_depth + (1 : Int32))) (.int v_compared) (.int v_digits) (.int v_hasThing), aI cy q1 40 v_waiting, oX5 q2 (.ref q3) u2_1 u2_2 (.int w2_size), aI cy q3 40 w2_code]) E frX6_19 hS 0 rfl (Nat.le_of_ble_eq_true rfl) rfl rfl rfl rfl dX6_begins_103 (fun H locs hS => ?_)
            refine lv_aload_n hx hb dX6_begins_106 rfl (lv_at hl 0 rfl) ?_
            refine lv_dup hx hb dX6_begins_107 rfl ?_
            refine r_get E frX6_22 hS 0 rfl rfl dX6_begins_108 ?_
            refine lv_iconst (v := 1) hx hb dX6_begins_111 (by decide) ?_
            refine lv_aload_n hx hb dX6_begins_112 rfl (lv_at hl 0 rfl) ?_
            refine r_get E frX6_19 hS 0 rfl rfl dX6_begins_113 ?_
            refine lv_ishl hx hb dX6_begins_116 ?_
            refine lv_iconst (v := -1) hx hb dX6_begins_117 (by decide) ?_
            refine lv_ixor hx hb dX6_begins_118 ?_
            refine lv_iand hx hb dX6_begins_119 ?_
            refine r_put (ws' := [oX6 q0 (.ref q1) (.int v_waits) (.int (v_depth + (1 : Int32))) (.int (v_compared &&& (((1 : Int32) <<< ((v_depth + (1 : Int32)) &&& 31)) ^^^ (-1 : Int32)))) (.int v_digits) (.int v_hasThing), aI cy q1 40 v_waiting, oX5 q2 (.ref q3) u2_1 u2_2 (.int w2_size), aI cy q3 40 w2_code]) E frX6_22 hS 0 rfl (Nat.le_of_ble_eq_true rfl) rfl rfl rfl rfl dX6_begins_120 (fun H locs hS => ?_)
            refine lv_aload_n hx hb dX6_begins_123 rfl (lv_at hl 0 rfl) ?_
            refine lv_iconst (v := 0) hx hb dX6_begins_124 (by decide) ?_
            obtain ⟨y125, e6, h⟩ := bd_some h
            refine ct_V (ws' := fun _ => [oX6 q0 (.ref q1) (.int y125.1) (.int (v_depth + (1 : Int32))) (.int (v_compared &&& (((1 : Int32) <<< ((v_depth + (1 : Int32)) &&& 31)) ^^^ (-1 : Int32)))) (.int v_digits) (.int v_hasThing), aI cy q1 40 y125.2, oX5 q2 (.ref q3) u2_1 u2_2 (.int w2_size), aI cy q3 40 w2_code]) (st' := []) (rest := []) E hS vlX6_60 (c_X6_waitsFor (l := l) (D := D) (cy := cy) (q0 := q0) (q1 := q1) (u0_2 := .int (v_depth + (1 : Int32))) (u0_3 := .int (v_compared &&& (((1 : Int32) <<< ((v_depth + (1 : Int32)) &&& 31)) ^^^ (-1 : Int32)))) (u0_4 := .int v_digits) (u0_5 := .int v_hasThing) (v_waits := v_waits) (v_waiting := v_waiting) (p1 := (0 : Int32)) (r := y125) e6) [0, 1] rfl rfl (fun _ => rfl) (fun _ => rfl) rfl rfl rfl rfl (Nat.le_of_ble_eq_true rfl) hl.1 (by rw [hRf]; exact Nat.le_of_ble_eq_true rfl) (by rw [hRl]; exact Nat.le_of_ble_eq_true rfl) ⟨Nat.zero_le _, Nat.zero_le _⟩ dX6_begins_125 rfl (fun H locs _ hS => ?_)
            refine lv_goto (tgt := 133) hx hb dX6_begins_128 (by decide) ?_
            refine lv_iconst (v := 1) hx hb dX6_begins_133 (by decide) ?_
            obtain rfl := Option.some.inj h
            exact rt_n E rfl hQ (.null) hS dX6_begins_134
      · have h := it_pos c3 h
        refine lv_aload_n hx hb dX6_begins_72 rfl (lv_at hl 0 rfl) ?_
        refine lv_sipush (v := 2007) hx hb dX6_begins_73 (by decide) ?_
        obtain ⟨y76, e7, h⟩ := bd_some h
        refine ct_V (ws' := fun _ => [oX6 q0 (.ref q1) (.int y76.1) (.int v_depth) (.int v_compared) (.int v_digits) (.int v_hasThing), aI cy q1 40 y76.2, oX5 q2 (.ref q3) u2_1 u2_2 (.int w2_size), aI cy q3 40 w2_code]) (st' := []) (rest := []) E hS vlX6_60 (c_X6_waitsFor (l := l) (D := D) (cy := cy) (q0 := q0) (q1 := q1) (u0_2 := .int v_depth) (u0_3 := .int v_compared) (u0_4 := .int v_digits) (u0_5 := .int v_hasThing) (v_waits := v_waits) (v_waiting := v_waiting) (p1 := (2007 : Int32)) (r := y76) e7) [0, 1] rfl rfl (fun _ => rfl) (fun _ => rfl) rfl rfl rfl rfl (Nat.le_of_ble_eq_true rfl) hl.1 (by rw [hRf]; exact Nat.le_of_ble_eq_true rfl) (by rw [hRl]; exact Nat.le_of_ble_eq_true rfl) ⟨Nat.zero_le _, Nat.zero_le _⟩ dX6_begins_76 rfl (fun H locs _ hS => ?_)
        refine lv_goto (tgt := 133) hx hb dX6_begins_79 (by decide) ?_
        refine lv_iconst (v := 1) hx hb dX6_begins_133 (by decide) ?_
        obtain rfl := Option.some.inj h
        exact rt_n E rfl hQ (.null) hS dX6_begins_134
    · have h := it_neg c2 h
      refine lv_aload_n hx hb dX6_begins_44 rfl (lv_at hl 2 rfl) ?_
      refine lv_sipush (v := 1000) hx hb dX6_begins_45 (by decide) ?_
      refine lv_iload_n hx hb dX6_begins_48 rfl (lv_at hl 3 rfl) ?_
      refine lv_iadd hx hb dX6_begins_49 ?_
      obtain ⟨y50, e8, h⟩ := bd_some h
      refine ct_V (ws' := fun _ => [oX6 q0 (.ref q1) (.int v_waits) (.int v_depth) (.int v_compared) (.int v_digits) (.int v_hasThing), aI cy q1 40 v_waiting, oX5 q2 (.ref q3) u2_1 u2_2 (.int y50.1), aI cy q3 40 y50.2]) (st' := []) (rest := []) E hS vlX6_56 (c_X5_adds (l := l) (D := D) (cy := cy) (q0 := q2) (q1 := q3) (u0_1 := u2_1) (u0_2 := u2_2) (v_size := w2_size) (v_code := w2_code) (p1 := ((1000 : Int32) + y3)) (r := y50) e8) [2, 3] rfl rfl (fun _ => rfl) (fun _ => rfl) rfl rfl rfl rfl (Nat.le_of_ble_eq_true rfl) hl.1 (by rw [hRf]; exact Nat.le_of_ble_eq_true rfl) (by rw [hRl]; exact Nat.le_of_ble_eq_true rfl) ⟨Nat.zero_le _, Nat.zero_le _⟩ dX6_begins_50 rfl (fun H locs _ hS => ?_)
      refine lv_aload_n hx hb dX6_begins_53 rfl (lv_at hl 0 rfl) ?_
      refine lv_iconst (v := 0) hx hb dX6_begins_54 (by decide) ?_
      refine r_put (ws' := [oX6 q0 (.ref q1) (.int v_waits) (.int v_depth) (.int v_compared) (.int (0 : Int32)) (.int v_hasThing), aI cy q1 40 v_waiting, oX5 q2 (.ref q3) u2_1 u2_2 (.int y50.1), aI cy q3 40 y50.2]) E frX6_25 hS 0 rfl (Nat.le_of_ble_eq_true rfl) rfl rfl rfl rfl dX6_begins_55 (fun H locs hS => ?_)
      refine lv_aload_n hx hb dX6_begins_58 rfl (lv_at hl 0 rfl) ?_
      refine lv_iconst (v := 1) hx hb dX6_begins_59 (by decide) ?_
      refine r_put (ws' := [oX6 q0 (.ref q1) (.int v_waits) (.int v_depth) (.int v_compared) (.int (0 : Int32)) (.int (1 : Int32)), aI cy q1 40 v_waiting, oX5 q2 (.ref q3) u2_1 u2_2 (.int y50.1), aI cy q3 40 y50.2]) E frX6_28 hS 0 rfl (Nat.le_of_ble_eq_true rfl) rfl rfl rfl rfl dX6_begins_60 (fun H locs hS => ?_)
      refine lv_goto (tgt := 133) hx hb dX6_begins_63 (by decide) ?_
      refine lv_iconst (v := 1) hx hb dX6_begins_133 (by decide) ?_
      obtain rfl := Option.some.inj h
      exact rt_n E rfl hQ (.null) hS dX6_begins_134
  refine lv_icmp_lt (tgt := 40) hx hb dX6_begins_10 (by decide) (fun c9 => ?_) (fun c9 => ?_)
  · have h := it_pos c9 h
    exact hJ40   H locs ls h hS (lv_sub hl [1, 2, 3, 0] rfl)
  · have h := it_neg c9 h
    refine lv_iload_n hx hb dX6_begins_13 rfl (lv_at hl 2 rfl) ?_
    refine lv_bipush (v := 57) hx hb dX6_begins_14 (by decide) ?_
    refine lv_icmp_gt (tgt := 40) hx hb dX6_begins_16 (by decide) (fun c10 => ?_) (fun c10 => ?_)
    · have h := it_pos c10 h
      exact hJ40   H locs ls h hS (lv_sub hl [1, 2, 3, 0] rfl)
    · have h := it_neg c10 h
      refine lv_aload_n hx hb dX6_begins_19 rfl (lv_at hl 3 rfl) ?_
      refine lv_iload_n hx hb dX6_begins_20 rfl (lv_at hl 2 rfl) ?_
      refine lv_bipush (v := 48) hx hb dX6_begins_21 (by decide) ?_
      refine lv_isub hx hb dX6_begins_23 ?_
      obtain ⟨y24, e11, h⟩ := bd_some h
      refine ct_V (ws' := fun _ => [oX6 q0 (.ref q1) (.int v_waits) (.int v_depth) (.int v_compared) (.int v_digits) (.int v_hasThing), aI cy q1 40 v_waiting, oX5 q2 (.ref q3) u2_1 u2_2 (.int y24.1), aI cy q3 40 y24.2]) (st' := []) (rest := []) E hS vlX6_56 (c_X5_adds (l := l) (D := D) (cy := cy) (q0 := q2) (q1 := q3) (u0_1 := u2_1) (u0_2 := u2_2) (v_size := w2_size) (v_code := w2_code) (p1 := (p1 - (48 : Int32))) (r := y24) e11) [2, 3] rfl rfl (fun _ => rfl) (fun _ => rfl) rfl rfl rfl rfl (Nat.le_of_ble_eq_true rfl) hl.1 (by rw [hRf]; exact Nat.le_of_ble_eq_true rfl) (by rw [hRl]; exact Nat.le_of_ble_eq_true rfl) ⟨Nat.zero_le _, Nat.zero_le _⟩ dX6_begins_24 rfl (fun H locs _ hS => ?_)
      refine lv_aload_n hx hb dX6_begins_27 rfl (lv_at hl 1 rfl) ?_
      refine lv_iconst (v := 1) hx hb dX6_begins_28 (by decide) ?_
      refine r_put (ws' := [oX6 q0 (.ref q1) (.int v_waits) (.int v_depth) (.int v_compared) (.int (1 : Int32)) (.int v_hasThing), aI cy q1 40 v_waiting, oX5 q2 (.ref q3) u2_1 u2_2 (.int y24.1), aI cy q3 40 y24.2]) E frX6_25 hS 0 rfl (Nat.le_of_ble_eq_true rfl) rfl rfl rfl rfl dX6_begins_29 (fun H locs hS => ?_)
      refine lv_aload_n hx hb dX6_begins_32 rfl (lv_at hl 1 rfl) ?_
      refine lv_iconst (v := 1) hx hb dX6_begins_33 (by decide) ?_
      refine r_put (ws' := [oX6 q0 (.ref q1) (.int v_waits) (.int v_depth) (.int v_compared) (.int (1 : Int32)) (.int (1 : Int32)), aI cy q1 40 v_waiting, oX5 q2 (.ref q3) u2_1 u2_2 (.int y24.1), aI cy q3 40 y24.2]) E frX6_28 hS 0 rfl (Nat.le_of_ble_eq_true rfl) rfl rfl rfl rfl dX6_begins_34 (fun H locs hS => ?_)
      refine lv_goto (tgt := 133) hx hb dX6_begins_37 (by decide) ?_
      refine lv_iconst (v := 1) hx hb dX6_begins_133 (by decide) ?_
      obtain rfl := Option.some.inj h
      exact rt_n E rfl hQ (.null) hS dX6_begins_134
set_option maxHeartbeats 4000000 in
set_option maxRecDepth 100000 in
theorem c_X6_goesBehind {l : Launch} {g : Gt} {D : va_G} {cy : Nat → ClassId} (q0 : Nat) (q1 : Nat) (q2 : Nat) (q3 : Nat) (u2_1 : Value) (u2_2 : Value) (v_waits : Int32) (v_depth : Int32) (v_compared : Int32) (v_digits : Int32) (v_hasThing : Int32) (v_waiting : Nat → Int32) (w2_size : Int32) (w2_code : Nat → Int32) (p1 : Int32) (r : Int32 × Int32 × Int32 × Int32 × Int32 × Int32 × (Nat → Int32) × Int32 × (Nat → Int32)) (h : X6_goesBehind v_waits v_depth v_compared v_digits v_hasThing v_waiting w2_size w2_code p1 = some r) : Cg l yX6_goesBehind cX6_goesBehind 5 (some .boolean) 4 91 D cy g [.ref q0, .int p1, .ref q2] [oX6 q0 (.ref q1) (.int v_waits) (.int v_depth) (.int v_compared) (.int v_digits) (.int v_hasThing), aI cy q1 40 v_waiting, oX5 q2 (.ref q3) u2_1 u2_2 (.int w2_size), aI cy q3 40 w2_code] (fun _ => [oX6 q0 (.ref q1) (.int r.2.1) (.int r.2.2.1) (.int r.2.2.2.1) (.int r.2.2.2.2.1) (.int r.2.2.2.2.2.1), aI cy q1 40 r.2.2.2.2.2.2.1, oX5 q2 (.ref q3) u2_1 u2_2 (.int r.2.2.2.2.2.2.2.1), aI cy q3 40 r.2.2.2.2.2.2.2.2]) (some (.int r.1)) := by
  refine Cg.mk kX6_goesBehind (by decide +kernel) (Nat.le_of_ble_eq_true rfl) ?_
  intro p e s m below meth c A ls args R Q hRf hRl hQ hG E H locs hS hl
  have hx := E.x
  have hb := E.b
  have hl : lv_has ls 5 [(0, .ref q0), (1, .int p1), (2, .ref q2)] := hl
  unfold X6_goesBehind at h
  refine lv_iload_n hx hb dX6_goesBehind_0 rfl (lv_at hl 1 rfl) ?_
  refine lv_bipush (v := 48) hx hb dX6_goesBehind_1 (by decide) ?_
  have hJ22 : ∀ (H : Heap) (locs : List Loc) (ls : Array Slot), X6_goesBehind_k22 v_waits v_depth v_compared v_hasThing v_waiting w2_size w2_code p1 = some r → Sv D A s.heap [oX6 q0 (.ref q1) (.int v_waits) (.int v_depth) (.int v_compared) (.int v_digits) (.int v_hasThing), aI cy q1 40 v_waiting, oX5 q2 (.ref q3) u2_1 u2_2 (.int w2_size), aI cy q3 40 w2_code] H locs → lv_has ls 5 [(0, .ref q0), (1, .int p1), (2, .ref q2)] → W p l e R s m args below meth c H locs 0 0 Q (F0 m 22 ls []) := by
    intro H locs ls h hS hl
    unfold X6_goesBehind_k22 at h
    refine lv_aload_n hx hb dX6_goesBehind_22 rfl (lv_at hl 0 rfl) ?_
    refine lv_iconst (v := 0) hx hb dX6_goesBehind_23 (by decide) ?_
    refine r_put (ws' := [oX6 q0 (.ref q1) (.int v_waits) (.int v_depth) (.int v_compared) (.int (0 : Int32)) (.int v_hasThing), aI cy q1 40 v_waiting, oX5 q2 (.ref q3) u2_1 u2_2 (.int w2_size), aI cy q3 40 w2_code]) E frX6_25 hS 0 rfl (Nat.le_of_ble_eq_true rfl) rfl rfl rfl rfl dX6_goesBehind_24 (fun H locs hS => ?_)
    refine lv_iload_n hx hb dX6_goesBehind_27 rfl (lv_at hl 1 rfl) ?_
    refine lv_bipush (v := 41) hx hb dX6_goesBehind_28 (by decide) ?_
    refine lv_icmp_ne (tgt := 39) hx hb dX6_goesBehind_30 (by decide) (fun c1 => ?_) (fun c1 => ?_)
    · have h := it_neg c1 h
      refine va_ldcS hx hb E.ow hG.2.2.2.2.1 dX6_goesBehind_39 ?_
      refine lv_iload_n hx hb dX6_goesBehind_41 rfl (lv_at hl 1 rfl) ?_
      obtain ⟨y42, e2, h⟩ := bd_some h
      refine ct_VG (ws' := fun _ => [oX6 q0 (.ref q1) (.int v_waits) (.int v_depth) (.int v_compared) (.int (0 : Int32)) (.int v_hasThing), aI cy q1 40 v_waiting, oX5 q2 (.ref q3) u2_1 u2_2 (.int w2_size), aI cy q3 40 w2_code]) (st' := [.int y42]) (rest := []) E hG hS vlX6_50 (c_J0_indexOf_0f7a4 0 (by decide) p1 y42 e2) [] rfl rfl (fun _ => rfl) (fun _ => rfl) (vk_recv hG.2.2.2.1 (i := 0) (by decide) hS.2.2) rfl rfl (Nat.le_of_ble_eq_true rfl) hl.1 (by rw [hRf]; exact Nat.le_of_ble_eq_true rfl) (by rw [hRl]; exact Nat.le_of_ble_eq_true rfl) ⟨Nat.zero_le _, Nat.zero_le _⟩ dX6_goesBehind_42 rfl (fun H locs _ hS => ?_)
      refine lv_istore_n (lv' := [(3, .int y42), (0, .ref q0), (1, .int p1), (2, .ref q2)]) hx hb dX6_goesBehind_45 rfl hl (by decide) rfl (fun ls hl => ?_)
      refine lv_iload_n hx hb dX6_goesBehind_46 rfl (lv_at hl 0 rfl) ?_
      refine lv_if_ge (tgt := 52) hx hb dX6_goesBehind_47 (by decide) (fun c3 => ?_) (fun c3 => ?_)
      · have h := it_pos c3 h
        refine lv_sipush (v := 2000) hx hb dX6_goesBehind_52 (by decide) ?_
        refine lv_iload_n hx hb dX6_goesBehind_55 rfl (lv_at hl 0 rfl) ?_
        refine lv_iadd hx hb dX6_goesBehind_56 ?_
        refine ct_S (ws' := fun _ => [oX6 q0 (.ref q1) (.int v_waits) (.int v_depth) (.int v_compared) (.int (0 : Int32)) (.int v_hasThing), aI cy q1 40 v_waiting, oX5 q2 (.ref q3) u2_1 u2_2 (.int w2_size), aI cy q3 40 w2_code]) (st' := [.int (X6_bindingOf ((2000 : Int32) + y42))]) (rest := []) E hS slX6_73 (c_X6_bindingOf (l := l) (D := D) (cy := cy) (p0 := ((2000 : Int32) + y42)) (r := (X6_bindingOf ((2000 : Int32) + y42))) rfl) [] rfl rfl (fun _ => rfl) (fun _ => rfl) rfl rfl (Nat.le_of_ble_eq_true rfl) hl.1 (by rw [hRf]; exact Nat.le_of_ble_eq_true rfl) (by rw [hRl]; exact Nat.le_of_ble_eq_true rfl) ⟨Nat.zero_le _, Nat.zero_le _⟩ dX6_goesBehind_57 rfl (fun H locs _ hS => ?_)
        refine lv_istore (lv' := [(4, .int (X6_bindingOf ((2000 : Int32) + y42))), (3, .int y42), (0, .ref q0), (1, .int p1), (2, .ref q2)]) hx hb dX6_goesBehind_60 hl (by decide) rfl (fun ls hl => ?_)
        refine lv_iload hx hb dX6_goesBehind_62 (lv_at hl 0 rfl) ?_
        refine lv_iconst (v := 1) hx hb dX6_goesBehind_64 (by decide) ?_
        have hJ84 : ∀ (H : Heap) (locs : List Loc) (ls : Array Slot), X6_goesBehind_k84 v_waits v_depth v_compared v_waiting w2_size w2_code y42 = some r → Sv D A s.heap [oX6 q0 (.ref q1) (.int v_waits) (.int v_depth) (.int v_compared) (.int (0 : Int32)) (.int v_hasThing), aI cy q1 40 v_waiting, oX5 q2 (.ref q3) u2_1 u2_2 (.int w2_size), aI cy q3 40 w2_code] H locs → lv_has ls 5 [(0, .ref q0), (2, .ref q2), (3, .int y42), (4, .int (X6_bindingOf ((2000 : Int32) + y42)))] → W p l e R s m args below meth c H locs 0 0 Q (F0 m 84 ls []) := by
          intro H locs ls h hS hl
          unfold X6_goesBehind_k84 at h
          refine lv_aload_n hx hb dX6_goesBehind_84 rfl (lv_at hl 0 rfl) ?_
          refine lv_dup hx hb dX6_goesBehind_85 rfl ?_
          refine r_get E frX6_22 hS 0 rfl rfl dX6_goesBehind_86 ?_
          refine lv_iload hx hb dX6_goesBehind_89 (lv_at hl 3 rfl) ?_
          refine lv_iconst (v := 1) hx hb dX6_goesBehind_91 (by decide) ?_
          have hJ105 : ∀ (s105_2 : Int32) (ls : Array Slot), s105_2 = (if (X6_bindingOf ((2000 : Int32) + y42)) = (1 : Int32) then ((1 : Int32) <<< (v_depth &&& 31)) else (0 : Int32)) → lv_has ls 5 [(0, .ref q0), (2, .ref q2), (3, .int y42), (4, .int (X6_bindingOf ((2000 : Int32) + y42)))] → W p l e R s m args below meth c H locs 0 0 Q (F0 m 105 ls [.int s105_2, .int v_compared, .ref q0]) := by
            intro s105_2 ls es105_2 hl
            subst es105_2
            refine lv_ior hx hb dX6_goesBehind_105 ?_
            refine r_put (ws' := [oX6 q0 (.ref q1) (.int v_waits) (.int v_depth) (.int (v_compared ||| (if (X6_bindingOf ((2000 : Int32) + y42)) = (1 : Int32) then ((1 : Int32) <<< (v_depth &&& 31)) else (0 : Int32)))) (.int (0 : Int32)) (.int v_hasThing), aI cy q1 40 v_waiting, oX5 q2 (.ref q3) u2_1 u2_2 (.int w2_size), aI cy q3 40 w2_code]) E frX6_22 hS 0 rfl (Nat.le_of_ble_eq_true rfl) rfl rfl rfl rfl dX6_goesBehind_106 (fun H locs hS => ?_)
            refine lv_aload_n hx hb dX6_goesBehind_109 rfl (lv_at hl 0 rfl) ?_
            refine lv_iload hx hb dX6_goesBehind_110 (lv_at hl 3 rfl) ?_
            refine lv_aload_n hx hb dX6_goesBehind_112 rfl (lv_at hl 1 rfl) ?_
            obtain ⟨y113, e4, h⟩ := bd_some h
            refine ct_V (ws' := fun _ => [oX6 q0 (.ref q1) (.int y113.1) (.int v_depth) (.int (v_compared ||| (if (X6_bindingOf ((2000 : Int32) + y42)) = (1 : Int32) then ((1 : Int32) <<< (v_depth &&& 31)) else (0 : Int32)))) (.int (0 : Int32)) (.int v_hasThing), aI cy q1 40 v_waiting, oX5 q2 (.ref q3) u2_1 u2_2 (.int y113.2.1), aI cy q3 40 y113.2.2]) (st' := []) (rest := []) E hS vlX6_44 (c_X6_settles (l := l) (D := D) (cy := cy) (q0 := q0) (q1 := q1) (q2 := q2) (q3 := q3) (u0_2 := .int v_depth) (u0_3 := .int (v_compared ||| (if (X6_bindingOf ((2000 : Int32) + y42)) = (1 : Int32) then ((1 : Int32) <<< (v_depth &&& 31)) else (0 : Int32)))) (u0_4 := .int (0 : Int32)) (u0_5 := .int v_hasThing) (u2_1 := u2_1) (u2_2 := u2_2) (v_waits := v_waits) (v_waiting := v_waiting) (w2_size := w2_size) (w2_code := w2_code) (p1 := (X6_bindingOf ((2000 : Int32) + y42))) (r := y113) e4) [0, 1, 2, 3] rfl rfl (fun _ => rfl) (fun _ => rfl) rfl rfl rfl rfl (Nat.le_of_ble_eq_true rfl) hl.1 (by rw [hRf]; exact Nat.le_of_ble_eq_true rfl) (by rw [hRl]; exact Nat.le_of_ble_eq_true rfl) ⟨Nat.zero_le _, Nat.zero_le _⟩ dX6_goesBehind_113 rfl (fun H locs _ hS => ?_)
            refine lv_aload_n hx hb dX6_goesBehind_116 rfl (lv_at hl 0 rfl) ?_
            refine lv_sipush (v := 2000) hx hb dX6_goesBehind_117 (by decide) ?_
            refine lv_iload_n hx hb dX6_goesBehind_120 rfl (lv_at hl 2 rfl) ?_
            refine lv_iadd hx hb dX6_goesBehind_121 ?_
            obtain ⟨y122, e5, h⟩ := bd_some h
            refine ct_V (ws' := fun _ => [oX6 q0 (.ref q1) (.int y122.1) (.int v_depth) (.int (v_compared ||| (if (X6_bindingOf ((2000 : Int32) + y42)) = (1 : Int32) then ((1 : Int32) <<< (v_depth &&& 31)) else (0 : Int32)))) (.int (0 : Int32)) (.int v_hasThing), aI cy q1 40 y122.2, oX5 q2 (.ref q3) u2_1 u2_2 (.int y113.2.1), aI cy q3 40 y113.2.2]) (st' := []) (rest := []) E hS vlX6_60 (c_X6_waitsFor (l := l) (D := D) (cy := cy) (q0 := q0) (q1 := q1) (u0_2 := .int v_depth) (u0_3 := .int (v_compared ||| (if (X6_bindingOf ((2000 : Int32) + y42)) = (1 : Int32) then ((1 : Int32) <<< (v_depth &&& 31)) else (0 : Int32)))) (u0_4 := .int (0 : Int32)) (u0_5 := .int v_hasThing) (v_waits := y113.1) (v_waiting := v_waiting) (p1 := ((2000 : Int32) + y42)) (r := y122) e5) [0, 1] rfl rfl (fun _ => rfl) (fun _ => rfl) rfl rfl rfl rfl (Nat.le_of_ble_eq_true rfl) hl.1 (by rw [hRf]; exact Nat.le_of_ble_eq_true rfl) (by rw [hRl]; exact Nat.le_of_ble_eq_true rfl) ⟨Nat.zero_le _, Nat.zero_le _⟩ dX6_goesBehind_122 rfl (fun H locs _ hS => ?_)
            refine lv_aload_n hx hb dX6_goesBehind_125 rfl (lv_at hl 0 rfl) ?_
            refine lv_iconst (v := 0) hx hb dX6_goesBehind_126 (by decide) ?_
            refine r_put (ws' := [oX6 q0 (.ref q1) (.int y122.1) (.int v_depth) (.int (v_compared ||| (if (X6_bindingOf ((2000 : Int32) + y42)) = (1 : Int32) then ((1 : Int32) <<< (v_depth &&& 31)) else (0 : Int32)))) (.int (0 : Int32)) (.int (0 : Int32)), aI cy q1 40 y122.2, oX5 q2 (.ref q3) u2_1 u2_2 (.int y113.2.1), aI cy q3 40 y113.2.2]) E frX6_28 hS 0 rfl (Nat.le_of_ble_eq_true rfl) rfl rfl rfl rfl dX6_goesBehind_127 (fun H locs hS => ?_)
            refine lv_iconst (v := 1) hx hb dX6_goesBehind_130 (by decide) ?_
            obtain rfl := Option.some.inj h
            exact rt_n E rfl hQ (.null) hS dX6_goesBehind_131
          refine lv_icmp_ne (tgt := 104) hx hb dX6_goesBehind_92 (by decide) (fun c6 => ?_) (fun c6 => ?_)
          · refine lv_iconst (v := 0) hx hb dX6_goesBehind_104 (by decide) ?_
            exact hJ105 _ ls ((if_neg c6)).symm (lv_sub hl [0, 1, 2, 3] rfl)
          · refine lv_iconst (v := 1) hx hb dX6_goesBehind_95 (by decide) ?_
            refine lv_aload_n hx hb dX6_goesBehind_96 rfl (lv_at hl 0 rfl) ?_
            refine r_get E frX6_19 hS 0 rfl rfl dX6_goesBehind_97 ?_
            refine lv_ishl hx hb dX6_goesBehind_100 ?_
            refine lv_goto (tgt := 105) hx hb dX6_goesBehind_101 (by decide) ?_
            exact hJ105 _ ls ((if_pos c6)).symm (lv_sub hl [0, 1, 2, 3] rfl)
        refine lv_icmp_ne (tgt := 84) hx hb dX6_goesBehind_65 (by decide) (fun c7 => ?_) (fun c7 => ?_)
        · have h := it_neg c7 h
          exact hJ84   H locs ls h hS (lv_sub hl [2, 4, 1, 0] rfl)
        · have h := it_pos c7 h
          refine lv_aload_n hx hb dX6_goesBehind_68 rfl (lv_at hl 2 rfl) ?_
          refine r_get E frX6_22 hS 0 rfl rfl dX6_goesBehind_69 ?_
          refine lv_aload_n hx hb dX6_goesBehind_72 rfl (lv_at hl 2 rfl) ?_
          refine r_get E frX6_19 hS 0 rfl rfl dX6_goesBehind_73 ?_
          refine lv_ishr hx hb dX6_goesBehind_76 ?_
          refine lv_iconst (v := 1) hx hb dX6_goesBehind_77 (by decide) ?_
          refine lv_iand hx hb dX6_goesBehind_78 ?_
          refine lv_if_eq (tgt := 84) hx hb dX6_goesBehind_79 (by decide) (fun c8 => ?_) (fun c8 => ?_)
          · have h := it_pos c8 h
            exact hJ84   H locs ls h hS (lv_sub hl [2, 4, 1, 0] rfl)
          · have h := it_neg c8 h
            refine lv_iconst (v := 0) hx hb dX6_goesBehind_82 (by decide) ?_
            obtain rfl := Option.some.inj h
            exact rt_n E rfl hQ (.null) hS dX6_goesBehind_83
      · have h := it_neg c3 h
        refine lv_iconst (v := 0) hx hb dX6_goesBehind_50 (by decide) ?_
        obtain rfl := Option.some.inj h
        exact rt_n E rfl hQ (.null) hS dX6_goesBehind_51
    · have h := it_pos c1 h
      refine lv_aload_n hx hb dX6_goesBehind_33 rfl (lv_at hl 0 rfl) ?_
      refine lv_aload_n hx hb dX6_goesBehind_34 rfl (lv_at hl 2 rfl) ?_
      obtain ⟨y35, e9, h⟩ := bd_some h
      refine ct_V (ws' := fun _ => [oX6 q0 (.ref q1) (.int y35.2.1) (.int y35.2.2.1) (.int v_compared) (.int (0 : Int32)) (.int v_hasThing), aI cy q1 40 v_waiting, oX5 q2 (.ref q3) u2_1 u2_2 (.int y35.2.2.2.1), aI cy q3 40 y35.2.2.2.2]) (st' := [.int y35.1]) (rest := []) E hS vlX6_67 (c_X6_closes (l := l) (D := D) (cy := cy) (q0 := q0) (q1 := q1) (q2 := q2) (q3 := q3) (u0_3 := .int v_compared) (u0_4 := .int (0 : Int32)) (u0_5 := .int v_hasThing) (u2_1 := u2_1) (u2_2 := u2_2) (v_waits := v_waits) (v_depth := v_depth) (v_waiting := v_waiting) (w1_size := w2_size) (w1_code := w2_code) (r := y35) e9) [0, 1, 2, 3] rfl rfl (fun _ => rfl) (fun _ => rfl) rfl rfl rfl rfl (Nat.le_of_ble_eq_true rfl) hl.1 (by rw [hRf]; exact Nat.le_of_ble_eq_true rfl) (by rw [hRl]; exact Nat.le_of_ble_eq_true rfl) ⟨Nat.zero_le _, Nat.zero_le _⟩ dX6_goesBehind_35 rfl (fun H locs _ hS => ?_)
      obtain ⟨g10, h⟩ := gn_some h
      obtain rfl := Option.some.inj h
      exact rt_n E (gn_nar g10) hQ (.null) hS dX6_goesBehind_38
  refine lv_icmp_lt (tgt := 22) hx hb dX6_goesBehind_3 (by decide) (fun c11 => ?_) (fun c11 => ?_)
  · have h := it_pos c11 h
    exact hJ22   H locs ls h hS (lv_sub hl [0, 1, 2] rfl)
  · have h := it_neg c11 h
    refine lv_iload_n hx hb dX6_goesBehind_6 rfl (lv_at hl 1 rfl) ?_
    refine lv_bipush (v := 57) hx hb dX6_goesBehind_7 (by decide) ?_
    refine lv_icmp_gt (tgt := 22) hx hb dX6_goesBehind_9 (by decide) (fun c12 => ?_) (fun c12 => ?_)
    · have h := it_pos c12 h
      exact hJ22   H locs ls h hS (lv_sub hl [0, 1, 2] rfl)
    · have h := it_neg c12 h
      refine lv_aload_n hx hb dX6_goesBehind_12 rfl (lv_at hl 0 rfl) ?_
      refine lv_iload_n hx hb dX6_goesBehind_13 rfl (lv_at hl 1 rfl) ?_
      refine lv_bipush (v := 48) hx hb dX6_goesBehind_14 (by decide) ?_
      refine lv_isub hx hb dX6_goesBehind_16 ?_
      refine lv_aload_n hx hb dX6_goesBehind_17 rfl (lv_at hl 2 rfl) ?_
      obtain ⟨y18, e13, h⟩ := bd_some h
      refine ct_V (ws' := fun _ => [oX6 q0 (.ref q1) (.int v_waits) (.int v_depth) (.int v_compared) (.int y18.2.1) (.int v_hasThing), aI cy q1 40 v_waiting, oX5 q2 (.ref q3) u2_1 u2_2 (.int w2_size), aI cy q3 40 y18.2.2]) (st' := [.int y18.1]) (rest := []) E hS vlX6_63 (c_X6_goesOnNumber (l := l) (D := D) (cy := cy) (q0 := q0) (q1 := q2) (q2 := q3) (u0_0 := .ref q1) (u0_1 := .int v_waits) (u0_2 := .int v_depth) (u0_3 := .int v_compared) (u0_5 := .int v_hasThing) (u1_1 := u2_1) (u1_2 := u2_2) (v_digits := v_digits) (w2_size := w2_size) (w2_code := w2_code) (p1 := (p1 - (48 : Int32))) (r := y18) e13) [0, 2, 3] rfl rfl (fun _ => rfl) (fun _ => rfl) rfl rfl rfl rfl (Nat.le_of_ble_eq_true rfl) hl.1 (by rw [hRf]; exact Nat.le_of_ble_eq_true rfl) (by rw [hRl]; exact Nat.le_of_ble_eq_true rfl) ⟨Nat.zero_le _, Nat.zero_le _⟩ dX6_goesBehind_18 rfl (fun H locs _ hS => ?_)
      obtain ⟨g14, h⟩ := gn_some h
      obtain rfl := Option.some.inj h
      exact rt_n E (gn_nar g14) hQ (.null) hS dX6_goesBehind_21
set_option maxHeartbeats 4000000 in
set_option maxRecDepth 100000 in
theorem c_X6_faultIn {l : Launch} {g : Gt} {D : va_G} {cy : Nat → ClassId} (q0 : Nat) (q1 : Nat) (q2 : Nat) (q3 : Nat) (q4 : Nat) (u3_1 : Value) (u3_2 : Value) (v_waits : Int32) (v_depth : Int32) (v_compared : Int32) (v_digits : Int32) (v_hasThing : Int32) (v_waiting : Nat → Int32) (nw1_ : Nat) (w1_ : Nat → Int32) (w3_size : Int32) (w3_code : Nat → Int32) (p2 : Int32) (r : Int32 × Int32 × Int32 × Int32 × Int32 × Int32 × (Nat → Int32) × Int32 × (Nat → Int32)) (h : X6_faultIn v_waiting nw1_ w1_ w3_code p2 = some r) : Cg l yX6_faultIn cX6_faultIn 6 (some .int) 5 115 D cy g [.ref q0, .ref q2, .int p2, .ref q3] [oX6 q0 (.ref q1) (.int v_waits) (.int v_depth) (.int v_compared) (.int v_digits) (.int v_hasThing), aI cy q1 40 v_waiting, aC cy q2 nw1_ w1_, oX5 q3 (.ref q4) u3_1 u3_2 (.int w3_size), aI cy q4 40 w3_code] (fun _ => [oX6 q0 (.ref q1) (.int r.2.1) (.int r.2.2.1) (.int r.2.2.2.1) (.int r.2.2.2.2.1) (.int r.2.2.2.2.2.1), aI cy q1 40 r.2.2.2.2.2.2.1, aC cy q2 nw1_ w1_, oX5 q3 (.ref q4) u3_1 u3_2 (.int r.2.2.2.2.2.2.2.1), aI cy q4 40 r.2.2.2.2.2.2.2.2]) (some (.int r.1)) := by
  refine Cg.mk kX6_faultIn (by decide +kernel) (Nat.le_of_ble_eq_true rfl) ?_
  intro p e s m below meth c A ls args R Q hRf hRl hQ hG E H locs hS hl
  have hx := E.x
  have hb := E.b
  have hl : lv_has ls 6 [(0, .ref q0), (1, .ref q2), (2, .int p2), (3, .ref q3)] := hl
  unfold X6_faultIn at h
  refine lv_aload_n hx hb dX6_faultIn_0 rfl (lv_at hl 0 rfl) ?_
  refine lv_iconst (v := 0) hx hb dX6_faultIn_1 (by decide) ?_
  refine r_put (ws' := [oX6 q0 (.ref q1) (.int (0 : Int32)) (.int v_depth) (.int v_compared) (.int v_digits) (.int v_hasThing), aI cy q1 40 v_waiting, aC cy q2 nw1_ w1_, oX5 q3 (.ref q4) u3_1 u3_2 (.int w3_size), aI cy q4 40 w3_code]) E frX6_15 hS 0 rfl (Nat.le_of_ble_eq_true rfl) rfl rfl rfl rfl dX6_faultIn_2 (fun H locs hS => ?_)
  refine lv_aload_n hx hb dX6_faultIn_5 rfl (lv_at hl 0 rfl) ?_
  refine lv_iconst (v := 0) hx hb dX6_faultIn_6 (by decide) ?_
  refine r_put (ws' := [oX6 q0 (.ref q1) (.int (0 : Int32)) (.int (0 : Int32)) (.int v_compared) (.int v_digits) (.int v_hasThing), aI cy q1 40 v_waiting, aC cy q2 nw1_ w1_, oX5 q3 (.ref q4) u3_1 u3_2 (.int w3_size), aI cy q4 40 w3_code]) E frX6_19 hS 0 rfl (Nat.le_of_ble_eq_true rfl) rfl rfl rfl rfl dX6_faultIn_7 (fun H locs hS => ?_)
  refine lv_aload_n hx hb dX6_faultIn_10 rfl (lv_at hl 0 rfl) ?_
  refine lv_iconst (v := 0) hx hb dX6_faultIn_11 (by decide) ?_
  refine r_put (ws' := [oX6 q0 (.ref q1) (.int (0 : Int32)) (.int (0 : Int32)) (.int (0 : Int32)) (.int v_digits) (.int v_hasThing), aI cy q1 40 v_waiting, aC cy q2 nw1_ w1_, oX5 q3 (.ref q4) u3_1 u3_2 (.int w3_size), aI cy q4 40 w3_code]) E frX6_22 hS 0 rfl (Nat.le_of_ble_eq_true rfl) rfl rfl rfl rfl dX6_faultIn_12 (fun H locs hS => ?_)
  refine lv_aload_n hx hb dX6_faultIn_15 rfl (lv_at hl 0 rfl) ?_
  refine lv_iconst (v := 0) hx hb dX6_faultIn_16 (by decide) ?_
  refine r_put (ws' := [oX6 q0 (.ref q1) (.int (0 : Int32)) (.int (0 : Int32)) (.int (0 : Int32)) (.int (0 : Int32)) (.int v_hasThing), aI cy q1 40 v_waiting, aC cy q2 nw1_ w1_, oX5 q3 (.ref q4) u3_1 u3_2 (.int w3_size), aI cy q4 40 w3_code]) E frX6_25 hS 0 rfl (Nat.le_of_ble_eq_true rfl) rfl rfl rfl rfl dX6_faultIn_17 (fun H locs hS => ?_)
  refine lv_aload_n hx hb dX6_faultIn_20 rfl (lv_at hl 0 rfl) ?_
  refine lv_iconst (v := 0) hx hb dX6_faultIn_21 (by decide) ?_
  refine r_put (ws' := [oX6 q0 (.ref q1) (.int (0 : Int32)) (.int (0 : Int32)) (.int (0 : Int32)) (.int (0 : Int32)) (.int (0 : Int32)), aI cy q1 40 v_waiting, aC cy q2 nw1_ w1_, oX5 q3 (.ref q4) u3_1 u3_2 (.int w3_size), aI cy q4 40 w3_code]) E frX6_28 hS 0 rfl (Nat.le_of_ble_eq_true rfl) rfl rfl rfl rfl dX6_faultIn_22 (fun H locs hS => ?_)
  refine lv_aload_n hx hb dX6_faultIn_25 rfl (lv_at hl 3 rfl) ?_
  refine ct_V (ws' := fun _ => [oX6 q0 (.ref q1) (.int (0 : Int32)) (.int (0 : Int32)) (.int (0 : Int32)) (.int (0 : Int32)) (.int (0 : Int32)), aI cy q1 40 v_waiting, aC cy q2 nw1_ w1_, oX5 q3 (.ref q4) u3_1 u3_2 (.int X5_clears), aI cy q4 40 w3_code]) (st' := []) (rest := []) E hS vlX6_32 (c_X5_clears (l := l) (D := D) (cy := cy) (q0 := q3) (u0_0 := .ref q4) (u0_1 := u3_1) (u0_2 := u3_2) (v_size := w3_size) (r := X5_clears) rfl) [3] rfl rfl (fun _ => rfl) (fun _ => rfl) rfl rfl rfl rfl (Nat.le_of_ble_eq_true rfl) hl.1 (by rw [hRf]; exact Nat.le_of_ble_eq_true rfl) (by rw [hRl]; exact Nat.le_of_ble_eq_true rfl) ⟨Nat.zero_le _, Nat.zero_le _⟩ dX6_faultIn_26 rfl (fun H locs _ hS => ?_)
  refine lv_iconst (v := 0) hx hb dX6_faultIn_29 (by decide) ?_
  refine lv_istore (lv' := [(4, .int (0 : Int32)), (0, .ref q0), (1, .ref q2), (2, .int p2), (3, .ref q3)]) hx hb dX6_faultIn_30 hl (by decide) rfl (fun ls hl => ?_)
  have hL32 : ∀ (n : Nat) (x32_0 : Int32) (x32_1 : Int32) (x32_2 : Int32) (x32_3 : Int32) (x32_4 : Int32) (x32_5 : Int32) (x32_6 : Nat → Int32) (x32_7 : Int32) (x32_8 : Nat → Int32) (y32 : (Int32 × Int32 × Int32 × Int32 × Int32 × (Nat → Int32) × Int32 × (Nat → Int32)) ⊕ (Int32 × Int32 × Int32 × Int32 × Int32 × Int32 × (Nat → Int32) × Int32 × (Nat → Int32))) (H : Heap) (locs : List Loc) (ls : Array Slot), lp (fun x32 => X6_faultIn_s32 nw1_ w1_ p2 x32.1 x32.2.1 x32.2.2.1 x32.2.2.2.1 x32.2.2.2.2.1 x32.2.2.2.2.2.1 x32.2.2.2.2.2.2.1 x32.2.2.2.2.2.2.2.1 x32.2.2.2.2.2.2.2.2) n (x32_0, x32_1, x32_2, x32_3, x32_4, x32_5, x32_6, x32_7, x32_8) = some y32 → Sv D A s.heap [oX6 q0 (.ref q1) (.int x32_1) (.int x32_2) (.int x32_3) (.int x32_4) (.int x32_5), aI cy q1 40 x32_6, aC cy q2 nw1_ w1_, oX5 q3 (.ref q4) u3_1 u3_2 (.int x32_7), aI cy q4 40 x32_8] H locs → lv_has ls 6 [(0, .ref q0), (1, .ref q2), (2, .int p2), (3, .ref q3), (4, .int x32_0)] → ( ∀ (ye32_0_0 : Int32) (ye32_0_1 : Int32) (ye32_0_2 : Int32) (ye32_0_3 : Int32) (ye32_0_4 : Int32) (ye32_0_5 : Nat → Int32) (ye32_0_6 : Int32) (ye32_0_7 : Nat → Int32), .inl (ye32_0_0, ye32_0_1, ye32_0_2, ye32_0_3, ye32_0_4, ye32_0_5, ye32_0_6, ye32_0_7) = y32 → ∀ (H : Heap) (locs : List Loc) (ls : Array Slot), Sv D A s.heap [oX6 q0 (.ref q1) (.int ye32_0_0) (.int ye32_0_1) (.int ye32_0_2) (.int ye32_0_3) (.int ye32_0_4), aI cy q1 40 ye32_0_5, aC cy q2 nw1_ w1_, oX5 q3 (.ref q4) u3_1 u3_2 (.int ye32_0_6), aI cy q4 40 ye32_0_7] H locs → lv_has ls 6 [(0, .ref q0), (2, .int p2), (3, .ref q3)] → W p l e R s m args below meth c H locs 0 0 Q (F0 m 96 ls [])) → ( ∀ (ye32_1_0 : Int32) (ye32_1_1 : Int32) (ye32_1_2 : Int32) (ye32_1_3 : Int32) (ye32_1_4 : Int32) (ye32_1_5 : Int32) (ye32_1_6 : Nat → Int32) (ye32_1_7 : Int32) (ye32_1_8 : Nat → Int32), .inr (ye32_1_0, ye32_1_1, ye32_1_2, ye32_1_3, ye32_1_4, ye32_1_5, ye32_1_6, ye32_1_7, ye32_1_8) = y32 → ∀ (H : Heap) (locs : List Loc) (ls : Array Slot), Sv D A s.heap [oX6 q0 (.ref q1) (.int ye32_1_1) (.int ye32_1_2) (.int ye32_1_3) (.int ye32_1_4) (.int ye32_1_5), aI cy q1 40 ye32_1_6, aC cy q2 nw1_ w1_, oX5 q3 (.ref q4) u3_1 u3_2 (.int ye32_1_7), aI cy q4 40 ye32_1_8] H locs → lv_has ls 6 [(4, .int ye32_1_0)] → W p l e R s m args below meth c H locs 0 0 Q (F0 m 87 ls [])) → W p l e R s m args below meth c H locs 0 0 Q (F0 m 32 ls []) := by
    intro n
    induction n with
    | zero =>
      intro x32_0 x32_1 x32_2 x32_3 x32_4 x32_5 x32_6 x32_7 x32_8 y32 H locs ls h
      exact lp_zero h
    | succ n ih32 =>
      intro x32_0 x32_1 x32_2 x32_3 x32_4 x32_5 x32_6 x32_7 x32_8 y32 H locs ls h hS hl hk32_0 hk32_1
      obtain ⟨z32, h, hz32a, hz32b⟩ := lp_succ h
      have h : X6_faultIn_s32 nw1_ w1_ p2 x32_0 x32_1 x32_2 x32_3 x32_4 x32_5 x32_6 x32_7 x32_8 = some z32 := h
      unfold X6_faultIn_s32 at h
      refine lv_iload hx hb dX6_faultIn_32 (lv_at hl 4 rfl) ?_
      refine lv_iload_n hx hb dX6_faultIn_34 rfl (lv_at hl 2 rfl) ?_
      refine lv_icmp_ge (tgt := 96) hx hb dX6_faultIn_35 (by decide) (fun c1 => ?_) (fun c1 => ?_)
      · have h := it_pos c1 h
        exact hk32_0 x32_1 x32_2 x32_3 x32_4 x32_5 x32_6 x32_7 x32_8 (hz32b _ (Option.some.inj h).symm)  H locs ls hS (lv_sub hl [0, 2, 3] rfl)
      · have h := it_neg c1 h
        refine lv_iload hx hb dX6_faultIn_38 (lv_at hl 4 rfl) ?_
        refine lv_bipush (v := 40) hx hb dX6_faultIn_40 (by decide) ?_
        refine lv_icmp_ge (tgt := 96) hx hb dX6_faultIn_42 (by decide) (fun c2 => ?_) (fun c2 => ?_)
        · have h := it_pos c2 h
          exact hk32_0 x32_1 x32_2 x32_3 x32_4 x32_5 x32_6 x32_7 x32_8 (hz32b _ (Option.some.inj h).symm)  H locs ls hS (lv_sub hl [0, 2, 3] rfl)
        · have h := it_neg c2 h
          refine lv_iload hx hb dX6_faultIn_45 (lv_at hl 4 rfl) ?_
          refine lv_aload_n hx hb dX6_faultIn_47 rfl (lv_at hl 1 rfl) ?_
          refine r_alen (v := (Int32.ofNat nw1_)) E hS 2 1 rfl rfl rfl dX6_faultIn_48 ?_
          refine lv_icmp_ge (tgt := 96) hx hb dX6_faultIn_49 (by decide) (fun c3 => ?_) (fun c3 => ?_)
          · have h := it_pos c3 h
            exact hk32_0 x32_1 x32_2 x32_3 x32_4 x32_5 x32_6 x32_7 x32_8 (hz32b _ (Option.some.inj h).symm)  H locs ls hS (lv_sub hl [0, 2, 3] rfl)
          · have h := it_neg c3 h
            refine lv_aload_n hx hb dX6_faultIn_52 rfl (lv_at hl 0 rfl) ?_
            refine r_get E frX6_28 hS 0 rfl rfl dX6_faultIn_53 ?_
            have hJ80 : ∀ (j80_t0 : Int32) (j80_v_waits : Int32) (j80_v_depth : Int32) (j80_v_compared : Int32) (j80_v_digits : Int32) (j80_v_hasThing : Int32) (j80_v_waiting : Nat → Int32) (j80_w3_size : Int32) (j80_w3_code : Nat → Int32) (H : Heap) (locs : List Loc) (ls : Array Slot), X6_faultIn_k80 x32_0 j80_t0 j80_v_waits j80_v_depth j80_v_compared j80_v_digits j80_v_hasThing j80_v_waiting j80_w3_size j80_w3_code = some z32 → Sv D A s.heap [oX6 q0 (.ref q1) (.int j80_v_waits) (.int j80_v_depth) (.int j80_v_compared) (.int j80_v_digits) (.int j80_v_hasThing), aI cy q1 40 j80_v_waiting, aC cy q2 nw1_ w1_, oX5 q3 (.ref q4) u3_1 u3_2 (.int j80_w3_size), aI cy q4 40 j80_w3_code] H locs → lv_has ls 6 [(0, .ref q0), (1, .ref q2), (2, .int p2), (3, .ref q3), (4, .int x32_0)] → W p l e R s m args below meth c H locs 0 0 Q (F0 m 80 ls [.int j80_t0]) := by
              intro j80_t0 j80_v_waits j80_v_depth j80_v_compared j80_v_digits j80_v_hasThing j80_v_waiting j80_w3_size j80_w3_code H locs ls h hS hl
              unfold X6_faultIn_k80 at h
              refine lv_istore (lv' := [(5, .int j80_t0), (0, .ref q0), (1, .ref q2), (2, .int p2), (3, .ref q3), (4, .int x32_0)]) hx hb dX6_faultIn_80 hl (by decide) rfl (fun ls hl => ?_)
              refine lv_iload hx hb dX6_faultIn_82 (lv_at hl 0 rfl) ?_
              refine lv_if_ne (tgt := 90) hx hb dX6_faultIn_84 (by decide) (fun c4 => ?_) (fun c4 => ?_)
              · have h := it_neg c4 h
                refine lv_iinc (v := (x32_0 + (1 : Int32))) (lv' := [(4, .int (x32_0 + (1 : Int32))), (5, .int j80_t0), (0, .ref q0), (1, .ref q2), (2, .int p2), (3, .ref q3)]) hx hb dX6_faultIn_90 hl (k := 5) rfl rfl (by decide) rfl (fun ls hl => ?_)
                refine lv_goto (tgt := 32) hx hb dX6_faultIn_93 (by decide) ?_
                exact ih32 (x32_0 + (1 : Int32)) j80_v_waits j80_v_depth j80_v_compared j80_v_digits j80_v_hasThing j80_v_waiting j80_w3_size j80_w3_code y32  H locs ls (hz32a _ (Option.some.inj h).symm) hS (lv_sub hl [2, 3, 4, 5, 0] rfl) hk32_0 hk32_1
              · have h := it_pos c4 h
                exact hk32_1 x32_0 j80_v_waits j80_v_depth j80_v_compared j80_v_digits j80_v_hasThing j80_v_waiting j80_w3_size j80_w3_code (hz32b _ (Option.some.inj h).symm)  H locs ls hS (lv_sub hl [5] rfl)
            refine lv_if_eq (tgt := 71) hx hb dX6_faultIn_56 (by decide) (fun c5 => ?_) (fun c5 => ?_)
            · have h := it_pos c5 h
              refine lv_aload_n hx hb dX6_faultIn_71 rfl (lv_at hl 0 rfl) ?_
              refine lv_aload_n hx hb dX6_faultIn_72 rfl (lv_at hl 1 rfl) ?_
              refine lv_iload hx hb dX6_faultIn_73 (lv_at hl 4 rfl) ?_
              obtain ⟨g6, h⟩ := gi_some h
              refine r_cald E hS 2 rfl g6 dX6_faultIn_75 ?_
              refine lv_aload_n hx hb dX6_faultIn_76 rfl (lv_at hl 3 rfl) ?_
              obtain ⟨y77, e7, h⟩ := bd_some h
              refine ct_VG (ws' := fun _ => [oX6 q0 (.ref q1) (.int y77.2.1) (.int y77.2.2.1) (.int y77.2.2.2.1) (.int y77.2.2.2.2.1) (.int y77.2.2.2.2.2.1), aI cy q1 40 y77.2.2.2.2.2.2.1, aC cy q2 nw1_ w1_, oX5 q3 (.ref q4) u3_1 u3_2 (.int y77.2.2.2.2.2.2.2.1), aI cy q4 40 y77.2.2.2.2.2.2.2.2]) (st' := [.int y77.1]) (rest := []) E hG hS vlX6_41 (c_X6_begins (l := l) (g := g) (D := D) (cy := cy) (q0 := q0) (q1 := q1) (q2 := q3) (q3 := q4) (u2_1 := u3_1) (u2_2 := u3_2) (v_waits := x32_1) (v_depth := x32_2) (v_compared := x32_3) (v_digits := x32_4) (v_hasThing := x32_5) (v_waiting := x32_6) (w2_size := x32_7) (w2_code := x32_8) (p1 := (w1_ x32_0.toNatClampNeg)) (r := y77) e7) [0, 1, 3, 4] rfl rfl (fun _ => rfl) (fun _ => rfl) (va_recv E.K hS.1 (ci := 6) (q0 := 0) rfl rfl) rfl rfl (Nat.le_of_ble_eq_true rfl) hl.1 (by rw [hRf]; exact Nat.le_of_ble_eq_true rfl) (by rw [hRl]; exact Nat.le_of_ble_eq_true rfl) ⟨Nat.zero_le _, Nat.zero_le _⟩ dX6_faultIn_77 rfl (fun H locs _ hS => ?_)
              exact hJ80 y77.1 y77.2.1 y77.2.2.1 y77.2.2.2.1 y77.2.2.2.2.1 y77.2.2.2.2.2.1 y77.2.2.2.2.2.2.1 y77.2.2.2.2.2.2.2.1 y77.2.2.2.2.2.2.2.2  H locs ls h hS (lv_sub hl [0, 1, 2, 3, 4] rfl)
            · have h := it_neg c5 h
              refine lv_aload_n hx hb dX6_faultIn_59 rfl (lv_at hl 0 rfl) ?_
              refine lv_aload_n hx hb dX6_faultIn_60 rfl (lv_at hl 1 rfl) ?_
              refine lv_iload hx hb dX6_faultIn_61 (lv_at hl 4 rfl) ?_
              obtain ⟨g8, h⟩ := gi_some h
              refine r_cald E hS 2 rfl g8 dX6_faultIn_63 ?_
              refine lv_aload_n hx hb dX6_faultIn_64 rfl (lv_at hl 3 rfl) ?_
              obtain ⟨y65, e9, h⟩ := bd_some h
              refine ct_VG (ws' := fun _ => [oX6 q0 (.ref q1) (.int y65.2.1) (.int y65.2.2.1) (.int y65.2.2.2.1) (.int y65.2.2.2.2.1) (.int y65.2.2.2.2.2.1), aI cy q1 40 y65.2.2.2.2.2.2.1, aC cy q2 nw1_ w1_, oX5 q3 (.ref q4) u3_1 u3_2 (.int y65.2.2.2.2.2.2.2.1), aI cy q4 40 y65.2.2.2.2.2.2.2.2]) (st' := [.int y65.1]) (rest := []) E hG hS vlX6_37 (c_X6_goesBehind (l := l) (g := g) (D := D) (cy := cy) (q0 := q0) (q1 := q1) (q2 := q3) (q3 := q4) (u2_1 := u3_1) (u2_2 := u3_2) (v_waits := x32_1) (v_depth := x32_2) (v_compared := x32_3) (v_digits := x32_4) (v_hasThing := x32_5) (v_waiting := x32_6) (w2_size := x32_7) (w2_code := x32_8) (p1 := (w1_ x32_0.toNatClampNeg)) (r := y65) e9) [0, 1, 3, 4] rfl rfl (fun _ => rfl) (fun _ => rfl) (va_recv E.K hS.1 (ci := 6) (q0 := 0) rfl rfl) rfl rfl (Nat.le_of_ble_eq_true rfl) hl.1 (by rw [hRf]; exact Nat.le_of_ble_eq_true rfl) (by rw [hRl]; exact Nat.le_of_ble_eq_true rfl) ⟨Nat.zero_le _, Nat.zero_le _⟩ dX6_faultIn_65 rfl (fun H locs _ hS => ?_)
              refine lv_goto (tgt := 80) hx hb dX6_faultIn_68 (by decide) ?_
              exact hJ80 y65.1 y65.2.1 y65.2.2.1 y65.2.2.2.1 y65.2.2.2.2.1 y65.2.2.2.2.2.1 y65.2.2.2.2.2.2.1 y65.2.2.2.2.2.2.2.1 y65.2.2.2.2.2.2.2.2  H locs ls h hS (lv_sub hl [0, 1, 2, 3, 4] rfl)
  obtain ⟨y32, e32, h⟩ := bd_some h
  refine hL32 1000 (0 : Int32) (0 : Int32) (0 : Int32) (0 : Int32) (0 : Int32) (0 : Int32) v_waiting X5_clears w3_code y32  H locs ls e32 hS (lv_sub hl [1, 2, 3, 4, 0] rfl) (fun ye32_0_0 ye32_0_1 ye32_0_2 ye32_0_3 ye32_0_4 ye32_0_5 ye32_0_6 ye32_0_7 ey32 H locs ls hS hl => ?_) (fun ye32_1_0 ye32_1_1 ye32_1_2 ye32_1_3 ye32_1_4 ye32_1_5 ye32_1_6 ye32_1_7 ye32_1_8 ey32 H locs ls hS hl => ?_)
  · subst ey32
    have h := sm_l h
    have h := un_r h
    have h := un_r h
    have h := un_r h
    have h := un_r h
    have h := un_r h
    have h := un_r h
    have h := un_r h
    refine lv_iload_n hx hb dX6_faultIn_96 rfl (lv_at hl 1 rfl) ?_
    refine lv_bipush (v := 40) hx hb dX6_faultIn_97 (by decide) ?_
    refine lv_icmp_le (tgt := 105) hx hb dX6_faultIn_99 (by decide) (fun c10 => ?_) (fun c10 => ?_)
    · have h := it_pos c10 h
      refine lv_aload_n hx hb dX6_faultIn_105 rfl (lv_at hl 0 rfl) ?_
      refine r_get E frX6_28 hS 0 rfl rfl dX6_faultIn_106 ?_
      refine lv_if_eq (tgt := 119) hx hb dX6_faultIn_109 (by decide) (fun c11 => ?_) (fun c11 => ?_)
      · have h := it_pos c11 h
        refine lv_iload_n hx hb dX6_faultIn_119 rfl (lv_at hl 1 rfl) ?_
        obtain rfl := Option.some.inj h
        exact rt_i E hQ (.null) hS dX6_faultIn_120
      · have h := it_neg c11 h
        refine lv_aload_n hx hb dX6_faultIn_112 rfl (lv_at hl 0 rfl) ?_
        refine r_get E frX6_19 hS 0 rfl rfl dX6_faultIn_113 ?_
        refine lv_if_le (tgt := 121) hx hb dX6_faultIn_116 (by decide) (fun c12 => ?_) (fun c12 => ?_)
        · have h := it_pos c12 h
          refine lv_aload_n hx hb dX6_faultIn_121 rfl (lv_at hl 0 rfl) ?_
          refine lv_iconst (v := 1) hx hb dX6_faultIn_122 (by decide) ?_
          refine lv_aload_n hx hb dX6_faultIn_123 rfl (lv_at hl 2 rfl) ?_
          obtain ⟨y124, e13, h⟩ := bd_some h
          refine ct_V (ws' := fun _ => [oX6 q0 (.ref q1) (.int y124.1) (.int ye32_0_1) (.int ye32_0_2) (.int ye32_0_3) (.int ye32_0_4), aI cy q1 40 ye32_0_5, aC cy q2 nw1_ w1_, oX5 q3 (.ref q4) u3_1 u3_2 (.int y124.2.1), aI cy q4 40 y124.2.2]) (st' := []) (rest := []) E hS vlX6_44 (c_X6_settles (l := l) (D := D) (cy := cy) (q0 := q0) (q1 := q1) (q2 := q3) (q3 := q4) (u0_2 := .int ye32_0_1) (u0_3 := .int ye32_0_2) (u0_4 := .int ye32_0_3) (u0_5 := .int ye32_0_4) (u2_1 := u3_1) (u2_2 := u3_2) (v_waits := ye32_0_0) (v_waiting := ye32_0_5) (w2_size := ye32_0_6) (w2_code := ye32_0_7) (p1 := (1 : Int32)) (r := y124) e13) [0, 1, 3, 4] rfl rfl (fun _ => rfl) (fun _ => rfl) rfl rfl rfl rfl (Nat.le_of_ble_eq_true rfl) hl.1 (by rw [hRf]; exact Nat.le_of_ble_eq_true rfl) (by rw [hRl]; exact Nat.le_of_ble_eq_true rfl) ⟨Nat.zero_le _, Nat.zero_le _⟩ dX6_faultIn_124 rfl (fun H locs _ hS => ?_)
          refine lv_iconst (v := -1) hx hb dX6_faultIn_127 (by decide) ?_
          obtain rfl := Option.some.inj h
          exact rt_i E hQ (.null) hS dX6_faultIn_128
        · have h := it_neg c12 h
          refine lv_iload_n hx hb dX6_faultIn_119 rfl (lv_at hl 1 rfl) ?_
          obtain rfl := Option.some.inj h
          exact rt_i E hQ (.null) hS dX6_faultIn_120
    · have h := it_neg c10 h
      refine lv_bipush (v := 40) hx hb dX6_faultIn_102 (by decide) ?_
      obtain rfl := Option.some.inj h
      exact rt_i E hQ (.null) hS dX6_faultIn_104
  · subst ey32
    have h := sm_r h
    have h := un_r h
    have h := un_r h
    have h := un_r h
    have h := un_r h
    have h := un_r h
    have h := un_r h
    have h := un_r h
    have h := un_r h
    refine lv_iload hx hb dX6_faultIn_87 (lv_at hl 0 rfl) ?_
    obtain rfl := Option.some.inj h
    exact rt_i E hQ (.null) hS dX6_faultIn_89
set_option maxHeartbeats 4000000 in
set_option maxRecDepth 100000 in
theorem c_X6_faultInU {l : Launch} {g : Gt} {D : va_G} {cy : Nat → ClassId} (q0 : Nat) (q1 : Nat) (q2 : Nat) (q3 : Nat) (u2_1 : Value) (u2_2 : Value) (v_waits : Int32) (v_depth : Int32) (v_compared : Int32) (v_digits : Int32) (v_hasThing : Int32) (v_waiting : Nat → Int32) (w3_size : Int32) (w3_code : Nat → Int32) (p2 : Int32) (r : Int32 × Int32 × Int32 × Int32 × Int32 × Int32 × (Nat → Int32) × Int32 × (Nat → Int32)) (h : X6_faultInU v_waiting w3_code p2 = some r) : Cg l yX6_faultIn cX6_faultIn 6 (some .int) 5 115 D cy g [.ref q0, .ref g.1, .int p2, .ref q2] [oX6 q0 (.ref q1) (.int v_waits) (.int v_depth) (.int v_compared) (.int v_digits) (.int v_hasThing), aI cy q1 40 v_waiting, oX5 q2 (.ref q3) u2_1 u2_2 (.int w3_size), aI cy q3 40 w3_code] (fun _ => [oX6 q0 (.ref q1) (.int r.2.1) (.int r.2.2.1) (.int r.2.2.2.1) (.int r.2.2.2.2.1) (.int r.2.2.2.2.2.1), aI cy q1 40 r.2.2.2.2.2.2.1, oX5 q2 (.ref q3) u2_1 u2_2 (.int r.2.2.2.2.2.2.2.1), aI cy q3 40 r.2.2.2.2.2.2.2.2]) (some (.int r.1)) := by
  refine Cg.mk kX6_faultIn (by decide +kernel) (Nat.le_of_ble_eq_true rfl) ?_
  intro p e s m below meth c A ls args R Q hRf hRl hQ hG E H locs hS hl
  have hx := E.x
  have hb := E.b
  have hl : lv_has ls 6 [(0, .ref q0), (1, .ref g.1), (2, .int p2), (3, .ref q2)] := hl
  unfold X6_faultInU at h
  refine lv_aload_n hx hb dX6_faultIn_0 rfl (lv_at hl 0 rfl) ?_
  refine lv_iconst (v := 0) hx hb dX6_faultIn_1 (by decide) ?_
  refine r_put (ws' := [oX6 q0 (.ref q1) (.int (0 : Int32)) (.int v_depth) (.int v_compared) (.int v_digits) (.int v_hasThing), aI cy q1 40 v_waiting, oX5 q2 (.ref q3) u2_1 u2_2 (.int w3_size), aI cy q3 40 w3_code]) E frX6_15 hS 0 rfl (Nat.le_of_ble_eq_true rfl) rfl rfl rfl rfl dX6_faultIn_2 (fun H locs hS => ?_)
  refine lv_aload_n hx hb dX6_faultIn_5 rfl (lv_at hl 0 rfl) ?_
  refine lv_iconst (v := 0) hx hb dX6_faultIn_6 (by decide) ?_
  refine r_put (ws' := [oX6 q0 (.ref q1) (.int (0 : Int32)) (.int (0 : Int32)) (.int v_compared) (.int v_digits) (.int v_hasThing), aI cy q1 40 v_waiting, oX5 q2 (.ref q3) u2_1 u2_2 (.int w3_size), aI cy q3 40 w3_code]) E frX6_19 hS 0 rfl (Nat.le_of_ble_eq_true rfl) rfl rfl rfl rfl dX6_faultIn_7 (fun H locs hS => ?_)
  refine lv_aload_n hx hb dX6_faultIn_10 rfl (lv_at hl 0 rfl) ?_
  refine lv_iconst (v := 0) hx hb dX6_faultIn_11 (by decide) ?_
  refine r_put (ws' := [oX6 q0 (.ref q1) (.int (0 : Int32)) (.int (0 : Int32)) (.int (0 : Int32)) (.int v_digits) (.int v_hasThing), aI cy q1 40 v_waiting, oX5 q2 (.ref q3) u2_1 u2_2 (.int w3_size), aI cy q3 40 w3_code]) E frX6_22 hS 0 rfl (Nat.le_of_ble_eq_true rfl) rfl rfl rfl rfl dX6_faultIn_12 (fun H locs hS => ?_)
  refine lv_aload_n hx hb dX6_faultIn_15 rfl (lv_at hl 0 rfl) ?_
  refine lv_iconst (v := 0) hx hb dX6_faultIn_16 (by decide) ?_
  refine r_put (ws' := [oX6 q0 (.ref q1) (.int (0 : Int32)) (.int (0 : Int32)) (.int (0 : Int32)) (.int (0 : Int32)) (.int v_hasThing), aI cy q1 40 v_waiting, oX5 q2 (.ref q3) u2_1 u2_2 (.int w3_size), aI cy q3 40 w3_code]) E frX6_25 hS 0 rfl (Nat.le_of_ble_eq_true rfl) rfl rfl rfl rfl dX6_faultIn_17 (fun H locs hS => ?_)
  refine lv_aload_n hx hb dX6_faultIn_20 rfl (lv_at hl 0 rfl) ?_
  refine lv_iconst (v := 0) hx hb dX6_faultIn_21 (by decide) ?_
  refine r_put (ws' := [oX6 q0 (.ref q1) (.int (0 : Int32)) (.int (0 : Int32)) (.int (0 : Int32)) (.int (0 : Int32)) (.int (0 : Int32)), aI cy q1 40 v_waiting, oX5 q2 (.ref q3) u2_1 u2_2 (.int w3_size), aI cy q3 40 w3_code]) E frX6_28 hS 0 rfl (Nat.le_of_ble_eq_true rfl) rfl rfl rfl rfl dX6_faultIn_22 (fun H locs hS => ?_)
  refine lv_aload_n hx hb dX6_faultIn_25 rfl (lv_at hl 3 rfl) ?_
  refine ct_V (ws' := fun _ => [oX6 q0 (.ref q1) (.int (0 : Int32)) (.int (0 : Int32)) (.int (0 : Int32)) (.int (0 : Int32)) (.int (0 : Int32)), aI cy q1 40 v_waiting, oX5 q2 (.ref q3) u2_1 u2_2 (.int X5_clears), aI cy q3 40 w3_code]) (st' := []) (rest := []) E hS vlX6_32 (c_X5_clears (l := l) (D := D) (cy := cy) (q0 := q2) (u0_0 := .ref q3) (u0_1 := u2_1) (u0_2 := u2_2) (v_size := w3_size) (r := X5_clears) rfl) [2] rfl rfl (fun _ => rfl) (fun _ => rfl) rfl rfl rfl rfl (Nat.le_of_ble_eq_true rfl) hl.1 (by rw [hRf]; exact Nat.le_of_ble_eq_true rfl) (by rw [hRl]; exact Nat.le_of_ble_eq_true rfl) ⟨Nat.zero_le _, Nat.zero_le _⟩ dX6_faultIn_26 rfl (fun H locs _ hS => ?_)
  refine lv_iconst (v := 0) hx hb dX6_faultIn_29 (by decide) ?_
  refine lv_istore (lv' := [(4, .int (0 : Int32)), (0, .ref q0), (1, .ref g.1), (2, .int p2), (3, .ref q2)]) hx hb dX6_faultIn_30 hl (by decide) rfl (fun ls hl => ?_)
  have hL32 : ∀ (n : Nat) (x32_0 : Int32) (x32_1 : Int32) (x32_2 : Int32) (x32_3 : Int32) (x32_4 : Int32) (x32_5 : Int32) (x32_6 : Nat → Int32) (x32_7 : Int32) (x32_8 : Nat → Int32) (y32 : (Int32 × Int32 × Int32 × Int32 × Int32 × (Nat → Int32) × Int32 × (Nat → Int32)) ⊕ (Int32 × Int32 × Int32 × Int32 × Int32 × Int32 × (Nat → Int32) × Int32 × (Nat → Int32))) (H : Heap) (locs : List Loc) (ls : Array Slot), lp (fun x32 => X6_faultInU_s32 p2 x32.1 x32.2.1 x32.2.2.1 x32.2.2.2.1 x32.2.2.2.2.1 x32.2.2.2.2.2.1 x32.2.2.2.2.2.2.1 x32.2.2.2.2.2.2.2.1 x32.2.2.2.2.2.2.2.2) n (x32_0, x32_1, x32_2, x32_3, x32_4, x32_5, x32_6, x32_7, x32_8) = some y32 → Sv D A s.heap [oX6 q0 (.ref q1) (.int x32_1) (.int x32_2) (.int x32_3) (.int x32_4) (.int x32_5), aI cy q1 40 x32_6, oX5 q2 (.ref q3) u2_1 u2_2 (.int x32_7), aI cy q3 40 x32_8] H locs → lv_has ls 6 [(0, .ref q0), (1, .ref g.1), (2, .int p2), (3, .ref q2), (4, .int x32_0)] → ( ∀ (ye32_0_0 : Int32) (ye32_0_1 : Int32) (ye32_0_2 : Int32) (ye32_0_3 : Int32) (ye32_0_4 : Int32) (ye32_0_5 : Nat → Int32) (ye32_0_6 : Int32) (ye32_0_7 : Nat → Int32), .inl (ye32_0_0, ye32_0_1, ye32_0_2, ye32_0_3, ye32_0_4, ye32_0_5, ye32_0_6, ye32_0_7) = y32 → ∀ (H : Heap) (locs : List Loc) (ls : Array Slot), Sv D A s.heap [oX6 q0 (.ref q1) (.int ye32_0_0) (.int ye32_0_1) (.int ye32_0_2) (.int ye32_0_3) (.int ye32_0_4), aI cy q1 40 ye32_0_5, oX5 q2 (.ref q3) u2_1 u2_2 (.int ye32_0_6), aI cy q3 40 ye32_0_7] H locs → lv_has ls 6 [(0, .ref q0), (2, .int p2), (3, .ref q2)] → W p l e R s m args below meth c H locs 0 0 Q (F0 m 96 ls [])) → ( ∀ (ye32_1_0 : Int32) (ye32_1_1 : Int32) (ye32_1_2 : Int32) (ye32_1_3 : Int32) (ye32_1_4 : Int32) (ye32_1_5 : Int32) (ye32_1_6 : Nat → Int32) (ye32_1_7 : Int32) (ye32_1_8 : Nat → Int32), .inr (ye32_1_0, ye32_1_1, ye32_1_2, ye32_1_3, ye32_1_4, ye32_1_5, ye32_1_6, ye32_1_7, ye32_1_8) = y32 → ∀ (H : Heap) (locs : List Loc) (ls : Array Slot), Sv D A s.heap [oX6 q0 (.ref q1) (.int ye32_1_1) (.int ye32_1_2) (.int ye32_1_3) (.int ye32_1_4) (.int ye32_1_5), aI cy q1 40 ye32_1_6, oX5 q2 (.ref q3) u2_1 u2_2 (.int ye32_1_7), aI cy q3 40 ye32_1_8] H locs → lv_has ls 6 [(4, .int ye32_1_0)] → W p l e R s m args below meth c H locs 0 0 Q (F0 m 87 ls [])) → W p l e R s m args below meth c H locs 0 0 Q (F0 m 32 ls []) := by
    intro n
    induction n with
    | zero =>
      intro x32_0 x32_1 x32_2 x32_3 x32_4 x32_5 x32_6 x32_7 x32_8 y32 H locs ls h
      exact lp_zero h
    | succ n ih32 =>
      intro x32_0 x32_1 x32_2 x32_3 x32_4 x32_5 x32_6 x32_7 x32_8 y32 H locs ls h hS hl hk32_0 hk32_1
      obtain ⟨z32, h, hz32a, hz32b⟩ := lp_succ h
      have h : X6_faultInU_s32 p2 x32_0 x32_1 x32_2 x32_3 x32_4 x32_5 x32_6 x32_7 x32_8 = some z32 := h
      unfold X6_faultInU_s32 at h
      refine lv_iload hx hb dX6_faultIn_32 (lv_at hl 4 rfl) ?_
      refine lv_iload_n hx hb dX6_faultIn_34 rfl (lv_at hl 2 rfl) ?_
      refine lv_icmp_ge (tgt := 96) hx hb dX6_faultIn_35 (by decide) (fun c1 => ?_) (fun c1 => ?_)
      · have h := it_pos c1 h
        exact hk32_0 x32_1 x32_2 x32_3 x32_4 x32_5 x32_6 x32_7 x32_8 (hz32b _ (Option.some.inj h).symm)  H locs ls hS (lv_sub hl [0, 2, 3] rfl)
      · have h := it_neg c1 h
        refine lv_iload hx hb dX6_faultIn_38 (lv_at hl 4 rfl) ?_
        refine lv_bipush (v := 40) hx hb dX6_faultIn_40 (by decide) ?_
        refine lv_icmp_ge (tgt := 96) hx hb dX6_faultIn_42 (by decide) (fun c2 => ?_) (fun c2 => ?_)
        · have h := it_pos c2 h
          exact hk32_0 x32_1 x32_2 x32_3 x32_4 x32_5 x32_6 x32_7 x32_8 (hz32b _ (Option.some.inj h).symm)  H locs ls hS (lv_sub hl [0, 2, 3] rfl)
        · have h := it_neg c2 h
          refine lv_iload hx hb dX6_faultIn_45 (lv_at hl 4 rfl) ?_
          refine lv_aload_n hx hb dX6_faultIn_47 rfl (lv_at hl 1 rfl) ?_
          refine va_tlen (v := 5) hx hb hG.2.1 hS.2.2 rfl dX6_faultIn_48 ?_
          refine lv_icmp_ge (tgt := 96) hx hb dX6_faultIn_49 (by decide) (fun c3 => ?_) (fun c3 => ?_)
          · have h := it_pos c3 h
            exact hk32_0 x32_1 x32_2 x32_3 x32_4 x32_5 x32_6 x32_7 x32_8 (hz32b _ (Option.some.inj h).symm)  H locs ls hS (lv_sub hl [0, 2, 3] rfl)
          · have h := it_neg c3 h
            refine lv_aload_n hx hb dX6_faultIn_52 rfl (lv_at hl 0 rfl) ?_
            refine r_get E frX6_28 hS 0 rfl rfl dX6_faultIn_53 ?_
            have hJ80 : ∀ (j80_t0 : Int32) (j80_v_waits : Int32) (j80_v_depth : Int32) (j80_v_compared : Int32) (j80_v_digits : Int32) (j80_v_hasThing : Int32) (j80_v_waiting : Nat → Int32) (j80_w3_size : Int32) (j80_w3_code : Nat → Int32) (H : Heap) (locs : List Loc) (ls : Array Slot), X6_faultInU_k80 x32_0 j80_t0 j80_v_waits j80_v_depth j80_v_compared j80_v_digits j80_v_hasThing j80_v_waiting j80_w3_size j80_w3_code = some z32 → Sv D A s.heap [oX6 q0 (.ref q1) (.int j80_v_waits) (.int j80_v_depth) (.int j80_v_compared) (.int j80_v_digits) (.int j80_v_hasThing), aI cy q1 40 j80_v_waiting, oX5 q2 (.ref q3) u2_1 u2_2 (.int j80_w3_size), aI cy q3 40 j80_w3_code] H locs → lv_has ls 6 [(0, .ref q0), (1, .ref g.1), (2, .int p2), (3, .ref q2), (4, .int x32_0)] → W p l e R s m args below meth c H locs 0 0 Q (F0 m 80 ls [.int j80_t0]) := by
              intro j80_t0 j80_v_waits j80_v_depth j80_v_compared j80_v_digits j80_v_hasThing j80_v_waiting j80_w3_size j80_w3_code H locs ls h hS hl
              unfold X6_faultInU_k80 at h
              refine lv_istore (lv' := [(5, .int j80_t0), (0, .ref q0), (1, .ref g.1), (2, .int p2), (3, .ref q2), (4, .int x32_0)]) hx hb dX6_faultIn_80 hl (by decide) rfl (fun ls hl => ?_)
              refine lv_iload hx hb dX6_faultIn_82 (lv_at hl 0 rfl) ?_
              refine lv_if_ne (tgt := 90) hx hb dX6_faultIn_84 (by decide) (fun c4 => ?_) (fun c4 => ?_)
              · have h := it_neg c4 h
                refine lv_iinc (v := (x32_0 + (1 : Int32))) (lv' := [(4, .int (x32_0 + (1 : Int32))), (5, .int j80_t0), (0, .ref q0), (1, .ref g.1), (2, .int p2), (3, .ref q2)]) hx hb dX6_faultIn_90 hl (k := 5) rfl rfl (by decide) rfl (fun ls hl => ?_)
                refine lv_goto (tgt := 32) hx hb dX6_faultIn_93 (by decide) ?_
                exact ih32 (x32_0 + (1 : Int32)) j80_v_waits j80_v_depth j80_v_compared j80_v_digits j80_v_hasThing j80_v_waiting j80_w3_size j80_w3_code y32  H locs ls (hz32a _ (Option.some.inj h).symm) hS (lv_sub hl [2, 3, 4, 5, 0] rfl) hk32_0 hk32_1
              · have h := it_pos c4 h
                exact hk32_1 x32_0 j80_v_waits j80_v_depth j80_v_compared j80_v_digits j80_v_hasThing j80_v_waiting j80_w3_size j80_w3_code (hz32b _ (Option.some.inj h).symm)  H locs ls hS (lv_sub hl [5] rfl)
            refine lv_if_eq (tgt := 71) hx hb dX6_faultIn_56 (by decide) (fun c5 => ?_) (fun c5 => ?_)
            · have h := it_pos c5 h
              refine lv_aload_n hx hb dX6_faultIn_71 rfl (lv_at hl 0 rfl) ?_
              refine lv_aload_n hx hb dX6_faultIn_72 rfl (lv_at hl 1 rfl) ?_
              refine lv_iload hx hb dX6_faultIn_73 (lv_at hl 4 rfl) ?_
              obtain ⟨g6, h⟩ := gi_some h
              refine va_tc (v := .int (us_at x32_0.toNatClampNeg)) hx hb hG.2.1 hS.2.2 g6 rfl dX6_faultIn_75 ?_
              refine lv_aload_n hx hb dX6_faultIn_76 rfl (lv_at hl 3 rfl) ?_
              obtain ⟨y77, e7, h⟩ := bd_some h
              refine ct_VG (ws' := fun _ => [oX6 q0 (.ref q1) (.int y77.2.1) (.int y77.2.2.1) (.int y77.2.2.2.1) (.int y77.2.2.2.2.1) (.int y77.2.2.2.2.2.1), aI cy q1 40 y77.2.2.2.2.2.2.1, oX5 q2 (.ref q3) u2_1 u2_2 (.int y77.2.2.2.2.2.2.2.1), aI cy q3 40 y77.2.2.2.2.2.2.2.2]) (st' := [.int y77.1]) (rest := []) E hG hS vlX6_41 (c_X6_begins (l := l) (g := g) (D := D) (cy := cy) (q0 := q0) (q1 := q1) (q2 := q2) (q3 := q3) (u2_1 := u2_1) (u2_2 := u2_2) (v_waits := x32_1) (v_depth := x32_2) (v_compared := x32_3) (v_digits := x32_4) (v_hasThing := x32_5) (v_waiting := x32_6) (w2_size := x32_7) (w2_code := x32_8) (p1 := (us_at x32_0.toNatClampNeg)) (r := y77) e7) [0, 1, 2, 3] rfl rfl (fun _ => rfl) (fun _ => rfl) (va_recv E.K hS.1 (ci := 6) (q0 := 0) rfl rfl) rfl rfl (Nat.le_of_ble_eq_true rfl) hl.1 (by rw [hRf]; exact Nat.le_of_ble_eq_true rfl) (by rw [hRl]; exact Nat.le_of_ble_eq_true rfl) ⟨Nat.zero_le _, Nat.zero_le _⟩ dX6_faultIn_77 rfl (fun H locs _ hS => ?_)
              exact hJ80 y77.1 y77.2.1 y77.2.2.1 y77.2.2.2.1 y77.2.2.2.2.1 y77.2.2.2.2.2.1 y77.2.2.2.2.2.2.1 y77.2.2.2.2.2.2.2.1 y77.2.2.2.2.2.2.2.2  H locs ls h hS (lv_sub hl [0, 1, 2, 3, 4] rfl)
            · have h := it_neg c5 h
              refine lv_aload_n hx hb dX6_faultIn_59 rfl (lv_at hl 0 rfl) ?_
              refine lv_aload_n hx hb dX6_faultIn_60 rfl (lv_at hl 1 rfl) ?_
              refine lv_iload hx hb dX6_faultIn_61 (lv_at hl 4 rfl) ?_
              obtain ⟨g8, h⟩ := gi_some h
              refine va_tc (v := .int (us_at x32_0.toNatClampNeg)) hx hb hG.2.1 hS.2.2 g8 rfl dX6_faultIn_63 ?_
              refine lv_aload_n hx hb dX6_faultIn_64 rfl (lv_at hl 3 rfl) ?_
              obtain ⟨y65, e9, h⟩ := bd_some h
              refine ct_VG (ws' := fun _ => [oX6 q0 (.ref q1) (.int y65.2.1) (.int y65.2.2.1) (.int y65.2.2.2.1) (.int y65.2.2.2.2.1) (.int y65.2.2.2.2.2.1), aI cy q1 40 y65.2.2.2.2.2.2.1, oX5 q2 (.ref q3) u2_1 u2_2 (.int y65.2.2.2.2.2.2.2.1), aI cy q3 40 y65.2.2.2.2.2.2.2.2]) (st' := [.int y65.1]) (rest := []) E hG hS vlX6_37 (c_X6_goesBehind (l := l) (g := g) (D := D) (cy := cy) (q0 := q0) (q1 := q1) (q2 := q2) (q3 := q3) (u2_1 := u2_1) (u2_2 := u2_2) (v_waits := x32_1) (v_depth := x32_2) (v_compared := x32_3) (v_digits := x32_4) (v_hasThing := x32_5) (v_waiting := x32_6) (w2_size := x32_7) (w2_code := x32_8) (p1 := (us_at x32_0.toNatClampNeg)) (r := y65) e9) [0, 1, 2, 3] rfl rfl (fun _ => rfl) (fun _ => rfl) (va_recv E.K hS.1 (ci := 6) (q0 := 0) rfl rfl) rfl rfl (Nat.le_of_ble_eq_true rfl) hl.1 (by rw [hRf]; exact Nat.le_of_ble_eq_true rfl) (by rw [hRl]; exact Nat.le_of_ble_eq_true rfl) ⟨Nat.zero_le _, Nat.zero_le _⟩ dX6_faultIn_65 rfl (fun H locs _ hS => ?_)
              refine lv_goto (tgt := 80) hx hb dX6_faultIn_68 (by decide) ?_
              exact hJ80 y65.1 y65.2.1 y65.2.2.1 y65.2.2.2.1 y65.2.2.2.2.1 y65.2.2.2.2.2.1 y65.2.2.2.2.2.2.1 y65.2.2.2.2.2.2.2.1 y65.2.2.2.2.2.2.2.2  H locs ls h hS (lv_sub hl [0, 1, 2, 3, 4] rfl)
  obtain ⟨y32, e32, h⟩ := bd_some h
  refine hL32 1000 (0 : Int32) (0 : Int32) (0 : Int32) (0 : Int32) (0 : Int32) (0 : Int32) v_waiting X5_clears w3_code y32  H locs ls e32 hS (lv_sub hl [1, 2, 3, 4, 0] rfl) (fun ye32_0_0 ye32_0_1 ye32_0_2 ye32_0_3 ye32_0_4 ye32_0_5 ye32_0_6 ye32_0_7 ey32 H locs ls hS hl => ?_) (fun ye32_1_0 ye32_1_1 ye32_1_2 ye32_1_3 ye32_1_4 ye32_1_5 ye32_1_6 ye32_1_7 ye32_1_8 ey32 H locs ls hS hl => ?_)
  · subst ey32
    have h := sm_l h
    have h := un_r h
    have h := un_r h
    have h := un_r h
    have h := un_r h
    have h := un_r h
    have h := un_r h
    have h := un_r h
    refine lv_iload_n hx hb dX6_faultIn_96 rfl (lv_at hl 1 rfl) ?_
    refine lv_bipush (v := 40) hx hb dX6_faultIn_97 (by decide) ?_
    refine lv_icmp_le (tgt := 105) hx hb dX6_faultIn_99 (by decide) (fun c10 => ?_) (fun c10 => ?_)
    · have h := it_pos c10 h
      refine lv_aload_n hx hb dX6_faultIn_105 rfl (lv_at hl 0 rfl) ?_
      refine r_get E frX6_28 hS 0 rfl rfl dX6_faultIn_106 ?_
      refine lv_if_eq (tgt := 119) hx hb dX6_faultIn_109 (by decide) (fun c11 => ?_) (fun c11 => ?_)
      · have h := it_pos c11 h
        refine lv_iload_n hx hb dX6_faultIn_119 rfl (lv_at hl 1 rfl) ?_
        obtain rfl := Option.some.inj h
        exact rt_i E hQ (.null) hS dX6_faultIn_120
      · have h := it_neg c11 h
        refine lv_aload_n hx hb dX6_faultIn_112 rfl (lv_at hl 0 rfl) ?_
        refine r_get E frX6_19 hS 0 rfl rfl dX6_faultIn_113 ?_
        refine lv_if_le (tgt := 121) hx hb dX6_faultIn_116 (by decide) (fun c12 => ?_) (fun c12 => ?_)
        · have h := it_pos c12 h
          refine lv_aload_n hx hb dX6_faultIn_121 rfl (lv_at hl 0 rfl) ?_
          refine lv_iconst (v := 1) hx hb dX6_faultIn_122 (by decide) ?_
          refine lv_aload_n hx hb dX6_faultIn_123 rfl (lv_at hl 2 rfl) ?_
          obtain ⟨y124, e13, h⟩ := bd_some h
          refine ct_V (ws' := fun _ => [oX6 q0 (.ref q1) (.int y124.1) (.int ye32_0_1) (.int ye32_0_2) (.int ye32_0_3) (.int ye32_0_4), aI cy q1 40 ye32_0_5, oX5 q2 (.ref q3) u2_1 u2_2 (.int y124.2.1), aI cy q3 40 y124.2.2]) (st' := []) (rest := []) E hS vlX6_44 (c_X6_settles (l := l) (D := D) (cy := cy) (q0 := q0) (q1 := q1) (q2 := q2) (q3 := q3) (u0_2 := .int ye32_0_1) (u0_3 := .int ye32_0_2) (u0_4 := .int ye32_0_3) (u0_5 := .int ye32_0_4) (u2_1 := u2_1) (u2_2 := u2_2) (v_waits := ye32_0_0) (v_waiting := ye32_0_5) (w2_size := ye32_0_6) (w2_code := ye32_0_7) (p1 := (1 : Int32)) (r := y124) e13) [0, 1, 2, 3] rfl rfl (fun _ => rfl) (fun _ => rfl) rfl rfl rfl rfl (Nat.le_of_ble_eq_true rfl) hl.1 (by rw [hRf]; exact Nat.le_of_ble_eq_true rfl) (by rw [hRl]; exact Nat.le_of_ble_eq_true rfl) ⟨Nat.zero_le _, Nat.zero_le _⟩ dX6_faultIn_124 rfl (fun H locs _ hS => ?_)
          refine lv_iconst (v := -1) hx hb dX6_faultIn_127 (by decide) ?_
          obtain rfl := Option.some.inj h
          exact rt_i E hQ (.null) hS dX6_faultIn_128
        · have h := it_neg c12 h
          refine lv_iload_n hx hb dX6_faultIn_119 rfl (lv_at hl 1 rfl) ?_
          obtain rfl := Option.some.inj h
          exact rt_i E hQ (.null) hS dX6_faultIn_120
    · have h := it_neg c10 h
      refine lv_bipush (v := 40) hx hb dX6_faultIn_102 (by decide) ?_
      obtain rfl := Option.some.inj h
      exact rt_i E hQ (.null) hS dX6_faultIn_104
  · subst ey32
    have h := sm_r h
    have h := un_r h
    have h := un_r h
    have h := un_r h
    have h := un_r h
    have h := un_r h
    have h := un_r h
    have h := un_r h
    have h := un_r h
    refine lv_iload hx hb dX6_faultIn_87 (lv_at hl 0 rfl) ?_
    obtain rfl := Option.some.inj h
    exact rt_i E hQ (.null) hS dX6_faultIn_89
set_option maxHeartbeats 4000000 in
set_option maxRecDepth 100000 in
theorem c_X10_readsSpare {l : Launch} {g : Gt} {D : va_G} {cy : Nat → ClassId} (q0 : Nat) (q1 : Nat) (q2 : Nat) (q3 : Nat) (q4 : Nat) (q5 : Nat) (q6 : Nat) (u0_1 : Value) (u0_2 : Value) (u0_3 : Value) (u0_4 : Value) (u0_6 : Value) (u0_8 : Value) (u0_9 : Value) (u0_10 : Value) (u0_11 : Value) (u0_12 : Value) (u5_1 : Value) (u5_2 : Value) (v_text_size : Int32) (v_text_signs : Nat → Int32) (v_reader_waits : Int32) (v_reader_depth : Int32) (v_reader_compared : Int32) (v_reader_digits : Int32) (v_reader_hasThing : Int32) (v_reader_waiting : Nat → Int32) (v_spare_size : Int32) (v_spare_code : Nat → Int32) (r : Int32 × Int32 × Int32 × Int32 × Int32 × Int32 × Int32 × (Nat → Int32) × Int32 × (Nat → Int32)) (h : X10_readsSpare v_text_size v_text_signs v_reader_waiting v_spare_code = some r) : Cg l yX10_readsSpare cX10_readsSpare 2 (some .int) 6 140 D cy g [.ref q0] [oX10 q0 (.ref q1) u0_1 u0_2 u0_3 u0_4 (.ref q3) u0_6 (.ref q5) u0_8 u0_9 u0_10 u0_11 u0_12, oX9 q1 (.ref q2) (.int v_text_size), aC cy q2 80 v_text_signs, oX6 q3 (.ref q4) (.int v_reader_waits) (.int v_reader_depth) (.int v_reader_compared) (.int v_reader_digits) (.int v_reader_hasThing), aI cy q4 40 v_reader_waiting, oX5 q5 (.ref q6) u5_1 u5_2 (.int v_spare_size), aI cy q6 40 v_spare_code] (fun _ => [oX10 q0 (.ref q1) u0_1 u0_2 u0_3 u0_4 (.ref q3) u0_6 (.ref q5) u0_8 u0_9 u0_10 u0_11 u0_12, oX9 q1 (.ref q2) (.int r.2.1), aC cy q2 80 v_text_signs, oX6 q3 (.ref q4) (.int r.2.2.1) (.int r.2.2.2.1) (.int r.2.2.2.2.1) (.int r.2.2.2.2.2.1) (.int r.2.2.2.2.2.2.1), aI cy q4 40 r.2.2.2.2.2.2.2.1, oX5 q5 (.ref q6) u5_1 u5_2 (.int r.2.2.2.2.2.2.2.2.1), aI cy q6 40 r.2.2.2.2.2.2.2.2.2]) (some (.int r.1)) := by
  refine Cg.mk kX10_readsSpare (by decide +kernel) (Nat.le_of_ble_eq_true rfl) ?_
  intro p e s m below meth c A ls args R Q hRf hRl hQ hG E H locs hS hl
  have hx := E.x
  have hb := E.b
  have hl : lv_has ls 2 [(0, .ref q0)] := hl
  unfold X10_readsSpare at h
  refine lv_aload_n hx hb dX10_readsSpare_0 rfl (lv_at hl 0 rfl) ?_
  refine r_get E frX10_12 hS 0 rfl rfl dX10_readsSpare_1 ?_
  refine r_get E frX10_101 hS 1 rfl rfl dX10_readsSpare_4 ?_
  have hJ56 : ∀ (j56_t0 : Int32) (j56_v_reader_waits : Int32) (j56_v_reader_depth : Int32) (j56_v_reader_compared : Int32) (j56_v_reader_digits : Int32) (j56_v_reader_hasThing : Int32) (j56_v_reader_waiting : Nat → Int32) (j56_v_spare_size : Int32) (j56_v_spare_code : Nat → Int32) (H : Heap) (locs : List Loc) (ls : Array Slot), X10_readsSpare_k56 j56_t0 j56_v_reader_waits j56_v_reader_depth j56_v_reader_compared j56_v_reader_digits j56_v_reader_hasThing j56_v_reader_waiting j56_v_spare_size j56_v_spare_code = some r → Sv D A s.heap [oX10 q0 (.ref q1) u0_1 u0_2 u0_3 u0_4 (.ref q3) u0_6 (.ref q5) u0_8 u0_9 u0_10 u0_11 u0_12, oX9 q1 (.ref q2) (.int v_text_size), aC cy q2 80 v_text_signs, oX6 q3 (.ref q4) (.int j56_v_reader_waits) (.int j56_v_reader_depth) (.int j56_v_reader_compared) (.int j56_v_reader_digits) (.int j56_v_reader_hasThing), aI cy q4 40 j56_v_reader_waiting, oX5 q5 (.ref q6) u5_1 u5_2 (.int j56_v_spare_size), aI cy q6 40 j56_v_spare_code] H locs → lv_has ls 2 [(0, .ref q0)] → W p l e R s m args below meth c H locs 0 0 Q (F0 m 56 ls [.int j56_t0]) := by
    intro j56_t0 j56_v_reader_waits j56_v_reader_depth j56_v_reader_compared j56_v_reader_digits j56_v_reader_hasThing j56_v_reader_waiting j56_v_spare_size j56_v_spare_code H locs ls h hS hl
    unfold X10_readsSpare_k56 at h
    refine lv_istore_n (lv' := [(1, .int j56_t0), (0, .ref q0)]) hx hb dX10_readsSpare_56 rfl hl (by decide) rfl (fun ls hl => ?_)
    refine lv_aload_n hx hb dX10_readsSpare_57 rfl (lv_at hl 1 rfl) ?_
    refine r_get E frX10_12 hS 0 rfl rfl dX10_readsSpare_58 ?_
    refine ct_V (ws' := fun _ => [oX10 q0 (.ref q1) u0_1 u0_2 u0_3 u0_4 (.ref q3) u0_6 (.ref q5) u0_8 u0_9 u0_10 u0_11 u0_12, oX9 q1 (.ref q2) (.int X9_empties), aC cy q2 80 v_text_signs, oX6 q3 (.ref q4) (.int j56_v_reader_waits) (.int j56_v_reader_depth) (.int j56_v_reader_compared) (.int j56_v_reader_digits) (.int j56_v_reader_hasThing), aI cy q4 40 j56_v_reader_waiting, oX5 q5 (.ref q6) u5_1 u5_2 (.int j56_v_spare_size), aI cy q6 40 j56_v_spare_code]) (st' := []) (rest := []) E hS vlX10_114 (c_X9_empties (l := l) (D := D) (cy := cy) (q0 := q1) (u0_0 := .ref q2) (v_size := v_text_size) (r := X9_empties) rfl) [1] rfl rfl (fun _ => rfl) (fun _ => rfl) rfl rfl rfl rfl (Nat.le_of_ble_eq_true rfl) hl.1 (by rw [hRf]; exact Nat.le_of_ble_eq_true rfl) (by rw [hRl]; exact Nat.le_of_ble_eq_true rfl) ⟨Nat.zero_le _, Nat.zero_le _⟩ dX10_readsSpare_61 rfl (fun H locs _ hS => ?_)
    refine lv_iload_n hx hb dX10_readsSpare_64 rfl (lv_at hl 0 rfl) ?_
    obtain rfl := Option.some.inj h
    exact rt_i E hQ (.null) hS dX10_readsSpare_65
  refine lv_if_ne (tgt := 31) hx hb dX10_readsSpare_7 (by decide) (fun c1 => ?_) (fun c1 => ?_)
  · have h := it_neg c1 h
    refine lv_aload_n hx hb dX10_readsSpare_31 rfl (lv_at hl 0 rfl) ?_
    refine r_get E frX10_43 hS 0 rfl rfl dX10_readsSpare_32 ?_
    refine lv_aload_n hx hb dX10_readsSpare_35 rfl (lv_at hl 0 rfl) ?_
    refine r_get E frX10_12 hS 0 rfl rfl dX10_readsSpare_36 ?_
    refine r_get E frX10_145 hS 1 rfl rfl dX10_readsSpare_39 ?_
    refine lv_aload_n hx hb dX10_readsSpare_42 rfl (lv_at hl 0 rfl) ?_
    refine r_get E frX10_12 hS 0 rfl rfl dX10_readsSpare_43 ?_
    refine r_get E frX10_101 hS 1 rfl rfl dX10_readsSpare_46 ?_
    refine lv_aload_n hx hb dX10_readsSpare_49 rfl (lv_at hl 0 rfl) ?_
    refine r_get E frX10_54 hS 0 rfl rfl dX10_readsSpare_50 ?_
    obtain ⟨y53, e2, h⟩ := bd_some h
    refine ct_VG (ws' := fun _ => [oX10 q0 (.ref q1) u0_1 u0_2 u0_3 u0_4 (.ref q3) u0_6 (.ref q5) u0_8 u0_9 u0_10 u0_11 u0_12, oX9 q1 (.ref q2) (.int v_text_size), aC cy q2 80 v_text_signs, oX6 q3 (.ref q4) (.int y53.2.1) (.int y53.2.2.1) (.int y53.2.2.2.1) (.int y53.2.2.2.2.1) (.int y53.2.2.2.2.2.1), aI cy q4 40 y53.2.2.2.2.2.2.1, oX5 q5 (.ref q6) u5_1 u5_2 (.int y53.2.2.2.2.2.2.2.1), aI cy q6 40 y53.2.2.2.2.2.2.2.2]) (st' := [.int y53.1]) (rest := []) E hG hS vlX10_93 (c_X6_faultIn (l := l) (g := g) (D := D) (cy := cy) (q0 := q3) (q1 := q4) (q2 := q2) (q3 := q5) (q4 := q6) (u3_1 := u5_1) (u3_2 := u5_2) (v_waits := v_reader_waits) (v_depth := v_reader_depth) (v_compared := v_reader_compared) (v_digits := v_reader_digits) (v_hasThing := v_reader_hasThing) (v_waiting := v_reader_waiting) (nw1_ := 80) (w1_ := v_text_signs) (w3_size := v_spare_size) (w3_code := v_spare_code) (p2 := v_text_size) (r := y53) e2) [3, 4, 2, 5, 6] rfl rfl (fun _ => rfl) (fun _ => rfl) (va_recv E.K hS.1 (ci := 6) (q0 := 3) rfl rfl) rfl rfl (Nat.le_of_ble_eq_true rfl) hl.1 (by rw [hRf]; exact Nat.le_of_ble_eq_true rfl) (by rw [hRl]; exact Nat.le_of_ble_eq_true rfl) ⟨Nat.zero_le _, Nat.zero_le _⟩ dX10_readsSpare_53 rfl (fun H locs _ hS => ?_)
    exact hJ56 y53.1 y53.2.1 y53.2.2.1 y53.2.2.2.1 y53.2.2.2.2.1 y53.2.2.2.2.2.1 y53.2.2.2.2.2.2.1 y53.2.2.2.2.2.2.2.1 y53.2.2.2.2.2.2.2.2  H locs ls h hS (lv_sub hl [0] rfl)
  · have h := it_pos c1 h
    refine lv_aload_n hx hb dX10_readsSpare_10 rfl (lv_at hl 0 rfl) ?_
    refine r_get E frX10_43 hS 0 rfl rfl dX10_readsSpare_11 ?_
    refine va_gets hx hb hG.1 hS.2.2 E.ow (E.ts _ wS_89) (fun _ h => h) dX10_readsSpare_14 ?_
    refine va_gets hx hb hG.1 hS.2.2 E.ow (E.ts _ wS_89) (fun _ h => h) dX10_readsSpare_17 ?_
    refine va_tlen (v := 5) hx hb hG.2.1 hS.2.2 rfl dX10_readsSpare_20 ?_
    refine lv_aload_n hx hb dX10_readsSpare_21 rfl (lv_at hl 0 rfl) ?_
    refine r_get E frX10_54 hS 0 rfl rfl dX10_readsSpare_22 ?_
    obtain ⟨y25, e3, h⟩ := bd_some h
    refine ct_VG (ws' := fun _ => [oX10 q0 (.ref q1) u0_1 u0_2 u0_3 u0_4 (.ref q3) u0_6 (.ref q5) u0_8 u0_9 u0_10 u0_11 u0_12, oX9 q1 (.ref q2) (.int v_text_size), aC cy q2 80 v_text_signs, oX6 q3 (.ref q4) (.int y25.2.1) (.int y25.2.2.1) (.int y25.2.2.2.1) (.int y25.2.2.2.2.1) (.int y25.2.2.2.2.2.1), aI cy q4 40 y25.2.2.2.2.2.2.1, oX5 q5 (.ref q6) u5_1 u5_2 (.int y25.2.2.2.2.2.2.2.1), aI cy q6 40 y25.2.2.2.2.2.2.2.2]) (st' := [.int y25.1]) (rest := []) E hG hS vlX10_93 (c_X6_faultInU (l := l) (g := g) (D := D) (cy := cy) (q0 := q3) (q1 := q4) (q2 := q5) (q3 := q6) (u2_1 := u5_1) (u2_2 := u5_2) (v_waits := v_reader_waits) (v_depth := v_reader_depth) (v_compared := v_reader_compared) (v_digits := v_reader_digits) (v_hasThing := v_reader_hasThing) (v_waiting := v_reader_waiting) (w3_size := v_spare_size) (w3_code := v_spare_code) (p2 := (5 : Int32)) (r := y25) e3) [3, 4, 5, 6] rfl rfl (fun _ => rfl) (fun _ => rfl) (va_recv E.K hS.1 (ci := 6) (q0 := 3) rfl rfl) rfl rfl (Nat.le_of_ble_eq_true rfl) hl.1 (by rw [hRf]; exact Nat.le_of_ble_eq_true rfl) (by rw [hRl]; exact Nat.le_of_ble_eq_true rfl) ⟨Nat.zero_le _, Nat.zero_le _⟩ dX10_readsSpare_25 rfl (fun H locs _ hS => ?_)
    refine lv_goto (tgt := 56) hx hb dX10_readsSpare_28 (by decide) ?_
    exact hJ56 y25.1 y25.2.1 y25.2.2.1 y25.2.2.2.1 y25.2.2.2.2.1 y25.2.2.2.2.2.1 y25.2.2.2.2.2.2.1 y25.2.2.2.2.2.2.2.1 y25.2.2.2.2.2.2.2.2  H locs ls h hS (lv_sub hl [0] rfl)
set_option maxHeartbeats 4000000 in
set_option maxRecDepth 100000 in
theorem c_X10_law {l : Launch} {g : Gt} {D : va_G} {cy : Nat → ClassId} (q0 : Nat) (q1 : Nat) (q2 : Nat) (q3 : Nat) (q4 : Nat) (q5 : Nat) (q6 : Nat) (q7 : Nat) (q8 : Nat) (q9 : Nat) (q10 : Nat) (q11 : Nat) (q12 : Nat) (q13 : Nat) (q14 : Nat) (q15 : Nat) (q16 : Nat) (q17 : Nat) (q18 : Nat) (q19 : Nat) (u0_3 : Value) (u0_4 : Value) (u0_8 : Value) (u0_9 : Value) (u0_10 : Value) (u0_11 : Value) (u0_12 : Value) (u5_3 : Value) (u5_7 : Value) (v_text_size : Int32) (v_text_signs : Nat → Int32) (v_told_size : Int32) (v_told_number : Nat → Int64) (v_folk_number : Int32) (v_folk_day : Int32) (v_folk_skill : Nat → Int32) (v_folk_pills : Nat → Int32) (v_folk_slept : Nat → Int32) (v_folk_wanted : Nat → Int32) (v_reader_waits : Int32) (v_reader_depth : Int32) (v_reader_compared : Int32) (v_reader_digits : Int32) (v_reader_hasThing : Int32) (v_reader_waiting : Nat → Int32) (v_inForce_size : Int32) (v_inForce_code : Nat → Int32) (v_inForce_stack : Nat → Int32) (v_inForce_thing : Nat → Int32) (v_spare_size : Int32) (v_spare_code : Nat → Int32) (v_spare_stack : Nat → Int32) (v_spare_thing : Nat → Int32) (r : Int32 × Int32 × Int32 × (Nat → Int64) × Int32 × Int32 × Int32 × Int32 × Int32 × (Nat → Int32) × (Nat → Int32) × (Nat → Int32) × Int32 × (Nat → Int32) × (Nat → Int32) × (Nat → Int32)) (h : X10_law v_text_size v_text_signs v_told_size v_told_number v_folk_number v_folk_day v_folk_skill v_folk_pills v_folk_slept v_folk_wanted v_reader_waiting v_inForce_size v_inForce_code v_inForce_stack v_inForce_thing v_spare_code v_spare_stack v_spare_thing = some r) : Cg l yX10_law cX10_law 5 (some .int) 7 161 D cy g [.ref q0] [oX10 q0 (.ref q1) (.ref q3) (.ref q5) u0_3 u0_4 (.ref q10) (.ref q12) (.ref q16) u0_8 u0_9 u0_10 u0_11 u0_12, oX9 q1 (.ref q2) (.int v_text_size), aC cy q2 80 v_text_signs, oX2 q3 (.ref q4) (.int v_told_size), aJ cy q4 16 v_told_number, oX0 q5 (.ref q6) (.ref q7) (.ref q8) u5_3 (.ref q9) (.int v_folk_number) (.int v_folk_day) u5_7, aI cy q6 7 v_folk_skill, aI cy q7 7 v_folk_pills, aI cy q8 7 v_folk_slept, aI cy q9 7 v_folk_wanted, oX6 q10 (.ref q11) (.int v_reader_waits) (.int v_reader_depth) (.int v_reader_compared) (.int v_reader_digits) (.int v_reader_hasThing), aI cy q11 40 v_reader_waiting, oX5 q12 (.ref q13) (.ref q14) (.ref q15) (.int v_inForce_size), aI cy q13 40 v_inForce_code, aI cy q14 40 v_inForce_stack, aI cy q15 7 v_inForce_thing, oX5 q16 (.ref q17) (.ref q18) (.ref q19) (.int v_spare_size), aI cy q17 40 v_spare_code, aI cy q18 40 v_spare_stack, aI cy q19 7 v_spare_thing] (fun _ => [oX10 q0 (.ref q1) (.ref q3) (.ref q5) u0_3 u0_4 (.ref q10) (.ref q12) (.ref q16) u0_8 u0_9 u0_10 u0_11 u0_12, oX9 q1 (.ref q2) (.int r.2.1), aC cy q2 80 v_text_signs, oX2 q3 (.ref q4) (.int r.2.2.1), aJ cy q4 16 r.2.2.2.1, oX0 q5 (.ref q6) (.ref q7) (.ref q8) u5_3 (.ref q9) (.int v_folk_number) (.int v_folk_day) u5_7, aI cy q6 7 v_folk_skill, aI cy q7 7 v_folk_pills, aI cy q8 7 v_folk_slept, aI cy q9 7 v_folk_wanted, oX6 q10 (.ref q11) (.int r.2.2.2.2.1) (.int r.2.2.2.2.2.1) (.int r.2.2.2.2.2.2.1) (.int r.2.2.2.2.2.2.2.1) (.int r.2.2.2.2.2.2.2.2.1), aI cy q11 40 r.2.2.2.2.2.2.2.2.2.1, oX5 q12 (.ref q13) (.ref q14) (.ref q15) (.int v_inForce_size), aI cy q13 40 v_inForce_code, aI cy q14 40 r.2.2.2.2.2.2.2.2.2.2.1, aI cy q15 7 r.2.2.2.2.2.2.2.2.2.2.2.1, oX5 q16 (.ref q17) (.ref q18) (.ref q19) (.int r.2.2.2.2.2.2.2.2.2.2.2.2.1), aI cy q17 40 r.2.2.2.2.2.2.2.2.2.2.2.2.2.1, aI cy q18 40 r.2.2.2.2.2.2.2.2.2.2.2.2.2.2.1, aI cy q19 7 r.2.2.2.2.2.2.2.2.2.2.2.2.2.2.2]) (some (.int r.1)) := by
  refine Cg.mk kX10_law (by decide +kernel) (Nat.le_of_ble_eq_true rfl) ?_
  intro p e s m below meth c A ls args R Q hRf hRl hQ hG E H locs hS hl
  have hx := E.x
  have hb := E.b
  have hl : lv_has ls 5 [(0, .ref q0)] := hl
  unfold X10_law at h
  refine lv_aload_n hx hb dX10_law_0 rfl (lv_at hl 0 rfl) ?_
  obtain ⟨y1, e1, h⟩ := bd_some h
  refine ct_VG (ws' := fun _ => [oX10 q0 (.ref q1) (.ref q3) (.ref q5) u0_3 u0_4 (.ref q10) (.ref q12) (.ref q16) u0_8 u0_9 u0_10 u0_11 u0_12, oX9 q1 (.ref q2) (.int y1.2.1), aC cy q2 80 v_text_signs, oX2 q3 (.ref q4) (.int v_told_size), aJ cy q4 16 v_told_number, oX0 q5 (.ref q6) (.ref q7) (.ref q8) u5_3 (.ref q9) (.int v_folk_number) (.int v_folk_day) u5_7, aI cy q6 7 v_folk_skill, aI cy q7 7 v_folk_pills, aI cy q8 7 v_folk_slept, aI cy q9 7 v_folk_wanted, oX6 q10 (.ref q11) (.int y1.2.2.1) (.int y1.2.2.2.1) (.int y1.2.2.2.2.1) (.int y1.2.2.2.2.2.1) (.int y1.2.2.2.2.2.2.1), aI cy q11 40 y1.2.2.2.2.2.2.2.1, oX5 q12 (.ref q13) (.ref q14) (.ref q15) (.int v_inForce_size), aI cy q13 40 v_inForce_code, aI cy q14 40 v_inForce_stack, aI cy q15 7 v_inForce_thing, oX5 q16 (.ref q17) (.ref q18) (.ref q19) (.int y1.2.2.2.2.2.2.2.2.1), aI cy q17 40 y1.2.2.2.2.2.2.2.2.2, aI cy q18 40 v_spare_stack, aI cy q19 7 v_spare_thing]) (st' := [.int y1.1]) (rest := []) E hG hS vlX10_141 (c_X10_readsSpare (l := l) (g := g) (D := D) (cy := cy) (q0 := q0) (q1 := q1) (q2 := q2) (q3 := q10) (q4 := q11) (q5 := q16) (q6 := q17) (u0_1 := .ref q3) (u0_2 := .ref q5) (u0_3 := u0_3) (u0_4 := u0_4) (u0_6 := .ref q12) (u0_8 := u0_8) (u0_9 := u0_9) (u0_10 := u0_10) (u0_11 := u0_11) (u0_12 := u0_12) (u5_1 := .ref q18) (u5_2 := .ref q19) (v_text_size := v_text_size) (v_text_signs := v_text_signs) (v_reader_waits := v_reader_waits) (v_reader_depth := v_reader_depth) (v_reader_compared := v_reader_compared) (v_reader_digits := v_reader_digits) (v_reader_hasThing := v_reader_hasThing) (v_reader_waiting := v_reader_waiting) (v_spare_size := v_spare_size) (v_spare_code := v_spare_code) (r := y1) e1) [0, 1, 2, 10, 11, 16, 17] rfl rfl (fun _ => rfl) (fun _ => rfl) (va_recv E.K hS.1 (ci := 10) (q0 := 0) rfl rfl) rfl rfl (Nat.le_of_ble_eq_true rfl) hl.1 (by rw [hRf]; exact Nat.le_of_ble_eq_true rfl) (by rw [hRl]; exact Nat.le_of_ble_eq_true rfl) ⟨Nat.zero_le _, Nat.zero_le _⟩ dX10_law_1 rfl (fun H locs _ hS => ?_)
  refine lv_istore_n (lv' := [(1, .int y1.1), (0, .ref q0)]) hx hb dX10_law_4 rfl hl (by decide) rfl (fun ls hl => ?_)
  refine lv_iload_n hx hb dX10_law_5 rfl (lv_at hl 0 rfl) ?_
  refine lv_if_lt (tgt := 15) hx hb dX10_law_6 (by decide) (fun c2 => ?_) (fun c2 => ?_)
  · have h := it_pos c2 h
    refine lv_aload_n hx hb dX10_law_15 rfl (lv_at hl 1 rfl) ?_
    refine r_get E frX10_54 hS 0 rfl rfl dX10_law_16 ?_
    refine lv_aload_n hx hb dX10_law_19 rfl (lv_at hl 1 rfl) ?_
    refine r_get E frX10_26 hS 0 rfl rfl dX10_law_20 ?_
    obtain ⟨y23, e3, h⟩ := bd_some h
    refine ct_V (ws' := fun _ => [oX10 q0 (.ref q1) (.ref q3) (.ref q5) u0_3 u0_4 (.ref q10) (.ref q12) (.ref q16) u0_8 u0_9 u0_10 u0_11 u0_12, oX9 q1 (.ref q2) (.int y1.2.1), aC cy q2 80 v_text_signs, oX2 q3 (.ref q4) (.int v_told_size), aJ cy q4 16 v_told_number, oX0 q5 (.ref q6) (.ref q7) (.ref q8) u5_3 (.ref q9) (.int v_folk_number) (.int v_folk_day) u5_7, aI cy q6 7 v_folk_skill, aI cy q7 7 v_folk_pills, aI cy q8 7 v_folk_slept, aI cy q9 7 v_folk_wanted, oX6 q10 (.ref q11) (.int y1.2.2.1) (.int y1.2.2.2.1) (.int y1.2.2.2.2.1) (.int y1.2.2.2.2.2.1) (.int y1.2.2.2.2.2.2.1), aI cy q11 40 y1.2.2.2.2.2.2.2.1, oX5 q12 (.ref q13) (.ref q14) (.ref q15) (.int v_inForce_size), aI cy q13 40 v_inForce_code, aI cy q14 40 v_inForce_stack, aI cy q15 7 v_inForce_thing, oX5 q16 (.ref q17) (.ref q18) (.ref q19) (.int y1.2.2.2.2.2.2.2.2.1), aI cy q17 40 y1.2.2.2.2.2.2.2.2.2, aI cy q18 40 y23.2.1, aI cy q19 7 y23.2.2]) (st' := [.int y23.1]) (rest := []) E hS vlX10_234 (c_X5_wakers (l := l) (D := D) (cy := cy) (q0 := q16) (q1 := q17) (q2 := q18) (q3 := q19) (q4 := q5) (q5 := q6) (q6 := q7) (q7 := q8) (q8 := q9) (u4_3 := u5_3) (u4_7 := u5_7) (v_size := y1.2.2.2.2.2.2.2.2.1) (v_code := y1.2.2.2.2.2.2.2.2.2) (v_stack := v_spare_stack) (v_thing := v_spare_thing) (w1_number := v_folk_number) (w1_day := v_folk_day) (w1_skill := v_folk_skill) (w1_pills := v_folk_pills) (w1_slept := v_folk_slept) (w1_wanted := v_folk_wanted) (r := y23) e3) [16, 17, 18, 19, 5, 6, 7, 8, 9] rfl rfl (fun _ => rfl) (fun _ => rfl) rfl rfl rfl rfl (Nat.le_of_ble_eq_true rfl) hl.1 (by rw [hRf]; exact Nat.le_of_ble_eq_true rfl) (by rw [hRl]; exact Nat.le_of_ble_eq_true rfl) ⟨Nat.zero_le _, Nat.zero_le _⟩ dX10_law_23 rfl (fun H locs _ hS => ?_)
    refine ct_S (ws' := fun _ => [oX10 q0 (.ref q1) (.ref q3) (.ref q5) u0_3 u0_4 (.ref q10) (.ref q12) (.ref q16) u0_8 u0_9 u0_10 u0_11 u0_12, oX9 q1 (.ref q2) (.int y1.2.1), aC cy q2 80 v_text_signs, oX2 q3 (.ref q4) (.int v_told_size), aJ cy q4 16 v_told_number, oX0 q5 (.ref q6) (.ref q7) (.ref q8) u5_3 (.ref q9) (.int v_folk_number) (.int v_folk_day) u5_7, aI cy q6 7 v_folk_skill, aI cy q7 7 v_folk_pills, aI cy q8 7 v_folk_slept, aI cy q9 7 v_folk_wanted, oX6 q10 (.ref q11) (.int y1.2.2.1) (.int y1.2.2.2.1) (.int y1.2.2.2.2.1) (.int y1.2.2.2.2.2.1) (.int y1.2.2.2.2.2.2.1), aI cy q11 40 y1.2.2.2.2.2.2.2.1, oX5 q12 (.ref q13) (.ref q14) (.ref q15) (.int v_inForce_size), aI cy q13 40 v_inForce_code, aI cy q14 40 v_inForce_stack, aI cy q15 7 v_inForce_thing, oX5 q16 (.ref q17) (.ref q18) (.ref q19) (.int y1.2.2.2.2.2.2.2.2.1), aI cy q17 40 y1.2.2.2.2.2.2.2.2.2, aI cy q18 40 y23.2.1, aI cy q19 7 y23.2.2]) (st' := [.int (J6_bitCount_0f7a4 y23.1)]) (rest := []) E hS slX10_241 (c_J6_bitCount_0f7a4 (l := l) (D := D) (cy := cy) (p0 := y23.1) (r := (J6_bitCount_0f7a4 y23.1)) rfl) [] rfl rfl (fun _ => rfl) (fun _ => rfl) rfl rfl (Nat.le_of_ble_eq_true rfl) hl.1 (by rw [hRf]; exact Nat.le_of_ble_eq_true rfl) (by rw [hRl]; exact Nat.le_of_ble_eq_true rfl) ⟨Nat.zero_le _, Nat.zero_le _⟩ dX10_law_26 rfl (fun H locs _ hS => ?_)
    refine lv_istore_n (lv' := [(2, .int (J6_bitCount_0f7a4 y23.1)), (1, .int y1.1), (0, .ref q0)]) hx hb dX10_law_29 rfl hl (by decide) rfl (fun ls hl => ?_)
    refine lv_aload_n hx hb dX10_law_30 rfl (lv_at hl 2 rfl) ?_
    refine r_get E frX10_50 hS 0 rfl rfl dX10_law_31 ?_
    refine lv_aload_n hx hb dX10_law_34 rfl (lv_at hl 2 rfl) ?_
    refine r_get E frX10_26 hS 0 rfl rfl dX10_law_35 ?_
    obtain ⟨y38, e4, h⟩ := bd_some h
    refine ct_V (ws' := fun _ => [oX10 q0 (.ref q1) (.ref q3) (.ref q5) u0_3 u0_4 (.ref q10) (.ref q12) (.ref q16) u0_8 u0_9 u0_10 u0_11 u0_12, oX9 q1 (.ref q2) (.int y1.2.1), aC cy q2 80 v_text_signs, oX2 q3 (.ref q4) (.int v_told_size), aJ cy q4 16 v_told_number, oX0 q5 (.ref q6) (.ref q7) (.ref q8) u5_3 (.ref q9) (.int v_folk_number) (.int v_folk_day) u5_7, aI cy q6 7 v_folk_skill, aI cy q7 7 v_folk_pills, aI cy q8 7 v_folk_slept, aI cy q9 7 v_folk_wanted, oX6 q10 (.ref q11) (.int y1.2.2.1) (.int y1.2.2.2.1) (.int y1.2.2.2.2.1) (.int y1.2.2.2.2.2.1) (.int y1.2.2.2.2.2.2.1), aI cy q11 40 y1.2.2.2.2.2.2.2.1, oX5 q12 (.ref q13) (.ref q14) (.ref q15) (.int v_inForce_size), aI cy q13 40 v_inForce_code, aI cy q14 40 y38.2.1, aI cy q15 7 y38.2.2, oX5 q16 (.ref q17) (.ref q18) (.ref q19) (.int y1.2.2.2.2.2.2.2.2.1), aI cy q17 40 y1.2.2.2.2.2.2.2.2.2, aI cy q18 40 y23.2.1, aI cy q19 7 y23.2.2]) (st' := [.int y38.1]) (rest := []) E hS vlX10_234 (c_X5_wakers (l := l) (D := D) (cy := cy) (q0 := q12) (q1 := q13) (q2 := q14) (q3 := q15) (q4 := q5) (q5 := q6) (q6 := q7) (q7 := q8) (q8 := q9) (u4_3 := u5_3) (u4_7 := u5_7) (v_size := v_inForce_size) (v_code := v_inForce_code) (v_stack := v_inForce_stack) (v_thing := v_inForce_thing) (w1_number := v_folk_number) (w1_day := v_folk_day) (w1_skill := v_folk_skill) (w1_pills := v_folk_pills) (w1_slept := v_folk_slept) (w1_wanted := v_folk_wanted) (r := y38) e4) [12, 13, 14, 15, 5, 6, 7, 8, 9] rfl rfl (fun _ => rfl) (fun _ => rfl) rfl rfl rfl rfl (Nat.le_of_ble_eq_true rfl) hl.1 (by rw [hRf]; exact Nat.le_of_ble_eq_true rfl) (by rw [hRl]; exact Nat.le_of_ble_eq_true rfl) ⟨Nat.zero_le _, Nat.zero_le _⟩ dX10_law_38 rfl (fun H locs _ hS => ?_)
    refine ct_S (ws' := fun _ => [oX10 q0 (.ref q1) (.ref q3) (.ref q5) u0_3 u0_4 (.ref q10) (.ref q12) (.ref q16) u0_8 u0_9 u0_10 u0_11 u0_12, oX9 q1 (.ref q2) (.int y1.2.1), aC cy q2 80 v_text_signs, oX2 q3 (.ref q4) (.int v_told_size), aJ cy q4 16 v_told_number, oX0 q5 (.ref q6) (.ref q7) (.ref q8) u5_3 (.ref q9) (.int v_folk_number) (.int v_folk_day) u5_7, aI cy q6 7 v_folk_skill, aI cy q7 7 v_folk_pills, aI cy q8 7 v_folk_slept, aI cy q9 7 v_folk_wanted, oX6 q10 (.ref q11) (.int y1.2.2.1) (.int y1.2.2.2.1) (.int y1.2.2.2.2.1) (.int y1.2.2.2.2.2.1) (.int y1.2.2.2.2.2.2.1), aI cy q11 40 y1.2.2.2.2.2.2.2.1, oX5 q12 (.ref q13) (.ref q14) (.ref q15) (.int v_inForce_size), aI cy q13 40 v_inForce_code, aI cy q14 40 y38.2.1, aI cy q15 7 y38.2.2, oX5 q16 (.ref q17) (.ref q18) (.ref q19) (.int y1.2.2.2.2.2.2.2.2.1), aI cy q17 40 y1.2.2.2.2.2.2.2.2.2, aI cy q18 40 y23.2.1, aI cy q19 7 y23.2.2]) (st' := [.int (J6_bitCount_0f7a4 y38.1)]) (rest := []) E hS slX10_241 (c_J6_bitCount_0f7a4 (l := l) (D := D) (cy := cy) (p0 := y38.1) (r := (J6_bitCount_0f7a4 y38.1)) rfl) [] rfl rfl (fun _ => rfl) (fun _ => rfl) rfl rfl (Nat.le_of_ble_eq_true rfl) hl.1 (by rw [hRf]; exact Nat.le_of_ble_eq_true rfl) (by rw [hRl]; exact Nat.le_of_ble_eq_true rfl) ⟨Nat.zero_le _, Nat.zero_le _⟩ dX10_law_41 rfl (fun H locs _ hS => ?_)
    refine lv_istore_n (lv' := [(3, .int (J6_bitCount_0f7a4 y38.1)), (2, .int (J6_bitCount_0f7a4 y23.1)), (1, .int y1.1), (0, .ref q0)]) hx hb dX10_law_44 rfl hl (by decide) rfl (fun ls hl => ?_)
    refine lv_aload_n hx hb dX10_law_45 rfl (lv_at hl 3 rfl) ?_
    refine r_get E frX10_19 hS 0 rfl rfl dX10_law_46 ?_
    refine lv_iload_n hx hb dX10_law_49 rfl (lv_at hl 1 rfl) ?_
    refine lv_i2l (v := ((J6_bitCount_0f7a4 y23.1).toInt64)) hx hb dX10_law_50 rfl ?_
    refine lv_iload_n hx hb dX10_law_51 rfl (lv_at hl 0 rfl) ?_
    refine lv_i2l (v := ((J6_bitCount_0f7a4 y38.1).toInt64)) hx hb dX10_law_52 rfl ?_
    obtain ⟨y53, e5, h⟩ := bd_some h
    refine ct_V (ws' := fun _ => [oX10 q0 (.ref q1) (.ref q3) (.ref q5) u0_3 u0_4 (.ref q10) (.ref q12) (.ref q16) u0_8 u0_9 u0_10 u0_11 u0_12, oX9 q1 (.ref q2) (.int y1.2.1), aC cy q2 80 v_text_signs, oX2 q3 (.ref q4) (.int y53.1), aJ cy q4 16 y53.2, oX0 q5 (.ref q6) (.ref q7) (.ref q8) u5_3 (.ref q9) (.int v_folk_number) (.int v_folk_day) u5_7, aI cy q6 7 v_folk_skill, aI cy q7 7 v_folk_pills, aI cy q8 7 v_folk_slept, aI cy q9 7 v_folk_wanted, oX6 q10 (.ref q11) (.int y1.2.2.1) (.int y1.2.2.2.1) (.int y1.2.2.2.2.1) (.int y1.2.2.2.2.2.1) (.int y1.2.2.2.2.2.2.1), aI cy q11 40 y1.2.2.2.2.2.2.2.1, oX5 q12 (.ref q13) (.ref q14) (.ref q15) (.int v_inForce_size), aI cy q13 40 v_inForce_code, aI cy q14 40 y38.2.1, aI cy q15 7 y38.2.2, oX5 q16 (.ref q17) (.ref q18) (.ref q19) (.int y1.2.2.2.2.2.2.2.2.1), aI cy q17 40 y1.2.2.2.2.2.2.2.2.2, aI cy q18 40 y23.2.1, aI cy q19 7 y23.2.2]) (st' := []) (rest := []) E hS vlX10_199 (c_X2_tellsBoth (l := l) (D := D) (cy := cy) (q0 := q3) (q1 := q4) (v_size := v_told_size) (v_number := v_told_number) (p1 := ((J6_bitCount_0f7a4 y23.1).toInt64)) (p3 := ((J6_bitCount_0f7a4 y38.1).toInt64)) (r := y53) e5) [3, 4] rfl rfl (fun _ => rfl) (fun _ => rfl) rfl rfl rfl rfl (Nat.le_of_ble_eq_true rfl) hl.1 (by rw [hRf]; exact Nat.le_of_ble_eq_true rfl) (by rw [hRl]; exact Nat.le_of_ble_eq_true rfl) ⟨Nat.zero_le _, Nat.zero_le _⟩ dX10_law_53 rfl (fun H locs _ hS => ?_)
    refine lv_iconst (v := 0) hx hb dX10_law_56 (by decide) ?_
    refine lv_istore (lv' := [(4, .int (0 : Int32)), (3, .int (J6_bitCount_0f7a4 y38.1)), (2, .int (J6_bitCount_0f7a4 y23.1)), (1, .int y1.1), (0, .ref q0)]) hx hb dX10_law_57 hl (by decide) rfl (fun ls hl => ?_)
    have hL59 : ∀ (n : Nat) (x59_0 : Int32) (x59_1 : Int32) (x59_2 : Nat → Int64) (x59_3 : Nat → Int32) (x59_4 : Nat → Int32) (y59 : Int32 × (Nat → Int64) × (Nat → Int32) × (Nat → Int32)) (H : Heap) (locs : List Loc) (ls : Array Slot), lp (fun x59 => X10_law_s59 v_folk_number v_folk_day v_folk_skill v_folk_slept v_folk_wanted y1 x59.1 x59.2.1 x59.2.2.1 x59.2.2.2.1 x59.2.2.2.2) n (x59_0, x59_1, x59_2, x59_3, x59_4) = some y59 → Sv D A s.heap [oX10 q0 (.ref q1) (.ref q3) (.ref q5) u0_3 u0_4 (.ref q10) (.ref q12) (.ref q16) u0_8 u0_9 u0_10 u0_11 u0_12, oX9 q1 (.ref q2) (.int y1.2.1), aC cy q2 80 v_text_signs, oX2 q3 (.ref q4) (.int x59_1), aJ cy q4 16 x59_2, oX0 q5 (.ref q6) (.ref q7) (.ref q8) u5_3 (.ref q9) (.int v_folk_number) (.int v_folk_day) u5_7, aI cy q6 7 v_folk_skill, aI cy q7 7 v_folk_pills, aI cy q8 7 v_folk_slept, aI cy q9 7 v_folk_wanted, oX6 q10 (.ref q11) (.int y1.2.2.1) (.int y1.2.2.2.1) (.int y1.2.2.2.2.1) (.int y1.2.2.2.2.2.1) (.int y1.2.2.2.2.2.2.1), aI cy q11 40 y1.2.2.2.2.2.2.2.1, oX5 q12 (.ref q13) (.ref q14) (.ref q15) (.int v_inForce_size), aI cy q13 40 v_inForce_code, aI cy q14 40 y38.2.1, aI cy q15 7 y38.2.2, oX5 q16 (.ref q17) (.ref q18) (.ref q19) (.int y1.2.2.2.2.2.2.2.2.1), aI cy q17 40 y1.2.2.2.2.2.2.2.2.2, aI cy q18 40 x59_3, aI cy q19 7 x59_4] H locs → lv_has ls 5 [(0, .ref q0), (2, .int (J6_bitCount_0f7a4 y23.1)), (3, .int (J6_bitCount_0f7a4 y38.1)), (4, .int x59_0)] → ( ∀ (y59_0 : Int32) (y59_1 : Nat → Int64) (y59_2 : Nat → Int32) (y59_3 : Nat → Int32), (y59_0, y59_1, y59_2, y59_3) = y59 → ∀ (H : Heap) (locs : List Loc) (ls : Array Slot), Sv D A s.heap [oX10 q0 (.ref q1) (.ref q3) (.ref q5) u0_3 u0_4 (.ref q10) (.ref q12) (.ref q16) u0_8 u0_9 u0_10 u0_11 u0_12, oX9 q1 (.ref q2) (.int y1.2.1), aC cy q2 80 v_text_signs, oX2 q3 (.ref q4) (.int y59_0), aJ cy q4 16 y59_1, oX0 q5 (.ref q6) (.ref q7) (.ref q8) u5_3 (.ref q9) (.int v_folk_number) (.int v_folk_day) u5_7, aI cy q6 7 v_folk_skill, aI cy q7 7 v_folk_pills, aI cy q8 7 v_folk_slept, aI cy q9 7 v_folk_wanted, oX6 q10 (.ref q11) (.int y1.2.2.1) (.int y1.2.2.2.1) (.int y1.2.2.2.2.1) (.int y1.2.2.2.2.2.1) (.int y1.2.2.2.2.2.2.1), aI cy q11 40 y1.2.2.2.2.2.2.2.1, oX5 q12 (.ref q13) (.ref q14) (.ref q15) (.int v_inForce_size), aI cy q13 40 v_inForce_code, aI cy q14 40 y38.2.1, aI cy q15 7 y38.2.2, oX5 q16 (.ref q17) (.ref q18) (.ref q19) (.int y1.2.2.2.2.2.2.2.2.1), aI cy q17 40 y1.2.2.2.2.2.2.2.2.2, aI cy q18 40 y59_2, aI cy q19 7 y59_3] H locs → lv_has ls 5 [(2, .int (J6_bitCount_0f7a4 y23.1)), (3, .int (J6_bitCount_0f7a4 y38.1))] → W p l e R s m args below meth c H locs 0 0 Q (F0 m 107 ls [])) → W p l e R s m args below meth c H locs 0 0 Q (F0 m 59 ls []) := by
      intro n
      induction n with
      | zero =>
        intro x59_0 x59_1 x59_2 x59_3 x59_4 y59 H locs ls h
        exact lp_zero h
      | succ n ih59 =>
        intro x59_0 x59_1 x59_2 x59_3 x59_4 y59 H locs ls h hS hl hk59_0
        obtain ⟨z59, h, hz59a, hz59b⟩ := lp_succ h
        have h : X10_law_s59 v_folk_number v_folk_day v_folk_skill v_folk_slept v_folk_wanted y1 x59_0 x59_1 x59_2 x59_3 x59_4 = some z59 := h
        unfold X10_law_s59 at h
        refine lv_iload hx hb dX10_law_59 (lv_at hl 3 rfl) ?_
        refine lv_aload_n hx hb dX10_law_61 rfl (lv_at hl 0 rfl) ?_
        refine r_get E frX10_26 hS 0 rfl rfl dX10_law_62 ?_
        refine r_get E frX10_107 hS 5 rfl rfl dX10_law_65 ?_
        refine lv_icmp_ge (tgt := 107) hx hb dX10_law_68 (by decide) (fun c6 => ?_) (fun c6 => ?_)
        · have h := it_pos c6 h
          exact hk59_0 x59_1 x59_2 x59_3 x59_4 (hz59b _ (Option.some.inj h).symm)  H locs ls hS (lv_sub hl [1, 2] rfl)
        · have h := it_neg c6 h
          refine lv_aload_n hx hb dX10_law_71 rfl (lv_at hl 0 rfl) ?_
          refine r_get E frX10_19 hS 0 rfl rfl dX10_law_72 ?_
          refine lv_aload_n hx hb dX10_law_75 rfl (lv_at hl 0 rfl) ?_
          refine r_get E frX10_54 hS 0 rfl rfl dX10_law_76 ?_
          refine lv_aload_n hx hb dX10_law_79 rfl (lv_at hl 0 rfl) ?_
          refine r_get E frX10_26 hS 0 rfl rfl dX10_law_80 ?_
          refine lv_iload hx hb dX10_law_83 (lv_at hl 3 rfl) ?_
          refine lv_aload_n hx hb dX10_law_85 rfl (lv_at hl 0 rfl) ?_
          refine r_get E frX10_26 hS 0 rfl rfl dX10_law_86 ?_
          refine lv_iload hx hb dX10_law_89 (lv_at hl 3 rfl) ?_
          obtain ⟨y91, e7, h⟩ := bd_some h
          refine ct_V (ws' := fun _ => [oX10 q0 (.ref q1) (.ref q3) (.ref q5) u0_3 u0_4 (.ref q10) (.ref q12) (.ref q16) u0_8 u0_9 u0_10 u0_11 u0_12, oX9 q1 (.ref q2) (.int y1.2.1), aC cy q2 80 v_text_signs, oX2 q3 (.ref q4) (.int x59_1), aJ cy q4 16 x59_2, oX0 q5 (.ref q6) (.ref q7) (.ref q8) u5_3 (.ref q9) (.int v_folk_number) (.int v_folk_day) u5_7, aI cy q6 7 v_folk_skill, aI cy q7 7 v_folk_pills, aI cy q8 7 v_folk_slept, aI cy q9 7 v_folk_wanted, oX6 q10 (.ref q11) (.int y1.2.2.1) (.int y1.2.2.2.1) (.int y1.2.2.2.2.1) (.int y1.2.2.2.2.2.1) (.int y1.2.2.2.2.2.2.1), aI cy q11 40 y1.2.2.2.2.2.2.2.1, oX5 q12 (.ref q13) (.ref q14) (.ref q15) (.int v_inForce_size), aI cy q13 40 v_inForce_code, aI cy q14 40 y38.2.1, aI cy q15 7 y38.2.2, oX5 q16 (.ref q17) (.ref q18) (.ref q19) (.int y1.2.2.2.2.2.2.2.2.1), aI cy q17 40 y1.2.2.2.2.2.2.2.2.2, aI cy q18 40 x59_3, aI cy q19 7 x59_4]) (st' := [.int y91, .int x59_0, .ref q5, .ref q16, .ref q3]) (rest := [.int x59_0, .ref q5, .ref q16, .ref q3]) E hS vlX10_170 (c_X0_wanting (l := l) (D := D) (cy := cy) (q0 := q5) (q1 := q9) (u0_0 := .ref q6) (u0_1 := .ref q7) (u0_2 := .ref q8) (u0_3 := u5_3) (u0_6 := .int v_folk_day) (u0_7 := u5_7) (v_number := v_folk_number) (v_wanted := v_folk_wanted) (p1 := x59_0) (r := y91) e7) [5, 9] rfl rfl (fun _ => rfl) (fun _ => rfl) rfl rfl rfl rfl (Nat.le_of_ble_eq_true rfl) hl.1 (by rw [hRf]; exact Nat.le_of_ble_eq_true rfl) (by rw [hRl]; exact Nat.le_of_ble_eq_true rfl) ⟨Nat.zero_le _, Nat.zero_le _⟩ dX10_law_91 rfl (fun H locs _ hS => ?_)
          obtain ⟨y94, e8, h⟩ := bd_some h
          refine ct_V (ws' := fun _ => [oX10 q0 (.ref q1) (.ref q3) (.ref q5) u0_3 u0_4 (.ref q10) (.ref q12) (.ref q16) u0_8 u0_9 u0_10 u0_11 u0_12, oX9 q1 (.ref q2) (.int y1.2.1), aC cy q2 80 v_text_signs, oX2 q3 (.ref q4) (.int x59_1), aJ cy q4 16 x59_2, oX0 q5 (.ref q6) (.ref q7) (.ref q8) u5_3 (.ref q9) (.int v_folk_number) (.int v_folk_day) u5_7, aI cy q6 7 v_folk_skill, aI cy q7 7 v_folk_pills, aI cy q8 7 v_folk_slept, aI cy q9 7 v_folk_wanted, oX6 q10 (.ref q11) (.int y1.2.2.1) (.int y1.2.2.2.1) (.int y1.2.2.2.2.1) (.int y1.2.2.2.2.2.1) (.int y1.2.2.2.2.2.2.1), aI cy q11 40 y1.2.2.2.2.2.2.2.1, oX5 q12 (.ref q13) (.ref q14) (.ref q15) (.int v_inForce_size), aI cy q13 40 v_inForce_code, aI cy q14 40 y38.2.1, aI cy q15 7 y38.2.2, oX5 q16 (.ref q17) (.ref q18) (.ref q19) (.int y1.2.2.2.2.2.2.2.2.1), aI cy q17 40 y1.2.2.2.2.2.2.2.2.2, aI cy q18 40 y94.2.1, aI cy q19 7 y94.2.2]) (st' := [.int y94.1, .ref q3]) (rest := [.ref q3]) E hS vlX10_173 (c_X5_needers (l := l) (D := D) (cy := cy) (q0 := q16) (q1 := q17) (q2 := q18) (q3 := q19) (q4 := q5) (q5 := q6) (q6 := q8) (q7 := q9) (u4_1 := .ref q7) (u4_3 := u5_3) (u4_7 := u5_7) (v_size := y1.2.2.2.2.2.2.2.2.1) (v_code := y1.2.2.2.2.2.2.2.2.2) (v_stack := x59_3) (v_thing := x59_4) (w1_number := v_folk_number) (w1_day := v_folk_day) (w1_skill := v_folk_skill) (w1_slept := v_folk_slept) (w1_wanted := v_folk_wanted) (p2 := x59_0) (p3 := y91) (r := y94) e8) [16, 17, 18, 19, 5, 6, 8, 9] rfl rfl (fun _ => rfl) (fun _ => rfl) rfl rfl rfl rfl (Nat.le_of_ble_eq_true rfl) hl.1 (by rw [hRf]; exact Nat.le_of_ble_eq_true rfl) (by rw [hRl]; exact Nat.le_of_ble_eq_true rfl) ⟨Nat.zero_le _, Nat.zero_le _⟩ dX10_law_94 rfl (fun H locs _ hS => ?_)
          refine lv_i2l (v := (y94.1.toInt64)) hx hb dX10_law_97 rfl ?_
          obtain ⟨y98, e9, h⟩ := bd_some h
          refine ct_V (ws' := fun _ => [oX10 q0 (.ref q1) (.ref q3) (.ref q5) u0_3 u0_4 (.ref q10) (.ref q12) (.ref q16) u0_8 u0_9 u0_10 u0_11 u0_12, oX9 q1 (.ref q2) (.int y1.2.1), aC cy q2 80 v_text_signs, oX2 q3 (.ref q4) (.int y98.1), aJ cy q4 16 y98.2, oX0 q5 (.ref q6) (.ref q7) (.ref q8) u5_3 (.ref q9) (.int v_folk_number) (.int v_folk_day) u5_7, aI cy q6 7 v_folk_skill, aI cy q7 7 v_folk_pills, aI cy q8 7 v_folk_slept, aI cy q9 7 v_folk_wanted, oX6 q10 (.ref q11) (.int y1.2.2.1) (.int y1.2.2.2.1) (.int y1.2.2.2.2.1) (.int y1.2.2.2.2.2.1) (.int y1.2.2.2.2.2.2.1), aI cy q11 40 y1.2.2.2.2.2.2.2.1, oX5 q12 (.ref q13) (.ref q14) (.ref q15) (.int v_inForce_size), aI cy q13 40 v_inForce_code, aI cy q14 40 y38.2.1, aI cy q15 7 y38.2.2, oX5 q16 (.ref q17) (.ref q18) (.ref q19) (.int y1.2.2.2.2.2.2.2.2.1), aI cy q17 40 y1.2.2.2.2.2.2.2.2.2, aI cy q18 40 y94.2.1, aI cy q19 7 y94.2.2]) (st' := []) (rest := []) E hS vlX10_343 (c_X2_adds (l := l) (D := D) (cy := cy) (q0 := q3) (q1 := q4) (v_size := x59_1) (v_number := x59_2) (p1 := (y94.1.toInt64)) (r := y98) e9) [3, 4] rfl rfl (fun _ => rfl) (fun _ => rfl) rfl rfl rfl rfl (Nat.le_of_ble_eq_true rfl) hl.1 (by rw [hRf]; exact Nat.le_of_ble_eq_true rfl) (by rw [hRl]; exact Nat.le_of_ble_eq_true rfl) ⟨Nat.zero_le _, Nat.zero_le _⟩ dX10_law_98 rfl (fun H locs _ hS => ?_)
          refine lv_iinc (v := (x59_0 + (1 : Int32))) (lv' := [(4, .int (x59_0 + (1 : Int32))), (0, .ref q0), (2, .int (J6_bitCount_0f7a4 y23.1)), (3, .int (J6_bitCount_0f7a4 y38.1))]) hx hb dX10_law_101 hl (k := 3) rfl rfl (by decide) rfl (fun ls hl => ?_)
          refine lv_goto (tgt := 59) hx hb dX10_law_104 (by decide) ?_
          exact ih59 (x59_0 + (1 : Int32)) y98.1 y98.2 y94.2.1 y94.2.2 y59  H locs ls (hz59a _ (Option.some.inj h).symm) hS (lv_sub hl [1, 2, 3, 0] rfl) hk59_0
    obtain ⟨y59, e59, h⟩ := bd_some h
    refine hL59 1000 (0 : Int32) y53.1 y53.2 y23.2.1 y23.2.2 y59  H locs ls e59 hS (lv_sub hl [4, 2, 1, 0] rfl) (fun y59_0 y59_1 y59_2 y59_3 ey59 H locs ls hS hl => ?_)
    subst ey59
    have h := un_r h
    have h := un_r h
    have h := un_r h
    refine lv_iload_n hx hb dX10_law_107 rfl (lv_at hl 0 rfl) ?_
    refine lv_iload_n hx hb dX10_law_108 rfl (lv_at hl 1 rfl) ?_
    refine lv_isub hx hb dX10_law_109 ?_
    obtain rfl := Option.some.inj h
    exact rt_i E hQ (.null) hS dX10_law_110
  · have h := it_neg c2 h
    refine lv_sipush (v := -10000) hx hb dX10_law_9 (by decide) ?_
    refine lv_iload_n hx hb dX10_law_12 rfl (lv_at hl 0 rfl) ?_
    refine lv_isub hx hb dX10_law_13 ?_
    obtain rfl := Option.some.inj h
    exact rt_i E hQ (.null) hS dX10_law_14

