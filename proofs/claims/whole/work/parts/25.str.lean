theorem wS_38 : Cond.fieldLink RJ0 38 "java/lang/String" "COMPACT_STRINGS" "Z" ∈ lw_g := mgT 311 (by decide +kernel) rfl
theorem wS_15 : Cond.fieldLink RJ0 15 "java/lang/String" "coder" "B" ∈ lw_g := mgT 1677 (by decide +kernel) rfl
theorem wS_9 : Cond.fieldLink RJ0 9 "java/lang/String" "value" "[B" ∈ lw_g := mgT 1678 (by decide +kernel) rfl
theorem wS_89 : Cond.fieldLink RX10 89 "BellForWanted" "USUAL" "[C" ∈ lw_g := mgT 258 (by decide +kernel) rfl
set_option maxHeartbeats 4000000 in
theorem c_J0_coder_7d493 {l : Launch} {D : va_G} {cy : Nat → ClassId} {g : Gt} (i : Nat) (hi : i < 2) : Cg l yJ0_coder_7d493 cJ0_coder_7d493 1 (some .byte) 0 0 D cy g [.ref (g.2.1 i)] [] (fun _ => []) (some (.int 0)) := by
  refine Cg.mk kJ0_coder_7d493 (by decide +kernel) (Nat.le_of_ble_eq_true rfl) ?_
  intro p e s m below meth c A ls args R Q hRf hRl hQ hG E H locs hS hl
  have hx := E.x
  have hb := E.b
  have hO := hG.2.2.2.1.1 i hi
  have hl : lv_has ls 1 [(0, .ref (g.2.1 i))] := hl
  refine va_gets hx hb hG.2.2.1 hS.2.2 E.ow (E.ts _ wS_38) (fun _ h => h) dJ0_coder_7d493_0 ?_
  refine lv_if_eq (tgt := 13) hx hb dJ0_coder_7d493_3 (by decide) (fun c1 => absurd c1 (by decide)) (fun c1 => ?_)
  refine lv_aload_n hx hb dJ0_coder_7d493_6 rfl (lv_at hl 0 rfl) ?_
  refine vk_getf hx hb hO.2.1 hS.2.2 E.ow (E.ts _ wS_15) (fun _ h => h) dJ0_coder_7d493_7 ?_
  refine lv_goto (tgt := 14) hx hb dJ0_coder_7d493_10 (by decide) ?_
  exact rt_n E rfl hQ .null hS dJ0_coder_7d493_14
set_option maxHeartbeats 4000000 in
theorem c_J0_isLatin1_aae02 {l : Launch} {D : va_G} {cy : Nat → ClassId} {g : Gt} (i : Nat) (hi : i < 2) : Cg l yJ0_isLatin1_aae02 cJ0_isLatin1_aae02 1 (some .boolean) 0 0 D cy g [.ref (g.2.1 i)] [] (fun _ => []) (some (.int 1)) := by
  refine Cg.mk kJ0_isLatin1_aae02 (by decide +kernel) (Nat.le_of_ble_eq_true rfl) ?_
  intro p e s m below meth c A ls args R Q hRf hRl hQ hG E H locs hS hl
  have hx := E.x
  have hb := E.b
  have hO := hG.2.2.2.1.1 i hi
  have hl : lv_has ls 1 [(0, .ref (g.2.1 i))] := hl
  refine va_gets hx hb hG.2.2.1 hS.2.2 E.ow (E.ts _ wS_38) (fun _ h => h) dJ0_isLatin1_aae02_0 ?_
  refine lv_if_eq (tgt := 17) hx hb dJ0_isLatin1_aae02_3 (by decide) (fun c1 => absurd c1 (by decide)) (fun c1 => ?_)
  refine lv_aload_n hx hb dJ0_isLatin1_aae02_6 rfl (lv_at hl 0 rfl) ?_
  refine vk_getf hx hb hO.2.1 hS.2.2 E.ow (E.ts _ wS_15) (fun _ h => h) dJ0_isLatin1_aae02_7 ?_
  refine lv_if_ne (tgt := 17) hx hb dJ0_isLatin1_aae02_10 (by decide) (fun c1 => absurd rfl c1) (fun c1 => ?_)
  refine lv_iconst (v := 1) hx hb dJ0_isLatin1_aae02_13 (by decide) ?_
  refine lv_goto (tgt := 18) hx hb dJ0_isLatin1_aae02_14 (by decide) ?_
  exact rt_n E rfl hQ .null hS dJ0_isLatin1_aae02_18
set_option maxHeartbeats 4000000 in
theorem c_J0_length_8abf5 {l : Launch} {D : va_G} {cy : Nat → ClassId} {g : Gt} (i : Nat) (hi : i < 2) : Cg l yJ0_length_8abf5 cJ0_length_8abf5 1 (some .int) 1 20 D cy g [.ref (g.2.1 i)] [] (fun _ => []) (some (.int (tx_n i))) := by
  refine Cg.mk kJ0_length_8abf5 (by decide +kernel) (Nat.le_of_ble_eq_true rfl) ?_
  intro p e s m below meth c A ls args R Q hRf hRl hQ hG E H locs hS hl
  have hx := E.x
  have hb := E.b
  have hO := hG.2.2.2.1.1 i hi
  have hl : lv_has ls 1 [(0, .ref (g.2.1 i))] := hl
  refine lv_aload_n hx hb dJ0_length_8abf5_0 rfl (lv_at hl 0 rfl) ?_
  refine vk_getf hx hb hO.2.2.1 hS.2.2 E.ow (E.ts _ wS_9) (fun _ h => h) dJ0_length_8abf5_1 ?_
  refine va_tlen (v := Int32.ofNat (tx_len.getD i 0)) hx hb hO.2.2.2 hS.2.2 rfl dJ0_length_8abf5_4 ?_
  refine lv_aload_n hx hb dJ0_length_8abf5_5 rfl (lv_at hl 0 rfl) ?_
  refine ct_VG (ws' := fun _ => []) (st' := [.int 0, .int (Int32.ofNat (tx_len.getD i 0))]) (rest := [.int (Int32.ofNat (tx_len.getD i 0))]) E hG hS vlJ0_335 (c_J0_coder_7d493 i hi) [] rfl rfl (fun _ => rfl) (fun _ => rfl) (vk_recv hG.2.2.2.1 hi hS.2.2) rfl rfl (Nat.le_of_ble_eq_true rfl) hl.1 (by rw [hRf]; exact Nat.le_of_ble_eq_true rfl) (by rw [hRl]; exact Nat.le_of_ble_eq_true rfl) ⟨Nat.zero_le _, Nat.zero_le _⟩ dJ0_length_8abf5_6 rfl (fun H locs _ hS => ?_)
  refine lv_ishr hx hb dJ0_length_8abf5_9 ?_
  exact rt_i E hQ .null hS dJ0_length_8abf5_10
set_option maxHeartbeats 4000000 in
theorem c_J1_indexOfChar_4cfef {l : Launch} {D : va_G} {cy : Nat → ClassId} {g : Gt} (i : Nat) (hi : i < 2) (p1 p2 p3 r : Int32) (h : lp (ixc_s i (p1.toInt8.toInt32) p3) 1000 p2 = some r) : Cg l yJ1_indexOfChar_4cfef cJ1_indexOfChar_4cfef 6 (some .int) 0 0 D cy g [.ref (g.2.2 i), .int p1, .int p2, .int p3] [] (fun _ => []) (some (.int r)) := by
  refine Cg.mk kJ1_indexOfChar_4cfef (by decide +kernel) (Nat.le_of_ble_eq_true rfl) ?_
  intro p e s m below meth c A ls args R Q hRf hRl hQ hG E H locs hS hl
  have hx := E.x
  have hb := E.b
  have hO := hG.2.2.2.1.1 i hi
  have hl : lv_has ls 6 [(0, .ref (g.2.2 i)), (1, .int p1), (2, .int p2), (3, .int p3)] := hl
  refine lv_iload_n hx hb dJ1_indexOfChar_4cfef_0 rfl (lv_at hl 1 rfl) ?_
  refine lv_i2b (v := (p1.toInt8.toInt32)) hx hb dJ1_indexOfChar_4cfef_1 rfl ?_
  refine lv_istore (lv' := [(4, .int (p1.toInt8.toInt32)), (0, .ref (g.2.2 i)), (1, .int p1), (2, .int p2), (3, .int p3)]) hx hb dJ1_indexOfChar_4cfef_2 hl (by decide) rfl (fun ls hl => ?_)
  refine lv_iload_n hx hb dJ1_indexOfChar_4cfef_4 rfl (lv_at hl 3 rfl) ?_
  refine lv_istore (lv' := [(5, .int p2), (4, .int (p1.toInt8.toInt32)), (0, .ref (g.2.2 i)), (1, .int p1), (2, .int p2), (3, .int p3)]) hx hb dJ1_indexOfChar_4cfef_5 hl (by decide) rfl (fun ls hl => ?_)
  have hL : ∀ (n : Nat) (x : Int32) (H : Heap) (locs : List Loc) (ls : Array Slot), lp (ixc_s i (p1.toInt8.toInt32) p3) n x = some r → Sv D A s.heap [] H locs → lv_has ls 6 [(0, .ref (g.2.2 i)), (3, .int p3), (4, .int (p1.toInt8.toInt32)), (5, .int x)] → W p l e R s m args below meth c H locs 0 0 Q (F0 m 7 ls []) := by
    intro n
    induction n with
    | zero =>
      intro x H locs ls h
      exact lp_zero h
    | succ n ih =>
      intro x H locs ls h hS hl
      obtain ⟨z, h, hza, hzb⟩ := lp_succ h
      unfold ixc_s at h
      refine lv_iload hx hb dJ1_indexOfChar_4cfef_7 (lv_at hl 3 rfl) ?_
      refine lv_iload_n hx hb dJ1_indexOfChar_4cfef_9 rfl (lv_at hl 1 rfl) ?_
      refine lv_icmp_ge (tgt := 31) hx hb dJ1_indexOfChar_4cfef_10 (by decide) (fun c1 => ?_) (fun c1 => ?_)
      · have h := it_pos c1 h
        have hr := hzb _ (Option.some.inj h).symm
        refine lv_iconst (v := -1) hx hb dJ1_indexOfChar_4cfef_31 (by decide) ?_
        subst hr
        exact rt_i E hQ .null hS dJ1_indexOfChar_4cfef_32
      · have h := it_neg c1 h
        obtain ⟨g1, h⟩ := gi_some h
        refine lv_aload_n hx hb dJ1_indexOfChar_4cfef_13 rfl (lv_at hl 0 rfl) ?_
        refine lv_iload hx hb dJ1_indexOfChar_4cfef_14 (lv_at hl 3 rfl) ?_
        refine va_tb (v := .int (tx_at i x.toNatClampNeg)) hx hb hO.2.2.2 hS.2.2 g1 rfl dJ1_indexOfChar_4cfef_16 ?_
        refine lv_iload hx hb dJ1_indexOfChar_4cfef_17 (lv_at hl 2 rfl) ?_
        refine lv_icmp_ne (tgt := 25) hx hb dJ1_indexOfChar_4cfef_19 (by decide) (fun c2 => ?_) (fun c2 => ?_)
        · have h := it_neg c2 h
          refine lv_iinc (v := (x + (1 : Int32))) (lv' := [(5, .int (x + (1 : Int32))), (0, .ref (g.2.2 i)), (3, .int p3), (4, .int (p1.toInt8.toInt32))]) hx hb dJ1_indexOfChar_4cfef_25 hl (k := 3) rfl rfl (by decide) rfl (fun ls hl => ?_)
          refine lv_goto (tgt := 7) hx hb dJ1_indexOfChar_4cfef_28 (by decide) ?_
          exact ih _ H locs ls (hza _ (Option.some.inj h).symm) hS (lv_sub hl [1, 2, 3, 0] rfl)
        · have h := it_pos c2 h
          have hr := hzb _ (Option.some.inj h).symm
          refine lv_iload hx hb dJ1_indexOfChar_4cfef_22 (lv_at hl 3 rfl) ?_
          subst hr
          exact rt_i E hQ .null hS dJ1_indexOfChar_4cfef_24
  exact hL 1000 p2 H locs ls h hS (lv_sub hl [2, 5, 1, 0] rfl)
set_option maxHeartbeats 4000000 in
theorem c_J1_indexOf_4cfef {l : Launch} {D : va_G} {cy : Nat → ClassId} {g : Gt} (i : Nat) (hi : i < 2) (p1 p2 p3 r : Int32) (h : ixo i p1 p2 p3 = some r) : Cg l yJ1_indexOf_4cfef cJ1_indexOf_4cfef 4 (some .int) 1 25 D cy g [.ref (g.2.2 i), .int p1, .int p2, .int p3] [] (fun _ => []) (some (.int r)) := by
  refine Cg.mk kJ1_indexOf_4cfef (by decide +kernel) (Nat.le_of_ble_eq_true rfl) ?_
  intro p e s m below meth c A ls args R Q hRf hRl hQ hG E H locs hS hl
  have hx := E.x
  have hb := E.b
  have hO := hG.2.2.2.1.1 i hi
  have hl : lv_has ls 4 [(0, .ref (g.2.2 i)), (1, .int p1), (2, .int p2), (3, .int p3)] := hl
  unfold ixo at h
  refine lv_iload_n hx hb dJ1_indexOf_4cfef_0 rfl (lv_at hl 1 rfl) ?_
  refine ct_S (ws' := fun _ => []) (st' := [.int (J1_canEncode_9a6ad p1)]) (rest := []) E hS slJ1_88 (c_J1_canEncode_9a6ad (l := l) (D := D) (cy := cy) (p0 := p1) (r := (J1_canEncode_9a6ad p1)) rfl) [] rfl rfl (fun _ => rfl) (fun _ => rfl) rfl rfl (Nat.le_of_ble_eq_true rfl) hl.1 (by rw [hRf]; exact Nat.le_of_ble_eq_true rfl) (by rw [hRl]; exact Nat.le_of_ble_eq_true rfl) ⟨Nat.zero_le _, Nat.zero_le _⟩ dJ1_indexOf_4cfef_1 rfl (fun H locs _ hS => ?_)
  refine lv_if_ne (tgt := 9) hx hb dJ1_indexOf_4cfef_4 (by decide) (fun c1 => ?_) (fun c1 => ?_)
  · have h := it_neg c1 h
    refine lv_iload_n hx hb dJ1_indexOf_4cfef_9 rfl (lv_at hl 2 rfl) ?_
    refine lv_iconst (v := 0) hx hb dJ1_indexOf_4cfef_10 (by decide) ?_
    refine ct_S (ws' := fun _ => []) (st' := [.int (J9_max_7cf53 p2 0)]) (rest := []) E hS slJ1_92 (c_J9_max_7cf53 (l := l) (D := D) (cy := cy) (p0 := p2) (p1 := 0) (r := (J9_max_7cf53 p2 0)) rfl) [] rfl rfl (fun _ => rfl) (fun _ => rfl) rfl rfl (Nat.le_of_ble_eq_true rfl) hl.1 (by rw [hRf]; exact Nat.le_of_ble_eq_true rfl) (by rw [hRl]; exact Nat.le_of_ble_eq_true rfl) ⟨Nat.zero_le _, Nat.zero_le _⟩ dJ1_indexOf_4cfef_11 rfl (fun H locs _ hS => ?_)
    refine lv_istore_n (lv' := [(2, .int (J9_max_7cf53 p2 0)), (0, .ref (g.2.2 i)), (1, .int p1), (3, .int p3)]) hx hb dJ1_indexOf_4cfef_14 rfl hl (by decide) rfl (fun ls hl => ?_)
    refine lv_iload_n hx hb dJ1_indexOf_4cfef_15 rfl (lv_at hl 3 rfl) ?_
    refine lv_aload_n hx hb dJ1_indexOf_4cfef_16 rfl (lv_at hl 1 rfl) ?_
    refine va_tlen (v := Int32.ofNat (tx_len.getD i 0)) hx hb hO.2.2.2 hS.2.2 rfl dJ1_indexOf_4cfef_17 ?_
    refine ct_S (ws' := fun _ => []) (st' := [.int (J9_min_7cf53 p3 (Int32.ofNat (tx_len.getD i 0)))]) (rest := []) E hS slJ1_38 (c_J9_min_7cf53 (l := l) (D := D) (cy := cy) (p0 := p3) (p1 := Int32.ofNat (tx_len.getD i 0)) (r := (J9_min_7cf53 p3 (Int32.ofNat (tx_len.getD i 0)))) rfl) [] rfl rfl (fun _ => rfl) (fun _ => rfl) rfl rfl (Nat.le_of_ble_eq_true rfl) hl.1 (by rw [hRf]; exact Nat.le_of_ble_eq_true rfl) (by rw [hRl]; exact Nat.le_of_ble_eq_true rfl) ⟨Nat.zero_le _, Nat.zero_le _⟩ dJ1_indexOf_4cfef_18 rfl (fun H locs _ hS => ?_)
    refine lv_istore_n (lv' := [(3, .int (J9_min_7cf53 p3 (Int32.ofNat (tx_len.getD i 0)))), (2, .int (J9_max_7cf53 p2 0)), (0, .ref (g.2.2 i)), (1, .int p1)]) hx hb dJ1_indexOf_4cfef_21 rfl hl (by decide) rfl (fun ls hl => ?_)
    refine lv_iload_n hx hb dJ1_indexOf_4cfef_22 rfl (lv_at hl 1 rfl) ?_
    refine lv_iload_n hx hb dJ1_indexOf_4cfef_23 rfl (lv_at hl 0 rfl) ?_
    refine lv_icmp_lt (tgt := 29) hx hb dJ1_indexOf_4cfef_24 (by decide) (fun c2 => ?_) (fun c2 => ?_)
    · have h := it_pos c2 h
      refine lv_aload_n hx hb dJ1_indexOf_4cfef_29 rfl (lv_at hl 2 rfl) ?_
      refine lv_iload_n hx hb dJ1_indexOf_4cfef_30 rfl (lv_at hl 3 rfl) ?_
      refine lv_iload_n hx hb dJ1_indexOf_4cfef_31 rfl (lv_at hl 1 rfl) ?_
      refine lv_iload_n hx hb dJ1_indexOf_4cfef_32 rfl (lv_at hl 0 rfl) ?_
      refine ct_SG (ws' := fun _ => []) (st' := [.int r]) (rest := []) E hG hS slJ1_95 (c_J1_indexOfChar_4cfef i hi p1 (J9_max_7cf53 p2 0) (J9_min_7cf53 p3 (Int32.ofNat (tx_len.getD i 0))) r h) [] rfl rfl (fun _ => rfl) (fun _ => rfl) rfl rfl (Nat.le_of_ble_eq_true rfl) hl.1 (by rw [hRf]; exact Nat.le_of_ble_eq_true rfl) (by rw [hRl]; exact Nat.le_of_ble_eq_true rfl) ⟨Nat.zero_le _, Nat.zero_le _⟩ dJ1_indexOf_4cfef_33 rfl (fun H locs _ hS => ?_)
      exact rt_i E hQ .null hS dJ1_indexOf_4cfef_36
    · have h := it_neg c2 h
      refine lv_iconst (v := -1) hx hb dJ1_indexOf_4cfef_27 (by decide) ?_
      obtain rfl := Option.some.inj h
      exact rt_i E hQ .null hS dJ1_indexOf_4cfef_28
  · have h := it_pos c1 h
    refine lv_iconst (v := -1) hx hb dJ1_indexOf_4cfef_7 (by decide) ?_
    obtain rfl := Option.some.inj h
    exact rt_i E hQ .null hS dJ1_indexOf_4cfef_8
set_option maxHeartbeats 4000000 in
theorem c_J0_indexOf_7cf53 {l : Launch} {D : va_G} {cy : Nat → ClassId} {g : Gt} (i : Nat) (hi : i < 2) (p1 p2 r : Int32) (h : ixo i p1 p2 (tx_n i) = some r) : Cg l yJ0_indexOf_7cf53 cJ0_indexOf_7cf53 3 (some .int) 2 48 D cy g [.ref (g.2.1 i), .int p1, .int p2] [] (fun _ => []) (some (.int r)) := by
  refine Cg.mk kJ0_indexOf_7cf53 (by decide +kernel) (Nat.le_of_ble_eq_true rfl) ?_
  intro p e s m below meth c A ls args R Q hRf hRl hQ hG E H locs hS hl
  have hx := E.x
  have hb := E.b
  have hO := hG.2.2.2.1.1 i hi
  have hl : lv_has ls 3 [(0, .ref (g.2.1 i)), (1, .int p1), (2, .int p2)] := hl
  refine lv_aload_n hx hb dJ0_indexOf_7cf53_0 rfl (lv_at hl 0 rfl) ?_
  refine ct_VG (ws' := fun _ => []) (st' := [.int 1]) (rest := []) E hG hS vlJ0_492 (c_J0_isLatin1_aae02 i hi) [] rfl rfl (fun _ => rfl) (fun _ => rfl) (vk_recv hG.2.2.2.1 hi hS.2.2) rfl rfl (Nat.le_of_ble_eq_true rfl) hl.1 (by rw [hRf]; exact Nat.le_of_ble_eq_true rfl) (by rw [hRl]; exact Nat.le_of_ble_eq_true rfl) ⟨Nat.zero_le _, Nat.zero_le _⟩ dJ0_indexOf_7cf53_1 rfl (fun H locs _ hS => ?_)
  refine lv_if_eq (tgt := 23) hx hb dJ0_indexOf_7cf53_4 (by decide) (fun c1 => absurd c1 (by decide)) (fun c1 => ?_)
  refine lv_aload_n hx hb dJ0_indexOf_7cf53_7 rfl (lv_at hl 0 rfl) ?_
  refine vk_getf hx hb hO.2.2.1 hS.2.2 E.ow (E.ts _ wS_9) (fun _ h => h) dJ0_indexOf_7cf53_8 ?_
  refine lv_iload_n hx hb dJ0_indexOf_7cf53_11 rfl (lv_at hl 1 rfl) ?_
  refine lv_iload_n hx hb dJ0_indexOf_7cf53_12 rfl (lv_at hl 2 rfl) ?_
  refine lv_aload_n hx hb dJ0_indexOf_7cf53_13 rfl (lv_at hl 0 rfl) ?_
  refine ct_VG (ws' := fun _ => []) (st' := [.int (tx_n i), .int p2, .int p1, .ref (g.2.2 i)]) (rest := [.int p2, .int p1, .ref (g.2.2 i)]) E hG hS vlJ0_505 (c_J0_length_8abf5 i hi) [] rfl rfl (fun _ => rfl) (fun _ => rfl) (vk_recv hG.2.2.2.1 hi hS.2.2) rfl rfl (Nat.le_of_ble_eq_true rfl) hl.1 (by rw [hRf]; exact Nat.le_of_ble_eq_true rfl) (by rw [hRl]; exact Nat.le_of_ble_eq_true rfl) ⟨Nat.zero_le _, Nat.zero_le _⟩ dJ0_indexOf_7cf53_14 rfl (fun H locs _ hS => ?_)
  refine ct_SG (ws' := fun _ => []) (st' := [.int r]) (rest := []) E hG hS slJ0_637 (c_J1_indexOf_4cfef i hi p1 p2 (tx_n i) r h) [] rfl rfl (fun _ => rfl) (fun _ => rfl) rfl rfl (Nat.le_of_ble_eq_true rfl) hl.1 (by rw [hRf]; exact Nat.le_of_ble_eq_true rfl) (by rw [hRl]; exact Nat.le_of_ble_eq_true rfl) ⟨Nat.zero_le _, Nat.zero_le _⟩ dJ0_indexOf_7cf53_17 rfl (fun H locs _ hS => ?_)
  refine lv_goto (tgt := 36) hx hb dJ0_indexOf_7cf53_20 (by decide) ?_
  exact rt_i E hQ .null hS dJ0_indexOf_7cf53_36
set_option maxHeartbeats 4000000 in
theorem c_J0_indexOf_0f7a4 {l : Launch} {D : va_G} {cy : Nat → ClassId} {g : Gt} (i : Nat) (hi : i < 2) (p1 r : Int32) (h : ixo i p1 0 (tx_n i) = some r) : Cg l yJ0_indexOf_0f7a4 cJ0_indexOf_0f7a4 2 (some .int) 3 70 D cy g [.ref (g.2.1 i), .int p1] [] (fun _ => []) (some (.int r)) := by
  refine Cg.mk kJ0_indexOf_0f7a4 (by decide +kernel) (Nat.le_of_ble_eq_true rfl) ?_
  intro p e s m below meth c A ls args R Q hRf hRl hQ hG E H locs hS hl
  have hx := E.x
  have hb := E.b
  have hO := hG.2.2.2.1.1 i hi
  have hl : lv_has ls 2 [(0, .ref (g.2.1 i)), (1, .int p1)] := hl
  refine lv_aload_n hx hb dJ0_indexOf_0f7a4_0 rfl (lv_at hl 0 rfl) ?_
  refine lv_iload_n hx hb dJ0_indexOf_0f7a4_1 rfl (lv_at hl 1 rfl) ?_
  refine lv_iconst (v := 0) hx hb dJ0_indexOf_0f7a4_2 (by decide) ?_
  refine ct_VG (ws' := fun _ => []) (st' := [.int r]) (rest := []) E hG hS vlJ0_633 (c_J0_indexOf_7cf53 i hi p1 0 r h) [] rfl rfl (fun _ => rfl) (fun _ => rfl) (vk_recv hG.2.2.2.1 hi hS.2.2) rfl rfl (Nat.le_of_ble_eq_true rfl) hl.1 (by rw [hRf]; exact Nat.le_of_ble_eq_true rfl) (by rw [hRl]; exact Nat.le_of_ble_eq_true rfl) ⟨Nat.zero_le _, Nat.zero_le _⟩ dJ0_indexOf_0f7a4_3 rfl (fun H locs _ hS => ?_)
  exact rt_i E hQ .null hS dJ0_indexOf_0f7a4_6

