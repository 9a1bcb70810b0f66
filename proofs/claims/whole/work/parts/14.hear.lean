set_option maxHeartbeats 4000000 in
set_option maxRecDepth 100000 in
theorem c_X1_highest {l : Launch} {D : va_G} {cy : Nat → ClassId} (p0 : Int32) (r : Int32) (h : X1_highest p0 = r) : Ct l yX1_highest cX1_highest 1 (some .int) 0 0 D cy [.int p0] [] (fun _ => []) (some (.int r)) := by
  refine Ct.mk kX1_highest (by decide +kernel) (Nat.le_of_ble_eq_true rfl) ?_
  intro p e s m below meth c A ls args R Q hRf hRl hQ E H locs hS hl
  have hx := E.x
  have hb := E.b
  have hl : lv_has ls 1 [(0, .int p0)] := hl
  unfold X1_highest at h
  refine lv_iload_n hx hb dX1_highest_0 rfl (lv_at hl 0 rfl) ?_
  rcases Decidable.em (p0 = 0) with c1 | c1
  · have h := it_pos c1 h
    refine lv_tableIn (off := 35) (tgt := 36) hx hb dX1_highest_1 (by rw [c1]; decide) (by rw [c1]; decide) (by rw [c1]; rfl) (by decide) ?_
    refine lv_bipush (v := 9) hx hb dX1_highest_36 (by decide) ?_
    subst h
    exact rt_i E hQ (.null) hS dX1_highest_38
  · have h := it_neg c1 h
    rcases Decidable.em (p0 = 1) with c2 | c2
    · have h := it_pos c2 h
      refine lv_tableIn (off := 38) (tgt := 39) hx hb dX1_highest_1 (by rw [c2]; decide) (by rw [c2]; decide) (by rw [c2]; rfl) (by decide) ?_
      refine lv_bipush (v := 99) hx hb dX1_highest_39 (by decide) ?_
      subst h
      exact rt_i E hQ (.null) hS dX1_highest_41
    · have h := it_neg c2 h
      rcases Decidable.em (p0 = 2) with c3 | c3
      · have h := it_pos c3 h
        refine lv_tableIn (off := 41) (tgt := 42) hx hb dX1_highest_1 (by rw [c3]; decide) (by rw [c3]; decide) (by rw [c3]; rfl) (by decide) ?_
        refine lv_iconst (v := 1) hx hb dX1_highest_42 (by decide) ?_
        subst h
        exact rt_i E hQ (.null) hS dX1_highest_43
      · have h := it_neg c3 h
        rcases Decidable.em (p0 = 3) with c4 | c4
        · have h := it_pos c4 h
          refine lv_tableIn (off := 43) (tgt := 44) hx hb dX1_highest_1 (by rw [c4]; decide) (by rw [c4]; decide) (by rw [c4]; rfl) (by decide) ?_
          refine lv_bipush (v := 6) hx hb dX1_highest_44 (by decide) ?_
          subst h
          exact rt_i E hQ (.null) hS dX1_highest_46
        · have h := it_neg c4 h
          rcases Decidable.em (p0 = 4) with c5 | c5
          · have h := it_pos c5 h
            refine lv_tableIn (off := 43) (tgt := 44) hx hb dX1_highest_1 (by rw [c5]; decide) (by rw [c5]; decide) (by rw [c5]; rfl) (by decide) ?_
            refine lv_bipush (v := 6) hx hb dX1_highest_44 (by decide) ?_
            subst h
            exact rt_i E hQ (.null) hS dX1_highest_46
          · have h := it_neg c5 h
            have ht : p0.toInt < 0 ∨ (4 : Int) < p0.toInt := by
              refine tb_neg (fun k h1 h2 => ?_)
              have hh : k = 0 ∨ k = 1 ∨ k = 2 ∨ k = 3 ∨ k = 4 := by omega
              rcases hh with rfl | rfl | rfl | rfl | rfl
              · exact c1
              · exact c2
              · exact c3
              · exact c4
              · exact c5
            refine lv_tableOut (tgt := 47) hx hb dX1_highest_1 ht (by decide) ?_
            refine lv_iconst (v := -1) hx hb dX1_highest_47 (by decide) ?_
            subst h
            exact rt_i E hQ (.null) hS dX1_highest_48
set_option maxHeartbeats 4000000 in
set_option maxRecDepth 100000 in
theorem c_X1_mayBe {l : Launch} {D : va_G} {cy : Nat → ClassId} (p0 : Int32) (p1 : Int32) (r : Int32) (h : X1_mayBe p0 p1 = r) : Ct l yX1_mayBe cX1_mayBe 2 (some .boolean) 1 20 D cy [.int p0, .int p1] [] (fun _ => []) (some (.int r)) := by
  refine Ct.mk kX1_mayBe (by decide +kernel) (Nat.le_of_ble_eq_true rfl) ?_
  intro p e s m below meth c A ls args R Q hRf hRl hQ E H locs hS hl
  have hx := E.x
  have hb := E.b
  have hl : lv_has ls 2 [(0, .int p0), (1, .int p1)] := hl
  unfold X1_mayBe at h
  refine lv_iload_n hx hb dX1_mayBe_0 rfl (lv_at hl 1 rfl) ?_
  refine lv_if_lt (tgt := 16) hx hb dX1_mayBe_1 (by decide) (fun c1 => ?_) (fun c1 => ?_)
  · have h := it_pos c1 h
    refine lv_iconst (v := 0) hx hb dX1_mayBe_16 (by decide) ?_
    subst h
    exact rt_n E rfl hQ (.null) hS dX1_mayBe_17
  · have h := it_neg c1 h
    refine lv_iload_n hx hb dX1_mayBe_4 rfl (lv_at hl 1 rfl) ?_
    refine lv_iload_n hx hb dX1_mayBe_5 rfl (lv_at hl 0 rfl) ?_
    refine ct_S (ws' := fun _ => []) (st' := [.int (X1_highest p0), .int p1]) (rest := [.int p1]) E hS slX1_26 (c_X1_highest (l := l) (D := D) (cy := cy) (p0 := p0) (r := (X1_highest p0)) rfl) [] rfl rfl (fun _ => rfl) (fun _ => rfl) rfl rfl (Nat.le_of_ble_eq_true rfl) hl.1 (by rw [hRf]; exact Nat.le_of_ble_eq_true rfl) (by rw [hRl]; exact Nat.le_of_ble_eq_true rfl) ⟨Nat.zero_le _, Nat.zero_le _⟩ dX1_mayBe_6 rfl (fun H locs _ hS => ?_)
    refine lv_icmp_gt (tgt := 16) hx hb dX1_mayBe_9 (by decide) (fun c2 => ?_) (fun c2 => ?_)
    · have h := it_pos c2 h
      refine lv_iconst (v := 0) hx hb dX1_mayBe_16 (by decide) ?_
      subst h
      exact rt_n E rfl hQ (.null) hS dX1_mayBe_17
    · have h := it_neg c2 h
      refine lv_iconst (v := 1) hx hb dX1_mayBe_12 (by decide) ?_
      refine lv_goto (tgt := 17) hx hb dX1_mayBe_13 (by decide) ?_
      subst h
      exact rt_n E rfl hQ (.null) hS dX1_mayBe_17
set_option maxHeartbeats 4000000 in
set_option maxRecDepth 100000 in
theorem c_X1_takes {l : Launch} {D : va_G} {cy : Nat → ClassId} (q0 : Nat) (q1 : Nat) (q2 : Nat) (v_size : Int32) (v_what : Nat → Int32) (v_value : Nat → Int32) (p1 : Int32) (p2 : Int32) (r : Int32 × Int32 × (Nat → Int32) × (Nat → Int32)) (h : X1_takes v_size v_what v_value p1 p2 = some r) : Ct l yX1_takes cX1_takes 3 (some .boolean) 2 41 D cy [.ref q0, .int p1, .int p2] [oX1 q0 (.ref q1) (.ref q2) (.int v_size), aI cy q1 12 v_what, aI cy q2 12 v_value] (fun _ => [oX1 q0 (.ref q1) (.ref q2) (.int r.2.1), aI cy q1 12 r.2.2.1, aI cy q2 12 r.2.2.2]) (some (.int r.1)) := by
  refine Ct.mk kX1_takes (by decide +kernel) (Nat.le_of_ble_eq_true rfl) ?_
  intro p e s m below meth c A ls args R Q hRf hRl hQ E H locs hS hl
  have hx := E.x
  have hb := E.b
  have hl : lv_has ls 3 [(0, .ref q0), (1, .int p1), (2, .int p2)] := hl
  unfold X1_takes at h
  refine lv_aload_n hx hb dX1_takes_0 rfl (lv_at hl 0 rfl) ?_
  refine r_get E frX1_18 hS 0 rfl rfl dX1_takes_1 ?_
  refine lv_bipush (v := 12) hx hb dX1_takes_4 (by decide) ?_
  refine lv_icmp_ge (tgt := 17) hx hb dX1_takes_6 (by decide) (fun c1 => ?_) (fun c1 => ?_)
  · have h := it_pos c1 h
    refine lv_iconst (v := 0) hx hb dX1_takes_17 (by decide) ?_
    obtain rfl := Option.some.inj h
    exact rt_n E rfl hQ (.null) hS dX1_takes_18
  · have h := it_neg c1 h
    refine lv_iload_n hx hb dX1_takes_9 rfl (lv_at hl 1 rfl) ?_
    refine lv_iload_n hx hb dX1_takes_10 rfl (lv_at hl 2 rfl) ?_
    refine ct_S (ws' := fun _ => [oX1 q0 (.ref q1) (.ref q2) (.int v_size), aI cy q1 12 v_what, aI cy q2 12 v_value]) (st' := [.int (X1_mayBe p1 p2)]) (rest := []) E hS slX1_22 (c_X1_mayBe (l := l) (D := D) (cy := cy) (p0 := p1) (p1 := p2) (r := (X1_mayBe p1 p2)) rfl) [] rfl rfl (fun _ => rfl) (fun _ => rfl) rfl rfl (Nat.le_of_ble_eq_true rfl) hl.1 (by rw [hRf]; exact Nat.le_of_ble_eq_true rfl) (by rw [hRl]; exact Nat.le_of_ble_eq_true rfl) ⟨Nat.zero_le _, Nat.zero_le _⟩ dX1_takes_11 rfl (fun H locs _ hS => ?_)
    refine lv_if_ne (tgt := 19) hx hb dX1_takes_14 (by decide) (fun c2 => ?_) (fun c2 => ?_)
    · have h := it_neg c2 h
      refine lv_aload_n hx hb dX1_takes_19 rfl (lv_at hl 0 rfl) ?_
      refine r_get E frX1_11 hS 0 rfl rfl dX1_takes_20 ?_
      refine lv_aload_n hx hb dX1_takes_23 rfl (lv_at hl 0 rfl) ?_
      refine r_get E frX1_18 hS 0 rfl rfl dX1_takes_24 ?_
      refine lv_iload_n hx hb dX1_takes_27 rfl (lv_at hl 1 rfl) ?_
      obtain ⟨g3, h⟩ := gi_some h
      refine r_iast (ws' := [oX1 q0 (.ref q1) (.ref q2) (.int v_size), aI cy q1 12 (upd v_what v_size.toNatClampNeg p1), aI cy q2 12 v_value]) E hS 1 rfl g3 rfl dX1_takes_28 (fun H locs hS => ?_)
      refine lv_aload_n hx hb dX1_takes_29 rfl (lv_at hl 0 rfl) ?_
      refine r_get E frX1_15 hS 0 rfl rfl dX1_takes_30 ?_
      refine lv_aload_n hx hb dX1_takes_33 rfl (lv_at hl 0 rfl) ?_
      refine r_get E frX1_18 hS 0 rfl rfl dX1_takes_34 ?_
      refine lv_iload_n hx hb dX1_takes_37 rfl (lv_at hl 2 rfl) ?_
      obtain ⟨g4, h⟩ := gi_some h
      refine r_iast (ws' := [oX1 q0 (.ref q1) (.ref q2) (.int v_size), aI cy q1 12 (upd v_what v_size.toNatClampNeg p1), aI cy q2 12 (upd v_value v_size.toNatClampNeg p2)]) E hS 2 rfl g4 rfl dX1_takes_38 (fun H locs hS => ?_)
      refine lv_aload_n hx hb dX1_takes_39 rfl (lv_at hl 0 rfl) ?_
      refine lv_dup hx hb dX1_takes_40 rfl ?_
      refine r_get E frX1_18 hS 0 rfl rfl dX1_takes_41 ?_
      refine lv_iconst (v := 1) hx hb dX1_takes_44 (by decide) ?_
      refine lv_iadd hx hb dX1_takes_45 ?_
      refine r_put (ws' := [oX1 q0 (.ref q1) (.ref q2) (.int (v_size + (1 : Int32))), aI cy q1 12 (upd v_what v_size.toNatClampNeg p1), aI cy q2 12 (upd v_value v_size.toNatClampNeg p2)]) E frX1_18 hS 0 rfl (Nat.le_of_ble_eq_true rfl) rfl rfl rfl rfl dX1_takes_46 (fun H locs hS => ?_)
      refine lv_iconst (v := 1) hx hb dX1_takes_49 (by decide) ?_
      obtain rfl := Option.some.inj h
      exact rt_n E rfl hQ (.null) hS dX1_takes_50
    · have h := it_pos c2 h
      refine lv_iconst (v := 0) hx hb dX1_takes_17 (by decide) ?_
      obtain rfl := Option.some.inj h
      exact rt_n E rfl hQ (.null) hS dX1_takes_18
set_option maxHeartbeats 4000000 in
set_option maxRecDepth 100000 in
theorem c_X1_empties {l : Launch} {D : va_G} {cy : Nat → ClassId} (q0 : Nat) (u0_0 : Value) (u0_1 : Value) (v_size : Int32) (r : Int32 × Int32) (h : X1_empties v_size = r) : Ct l yX1_empties cX1_empties 2 (some .int) 0 0 D cy [.ref q0] [oX1 q0 u0_0 u0_1 (.int v_size)] (fun _ => [oX1 q0 u0_0 u0_1 (.int r.2)]) (some (.int r.1)) := by
  refine Ct.mk kX1_empties (by decide +kernel) (Nat.le_of_ble_eq_true rfl) ?_
  intro p e s m below meth c A ls args R Q hRf hRl hQ E H locs hS hl
  have hx := E.x
  have hb := E.b
  have hl : lv_has ls 2 [(0, .ref q0)] := hl
  unfold X1_empties at h
  refine lv_aload_n hx hb dX1_empties_0 rfl (lv_at hl 0 rfl) ?_
  refine r_get E frX1_18 hS 0 rfl rfl dX1_empties_1 ?_
  refine lv_istore_n (lv' := [(1, .int v_size), (0, .ref q0)]) hx hb dX1_empties_4 rfl hl (by decide) rfl (fun ls hl => ?_)
  refine lv_aload_n hx hb dX1_empties_5 rfl (lv_at hl 1 rfl) ?_
  refine lv_iconst (v := 0) hx hb dX1_empties_6 (by decide) ?_
  refine r_put (ws' := [oX1 q0 u0_0 u0_1 (.int (0 : Int32))]) E frX1_18 hS 0 rfl (Nat.le_of_ble_eq_true rfl) rfl rfl rfl rfl dX1_empties_7 (fun H locs hS => ?_)
  refine lv_iload_n hx hb dX1_empties_10 rfl (lv_at hl 0 rfl) ?_
  subst h
  exact rt_i E hQ (.null) hS dX1_empties_11
set_option maxHeartbeats 4000000 in
set_option maxRecDepth 100000 in
theorem c_X1_isSo {l : Launch} {D : va_G} {cy : Nat → ClassId} (q0 : Nat) (q1 : Nat) (q2 : Nat) (q3 : Nat) (u0_1 : Value) (u0_3 : Value) (u0_6 : Value) (u0_7 : Value) (w1_number : Int32) (w1_skill : Nat → Int32) (w1_slept : Nat → Int32) (w1_wanted : Nat → Int32) (p1 : Int32) (p2 : Int32) (p3 : Int32) (p4 : Int32) (r : Int32) (h : X1_isSo w1_number w1_skill w1_slept w1_wanted p1 p2 p3 p4 = some r) : Ct l yX1_isSo cX1_isSo 5 (some .boolean) 1 21 D cy [.ref q0, .int p1, .int p2, .int p3, .int p4] [oX0 q0 (.ref q1) u0_1 (.ref q2) u0_3 (.ref q3) (.int w1_number) u0_6 u0_7, aI cy q1 7 w1_skill, aI cy q2 7 w1_slept, aI cy q3 7 w1_wanted] (fun _ => [oX0 q0 (.ref q1) u0_1 (.ref q2) u0_3 (.ref q3) (.int w1_number) u0_6 u0_7, aI cy q1 7 w1_skill, aI cy q2 7 w1_slept, aI cy q3 7 w1_wanted]) (some (.int r)) := by
  refine Ct.mk kX1_isSo (by decide +kernel) (Nat.le_of_ble_eq_true rfl) ?_
  intro p e s m below meth c A ls args R Q hRf hRl hQ E H locs hS hl
  have hx := E.x
  have hb := E.b
  have hl : lv_has ls 5 [(0, .ref q0), (1, .int p1), (2, .int p2), (3, .int p3), (4, .int p4)] := hl
  unfold X1_isSo at h
  refine lv_aload_n hx hb dX1_isSo_0 rfl (lv_at hl 0 rfl) ?_
  refine lv_iload_n hx hb dX1_isSo_1 rfl (lv_at hl 2 rfl) ?_
  refine ct_V (ws' := fun _ => [oX0 q0 (.ref q1) u0_1 (.ref q2) u0_3 (.ref q3) (.int w1_number) u0_6 u0_7, aI cy q1 7 w1_skill, aI cy q2 7 w1_slept, aI cy q3 7 w1_wanted]) (st' := [.int (X0_has w1_number p2)]) (rest := []) E hS vlX1_47 (c_X0_has (l := l) (D := D) (cy := cy) (q0 := q0) (u0_0 := .ref q1) (u0_1 := u0_1) (u0_2 := .ref q2) (u0_3 := u0_3) (u0_4 := .ref q3) (u0_6 := u0_6) (u0_7 := u0_7) (v_number := w1_number) (p1 := p2) (r := (X0_has w1_number p2)) rfl) [0] rfl rfl (fun _ => rfl) (fun _ => rfl) rfl rfl rfl rfl (Nat.le_of_ble_eq_true rfl) hl.1 (by rw [hRf]; exact Nat.le_of_ble_eq_true rfl) (by rw [hRl]; exact Nat.le_of_ble_eq_true rfl) ⟨Nat.zero_le _, Nat.zero_le _⟩ dX1_isSo_2 rfl (fun H locs _ hS => ?_)
  refine lv_if_ne (tgt := 10) hx hb dX1_isSo_5 (by decide) (fun c1 => ?_) (fun c1 => ?_)
  · have h := it_neg c1 h
    refine lv_iload_n hx hb dX1_isSo_10 rfl (lv_at hl 3 rfl) ?_
    rcases Decidable.em (p3 = 0) with c2 | c2
    · have h := it_pos c2 h
      refine lv_tableIn (off := 29) (tgt := 40) hx hb dX1_isSo_11 (by rw [c2]; decide) (by rw [c2]; decide) (by rw [c2]; rfl) (by decide) ?_
      refine lv_aload_n hx hb dX1_isSo_40 rfl (lv_at hl 0 rfl) ?_
      refine r_get E frX1_51 hS 0 rfl rfl dX1_isSo_41 ?_
      refine lv_iload_n hx hb dX1_isSo_44 rfl (lv_at hl 2 rfl) ?_
      obtain ⟨g3, h⟩ := gi_some h
      refine r_iald E hS 1 rfl g3 dX1_isSo_45 ?_
      refine lv_iload hx hb dX1_isSo_46 (lv_at hl 4 rfl) ?_
      have hJ56 : ∀ (s56_0 : Int32) (ls : Array Slot), s56_0 = (if (w1_skill p2.toNatClampNeg) < p4 then (0 : Int32) else (1 : Int32)) → lv_has ls 5 [] → W p l e R s m args below meth c H locs 0 0 Q (F0 m 56 ls [.int s56_0]) := by
        intro s56_0 ls es56_0 hl
        subst es56_0
        obtain rfl := Option.some.inj h
        exact rt_n E (by repeat' (first | rfl | split)) hQ (.null) hS dX1_isSo_56
      refine lv_icmp_lt (tgt := 55) hx hb dX1_isSo_48 (by decide) (fun c4 => ?_) (fun c4 => ?_)
      · refine lv_iconst (v := 0) hx hb dX1_isSo_55 (by decide) ?_
        exact hJ56 _ ls ((if_pos c4)).symm (lv_sub hl [] rfl)
      · refine lv_iconst (v := 1) hx hb dX1_isSo_51 (by decide) ?_
        refine lv_goto (tgt := 56) hx hb dX1_isSo_52 (by decide) ?_
        exact hJ56 _ ls ((if_neg c4)).symm (lv_sub hl [] rfl)
    · have h := it_neg c2 h
      rcases Decidable.em (p3 = 1) with c5 | c5
      · have h := it_pos c5 h
        refine lv_tableIn (off := 46) (tgt := 57) hx hb dX1_isSo_11 (by rw [c5]; decide) (by rw [c5]; decide) (by rw [c5]; rfl) (by decide) ?_
        refine lv_aload_n hx hb dX1_isSo_57 rfl (lv_at hl 0 rfl) ?_
        refine r_get E frX1_54 hS 0 rfl rfl dX1_isSo_58 ?_
        refine lv_iload_n hx hb dX1_isSo_61 rfl (lv_at hl 2 rfl) ?_
        obtain ⟨g6, h⟩ := gi_some h
        refine r_iald E hS 2 rfl g6 dX1_isSo_62 ?_
        refine lv_iload hx hb dX1_isSo_63 (lv_at hl 4 rfl) ?_
        have hJ73 : ∀ (s73_0 : Int32) (ls : Array Slot), s73_0 = (if p4 < (w1_slept p2.toNatClampNeg) then (0 : Int32) else (1 : Int32)) → lv_has ls 5 [] → W p l e R s m args below meth c H locs 0 0 Q (F0 m 73 ls [.int s73_0]) := by
          intro s73_0 ls es73_0 hl
          subst es73_0
          obtain rfl := Option.some.inj h
          exact rt_n E (by repeat' (first | rfl | split)) hQ (.null) hS dX1_isSo_73
        refine lv_icmp_gt (tgt := 72) hx hb dX1_isSo_65 (by decide) (fun c7 => ?_) (fun c7 => ?_)
        · refine lv_iconst (v := 0) hx hb dX1_isSo_72 (by decide) ?_
          exact hJ73 _ ls ((if_pos c7)).symm (lv_sub hl [] rfl)
        · refine lv_iconst (v := 1) hx hb dX1_isSo_68 (by decide) ?_
          refine lv_goto (tgt := 73) hx hb dX1_isSo_69 (by decide) ?_
          exact hJ73 _ ls ((if_neg c7)).symm (lv_sub hl [] rfl)
      · have h := it_neg c5 h
        rcases Decidable.em (p3 = 2) with c8 | c8
        · have h := it_pos c8 h
          refine lv_tableIn (off := 63) (tgt := 74) hx hb dX1_isSo_11 (by rw [c8]; decide) (by rw [c8]; decide) (by rw [c8]; rfl) (by decide) ?_
          refine lv_iload_n hx hb dX1_isSo_74 rfl (lv_at hl 1 rfl) ?_
          refine lv_iload_n hx hb dX1_isSo_75 rfl (lv_at hl 2 rfl) ?_
          refine lv_ishr hx hb dX1_isSo_76 ?_
          refine lv_iconst (v := 1) hx hb dX1_isSo_77 (by decide) ?_
          refine lv_iand hx hb dX1_isSo_78 ?_
          refine lv_iload hx hb dX1_isSo_79 (lv_at hl 4 rfl) ?_
          have hJ89 : ∀ (s89_0 : Int32) (ls : Array Slot), s89_0 = (if ((p1 >>> (p2 &&& 31)) &&& (1 : Int32)) = p4 then (1 : Int32) else (0 : Int32)) → lv_has ls 5 [] → W p l e R s m args below meth c H locs 0 0 Q (F0 m 89 ls [.int s89_0]) := by
            intro s89_0 ls es89_0 hl
            subst es89_0
            obtain rfl := Option.some.inj h
            exact rt_n E (by repeat' (first | rfl | split)) hQ (.null) hS dX1_isSo_89
          refine lv_icmp_ne (tgt := 88) hx hb dX1_isSo_81 (by decide) (fun c9 => ?_) (fun c9 => ?_)
          · refine lv_iconst (v := 0) hx hb dX1_isSo_88 (by decide) ?_
            exact hJ89 _ ls ((if_neg c9)).symm (lv_sub hl [] rfl)
          · refine lv_iconst (v := 1) hx hb dX1_isSo_84 (by decide) ?_
            refine lv_goto (tgt := 89) hx hb dX1_isSo_85 (by decide) ?_
            exact hJ89 _ ls ((if_pos c9)).symm (lv_sub hl [] rfl)
        · have h := it_neg c8 h
          rcases Decidable.em (p3 = 3) with c10 | c10
          · have h := it_pos c10 h
            refine lv_tableIn (off := 79) (tgt := 90) hx hb dX1_isSo_11 (by rw [c10]; decide) (by rw [c10]; decide) (by rw [c10]; rfl) (by decide) ?_
            refine lv_aload_n hx hb dX1_isSo_90 rfl (lv_at hl 0 rfl) ?_
            refine r_get E frX1_57 hS 0 rfl rfl dX1_isSo_91 ?_
            refine lv_iload_n hx hb dX1_isSo_94 rfl (lv_at hl 2 rfl) ?_
            obtain ⟨g11, h⟩ := gi_some h
            refine r_iald E hS 3 rfl g11 dX1_isSo_95 ?_
            refine lv_iload hx hb dX1_isSo_96 (lv_at hl 4 rfl) ?_
            refine lv_ishr hx hb dX1_isSo_98 ?_
            refine lv_iconst (v := 1) hx hb dX1_isSo_99 (by decide) ?_
            refine lv_iand hx hb dX1_isSo_100 ?_
            have hJ109 : ∀ (s109_0 : Int32) (ls : Array Slot), s109_0 = (if (((w1_wanted p2.toNatClampNeg) >>> (p4 &&& 31)) &&& (1 : Int32)) = 0 then (0 : Int32) else (1 : Int32)) → lv_has ls 5 [] → W p l e R s m args below meth c H locs 0 0 Q (F0 m 109 ls [.int s109_0]) := by
              intro s109_0 ls es109_0 hl
              subst es109_0
              obtain rfl := Option.some.inj h
              exact rt_n E (by repeat' (first | rfl | split)) hQ (.null) hS dX1_isSo_109
            refine lv_if_eq (tgt := 108) hx hb dX1_isSo_101 (by decide) (fun c12 => ?_) (fun c12 => ?_)
            · refine lv_iconst (v := 0) hx hb dX1_isSo_108 (by decide) ?_
              exact hJ109 _ ls ((if_pos c12)).symm (lv_sub hl [] rfl)
            · refine lv_iconst (v := 1) hx hb dX1_isSo_104 (by decide) ?_
              refine lv_goto (tgt := 109) hx hb dX1_isSo_105 (by decide) ?_
              exact hJ109 _ ls ((if_neg c12)).symm (lv_sub hl [] rfl)
          · have h := it_neg c10 h
            have ht : p3.toInt < 0 ∨ (3 : Int) < p3.toInt := by
              refine tb_neg (fun k h1 h2 => ?_)
              have hh : k = 0 ∨ k = 1 ∨ k = 2 ∨ k = 3 := by omega
              rcases hh with rfl | rfl | rfl | rfl
              · exact c2
              · exact c5
              · exact c8
              · exact c10
            refine lv_tableOut (tgt := 110) hx hb dX1_isSo_11 ht (by decide) ?_
            refine lv_aload_n hx hb dX1_isSo_110 rfl (lv_at hl 0 rfl) ?_
            refine lv_iload hx hb dX1_isSo_111 (lv_at hl 4 rfl) ?_
            refine ct_V (ws' := fun _ => [oX0 q0 (.ref q1) u0_1 (.ref q2) u0_3 (.ref q3) (.int w1_number) u0_6 u0_7, aI cy q1 7 w1_skill, aI cy q2 7 w1_slept, aI cy q3 7 w1_wanted]) (st' := [.int (X0_has w1_number p4)]) (rest := []) E hS vlX1_47 (c_X0_has (l := l) (D := D) (cy := cy) (q0 := q0) (u0_0 := .ref q1) (u0_1 := u0_1) (u0_2 := .ref q2) (u0_3 := u0_3) (u0_4 := .ref q3) (u0_6 := u0_6) (u0_7 := u0_7) (v_number := w1_number) (p1 := p4) (r := (X0_has w1_number p4)) rfl) [0] rfl rfl (fun _ => rfl) (fun _ => rfl) rfl rfl rfl rfl (Nat.le_of_ble_eq_true rfl) hl.1 (by rw [hRf]; exact Nat.le_of_ble_eq_true rfl) (by rw [hRl]; exact Nat.le_of_ble_eq_true rfl) ⟨Nat.zero_le _, Nat.zero_le _⟩ dX1_isSo_113 rfl (fun H locs _ hS => ?_)
            refine lv_if_eq (tgt := 137) hx hb dX1_isSo_116 (by decide) (fun c13 => ?_) (fun c13 => ?_)
            · have h := it_pos c13 h
              refine lv_iconst (v := 0) hx hb dX1_isSo_137 (by decide) ?_
              obtain rfl := Option.some.inj h
              exact rt_n E rfl hQ (.null) hS dX1_isSo_138
            · have h := it_neg c13 h
              refine lv_aload_n hx hb dX1_isSo_119 rfl (lv_at hl 0 rfl) ?_
              refine r_get E frX1_57 hS 0 rfl rfl dX1_isSo_120 ?_
              refine lv_iload hx hb dX1_isSo_123 (lv_at hl 4 rfl) ?_
              obtain ⟨g14, h⟩ := gi_some h
              refine r_iald E hS 3 rfl g14 dX1_isSo_125 ?_
              refine lv_iload_n hx hb dX1_isSo_126 rfl (lv_at hl 2 rfl) ?_
              refine lv_ishr hx hb dX1_isSo_127 ?_
              refine lv_iconst (v := 1) hx hb dX1_isSo_128 (by decide) ?_
              refine lv_iand hx hb dX1_isSo_129 ?_
              refine lv_if_eq (tgt := 137) hx hb dX1_isSo_130 (by decide) (fun c15 => ?_) (fun c15 => ?_)
              · have h := it_pos c15 h
                refine lv_iconst (v := 0) hx hb dX1_isSo_137 (by decide) ?_
                obtain rfl := Option.some.inj h
                exact rt_n E rfl hQ (.null) hS dX1_isSo_138
              · have h := it_neg c15 h
                refine lv_iconst (v := 1) hx hb dX1_isSo_133 (by decide) ?_
                refine lv_goto (tgt := 138) hx hb dX1_isSo_134 (by decide) ?_
                obtain rfl := Option.some.inj h
                exact rt_n E rfl hQ (.null) hS dX1_isSo_138
  · have h := it_pos c1 h
    refine lv_iconst (v := 0) hx hb dX1_isSo_8 (by decide) ?_
    obtain rfl := Option.some.inj h
    exact rt_n E rfl hQ (.null) hS dX1_isSo_9
set_option maxHeartbeats 4000000 in
set_option maxRecDepth 100000 in
theorem c_X1_such {l : Launch} {D : va_G} {cy : Nat → ClassId} (q0 : Nat) (q1 : Nat) (q2 : Nat) (q3 : Nat) (u0_1 : Value) (u0_3 : Value) (u0_6 : Value) (u0_7 : Value) (w1_number : Int32) (w1_skill : Nat → Int32) (w1_slept : Nat → Int32) (w1_wanted : Nat → Int32) (p1 : Int32) (p2 : Int32) (p3 : Int32) (r : Int32) (h : X1_such w1_number w1_skill w1_slept w1_wanted p1 p2 p3 = some r) : Ct l yX1_such cX1_such 6 (some .int) 2 45 D cy [.ref q0, .int p1, .int p2, .int p3] [oX0 q0 (.ref q1) u0_1 (.ref q2) u0_3 (.ref q3) (.int w1_number) u0_6 u0_7, aI cy q1 7 w1_skill, aI cy q2 7 w1_slept, aI cy q3 7 w1_wanted] (fun _ => [oX0 q0 (.ref q1) u0_1 (.ref q2) u0_3 (.ref q3) (.int w1_number) u0_6 u0_7, aI cy q1 7 w1_skill, aI cy q2 7 w1_slept, aI cy q3 7 w1_wanted]) (some (.int r)) := by
  refine Ct.mk kX1_such (by decide +kernel) (Nat.le_of_ble_eq_true rfl) ?_
  intro p e s m below meth c A ls args R Q hRf hRl hQ E H locs hS hl
  have hx := E.x
  have hb := E.b
  have hl : lv_has ls 6 [(0, .ref q0), (1, .int p1), (2, .int p2), (3, .int p3)] := hl
  unfold X1_such at h
  refine lv_iconst (v := 0) hx hb dX1_such_0 (by decide) ?_
  refine lv_istore (lv' := [(4, .int (0 : Int32)), (0, .ref q0), (1, .int p1), (2, .int p2), (3, .int p3)]) hx hb dX1_such_1 hl (by decide) rfl (fun ls hl => ?_)
  refine lv_iconst (v := 0) hx hb dX1_such_3 (by decide) ?_
  refine lv_istore (lv' := [(5, .int (0 : Int32)), (4, .int (0 : Int32)), (0, .ref q0), (1, .int p1), (2, .int p2), (3, .int p3)]) hx hb dX1_such_4 hl (by decide) rfl (fun ls hl => ?_)
  have hL6 : ∀ (n : Nat) (x6_0 : Int32) (x6_1 : Int32) (y6 : Int32) (H : Heap) (locs : List Loc) (ls : Array Slot), lp (fun x6 => X1_such_s6 w1_number w1_skill w1_slept w1_wanted p1 p2 p3 x6.1 x6.2) n (x6_0, x6_1) = some y6 → Sv D A s.heap [oX0 q0 (.ref q1) u0_1 (.ref q2) u0_3 (.ref q3) (.int w1_number) u0_6 u0_7, aI cy q1 7 w1_skill, aI cy q2 7 w1_slept, aI cy q3 7 w1_wanted] H locs → lv_has ls 6 [(0, .ref q0), (1, .int p1), (2, .int p2), (3, .int p3), (4, .int x6_0), (5, .int x6_1)] → ( ∀ (y6_0 : Int32), y6_0 = y6 → ∀ (H : Heap) (locs : List Loc) (ls : Array Slot), Sv D A s.heap [oX0 q0 (.ref q1) u0_1 (.ref q2) u0_3 (.ref q3) (.int w1_number) u0_6 u0_7, aI cy q1 7 w1_skill, aI cy q2 7 w1_slept, aI cy q3 7 w1_wanted] H locs → lv_has ls 6 [(4, .int y6_0)] → W p l e R s m args below meth c H locs 0 0 Q (F0 m 46 ls [])) → W p l e R s m args below meth c H locs 0 0 Q (F0 m 6 ls []) := by
    intro n
    induction n with
    | zero =>
      intro x6_0 x6_1 y6 H locs ls h
      exact lp_zero h
    | succ n ih6 =>
      intro x6_0 x6_1 y6 H locs ls h hS hl hk6_0
      obtain ⟨z6, h, hz6a, hz6b⟩ := lp_succ h
      have h : X1_such_s6 w1_number w1_skill w1_slept w1_wanted p1 p2 p3 x6_0 x6_1 = some z6 := h
      unfold X1_such_s6 at h
      refine lv_iload hx hb dX1_such_6 (lv_at hl 5 rfl) ?_
      refine lv_aload_n hx hb dX1_such_8 rfl (lv_at hl 0 rfl) ?_
      refine r_get E frX1_40 hS 0 rfl rfl dX1_such_9 ?_
      refine lv_icmp_ge (tgt := 46) hx hb dX1_such_12 (by decide) (fun c1 => ?_) (fun c1 => ?_)
      · have h := it_pos c1 h
        exact hk6_0 x6_0 (hz6b _ (Option.some.inj h).symm)  H locs ls hS (lv_sub hl [4] rfl)
      · have h := it_neg c1 h
        refine lv_iload hx hb dX1_such_15 (lv_at hl 4 rfl) ?_
        refine lv_aload_n hx hb dX1_such_17 rfl (lv_at hl 0 rfl) ?_
        refine lv_iload_n hx hb dX1_such_18 rfl (lv_at hl 1 rfl) ?_
        refine lv_iload hx hb dX1_such_19 (lv_at hl 5 rfl) ?_
        refine lv_iload_n hx hb dX1_such_21 rfl (lv_at hl 2 rfl) ?_
        refine lv_iload_n hx hb dX1_such_22 rfl (lv_at hl 3 rfl) ?_
        obtain ⟨y23, e2, h⟩ := bd_some h
        refine ct_S (ws' := fun _ => [oX0 q0 (.ref q1) u0_1 (.ref q2) u0_3 (.ref q3) (.int w1_number) u0_6 u0_7, aI cy q1 7 w1_skill, aI cy q2 7 w1_slept, aI cy q3 7 w1_wanted]) (st' := [.int y23, .int x6_0]) (rest := [.int x6_0]) E hS slX1_43 (c_X1_isSo (l := l) (D := D) (cy := cy) (q0 := q0) (q1 := q1) (q2 := q2) (q3 := q3) (u0_1 := u0_1) (u0_3 := u0_3) (u0_6 := u0_6) (u0_7 := u0_7) (w1_number := w1_number) (w1_skill := w1_skill) (w1_slept := w1_slept) (w1_wanted := w1_wanted) (p1 := p1) (p2 := x6_1) (p3 := p2) (p4 := p3) (r := y23) e2) [0, 1, 2, 3] rfl rfl (fun _ => rfl) (fun _ => rfl) rfl rfl (Nat.le_of_ble_eq_true rfl) hl.1 (by rw [hRf]; exact Nat.le_of_ble_eq_true rfl) (by rw [hRl]; exact Nat.le_of_ble_eq_true rfl) ⟨Nat.zero_le _, Nat.zero_le _⟩ dX1_such_23 rfl (fun H locs _ hS => ?_)
        have hJ37 : ∀ (s37_1 : Int32) (ls : Array Slot), s37_1 = (if y23 = 0 then (0 : Int32) else ((1 : Int32) <<< (x6_1 &&& 31))) → lv_has ls 6 [(0, .ref q0), (1, .int p1), (2, .int p2), (3, .int p3), (5, .int x6_1)] → W p l e R s m args below meth c H locs 0 0 Q (F0 m 37 ls [.int s37_1, .int x6_0]) := by
          intro s37_1 ls es37_1 hl
          subst es37_1
          refine lv_ior hx hb dX1_such_37 ?_
          refine lv_istore (lv' := [(4, .int (x6_0 ||| (if y23 = 0 then (0 : Int32) else ((1 : Int32) <<< (x6_1 &&& 31))))), (0, .ref q0), (1, .int p1), (2, .int p2), (3, .int p3), (5, .int x6_1)]) hx hb dX1_such_38 hl (by decide) rfl (fun ls hl => ?_)
          refine lv_iinc (v := (x6_1 + (1 : Int32))) (lv' := [(5, .int (x6_1 + (1 : Int32))), (4, .int (x6_0 ||| (if y23 = 0 then (0 : Int32) else ((1 : Int32) <<< (x6_1 &&& 31))))), (0, .ref q0), (1, .int p1), (2, .int p2), (3, .int p3)]) hx hb dX1_such_40 hl (k := 5) rfl rfl (by decide) rfl (fun ls hl => ?_)
          refine lv_goto (tgt := 6) hx hb dX1_such_43 (by decide) ?_
          exact ih6 (x6_0 ||| (if y23 = 0 then (0 : Int32) else ((1 : Int32) <<< (x6_1 &&& 31)))) (x6_1 + (1 : Int32)) y6  H locs ls (hz6a _ (Option.some.inj h).symm) hS (lv_sub hl [2, 3, 4, 5, 1, 0] rfl) hk6_0
        refine lv_if_eq (tgt := 36) hx hb dX1_such_26 (by decide) (fun c3 => ?_) (fun c3 => ?_)
        · refine lv_iconst (v := 0) hx hb dX1_such_36 (by decide) ?_
          exact hJ37 _ ls ((if_pos c3)).symm (lv_sub hl [0, 1, 2, 3, 5] rfl)
        · refine lv_iconst (v := 1) hx hb dX1_such_29 (by decide) ?_
          refine lv_iload hx hb dX1_such_30 (lv_at hl 5 rfl) ?_
          refine lv_ishl hx hb dX1_such_32 ?_
          refine lv_goto (tgt := 37) hx hb dX1_such_33 (by decide) ?_
          exact hJ37 _ ls ((if_neg c3)).symm (lv_sub hl [0, 1, 2, 3, 5] rfl)
  obtain ⟨y6, e6, h⟩ := bd_some h
  refine hL6 1000 (0 : Int32) (0 : Int32) y6  H locs ls e6 hS (lv_sub hl [2, 3, 4, 5, 1, 0] rfl) (fun y6_0 ey6 H locs ls hS hl => ?_)
  subst ey6
  refine lv_iload hx hb dX1_such_46 (lv_at hl 0 rfl) ?_
  obtain rfl := Option.some.inj h
  exact rt_i E hQ (.null) hS dX1_such_48
set_option maxHeartbeats 4000000 in
set_option maxRecDepth 100000 in
theorem c_X1_fitting {l : Launch} {D : va_G} {cy : Nat → ClassId} (q0 : Nat) (q1 : Nat) (q2 : Nat) (q3 : Nat) (q4 : Nat) (q5 : Nat) (q6 : Nat) (u3_1 : Value) (u3_3 : Value) (u3_6 : Value) (u3_7 : Value) (v_size : Int32) (v_what : Nat → Int32) (v_value : Nat → Int32) (w1_number : Int32) (w1_skill : Nat → Int32) (w1_slept : Nat → Int32) (w1_wanted : Nat → Int32) (p2 : Int32) (r : Int32) (h : X1_fitting v_size v_what v_value w1_number w1_skill w1_slept w1_wanted p2 = some r) : Ct l yX1_fitting cX1_fitting 5 (some .int) 3 70 D cy [.ref q0, .ref q3, .int p2] [oX1 q0 (.ref q1) (.ref q2) (.int v_size), aI cy q1 12 v_what, aI cy q2 12 v_value, oX0 q3 (.ref q4) u3_1 (.ref q5) u3_3 (.ref q6) (.int w1_number) u3_6 u3_7, aI cy q4 7 w1_skill, aI cy q5 7 w1_slept, aI cy q6 7 w1_wanted] (fun _ => [oX1 q0 (.ref q1) (.ref q2) (.int v_size), aI cy q1 12 v_what, aI cy q2 12 v_value, oX0 q3 (.ref q4) u3_1 (.ref q5) u3_3 (.ref q6) (.int w1_number) u3_6 u3_7, aI cy q4 7 w1_skill, aI cy q5 7 w1_slept, aI cy q6 7 w1_wanted]) (some (.int r)) := by
  refine Ct.mk kX1_fitting (by decide +kernel) (Nat.le_of_ble_eq_true rfl) ?_
  intro p e s m below meth c A ls args R Q hRf hRl hQ E H locs hS hl
  have hx := E.x
  have hb := E.b
  have hl : lv_has ls 5 [(0, .ref q0), (1, .ref q3), (2, .int p2)] := hl
  unfold X1_fitting at h
  refine lv_aload_n hx hb dX1_fitting_0 rfl (lv_at hl 1 rfl) ?_
  refine ct_V (ws' := fun _ => [oX1 q0 (.ref q1) (.ref q2) (.int v_size), aI cy q1 12 v_what, aI cy q2 12 v_value, oX0 q3 (.ref q4) u3_1 (.ref q5) u3_3 (.ref q6) (.int w1_number) u3_6 u3_7, aI cy q4 7 w1_skill, aI cy q5 7 w1_slept, aI cy q6 7 w1_wanted]) (st' := [.int (X0_everybody w1_number)]) (rest := []) E hS vlX1_30 (c_X0_everybody (l := l) (D := D) (cy := cy) (q0 := q3) (u0_0 := .ref q4) (u0_1 := u3_1) (u0_2 := .ref q5) (u0_3 := u3_3) (u0_4 := .ref q6) (u0_6 := u3_6) (u0_7 := u3_7) (v_number := w1_number) (r := (X0_everybody w1_number)) rfl) [3] rfl rfl (fun _ => rfl) (fun _ => rfl) rfl rfl rfl rfl (Nat.le_of_ble_eq_true rfl) hl.1 (by rw [hRf]; exact Nat.le_of_ble_eq_true rfl) (by rw [hRl]; exact Nat.le_of_ble_eq_true rfl) ⟨Nat.zero_le _, Nat.zero_le _⟩ dX1_fitting_1 rfl (fun H locs _ hS => ?_)
  refine lv_istore_n (lv' := [(3, .int (X0_everybody w1_number)), (0, .ref q0), (1, .ref q3), (2, .int p2)]) hx hb dX1_fitting_4 rfl hl (by decide) rfl (fun ls hl => ?_)
  refine lv_iconst (v := 0) hx hb dX1_fitting_5 (by decide) ?_
  refine lv_istore (lv' := [(4, .int (0 : Int32)), (3, .int (X0_everybody w1_number)), (0, .ref q0), (1, .ref q3), (2, .int p2)]) hx hb dX1_fitting_6 hl (by decide) rfl (fun ls hl => ?_)
  have hL8 : ∀ (n : Nat) (x8_0 : Int32) (x8_1 : Int32) (y8 : Int32) (H : Heap) (locs : List Loc) (ls : Array Slot), lp (fun x8 => X1_fitting_s8 v_size v_what v_value w1_number w1_skill w1_slept w1_wanted p2 x8.1 x8.2) n (x8_0, x8_1) = some y8 → Sv D A s.heap [oX1 q0 (.ref q1) (.ref q2) (.int v_size), aI cy q1 12 v_what, aI cy q2 12 v_value, oX0 q3 (.ref q4) u3_1 (.ref q5) u3_3 (.ref q6) (.int w1_number) u3_6 u3_7, aI cy q4 7 w1_skill, aI cy q5 7 w1_slept, aI cy q6 7 w1_wanted] H locs → lv_has ls 5 [(0, .ref q0), (1, .ref q3), (2, .int p2), (3, .int x8_0), (4, .int x8_1)] → ( ∀ (y8_0 : Int32), y8_0 = y8 → ∀ (H : Heap) (locs : List Loc) (ls : Array Slot), Sv D A s.heap [oX1 q0 (.ref q1) (.ref q2) (.int v_size), aI cy q1 12 v_what, aI cy q2 12 v_value, oX0 q3 (.ref q4) u3_1 (.ref q5) u3_3 (.ref q6) (.int w1_number) u3_6 u3_7, aI cy q4 7 w1_skill, aI cy q5 7 w1_slept, aI cy q6 7 w1_wanted] H locs → lv_has ls 5 [(3, .int y8_0)] → W p l e R s m args below meth c H locs 0 0 Q (F0 m 52 ls [])) → W p l e R s m args below meth c H locs 0 0 Q (F0 m 8 ls []) := by
    intro n
    induction n with
    | zero =>
      intro x8_0 x8_1 y8 H locs ls h
      exact lp_zero h
    | succ n ih8 =>
      intro x8_0 x8_1 y8 H locs ls h hS hl hk8_0
      obtain ⟨z8, h, hz8a, hz8b⟩ := lp_succ h
      have h : X1_fitting_s8 v_size v_what v_value w1_number w1_skill w1_slept w1_wanted p2 x8_0 x8_1 = some z8 := h
      unfold X1_fitting_s8 at h
      refine lv_iload hx hb dX1_fitting_8 (lv_at hl 4 rfl) ?_
      refine lv_aload_n hx hb dX1_fitting_10 rfl (lv_at hl 0 rfl) ?_
      refine r_get E frX1_18 hS 0 rfl rfl dX1_fitting_11 ?_
      refine lv_icmp_ge (tgt := 52) hx hb dX1_fitting_14 (by decide) (fun c1 => ?_) (fun c1 => ?_)
      · have h := it_pos c1 h
        exact hk8_0 x8_0 (hz8b _ (Option.some.inj h).symm)  H locs ls hS (lv_sub hl [3] rfl)
      · have h := it_neg c1 h
        refine lv_iload hx hb dX1_fitting_17 (lv_at hl 4 rfl) ?_
        refine lv_bipush (v := 12) hx hb dX1_fitting_19 (by decide) ?_
        refine lv_icmp_ge (tgt := 52) hx hb dX1_fitting_21 (by decide) (fun c2 => ?_) (fun c2 => ?_)
        · have h := it_pos c2 h
          exact hk8_0 x8_0 (hz8b _ (Option.some.inj h).symm)  H locs ls hS (lv_sub hl [3] rfl)
        · have h := it_neg c2 h
          refine lv_iload_n hx hb dX1_fitting_24 rfl (lv_at hl 3 rfl) ?_
          refine lv_aload_n hx hb dX1_fitting_25 rfl (lv_at hl 1 rfl) ?_
          refine lv_iload_n hx hb dX1_fitting_26 rfl (lv_at hl 2 rfl) ?_
          refine lv_aload_n hx hb dX1_fitting_27 rfl (lv_at hl 0 rfl) ?_
          refine r_get E frX1_11 hS 0 rfl rfl dX1_fitting_28 ?_
          refine lv_iload hx hb dX1_fitting_31 (lv_at hl 4 rfl) ?_
          obtain ⟨g3, h⟩ := gi_some h
          refine r_iald E hS 1 rfl g3 dX1_fitting_33 ?_
          refine lv_aload_n hx hb dX1_fitting_34 rfl (lv_at hl 0 rfl) ?_
          refine r_get E frX1_15 hS 0 rfl rfl dX1_fitting_35 ?_
          refine lv_iload hx hb dX1_fitting_38 (lv_at hl 4 rfl) ?_
          obtain ⟨g4, h⟩ := gi_some h
          refine r_iald E hS 2 rfl g4 dX1_fitting_40 ?_
          obtain ⟨y41, e5, h⟩ := bd_some h
          refine ct_S (ws' := fun _ => [oX1 q0 (.ref q1) (.ref q2) (.int v_size), aI cy q1 12 v_what, aI cy q2 12 v_value, oX0 q3 (.ref q4) u3_1 (.ref q5) u3_3 (.ref q6) (.int w1_number) u3_6 u3_7, aI cy q4 7 w1_skill, aI cy q5 7 w1_slept, aI cy q6 7 w1_wanted]) (st' := [.int y41, .int x8_0]) (rest := [.int x8_0]) E hS slX1_36 (c_X1_such (l := l) (D := D) (cy := cy) (q0 := q3) (q1 := q4) (q2 := q5) (q3 := q6) (u0_1 := u3_1) (u0_3 := u3_3) (u0_6 := u3_6) (u0_7 := u3_7) (w1_number := w1_number) (w1_skill := w1_skill) (w1_slept := w1_slept) (w1_wanted := w1_wanted) (p1 := p2) (p2 := (v_what x8_1.toNatClampNeg)) (p3 := (v_value x8_1.toNatClampNeg)) (r := y41) e5) [3, 4, 5, 6] rfl rfl (fun _ => rfl) (fun _ => rfl) rfl rfl (Nat.le_of_ble_eq_true rfl) hl.1 (by rw [hRf]; exact Nat.le_of_ble_eq_true rfl) (by rw [hRl]; exact Nat.le_of_ble_eq_true rfl) ⟨Nat.zero_le _, Nat.zero_le _⟩ dX1_fitting_41 rfl (fun H locs _ hS => ?_)
          refine lv_iand hx hb dX1_fitting_44 ?_
          refine lv_istore_n (lv' := [(3, .int (x8_0 &&& y41)), (0, .ref q0), (1, .ref q3), (2, .int p2), (4, .int x8_1)]) hx hb dX1_fitting_45 rfl hl (by decide) rfl (fun ls hl => ?_)
          refine lv_iinc (v := (x8_1 + (1 : Int32))) (lv' := [(4, .int (x8_1 + (1 : Int32))), (3, .int (x8_0 &&& y41)), (0, .ref q0), (1, .ref q3), (2, .int p2)]) hx hb dX1_fitting_46 hl (k := 4) rfl rfl (by decide) rfl (fun ls hl => ?_)
          refine lv_goto (tgt := 8) hx hb dX1_fitting_49 (by decide) ?_
          exact ih8 (x8_0 &&& y41) (x8_1 + (1 : Int32)) y8  H locs ls (hz8a _ (Option.some.inj h).symm) hS (lv_sub hl [2, 3, 4, 1, 0] rfl) hk8_0
  obtain ⟨y8, e8, h⟩ := bd_some h
  refine hL8 1000 (X0_everybody w1_number) (0 : Int32) y8  H locs ls e8 hS (lv_sub hl [2, 3, 4, 1, 0] rfl) (fun y8_0 ey8 H locs ls hS hl => ?_)
  subst ey8
  refine lv_iload_n hx hb dX1_fitting_52 rfl (lv_at hl 0 rfl) ?_
  obtain rfl := Option.some.inj h
  exact rt_i E hQ (.null) hS dX1_fitting_53

