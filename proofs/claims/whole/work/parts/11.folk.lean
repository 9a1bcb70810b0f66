set_option maxHeartbeats 4000000 in
set_option maxRecDepth 100000 in
theorem c_X0_has {l : Launch} {D : va_G} {cy : Nat → ClassId} (q0 : Nat) (u0_0 : Value) (u0_1 : Value) (u0_2 : Value) (u0_3 : Value) (u0_4 : Value) (u0_6 : Value) (u0_7 : Value) (v_number : Int32) (p1 : Int32) (r : Int32) (h : X0_has v_number p1 = r) : Ct l yX0_has cX0_has 2 (some .boolean) 0 0 D cy [.ref q0, .int p1] [oX0 q0 u0_0 u0_1 u0_2 u0_3 u0_4 (.int v_number) u0_6 u0_7] (fun _ => [oX0 q0 u0_0 u0_1 u0_2 u0_3 u0_4 (.int v_number) u0_6 u0_7]) (some (.int r)) := by
  refine Ct.mk kX0_has (by decide +kernel) (Nat.le_of_ble_eq_true rfl) ?_
  intro p e s m below meth c A ls args R Q hRf hRl hQ E H locs hS hl
  have hx := E.x
  have hb := E.b
  have hl : lv_has ls 2 [(0, .ref q0), (1, .int p1)] := hl
  unfold X0_has at h
  refine lv_iload_n hx hb dX0_has_0 rfl (lv_at hl 1 rfl) ?_
  have hJ17 : ∀ (s17_0 : Int32) (ls : Array Slot), s17_0 = (if p1 < 0 then (0 : Int32) else (if v_number ≤ p1 then (0 : Int32) else (1 : Int32))) → lv_has ls 2 [] → W p l e R s m args below meth c H locs 0 0 Q (F0 m 17 ls [.int s17_0]) := by
    intro s17_0 ls es17_0 hl
    subst es17_0
    subst h
    exact rt_n E (by repeat' (first | rfl | split)) hQ (.null) hS dX0_has_17
  refine lv_if_lt (tgt := 16) hx hb dX0_has_1 (by decide) (fun c1 => ?_) (fun c1 => ?_)
  · refine lv_iconst (v := 0) hx hb dX0_has_16 (by decide) ?_
    exact hJ17 _ ls ((if_pos c1)).symm (lv_sub hl [] rfl)
  · refine lv_iload_n hx hb dX0_has_4 rfl (lv_at hl 1 rfl) ?_
    refine lv_aload_n hx hb dX0_has_5 rfl (lv_at hl 0 rfl) ?_
    refine r_get E frX0_27 hS 0 rfl rfl dX0_has_6 ?_
    refine lv_icmp_ge (tgt := 16) hx hb dX0_has_9 (by decide) (fun c2 => ?_) (fun c2 => ?_)
    · refine lv_iconst (v := 0) hx hb dX0_has_16 (by decide) ?_
      exact hJ17 _ ls (((if_neg c1).trans (if_pos c2))).symm (lv_sub hl [] rfl)
    · refine lv_iconst (v := 1) hx hb dX0_has_12 (by decide) ?_
      refine lv_goto (tgt := 17) hx hb dX0_has_13 (by decide) ?_
      exact hJ17 _ ls (((if_neg c1).trans (if_neg c2))).symm (lv_sub hl [] rfl)
set_option maxHeartbeats 4000000 in
set_option maxRecDepth 100000 in
theorem c_X0_everybody {l : Launch} {D : va_G} {cy : Nat → ClassId} (q0 : Nat) (u0_0 : Value) (u0_1 : Value) (u0_2 : Value) (u0_3 : Value) (u0_4 : Value) (u0_6 : Value) (u0_7 : Value) (v_number : Int32) (r : Int32) (h : X0_everybody v_number = r) : Ct l yX0_everybody cX0_everybody 1 (some .int) 0 0 D cy [.ref q0] [oX0 q0 u0_0 u0_1 u0_2 u0_3 u0_4 (.int v_number) u0_6 u0_7] (fun _ => [oX0 q0 u0_0 u0_1 u0_2 u0_3 u0_4 (.int v_number) u0_6 u0_7]) (some (.int r)) := by
  refine Ct.mk kX0_everybody (by decide +kernel) (Nat.le_of_ble_eq_true rfl) ?_
  intro p e s m below meth c A ls args R Q hRf hRl hQ E H locs hS hl
  have hx := E.x
  have hb := E.b
  have hl : lv_has ls 1 [(0, .ref q0)] := hl
  unfold X0_everybody at h
  refine lv_iconst (v := 1) hx hb dX0_everybody_0 (by decide) ?_
  refine lv_aload_n hx hb dX0_everybody_1 rfl (lv_at hl 0 rfl) ?_
  refine r_get E frX0_27 hS 0 rfl rfl dX0_everybody_2 ?_
  refine lv_ishl hx hb dX0_everybody_5 ?_
  refine lv_iconst (v := 1) hx hb dX0_everybody_6 (by decide) ?_
  refine lv_isub hx hb dX0_everybody_7 ?_
  subst h
  exact rt_i E hQ (.null) hS dX0_everybody_8
set_option maxHeartbeats 4000000 in
set_option maxRecDepth 100000 in
theorem c_X0_comes {l : Launch} {D : va_G} {cy : Nat → ClassId} (q0 : Nat) (q1 : Nat) (q2 : Nat) (q3 : Nat) (q4 : Nat) (q5 : Nat) (u0_6 : Value) (u0_7 : Value) (v_number : Int32) (v_skill : Nat → Int32) (v_pills : Nat → Int32) (v_slept : Nat → Int32) (v_woken : Nat → Int32) (v_wanted : Nat → Int32) (p1 : Int32) (p2 : Int32) (r : Int32 × (Nat → Int32) × (Nat → Int32) × (Nat → Int32) × (Nat → Int32) × (Nat → Int32)) (h : X0_comes v_number v_skill v_pills v_slept v_woken v_wanted p1 p2 = some r) : Ct l yX0_comes cX0_comes 3 none 0 0 D cy [.ref q0, .int p1, .int p2] [oX0 q0 (.ref q1) (.ref q2) (.ref q3) (.ref q4) (.ref q5) (.int v_number) u0_6 u0_7, aI cy q1 7 v_skill, aI cy q2 7 v_pills, aI cy q3 7 v_slept, aI cy q4 7 v_woken, aI cy q5 7 v_wanted] (fun _ => [oX0 q0 (.ref q1) (.ref q2) (.ref q3) (.ref q4) (.ref q5) (.int r.1) u0_6 u0_7, aI cy q1 7 r.2.1, aI cy q2 7 r.2.2.1, aI cy q3 7 r.2.2.2.1, aI cy q4 7 r.2.2.2.2.1, aI cy q5 7 r.2.2.2.2.2]) (none) := by
  refine Ct.mk kX0_comes (by decide +kernel) (Nat.le_of_ble_eq_true rfl) ?_
  intro p e s m below meth c A ls args R Q hRf hRl hQ E H locs hS hl
  have hx := E.x
  have hb := E.b
  have hl : lv_has ls 3 [(0, .ref q0), (1, .int p1), (2, .int p2)] := hl
  unfold X0_comes at h
  refine lv_aload_n hx hb dX0_comes_0 rfl (lv_at hl 0 rfl) ?_
  refine r_get E frX0_27 hS 0 rfl rfl dX0_comes_1 ?_
  refine lv_bipush (v := 7) hx hb dX0_comes_4 (by decide) ?_
  refine lv_icmp_ge (tgt := 69) hx hb dX0_comes_6 (by decide) (fun c1 => ?_) (fun c1 => ?_)
  · have h := it_pos c1 h
    obtain rfl := Option.some.inj h
    exact rt_v E hQ (.null) hS dX0_comes_69
  · have h := it_neg c1 h
    refine lv_aload_n hx hb dX0_comes_9 rfl (lv_at hl 0 rfl) ?_
    refine r_get E frX0_9 hS 0 rfl rfl dX0_comes_10 ?_
    refine lv_aload_n hx hb dX0_comes_13 rfl (lv_at hl 0 rfl) ?_
    refine r_get E frX0_27 hS 0 rfl rfl dX0_comes_14 ?_
    refine lv_iload_n hx hb dX0_comes_17 rfl (lv_at hl 1 rfl) ?_
    obtain ⟨g2, h⟩ := gi_some h
    refine r_iast (ws' := [oX0 q0 (.ref q1) (.ref q2) (.ref q3) (.ref q4) (.ref q5) (.int v_number) u0_6 u0_7, aI cy q1 7 (upd v_skill v_number.toNatClampNeg p1), aI cy q2 7 v_pills, aI cy q3 7 v_slept, aI cy q4 7 v_woken, aI cy q5 7 v_wanted]) E hS 1 rfl g2 rfl dX0_comes_18 (fun H locs hS => ?_)
    refine lv_aload_n hx hb dX0_comes_19 rfl (lv_at hl 0 rfl) ?_
    refine r_get E frX0_15 hS 0 rfl rfl dX0_comes_20 ?_
    refine lv_aload_n hx hb dX0_comes_23 rfl (lv_at hl 0 rfl) ?_
    refine r_get E frX0_27 hS 0 rfl rfl dX0_comes_24 ?_
    refine lv_iload_n hx hb dX0_comes_27 rfl (lv_at hl 2 rfl) ?_
    obtain ⟨g3, h⟩ := gi_some h
    refine r_iast (ws' := [oX0 q0 (.ref q1) (.ref q2) (.ref q3) (.ref q4) (.ref q5) (.int v_number) u0_6 u0_7, aI cy q1 7 (upd v_skill v_number.toNatClampNeg p1), aI cy q2 7 (upd v_pills v_number.toNatClampNeg p2), aI cy q3 7 v_slept, aI cy q4 7 v_woken, aI cy q5 7 v_wanted]) E hS 2 rfl g3 rfl dX0_comes_28 (fun H locs hS => ?_)
    refine lv_aload_n hx hb dX0_comes_29 rfl (lv_at hl 0 rfl) ?_
    refine r_get E frX0_18 hS 0 rfl rfl dX0_comes_30 ?_
    refine lv_aload_n hx hb dX0_comes_33 rfl (lv_at hl 0 rfl) ?_
    refine r_get E frX0_27 hS 0 rfl rfl dX0_comes_34 ?_
    refine lv_iconst (v := 0) hx hb dX0_comes_37 (by decide) ?_
    obtain ⟨g4, h⟩ := gi_some h
    refine r_iast (ws' := [oX0 q0 (.ref q1) (.ref q2) (.ref q3) (.ref q4) (.ref q5) (.int v_number) u0_6 u0_7, aI cy q1 7 (upd v_skill v_number.toNatClampNeg p1), aI cy q2 7 (upd v_pills v_number.toNatClampNeg p2), aI cy q3 7 (upd v_slept v_number.toNatClampNeg (0 : Int32)), aI cy q4 7 v_woken, aI cy q5 7 v_wanted]) E hS 3 rfl g4 rfl dX0_comes_38 (fun H locs hS => ?_)
    refine lv_aload_n hx hb dX0_comes_39 rfl (lv_at hl 0 rfl) ?_
    refine r_get E frX0_21 hS 0 rfl rfl dX0_comes_40 ?_
    refine lv_aload_n hx hb dX0_comes_43 rfl (lv_at hl 0 rfl) ?_
    refine r_get E frX0_27 hS 0 rfl rfl dX0_comes_44 ?_
    refine lv_iconst (v := 0) hx hb dX0_comes_47 (by decide) ?_
    obtain ⟨g5, h⟩ := gi_some h
    refine r_iast (ws' := [oX0 q0 (.ref q1) (.ref q2) (.ref q3) (.ref q4) (.ref q5) (.int v_number) u0_6 u0_7, aI cy q1 7 (upd v_skill v_number.toNatClampNeg p1), aI cy q2 7 (upd v_pills v_number.toNatClampNeg p2), aI cy q3 7 (upd v_slept v_number.toNatClampNeg (0 : Int32)), aI cy q4 7 (upd v_woken v_number.toNatClampNeg (0 : Int32)), aI cy q5 7 v_wanted]) E hS 4 rfl g5 rfl dX0_comes_48 (fun H locs hS => ?_)
    refine lv_aload_n hx hb dX0_comes_49 rfl (lv_at hl 0 rfl) ?_
    refine r_get E frX0_24 hS 0 rfl rfl dX0_comes_50 ?_
    refine lv_aload_n hx hb dX0_comes_53 rfl (lv_at hl 0 rfl) ?_
    refine r_get E frX0_27 hS 0 rfl rfl dX0_comes_54 ?_
    refine lv_iconst (v := 0) hx hb dX0_comes_57 (by decide) ?_
    obtain ⟨g6, h⟩ := gi_some h
    refine r_iast (ws' := [oX0 q0 (.ref q1) (.ref q2) (.ref q3) (.ref q4) (.ref q5) (.int v_number) u0_6 u0_7, aI cy q1 7 (upd v_skill v_number.toNatClampNeg p1), aI cy q2 7 (upd v_pills v_number.toNatClampNeg p2), aI cy q3 7 (upd v_slept v_number.toNatClampNeg (0 : Int32)), aI cy q4 7 (upd v_woken v_number.toNatClampNeg (0 : Int32)), aI cy q5 7 (upd v_wanted v_number.toNatClampNeg (0 : Int32))]) E hS 5 rfl g6 rfl dX0_comes_58 (fun H locs hS => ?_)
    refine lv_aload_n hx hb dX0_comes_59 rfl (lv_at hl 0 rfl) ?_
    refine lv_dup hx hb dX0_comes_60 rfl ?_
    refine r_get E frX0_27 hS 0 rfl rfl dX0_comes_61 ?_
    refine lv_iconst (v := 1) hx hb dX0_comes_64 (by decide) ?_
    refine lv_iadd hx hb dX0_comes_65 ?_
    refine r_put (ws' := [oX0 q0 (.ref q1) (.ref q2) (.ref q3) (.ref q4) (.ref q5) (.int (v_number + (1 : Int32))) u0_6 u0_7, aI cy q1 7 (upd v_skill v_number.toNatClampNeg p1), aI cy q2 7 (upd v_pills v_number.toNatClampNeg p2), aI cy q3 7 (upd v_slept v_number.toNatClampNeg (0 : Int32)), aI cy q4 7 (upd v_woken v_number.toNatClampNeg (0 : Int32)), aI cy q5 7 (upd v_wanted v_number.toNatClampNeg (0 : Int32))]) E frX0_27 hS 0 rfl (Nat.le_of_ble_eq_true rfl) rfl rfl rfl rfl dX0_comes_66 (fun H locs hS => ?_)
    obtain rfl := Option.some.inj h
    exact rt_v E hQ (.null) hS dX0_comes_69
set_option maxHeartbeats 4000000 in
set_option maxRecDepth 100000 in
theorem c_X0_wantsNobody {l : Launch} {D : va_G} {cy : Nat → ClassId} (q0 : Nat) (q1 : Nat) (u0_0 : Value) (u0_1 : Value) (u0_2 : Value) (u0_3 : Value) (u0_6 : Value) (u0_7 : Value) (v_number : Int32) (v_wanted : Nat → Int32) (p1 : Int32) (r : (Nat → Int32)) (h : X0_wantsNobody v_number v_wanted p1 = some r) : Ct l yX0_wantsNobody cX0_wantsNobody 2 none 1 21 D cy [.ref q0, .int p1] [oX0 q0 u0_0 u0_1 u0_2 u0_3 (.ref q1) (.int v_number) u0_6 u0_7, aI cy q1 7 v_wanted] (fun _ => [oX0 q0 u0_0 u0_1 u0_2 u0_3 (.ref q1) (.int v_number) u0_6 u0_7, aI cy q1 7 r]) (none) := by
  refine Ct.mk kX0_wantsNobody (by decide +kernel) (Nat.le_of_ble_eq_true rfl) ?_
  intro p e s m below meth c A ls args R Q hRf hRl hQ E H locs hS hl
  have hx := E.x
  have hb := E.b
  have hl : lv_has ls 2 [(0, .ref q0), (1, .int p1)] := hl
  unfold X0_wantsNobody at h
  refine lv_aload_n hx hb dX0_wantsNobody_0 rfl (lv_at hl 0 rfl) ?_
  refine lv_iload_n hx hb dX0_wantsNobody_1 rfl (lv_at hl 1 rfl) ?_
  refine ct_V (ws' := fun _ => [oX0 q0 u0_0 u0_1 u0_2 u0_3 (.ref q1) (.int v_number) u0_6 u0_7, aI cy q1 7 v_wanted]) (st' := [.int (X0_has v_number p1)]) (rest := []) E hS vlX0_37 (c_X0_has (l := l) (D := D) (cy := cy) (q0 := q0) (u0_0 := u0_0) (u0_1 := u0_1) (u0_2 := u0_2) (u0_3 := u0_3) (u0_4 := .ref q1) (u0_6 := u0_6) (u0_7 := u0_7) (v_number := v_number) (p1 := p1) (r := (X0_has v_number p1)) rfl) [0] rfl rfl (fun _ => rfl) (fun _ => rfl) rfl rfl rfl rfl (Nat.le_of_ble_eq_true rfl) hl.1 (by rw [hRf]; exact Nat.le_of_ble_eq_true rfl) (by rw [hRl]; exact Nat.le_of_ble_eq_true rfl) ⟨Nat.zero_le _, Nat.zero_le _⟩ dX0_wantsNobody_2 rfl (fun H locs _ hS => ?_)
  refine lv_if_eq (tgt := 15) hx hb dX0_wantsNobody_5 (by decide) (fun c1 => ?_) (fun c1 => ?_)
  · have h := it_pos c1 h
    obtain rfl := Option.some.inj h
    exact rt_v E hQ (.null) hS dX0_wantsNobody_15
  · have h := it_neg c1 h
    refine lv_aload_n hx hb dX0_wantsNobody_8 rfl (lv_at hl 0 rfl) ?_
    refine r_get E frX0_24 hS 0 rfl rfl dX0_wantsNobody_9 ?_
    refine lv_iload_n hx hb dX0_wantsNobody_12 rfl (lv_at hl 1 rfl) ?_
    refine lv_iconst (v := 0) hx hb dX0_wantsNobody_13 (by decide) ?_
    obtain ⟨g2, h⟩ := gi_some h
    refine r_iast (ws' := [oX0 q0 u0_0 u0_1 u0_2 u0_3 (.ref q1) (.int v_number) u0_6 u0_7, aI cy q1 7 (upd v_wanted p1.toNatClampNeg (0 : Int32))]) E hS 1 rfl g2 rfl dX0_wantsNobody_14 (fun H locs hS => ?_)
    obtain rfl := Option.some.inj h
    exact rt_v E hQ (.null) hS dX0_wantsNobody_15
set_option maxHeartbeats 4000000 in
set_option maxRecDepth 100000 in
theorem c_X0_wantsToo {l : Launch} {D : va_G} {cy : Nat → ClassId} (q0 : Nat) (q1 : Nat) (u0_0 : Value) (u0_1 : Value) (u0_2 : Value) (u0_3 : Value) (u0_6 : Value) (u0_7 : Value) (v_number : Int32) (v_wanted : Nat → Int32) (p1 : Int32) (p2 : Int32) (r : (Nat → Int32)) (h : X0_wantsToo v_number v_wanted p1 p2 = some r) : Ct l yX0_wantsToo cX0_wantsToo 3 none 1 21 D cy [.ref q0, .int p1, .int p2] [oX0 q0 u0_0 u0_1 u0_2 u0_3 (.ref q1) (.int v_number) u0_6 u0_7, aI cy q1 7 v_wanted] (fun _ => [oX0 q0 u0_0 u0_1 u0_2 u0_3 (.ref q1) (.int v_number) u0_6 u0_7, aI cy q1 7 r]) (none) := by
  refine Ct.mk kX0_wantsToo (by decide +kernel) (Nat.le_of_ble_eq_true rfl) ?_
  intro p e s m below meth c A ls args R Q hRf hRl hQ E H locs hS hl
  have hx := E.x
  have hb := E.b
  have hl : lv_has ls 3 [(0, .ref q0), (1, .int p1), (2, .int p2)] := hl
  unfold X0_wantsToo at h
  refine lv_aload_n hx hb dX0_wantsToo_0 rfl (lv_at hl 0 rfl) ?_
  refine lv_iload_n hx hb dX0_wantsToo_1 rfl (lv_at hl 1 rfl) ?_
  refine ct_V (ws' := fun _ => [oX0 q0 u0_0 u0_1 u0_2 u0_3 (.ref q1) (.int v_number) u0_6 u0_7, aI cy q1 7 v_wanted]) (st' := [.int (X0_has v_number p1)]) (rest := []) E hS vlX0_37 (c_X0_has (l := l) (D := D) (cy := cy) (q0 := q0) (u0_0 := u0_0) (u0_1 := u0_1) (u0_2 := u0_2) (u0_3 := u0_3) (u0_4 := .ref q1) (u0_6 := u0_6) (u0_7 := u0_7) (v_number := v_number) (p1 := p1) (r := (X0_has v_number p1)) rfl) [0] rfl rfl (fun _ => rfl) (fun _ => rfl) rfl rfl rfl rfl (Nat.le_of_ble_eq_true rfl) hl.1 (by rw [hRf]; exact Nat.le_of_ble_eq_true rfl) (by rw [hRl]; exact Nat.le_of_ble_eq_true rfl) ⟨Nat.zero_le _, Nat.zero_le _⟩ dX0_wantsToo_2 rfl (fun H locs _ hS => ?_)
  refine lv_if_eq (tgt := 28) hx hb dX0_wantsToo_5 (by decide) (fun c1 => ?_) (fun c1 => ?_)
  · have h := it_pos c1 h
    obtain rfl := Option.some.inj h
    exact rt_v E hQ (.null) hS dX0_wantsToo_28
  · have h := it_neg c1 h
    refine lv_aload_n hx hb dX0_wantsToo_8 rfl (lv_at hl 0 rfl) ?_
    refine lv_iload_n hx hb dX0_wantsToo_9 rfl (lv_at hl 2 rfl) ?_
    refine ct_V (ws' := fun _ => [oX0 q0 u0_0 u0_1 u0_2 u0_3 (.ref q1) (.int v_number) u0_6 u0_7, aI cy q1 7 v_wanted]) (st' := [.int (X0_has v_number p2)]) (rest := []) E hS vlX0_37 (c_X0_has (l := l) (D := D) (cy := cy) (q0 := q0) (u0_0 := u0_0) (u0_1 := u0_1) (u0_2 := u0_2) (u0_3 := u0_3) (u0_4 := .ref q1) (u0_6 := u0_6) (u0_7 := u0_7) (v_number := v_number) (p1 := p2) (r := (X0_has v_number p2)) rfl) [0] rfl rfl (fun _ => rfl) (fun _ => rfl) rfl rfl rfl rfl (Nat.le_of_ble_eq_true rfl) hl.1 (by rw [hRf]; exact Nat.le_of_ble_eq_true rfl) (by rw [hRl]; exact Nat.le_of_ble_eq_true rfl) ⟨Nat.zero_le _, Nat.zero_le _⟩ dX0_wantsToo_10 rfl (fun H locs _ hS => ?_)
    refine lv_if_eq (tgt := 28) hx hb dX0_wantsToo_13 (by decide) (fun c2 => ?_) (fun c2 => ?_)
    · have h := it_pos c2 h
      obtain rfl := Option.some.inj h
      exact rt_v E hQ (.null) hS dX0_wantsToo_28
    · have h := it_neg c2 h
      refine lv_aload_n hx hb dX0_wantsToo_16 rfl (lv_at hl 0 rfl) ?_
      refine r_get E frX0_24 hS 0 rfl rfl dX0_wantsToo_17 ?_
      refine lv_iload_n hx hb dX0_wantsToo_20 rfl (lv_at hl 1 rfl) ?_
      refine lv_dup2_11 hx hb dX0_wantsToo_21 rfl rfl ?_
      obtain ⟨g3, h⟩ := gi_some h
      refine r_iald E hS 1 rfl g3 dX0_wantsToo_22 ?_
      refine lv_iconst (v := 1) hx hb dX0_wantsToo_23 (by decide) ?_
      refine lv_iload_n hx hb dX0_wantsToo_24 rfl (lv_at hl 2 rfl) ?_
      refine lv_ishl hx hb dX0_wantsToo_25 ?_
      refine lv_ior hx hb dX0_wantsToo_26 ?_
      obtain ⟨g4, h⟩ := gi_some h
      refine r_iast (ws' := [oX0 q0 u0_0 u0_1 u0_2 u0_3 (.ref q1) (.int v_number) u0_6 u0_7, aI cy q1 7 (upd v_wanted p1.toNatClampNeg ((v_wanted p1.toNatClampNeg) ||| ((1 : Int32) <<< (p2 &&& 31))))]) E hS 1 rfl g4 rfl dX0_wantsToo_27 (fun H locs hS => ?_)
      obtain rfl := Option.some.inj h
      exact rt_v E hQ (.null) hS dX0_wantsToo_28
set_option maxHeartbeats 4000000 in
set_option maxRecDepth 100000 in
theorem c_X0_skillsFrom {l : Launch} {D : va_G} {cy : Nat → ClassId} (q0 : Nat) (q1 : Nat) (u0_1 : Value) (u0_2 : Value) (u0_3 : Value) (u0_4 : Value) (u0_6 : Value) (u0_7 : Value) (v_number : Int32) (v_skill : Nat → Int32) (p1 : Int32) (p2 : Int32) (p3 : Int32) (p4 : Int32) (r : (Nat → Int32)) (h : X0_skillsFrom v_number v_skill p1 p2 p3 p4 = some r) : Ct l yX0_skillsFrom cX0_skillsFrom 8 none 1 21 D cy [.ref q0, .int p1, .int p2, .int p3, .int p4] [oX0 q0 (.ref q1) u0_1 u0_2 u0_3 u0_4 (.int v_number) u0_6 u0_7, aI cy q1 7 v_skill] (fun _ => [oX0 q0 (.ref q1) u0_1 u0_2 u0_3 u0_4 (.int v_number) u0_6 u0_7, aI cy q1 7 r]) (none) := by
  refine Ct.mk kX0_skillsFrom (by decide +kernel) (Nat.le_of_ble_eq_true rfl) ?_
  intro p e s m below meth c A ls args R Q hRf hRl hQ E H locs hS hl
  have hx := E.x
  have hb := E.b
  have hl : lv_has ls 8 [(0, .ref q0), (1, .int p1), (2, .int p2), (3, .int p3), (4, .int p4)] := hl
  unfold X0_skillsFrom at h
  refine lv_iload_n hx hb dX0_skillsFrom_0 rfl (lv_at hl 3 rfl) ?_
  refine lv_istore (lv' := [(5, .int p3), (0, .ref q0), (1, .int p1), (2, .int p2), (3, .int p3), (4, .int p4)]) hx hb dX0_skillsFrom_1 hl (by decide) rfl (fun ls hl => ?_)
  refine lv_iconst (v := 0) hx hb dX0_skillsFrom_3 (by decide) ?_
  refine lv_istore (lv' := [(6, .int (0 : Int32)), (5, .int p3), (0, .ref q0), (1, .int p1), (2, .int p2), (3, .int p3), (4, .int p4)]) hx hb dX0_skillsFrom_4 hl (by decide) rfl (fun ls hl => ?_)
  have hL6 : ∀ (n : Nat) (x6_0 : Int32) (x6_1 : Int32) (x6_2 : Nat → Int32) (y6 : (Nat → Int32)) (H : Heap) (locs : List Loc) (ls : Array Slot), lp (fun x6 => X0_skillsFrom_s6 v_number p1 p2 p4 x6.1 x6.2.1 x6.2.2) n (x6_0, x6_1, x6_2) = some y6 → Sv D A s.heap [oX0 q0 (.ref q1) u0_1 u0_2 u0_3 u0_4 (.int v_number) u0_6 u0_7, aI cy q1 7 x6_2] H locs → lv_has ls 8 [(0, .ref q0), (1, .int p1), (2, .int p2), (4, .int p4), (5, .int x6_0), (6, .int x6_1)] → ( ∀ (y6_0 : Nat → Int32), y6_0 = y6 → ∀ (H : Heap) (locs : List Loc) (ls : Array Slot), Sv D A s.heap [oX0 q0 (.ref q1) u0_1 u0_2 u0_3 u0_4 (.int v_number) u0_6 u0_7, aI cy q1 7 y6_0] H locs → lv_has ls 8 [] → W p l e R s m args below meth c H locs 0 0 Q (F0 m 81 ls [])) → W p l e R s m args below meth c H locs 0 0 Q (F0 m 6 ls []) := by
    intro n
    induction n with
    | zero =>
      intro x6_0 x6_1 x6_2 y6 H locs ls h
      exact lp_zero h
    | succ n ih6 =>
      intro x6_0 x6_1 x6_2 y6 H locs ls h hS hl hk6_0
      obtain ⟨z6, h, hz6a, hz6b⟩ := lp_succ h
      have h : X0_skillsFrom_s6 v_number p1 p2 p4 x6_0 x6_1 x6_2 = some z6 := h
      unfold X0_skillsFrom_s6 at h
      refine lv_iload hx hb dX0_skillsFrom_6 (lv_at hl 5 rfl) ?_
      refine lv_aload_n hx hb dX0_skillsFrom_8 rfl (lv_at hl 0 rfl) ?_
      refine r_get E frX0_27 hS 0 rfl rfl dX0_skillsFrom_9 ?_
      refine lv_icmp_ge (tgt := 81) hx hb dX0_skillsFrom_12 (by decide) (fun c1 => ?_) (fun c1 => ?_)
      · have h := it_pos c1 h
        exact hk6_0 x6_2 (hz6b _ (Option.some.inj h).symm)  H locs ls hS (lv_sub hl [] rfl)
      · have h := it_neg c1 h
        refine lv_iload_n hx hb dX0_skillsFrom_15 rfl (lv_at hl 1 rfl) ?_
        have hJ38 : ∀ (s38_0 : Int32) (ls : Array Slot), s38_0 = (if p1 = 0 then (x6_0.toInt8.toInt32) else (if p1 = (1 : Int32) then (x6_0.toInt16.toInt32) else x6_0)) → lv_has ls 8 [(0, .ref q0), (1, .int p1), (2, .int p2), (4, .int p4), (5, .int x6_0), (6, .int x6_1)] → W p l e R s m args below meth c H locs 0 0 Q (F0 m 38 ls [.int s38_0]) := by
          intro s38_0 ls es38_0 hl
          subst es38_0
          refine lv_istore (lv' := [(7, .int (if p1 = 0 then (x6_0.toInt8.toInt32) else (if p1 = (1 : Int32) then (x6_0.toInt16.toInt32) else x6_0))), (0, .ref q0), (1, .int p1), (2, .int p2), (4, .int p4), (5, .int x6_0), (6, .int x6_1)]) hx hb dX0_skillsFrom_38 hl (by decide) rfl (fun ls hl => ?_)
          refine lv_aload_n hx hb dX0_skillsFrom_40 rfl (lv_at hl 1 rfl) ?_
          refine r_get E frX0_9 hS 0 rfl rfl dX0_skillsFrom_41 ?_
          refine lv_iload hx hb dX0_skillsFrom_44 (lv_at hl 6 rfl) ?_
          refine lv_iload hx hb dX0_skillsFrom_46 (lv_at hl 6 rfl) ?_
          refine lv_iload_n hx hb dX0_skillsFrom_48 rfl (lv_at hl 3 rfl) ?_
          refine lv_icmp_ge (tgt := 66) hx hb dX0_skillsFrom_49 (by decide) (fun c2 => ?_) (fun c2 => ?_)
          · have h := it_pos c2 h
            refine lv_iconst (v := 0) hx hb dX0_skillsFrom_66 (by decide) ?_
            obtain ⟨g3, h⟩ := gi_some h
            refine r_iast (ws' := [oX0 q0 (.ref q1) u0_1 u0_2 u0_3 u0_4 (.int v_number) u0_6 u0_7, aI cy q1 7 (upd x6_2 x6_1.toNatClampNeg (0 : Int32))]) E hS 1 rfl g3 rfl dX0_skillsFrom_67 (fun H locs hS => ?_)
            refine lv_iload hx hb dX0_skillsFrom_68 (lv_at hl 5 rfl) ?_
            refine lv_iload hx hb dX0_skillsFrom_70 (lv_at hl 4 rfl) ?_
            refine lv_iadd hx hb dX0_skillsFrom_72 ?_
            refine lv_istore (lv' := [(5, .int (x6_0 + p4)), (7, .int (if p1 = 0 then (x6_0.toInt8.toInt32) else (if p1 = (1 : Int32) then (x6_0.toInt16.toInt32) else x6_0))), (0, .ref q0), (1, .int p1), (2, .int p2), (4, .int p4), (6, .int x6_1)]) hx hb dX0_skillsFrom_73 hl (by decide) rfl (fun ls hl => ?_)
            refine lv_iinc (v := (x6_1 + (1 : Int32))) (lv' := [(6, .int (x6_1 + (1 : Int32))), (5, .int (x6_0 + p4)), (7, .int (if p1 = 0 then (x6_0.toInt8.toInt32) else (if p1 = (1 : Int32) then (x6_0.toInt16.toInt32) else x6_0))), (0, .ref q0), (1, .int p1), (2, .int p2), (4, .int p4)]) hx hb dX0_skillsFrom_75 hl (k := 6) rfl rfl (by decide) rfl (fun ls hl => ?_)
            refine lv_goto (tgt := 6) hx hb dX0_skillsFrom_78 (by decide) ?_
            exact ih6 (x6_0 + p4) (x6_1 + (1 : Int32)) (upd x6_2 x6_1.toNatClampNeg (0 : Int32)) y6  H locs ls (hz6a _ (Option.some.inj h).symm) hS (lv_sub hl [3, 4, 5, 6, 1, 0] rfl) hk6_0
          · have h := it_neg c2 h
            refine lv_iconst (v := 0) hx hb dX0_skillsFrom_52 (by decide) ?_
            refine lv_bipush (v := 9) hx hb dX0_skillsFrom_53 (by decide) ?_
            refine lv_iload hx hb dX0_skillsFrom_55 (lv_at hl 0 rfl) ?_
            refine ct_S (ws' := fun _ => [oX0 q0 (.ref q1) u0_1 u0_2 u0_3 u0_4 (.int v_number) u0_6 u0_7, aI cy q1 7 x6_2]) (st' := [.int (J9_min_7cf53 (9 : Int32) (if p1 = 0 then (x6_0.toInt8.toInt32) else (if p1 = (1 : Int32) then (x6_0.toInt16.toInt32) else x6_0))), .int (0 : Int32), .int x6_1, .ref q1]) (rest := [.int (0 : Int32), .int x6_1, .ref q1]) E hS slX0_41 (c_J9_min_7cf53 (l := l) (D := D) (cy := cy) (p0 := (9 : Int32)) (p1 := (if p1 = 0 then (x6_0.toInt8.toInt32) else (if p1 = (1 : Int32) then (x6_0.toInt16.toInt32) else x6_0))) (r := (J9_min_7cf53 (9 : Int32) (if p1 = 0 then (x6_0.toInt8.toInt32) else (if p1 = (1 : Int32) then (x6_0.toInt16.toInt32) else x6_0)))) rfl) [] rfl rfl (fun _ => rfl) (fun _ => rfl) rfl rfl (Nat.le_of_ble_eq_true rfl) hl.1 (by rw [hRf]; exact Nat.le_of_ble_eq_true rfl) (by rw [hRl]; exact Nat.le_of_ble_eq_true rfl) ⟨Nat.zero_le _, Nat.zero_le _⟩ dX0_skillsFrom_57 rfl (fun H locs _ hS => ?_)
            refine ct_S (ws' := fun _ => [oX0 q0 (.ref q1) u0_1 u0_2 u0_3 u0_4 (.int v_number) u0_6 u0_7, aI cy q1 7 x6_2]) (st' := [.int (J9_max_7cf53 (0 : Int32) (J9_min_7cf53 (9 : Int32) (if p1 = 0 then (x6_0.toInt8.toInt32) else (if p1 = (1 : Int32) then (x6_0.toInt16.toInt32) else x6_0)))), .int x6_1, .ref q1]) (rest := [.int x6_1, .ref q1]) E hS slX0_47 (c_J9_max_7cf53 (l := l) (D := D) (cy := cy) (p0 := (0 : Int32)) (p1 := (J9_min_7cf53 (9 : Int32) (if p1 = 0 then (x6_0.toInt8.toInt32) else (if p1 = (1 : Int32) then (x6_0.toInt16.toInt32) else x6_0)))) (r := (J9_max_7cf53 (0 : Int32) (J9_min_7cf53 (9 : Int32) (if p1 = 0 then (x6_0.toInt8.toInt32) else (if p1 = (1 : Int32) then (x6_0.toInt16.toInt32) else x6_0))))) rfl) [] rfl rfl (fun _ => rfl) (fun _ => rfl) rfl rfl (Nat.le_of_ble_eq_true rfl) hl.1 (by rw [hRf]; exact Nat.le_of_ble_eq_true rfl) (by rw [hRl]; exact Nat.le_of_ble_eq_true rfl) ⟨Nat.zero_le _, Nat.zero_le _⟩ dX0_skillsFrom_60 rfl (fun H locs _ hS => ?_)
            refine lv_goto (tgt := 67) hx hb dX0_skillsFrom_63 (by decide) ?_
            obtain ⟨g4, h⟩ := gi_some h
            refine r_iast (ws' := [oX0 q0 (.ref q1) u0_1 u0_2 u0_3 u0_4 (.int v_number) u0_6 u0_7, aI cy q1 7 (upd x6_2 x6_1.toNatClampNeg (J9_max_7cf53 (0 : Int32) (J9_min_7cf53 (9 : Int32) (if p1 = 0 then (x6_0.toInt8.toInt32) else (if p1 = (1 : Int32) then (x6_0.toInt16.toInt32) else x6_0)))))]) E hS 1 rfl g4 rfl dX0_skillsFrom_67 (fun H locs hS => ?_)
            refine lv_iload hx hb dX0_skillsFrom_68 (lv_at hl 5 rfl) ?_
            refine lv_iload hx hb dX0_skillsFrom_70 (lv_at hl 4 rfl) ?_
            refine lv_iadd hx hb dX0_skillsFrom_72 ?_
            refine lv_istore (lv' := [(5, .int (x6_0 + p4)), (7, .int (if p1 = 0 then (x6_0.toInt8.toInt32) else (if p1 = (1 : Int32) then (x6_0.toInt16.toInt32) else x6_0))), (0, .ref q0), (1, .int p1), (2, .int p2), (4, .int p4), (6, .int x6_1)]) hx hb dX0_skillsFrom_73 hl (by decide) rfl (fun ls hl => ?_)
            refine lv_iinc (v := (x6_1 + (1 : Int32))) (lv' := [(6, .int (x6_1 + (1 : Int32))), (5, .int (x6_0 + p4)), (7, .int (if p1 = 0 then (x6_0.toInt8.toInt32) else (if p1 = (1 : Int32) then (x6_0.toInt16.toInt32) else x6_0))), (0, .ref q0), (1, .int p1), (2, .int p2), (4, .int p4)]) hx hb dX0_skillsFrom_75 hl (k := 6) rfl rfl (by decide) rfl (fun ls hl => ?_)
            refine lv_goto (tgt := 6) hx hb dX0_skillsFrom_78 (by decide) ?_
            exact ih6 (x6_0 + p4) (x6_1 + (1 : Int32)) (upd x6_2 x6_1.toNatClampNeg (J9_max_7cf53 (0 : Int32) (J9_min_7cf53 (9 : Int32) (if p1 = 0 then (x6_0.toInt8.toInt32) else (if p1 = (1 : Int32) then (x6_0.toInt16.toInt32) else x6_0))))) y6  H locs ls (hz6a _ (Option.some.inj h).symm) hS (lv_sub hl [3, 4, 5, 6, 1, 0] rfl) hk6_0
        refine lv_if_ne (tgt := 25) hx hb dX0_skillsFrom_16 (by decide) (fun c5 => ?_) (fun c5 => ?_)
        · refine lv_iload_n hx hb dX0_skillsFrom_25 rfl (lv_at hl 1 rfl) ?_
          refine lv_iconst (v := 1) hx hb dX0_skillsFrom_26 (by decide) ?_
          refine lv_icmp_ne (tgt := 36) hx hb dX0_skillsFrom_27 (by decide) (fun c6 => ?_) (fun c6 => ?_)
          · refine lv_iload hx hb dX0_skillsFrom_36 (lv_at hl 4 rfl) ?_
            exact hJ38 _ ls (((if_neg c5).trans (if_neg c6))).symm (lv_sub hl [0, 1, 2, 3, 4, 5] rfl)
          · refine lv_iload hx hb dX0_skillsFrom_30 (lv_at hl 4 rfl) ?_
            refine lv_i2s (v := (x6_0.toInt16.toInt32)) hx hb dX0_skillsFrom_32 rfl ?_
            refine lv_goto (tgt := 38) hx hb dX0_skillsFrom_33 (by decide) ?_
            exact hJ38 _ ls (((if_neg c5).trans (if_pos c6))).symm (lv_sub hl [0, 1, 2, 3, 4, 5] rfl)
        · refine lv_iload hx hb dX0_skillsFrom_19 (lv_at hl 4 rfl) ?_
          refine lv_i2b (v := (x6_0.toInt8.toInt32)) hx hb dX0_skillsFrom_21 rfl ?_
          refine lv_goto (tgt := 38) hx hb dX0_skillsFrom_22 (by decide) ?_
          exact hJ38 _ ls ((if_pos c5)).symm (lv_sub hl [0, 1, 2, 3, 4, 5] rfl)
  obtain ⟨y6, e6, h⟩ := bd_some h
  refine hL6 1000 p3 (0 : Int32) v_skill y6  H locs ls e6 hS (lv_sub hl [2, 3, 4, 6, 1, 0] rfl) (fun y6_0 ey6 H locs ls hS hl => ?_)
  subst ey6
  obtain rfl := Option.some.inj h
  exact rt_v E hQ (.null) hS dX0_skillsFrom_81
set_option maxHeartbeats 4000000 in
set_option maxRecDepth 100000 in
theorem c_X0_turns {l : Launch} {D : va_G} {cy : Nat → ClassId} (q0 : Nat) (q1 : Nat) (u0_0 : Value) (u0_1 : Value) (u0_2 : Value) (u0_3 : Value) (u0_6 : Value) (u0_7 : Value) (v_number : Int32) (v_wanted : Nat → Int32) (p1 : Int32) (p2 : Int32) (r : Int32 × (Nat → Int32)) (h : X0_turns v_number v_wanted p1 p2 = some r) : Ct l yX0_turns cX0_turns 3 (some .int) 1 21 D cy [.ref q0, .int p1, .int p2] [oX0 q0 u0_0 u0_1 u0_2 u0_3 (.ref q1) (.int v_number) u0_6 u0_7, aI cy q1 7 v_wanted] (fun _ => [oX0 q0 u0_0 u0_1 u0_2 u0_3 (.ref q1) (.int v_number) u0_6 u0_7, aI cy q1 7 r.2]) (some (.int r.1)) := by
  refine Ct.mk kX0_turns (by decide +kernel) (Nat.le_of_ble_eq_true rfl) ?_
  intro p e s m below meth c A ls args R Q hRf hRl hQ E H locs hS hl
  have hx := E.x
  have hb := E.b
  have hl : lv_has ls 3 [(0, .ref q0), (1, .int p1), (2, .int p2)] := hl
  unfold X0_turns at h
  refine lv_aload_n hx hb dX0_turns_0 rfl (lv_at hl 0 rfl) ?_
  refine lv_iload_n hx hb dX0_turns_1 rfl (lv_at hl 1 rfl) ?_
  refine ct_V (ws' := fun _ => [oX0 q0 u0_0 u0_1 u0_2 u0_3 (.ref q1) (.int v_number) u0_6 u0_7, aI cy q1 7 v_wanted]) (st' := [.int (X0_has v_number p1)]) (rest := []) E hS vlX0_37 (c_X0_has (l := l) (D := D) (cy := cy) (q0 := q0) (u0_0 := u0_0) (u0_1 := u0_1) (u0_2 := u0_2) (u0_3 := u0_3) (u0_4 := .ref q1) (u0_6 := u0_6) (u0_7 := u0_7) (v_number := v_number) (p1 := p1) (r := (X0_has v_number p1)) rfl) [0] rfl rfl (fun _ => rfl) (fun _ => rfl) rfl rfl rfl rfl (Nat.le_of_ble_eq_true rfl) hl.1 (by rw [hRf]; exact Nat.le_of_ble_eq_true rfl) (by rw [hRl]; exact Nat.le_of_ble_eq_true rfl) ⟨Nat.zero_le _, Nat.zero_le _⟩ dX0_turns_2 rfl (fun H locs _ hS => ?_)
  refine lv_if_eq (tgt := 21) hx hb dX0_turns_5 (by decide) (fun c1 => ?_) (fun c1 => ?_)
  · have h := it_pos c1 h
    refine lv_iconst (v := -1) hx hb dX0_turns_21 (by decide) ?_
    obtain rfl := Option.some.inj h
    exact rt_i E hQ (.null) hS dX0_turns_22
  · have h := it_neg c1 h
    refine lv_aload_n hx hb dX0_turns_8 rfl (lv_at hl 0 rfl) ?_
    refine lv_iload_n hx hb dX0_turns_9 rfl (lv_at hl 2 rfl) ?_
    refine ct_V (ws' := fun _ => [oX0 q0 u0_0 u0_1 u0_2 u0_3 (.ref q1) (.int v_number) u0_6 u0_7, aI cy q1 7 v_wanted]) (st' := [.int (X0_has v_number p2)]) (rest := []) E hS vlX0_37 (c_X0_has (l := l) (D := D) (cy := cy) (q0 := q0) (u0_0 := u0_0) (u0_1 := u0_1) (u0_2 := u0_2) (u0_3 := u0_3) (u0_4 := .ref q1) (u0_6 := u0_6) (u0_7 := u0_7) (v_number := v_number) (p1 := p2) (r := (X0_has v_number p2)) rfl) [0] rfl rfl (fun _ => rfl) (fun _ => rfl) rfl rfl rfl rfl (Nat.le_of_ble_eq_true rfl) hl.1 (by rw [hRf]; exact Nat.le_of_ble_eq_true rfl) (by rw [hRl]; exact Nat.le_of_ble_eq_true rfl) ⟨Nat.zero_le _, Nat.zero_le _⟩ dX0_turns_10 rfl (fun H locs _ hS => ?_)
    refine lv_if_eq (tgt := 21) hx hb dX0_turns_13 (by decide) (fun c2 => ?_) (fun c2 => ?_)
    · have h := it_pos c2 h
      refine lv_iconst (v := -1) hx hb dX0_turns_21 (by decide) ?_
      obtain rfl := Option.some.inj h
      exact rt_i E hQ (.null) hS dX0_turns_22
    · have h := it_neg c2 h
      refine lv_iload_n hx hb dX0_turns_16 rfl (lv_at hl 1 rfl) ?_
      refine lv_iload_n hx hb dX0_turns_17 rfl (lv_at hl 2 rfl) ?_
      refine lv_icmp_ne (tgt := 23) hx hb dX0_turns_18 (by decide) (fun c3 => ?_) (fun c3 => ?_)
      · have h := it_neg c3 h
        refine lv_aload_n hx hb dX0_turns_23 rfl (lv_at hl 0 rfl) ?_
        refine r_get E frX0_24 hS 0 rfl rfl dX0_turns_24 ?_
        refine lv_iload_n hx hb dX0_turns_27 rfl (lv_at hl 1 rfl) ?_
        refine lv_dup2_11 hx hb dX0_turns_28 rfl rfl ?_
        obtain ⟨g4, h⟩ := gi_some h
        refine r_iald E hS 1 rfl g4 dX0_turns_29 ?_
        refine lv_iconst (v := 1) hx hb dX0_turns_30 (by decide) ?_
        refine lv_iload_n hx hb dX0_turns_31 rfl (lv_at hl 2 rfl) ?_
        refine lv_ishl hx hb dX0_turns_32 ?_
        refine lv_ixor hx hb dX0_turns_33 ?_
        obtain ⟨g5, h⟩ := gi_some h
        refine r_iast (ws' := [oX0 q0 u0_0 u0_1 u0_2 u0_3 (.ref q1) (.int v_number) u0_6 u0_7, aI cy q1 7 (upd v_wanted p1.toNatClampNeg ((v_wanted p1.toNatClampNeg) ^^^ ((1 : Int32) <<< (p2 &&& 31))))]) E hS 1 rfl g5 rfl dX0_turns_34 (fun H locs hS => ?_)
        refine lv_aload_n hx hb dX0_turns_35 rfl (lv_at hl 0 rfl) ?_
        refine r_get E frX0_24 hS 0 rfl rfl dX0_turns_36 ?_
        refine lv_iload_n hx hb dX0_turns_39 rfl (lv_at hl 1 rfl) ?_
        obtain ⟨g6, h⟩ := gi_some h
        refine r_iald E hS 1 rfl g6 dX0_turns_40 ?_
        obtain rfl := Option.some.inj h
        exact rt_i E hQ (.null) hS dX0_turns_41
      · have h := it_pos c3 h
        refine lv_iconst (v := -1) hx hb dX0_turns_21 (by decide) ?_
        obtain rfl := Option.some.inj h
        exact rt_i E hQ (.null) hS dX0_turns_22
set_option maxHeartbeats 4000000 in
set_option maxRecDepth 100000 in
theorem c_X0_takesPills {l : Launch} {D : va_G} {cy : Nat → ClassId} (q0 : Nat) (q1 : Nat) (u0_0 : Value) (u0_2 : Value) (u0_3 : Value) (u0_4 : Value) (u0_6 : Value) (u0_7 : Value) (v_number : Int32) (v_pills : Nat → Int32) (p1 : Int32) (p2 : Int32) (r : Int32 × (Nat → Int32)) (h : X0_takesPills v_number v_pills p1 p2 = some r) : Ct l yX0_takesPills cX0_takesPills 3 (some .int) 1 21 D cy [.ref q0, .int p1, .int p2] [oX0 q0 u0_0 (.ref q1) u0_2 u0_3 u0_4 (.int v_number) u0_6 u0_7, aI cy q1 7 v_pills] (fun _ => [oX0 q0 u0_0 (.ref q1) u0_2 u0_3 u0_4 (.int v_number) u0_6 u0_7, aI cy q1 7 r.2]) (some (.int r.1)) := by
  refine Ct.mk kX0_takesPills (by decide +kernel) (Nat.le_of_ble_eq_true rfl) ?_
  intro p e s m below meth c A ls args R Q hRf hRl hQ E H locs hS hl
  have hx := E.x
  have hb := E.b
  have hl : lv_has ls 3 [(0, .ref q0), (1, .int p1), (2, .int p2)] := hl
  unfold X0_takesPills at h
  refine lv_aload_n hx hb dX0_takesPills_0 rfl (lv_at hl 0 rfl) ?_
  refine lv_iload_n hx hb dX0_takesPills_1 rfl (lv_at hl 1 rfl) ?_
  refine ct_V (ws' := fun _ => [oX0 q0 u0_0 (.ref q1) u0_2 u0_3 u0_4 (.int v_number) u0_6 u0_7, aI cy q1 7 v_pills]) (st' := [.int (X0_has v_number p1)]) (rest := []) E hS vlX0_37 (c_X0_has (l := l) (D := D) (cy := cy) (q0 := q0) (u0_0 := u0_0) (u0_1 := .ref q1) (u0_2 := u0_2) (u0_3 := u0_3) (u0_4 := u0_4) (u0_6 := u0_6) (u0_7 := u0_7) (v_number := v_number) (p1 := p1) (r := (X0_has v_number p1)) rfl) [0] rfl rfl (fun _ => rfl) (fun _ => rfl) rfl rfl rfl rfl (Nat.le_of_ble_eq_true rfl) hl.1 (by rw [hRf]; exact Nat.le_of_ble_eq_true rfl) (by rw [hRl]; exact Nat.le_of_ble_eq_true rfl) ⟨Nat.zero_le _, Nat.zero_le _⟩ dX0_takesPills_2 rfl (fun H locs _ hS => ?_)
  refine lv_if_eq (tgt := 19) hx hb dX0_takesPills_5 (by decide) (fun c1 => ?_) (fun c1 => ?_)
  · have h := it_pos c1 h
    refine lv_iconst (v := -1) hx hb dX0_takesPills_19 (by decide) ?_
    obtain rfl := Option.some.inj h
    exact rt_i E hQ (.null) hS dX0_takesPills_20
  · have h := it_neg c1 h
    refine lv_iload_n hx hb dX0_takesPills_8 rfl (lv_at hl 2 rfl) ?_
    refine lv_iconst (v := 1) hx hb dX0_takesPills_9 (by decide) ?_
    refine lv_icmp_lt (tgt := 19) hx hb dX0_takesPills_10 (by decide) (fun c2 => ?_) (fun c2 => ?_)
    · have h := it_pos c2 h
      refine lv_iconst (v := -1) hx hb dX0_takesPills_19 (by decide) ?_
      obtain rfl := Option.some.inj h
      exact rt_i E hQ (.null) hS dX0_takesPills_20
    · have h := it_neg c2 h
      refine lv_iload_n hx hb dX0_takesPills_13 rfl (lv_at hl 2 rfl) ?_
      refine lv_bipush (v := 9) hx hb dX0_takesPills_14 (by decide) ?_
      refine lv_icmp_le (tgt := 21) hx hb dX0_takesPills_16 (by decide) (fun c3 => ?_) (fun c3 => ?_)
      · have h := it_pos c3 h
        refine lv_aload_n hx hb dX0_takesPills_21 rfl (lv_at hl 0 rfl) ?_
        refine r_get E frX0_15 hS 0 rfl rfl dX0_takesPills_22 ?_
        refine lv_iload_n hx hb dX0_takesPills_25 rfl (lv_at hl 1 rfl) ?_
        obtain ⟨g4, h⟩ := gi_some h
        refine r_iald E hS 1 rfl g4 dX0_takesPills_26 ?_
        refine lv_iload_n hx hb dX0_takesPills_27 rfl (lv_at hl 2 rfl) ?_
        refine lv_iadd hx hb dX0_takesPills_28 ?_
        refine lv_bipush (v := 9) hx hb dX0_takesPills_29 (by decide) ?_
        refine lv_icmp_le (tgt := 37) hx hb dX0_takesPills_31 (by decide) (fun c5 => ?_) (fun c5 => ?_)
        · have h := it_pos c5 h
          refine lv_aload_n hx hb dX0_takesPills_37 rfl (lv_at hl 0 rfl) ?_
          refine r_get E frX0_15 hS 0 rfl rfl dX0_takesPills_38 ?_
          refine lv_iload_n hx hb dX0_takesPills_41 rfl (lv_at hl 1 rfl) ?_
          refine lv_dup2_11 hx hb dX0_takesPills_42 rfl rfl ?_
          obtain ⟨g6, h⟩ := gi_some h
          refine r_iald E hS 1 rfl g6 dX0_takesPills_43 ?_
          refine lv_iload_n hx hb dX0_takesPills_44 rfl (lv_at hl 2 rfl) ?_
          refine lv_iadd hx hb dX0_takesPills_45 ?_
          obtain ⟨g7, h⟩ := gi_some h
          refine r_iast (ws' := [oX0 q0 u0_0 (.ref q1) u0_2 u0_3 u0_4 (.int v_number) u0_6 u0_7, aI cy q1 7 (upd v_pills p1.toNatClampNeg ((v_pills p1.toNatClampNeg) + p2))]) E hS 1 rfl g7 rfl dX0_takesPills_46 (fun H locs hS => ?_)
          refine lv_aload_n hx hb dX0_takesPills_47 rfl (lv_at hl 0 rfl) ?_
          refine r_get E frX0_15 hS 0 rfl rfl dX0_takesPills_48 ?_
          refine lv_iload_n hx hb dX0_takesPills_51 rfl (lv_at hl 1 rfl) ?_
          obtain ⟨g8, h⟩ := gi_some h
          refine r_iald E hS 1 rfl g8 dX0_takesPills_52 ?_
          obtain rfl := Option.some.inj h
          exact rt_i E hQ (.null) hS dX0_takesPills_53
        · have h := it_neg c5 h
          refine lv_bipush (v := -2) hx hb dX0_takesPills_34 (by decide) ?_
          obtain rfl := Option.some.inj h
          exact rt_i E hQ (.null) hS dX0_takesPills_36
      · have h := it_neg c3 h
        refine lv_iconst (v := -1) hx hb dX0_takesPills_19 (by decide) ?_
        obtain rfl := Option.some.inj h
        exact rt_i E hQ (.null) hS dX0_takesPills_20
set_option maxHeartbeats 4000000 in
set_option maxRecDepth 100000 in
theorem c_X0_becomesSkilled {l : Launch} {D : va_G} {cy : Nat → ClassId} (q0 : Nat) (q1 : Nat) (u0_1 : Value) (u0_2 : Value) (u0_3 : Value) (u0_4 : Value) (u0_6 : Value) (u0_7 : Value) (v_number : Int32) (v_skill : Nat → Int32) (p1 : Int32) (p2 : Int32) (r : Int32 × (Nat → Int32)) (h : X0_becomesSkilled v_number v_skill p1 p2 = some r) : Ct l yX0_becomesSkilled cX0_becomesSkilled 4 (some .int) 1 21 D cy [.ref q0, .int p1, .int p2] [oX0 q0 (.ref q1) u0_1 u0_2 u0_3 u0_4 (.int v_number) u0_6 u0_7, aI cy q1 7 v_skill] (fun _ => [oX0 q0 (.ref q1) u0_1 u0_2 u0_3 u0_4 (.int v_number) u0_6 u0_7, aI cy q1 7 r.2]) (some (.int r.1)) := by
  refine Ct.mk kX0_becomesSkilled (by decide +kernel) (Nat.le_of_ble_eq_true rfl) ?_
  intro p e s m below meth c A ls args R Q hRf hRl hQ E H locs hS hl
  have hx := E.x
  have hb := E.b
  have hl : lv_has ls 4 [(0, .ref q0), (1, .int p1), (2, .int p2)] := hl
  unfold X0_becomesSkilled at h
  refine lv_aload_n hx hb dX0_becomesSkilled_0 rfl (lv_at hl 0 rfl) ?_
  refine lv_iload_n hx hb dX0_becomesSkilled_1 rfl (lv_at hl 1 rfl) ?_
  refine ct_V (ws' := fun _ => [oX0 q0 (.ref q1) u0_1 u0_2 u0_3 u0_4 (.int v_number) u0_6 u0_7, aI cy q1 7 v_skill]) (st' := [.int (X0_has v_number p1)]) (rest := []) E hS vlX0_37 (c_X0_has (l := l) (D := D) (cy := cy) (q0 := q0) (u0_0 := .ref q1) (u0_1 := u0_1) (u0_2 := u0_2) (u0_3 := u0_3) (u0_4 := u0_4) (u0_6 := u0_6) (u0_7 := u0_7) (v_number := v_number) (p1 := p1) (r := (X0_has v_number p1)) rfl) [0] rfl rfl (fun _ => rfl) (fun _ => rfl) rfl rfl rfl rfl (Nat.le_of_ble_eq_true rfl) hl.1 (by rw [hRf]; exact Nat.le_of_ble_eq_true rfl) (by rw [hRl]; exact Nat.le_of_ble_eq_true rfl) ⟨Nat.zero_le _, Nat.zero_le _⟩ dX0_becomesSkilled_2 rfl (fun H locs _ hS => ?_)
  refine lv_if_eq (tgt := 18) hx hb dX0_becomesSkilled_5 (by decide) (fun c1 => ?_) (fun c1 => ?_)
  · have h := it_pos c1 h
    refine lv_iconst (v := -1) hx hb dX0_becomesSkilled_18 (by decide) ?_
    obtain rfl := Option.some.inj h
    exact rt_i E hQ (.null) hS dX0_becomesSkilled_19
  · have h := it_neg c1 h
    refine lv_iload_n hx hb dX0_becomesSkilled_8 rfl (lv_at hl 2 rfl) ?_
    refine lv_if_lt (tgt := 18) hx hb dX0_becomesSkilled_9 (by decide) (fun c2 => ?_) (fun c2 => ?_)
    · have h := it_pos c2 h
      refine lv_iconst (v := -1) hx hb dX0_becomesSkilled_18 (by decide) ?_
      obtain rfl := Option.some.inj h
      exact rt_i E hQ (.null) hS dX0_becomesSkilled_19
    · have h := it_neg c2 h
      refine lv_iload_n hx hb dX0_becomesSkilled_12 rfl (lv_at hl 2 rfl) ?_
      refine lv_bipush (v := 9) hx hb dX0_becomesSkilled_13 (by decide) ?_
      refine lv_icmp_le (tgt := 20) hx hb dX0_becomesSkilled_15 (by decide) (fun c3 => ?_) (fun c3 => ?_)
      · have h := it_pos c3 h
        refine lv_aload_n hx hb dX0_becomesSkilled_20 rfl (lv_at hl 0 rfl) ?_
        refine r_get E frX0_9 hS 0 rfl rfl dX0_becomesSkilled_21 ?_
        refine lv_iload_n hx hb dX0_becomesSkilled_24 rfl (lv_at hl 1 rfl) ?_
        obtain ⟨g4, h⟩ := gi_some h
        refine r_iald E hS 1 rfl g4 dX0_becomesSkilled_25 ?_
        refine lv_istore_n (lv' := [(3, .int (v_skill p1.toNatClampNeg)), (0, .ref q0), (1, .int p1), (2, .int p2)]) hx hb dX0_becomesSkilled_26 rfl hl (by decide) rfl (fun ls hl => ?_)
        refine lv_aload_n hx hb dX0_becomesSkilled_27 rfl (lv_at hl 1 rfl) ?_
        refine r_get E frX0_9 hS 0 rfl rfl dX0_becomesSkilled_28 ?_
        refine lv_iload_n hx hb dX0_becomesSkilled_31 rfl (lv_at hl 2 rfl) ?_
        refine lv_iload_n hx hb dX0_becomesSkilled_32 rfl (lv_at hl 3 rfl) ?_
        obtain ⟨g5, h⟩ := gi_some h
        refine r_iast (ws' := [oX0 q0 (.ref q1) u0_1 u0_2 u0_3 u0_4 (.int v_number) u0_6 u0_7, aI cy q1 7 (upd v_skill p1.toNatClampNeg p2)]) E hS 1 rfl g5 rfl dX0_becomesSkilled_33 (fun H locs hS => ?_)
        refine lv_iload_n hx hb dX0_becomesSkilled_34 rfl (lv_at hl 0 rfl) ?_
        refine lv_iload_n hx hb dX0_becomesSkilled_35 rfl (lv_at hl 3 rfl) ?_
        have hJ48 : ∀ (s48_0 : Int32) (ls : Array Slot), s48_0 = (if (v_skill p1.toNatClampNeg) = p2 then (-2 : Int32) else ((10 : Int32) + (v_skill p1.toNatClampNeg))) → lv_has ls 4 [] → W p l e R s m args below meth c H locs 0 0 Q (F0 m 48 ls [.int s48_0]) := by
          intro s48_0 ls es48_0 hl
          subst es48_0
          obtain rfl := Option.some.inj h
          exact rt_i E hQ (.null) hS dX0_becomesSkilled_48
        refine lv_icmp_ne (tgt := 44) hx hb dX0_becomesSkilled_36 (by decide) (fun c6 => ?_) (fun c6 => ?_)
        · refine lv_bipush (v := 10) hx hb dX0_becomesSkilled_44 (by decide) ?_
          refine lv_iload_n hx hb dX0_becomesSkilled_46 rfl (lv_at hl 0 rfl) ?_
          refine lv_iadd hx hb dX0_becomesSkilled_47 ?_
          exact hJ48 _ ls ((if_neg c6)).symm (lv_sub hl [] rfl)
        · refine lv_bipush (v := -2) hx hb dX0_becomesSkilled_39 (by decide) ?_
          refine lv_goto (tgt := 48) hx hb dX0_becomesSkilled_41 (by decide) ?_
          exact hJ48 _ ls ((if_pos c6)).symm (lv_sub hl [] rfl)
      · have h := it_neg c3 h
        refine lv_iconst (v := -1) hx hb dX0_becomesSkilled_18 (by decide) ?_
        obtain rfl := Option.some.inj h
        exact rt_i E hQ (.null) hS dX0_becomesSkilled_19
set_option maxHeartbeats 4000000 in
set_option maxRecDepth 100000 in
theorem c_X0_wantsOfAll {l : Launch} {D : va_G} {cy : Nat → ClassId} (q0 : Nat) (q1 : Nat) (u0_0 : Value) (u0_1 : Value) (u0_2 : Value) (u0_3 : Value) (u0_6 : Value) (u0_7 : Value) (v_number : Int32) (v_wanted : Nat → Int32) (r : Int32) (h : X0_wantsOfAll v_number v_wanted = some r) : Ct l yX0_wantsOfAll cX0_wantsOfAll 3 (some .int) 1 20 D cy [.ref q0] [oX0 q0 u0_0 u0_1 u0_2 u0_3 (.ref q1) (.int v_number) u0_6 u0_7, aI cy q1 7 v_wanted] (fun _ => [oX0 q0 u0_0 u0_1 u0_2 u0_3 (.ref q1) (.int v_number) u0_6 u0_7, aI cy q1 7 v_wanted]) (some (.int r)) := by
  refine Ct.mk kX0_wantsOfAll (by decide +kernel) (Nat.le_of_ble_eq_true rfl) ?_
  intro p e s m below meth c A ls args R Q hRf hRl hQ E H locs hS hl
  have hx := E.x
  have hb := E.b
  have hl : lv_has ls 3 [(0, .ref q0)] := hl
  unfold X0_wantsOfAll at h
  refine lv_iconst (v := 0) hx hb dX0_wantsOfAll_0 (by decide) ?_
  refine lv_istore_n (lv' := [(1, .int (0 : Int32)), (0, .ref q0)]) hx hb dX0_wantsOfAll_1 rfl hl (by decide) rfl (fun ls hl => ?_)
  refine lv_iconst (v := 0) hx hb dX0_wantsOfAll_2 (by decide) ?_
  refine lv_istore_n (lv' := [(2, .int (0 : Int32)), (1, .int (0 : Int32)), (0, .ref q0)]) hx hb dX0_wantsOfAll_3 rfl hl (by decide) rfl (fun ls hl => ?_)
  have hL4 : ∀ (n : Nat) (x4_0 : Int32) (x4_1 : Int32) (y4 : Int32) (H : Heap) (locs : List Loc) (ls : Array Slot), lp (fun x4 => X0_wantsOfAll_s4 v_number v_wanted x4.1 x4.2) n (x4_0, x4_1) = some y4 → Sv D A s.heap [oX0 q0 u0_0 u0_1 u0_2 u0_3 (.ref q1) (.int v_number) u0_6 u0_7, aI cy q1 7 v_wanted] H locs → lv_has ls 3 [(0, .ref q0), (1, .int x4_0), (2, .int x4_1)] → ( ∀ (y4_0 : Int32), y4_0 = y4 → ∀ (H : Heap) (locs : List Loc) (ls : Array Slot), Sv D A s.heap [oX0 q0 u0_0 u0_1 u0_2 u0_3 (.ref q1) (.int v_number) u0_6 u0_7, aI cy q1 7 v_wanted] H locs → lv_has ls 3 [(1, .int y4_0)] → W p l e R s m args below meth c H locs 0 0 Q (F0 m 30 ls [])) → W p l e R s m args below meth c H locs 0 0 Q (F0 m 4 ls []) := by
    intro n
    induction n with
    | zero =>
      intro x4_0 x4_1 y4 H locs ls h
      exact lp_zero h
    | succ n ih4 =>
      intro x4_0 x4_1 y4 H locs ls h hS hl hk4_0
      obtain ⟨z4, h, hz4a, hz4b⟩ := lp_succ h
      have h : X0_wantsOfAll_s4 v_number v_wanted x4_0 x4_1 = some z4 := h
      unfold X0_wantsOfAll_s4 at h
      refine lv_iload_n hx hb dX0_wantsOfAll_4 rfl (lv_at hl 2 rfl) ?_
      refine lv_aload_n hx hb dX0_wantsOfAll_5 rfl (lv_at hl 0 rfl) ?_
      refine r_get E frX0_27 hS 0 rfl rfl dX0_wantsOfAll_6 ?_
      refine lv_icmp_ge (tgt := 30) hx hb dX0_wantsOfAll_9 (by decide) (fun c1 => ?_) (fun c1 => ?_)
      · have h := it_pos c1 h
        exact hk4_0 x4_0 (hz4b _ (Option.some.inj h).symm)  H locs ls hS (lv_sub hl [1] rfl)
      · have h := it_neg c1 h
        refine lv_iload_n hx hb dX0_wantsOfAll_12 rfl (lv_at hl 1 rfl) ?_
        refine lv_aload_n hx hb dX0_wantsOfAll_13 rfl (lv_at hl 0 rfl) ?_
        refine r_get E frX0_24 hS 0 rfl rfl dX0_wantsOfAll_14 ?_
        refine lv_iload_n hx hb dX0_wantsOfAll_17 rfl (lv_at hl 2 rfl) ?_
        obtain ⟨g2, h⟩ := gi_some h
        refine r_iald E hS 1 rfl g2 dX0_wantsOfAll_18 ?_
        refine ct_S (ws' := fun _ => [oX0 q0 u0_0 u0_1 u0_2 u0_3 (.ref q1) (.int v_number) u0_6 u0_7, aI cy q1 7 v_wanted]) (st' := [.int (J6_bitCount_0f7a4 (v_wanted x4_1.toNatClampNeg)), .int x4_0]) (rest := [.int x4_0]) E hS slX0_61 (c_J6_bitCount_0f7a4 (l := l) (D := D) (cy := cy) (p0 := (v_wanted x4_1.toNatClampNeg)) (r := (J6_bitCount_0f7a4 (v_wanted x4_1.toNatClampNeg))) rfl) [] rfl rfl (fun _ => rfl) (fun _ => rfl) rfl rfl (Nat.le_of_ble_eq_true rfl) hl.1 (by rw [hRf]; exact Nat.le_of_ble_eq_true rfl) (by rw [hRl]; exact Nat.le_of_ble_eq_true rfl) ⟨Nat.zero_le _, Nat.zero_le _⟩ dX0_wantsOfAll_19 rfl (fun H locs _ hS => ?_)
        refine lv_iadd hx hb dX0_wantsOfAll_22 ?_
        refine lv_istore_n (lv' := [(1, .int (x4_0 + (J6_bitCount_0f7a4 (v_wanted x4_1.toNatClampNeg)))), (0, .ref q0), (2, .int x4_1)]) hx hb dX0_wantsOfAll_23 rfl hl (by decide) rfl (fun ls hl => ?_)
        refine lv_iinc (v := (x4_1 + (1 : Int32))) (lv' := [(2, .int (x4_1 + (1 : Int32))), (1, .int (x4_0 + (J6_bitCount_0f7a4 (v_wanted x4_1.toNatClampNeg)))), (0, .ref q0)]) hx hb dX0_wantsOfAll_24 hl (k := 2) rfl rfl (by decide) rfl (fun ls hl => ?_)
        refine lv_goto (tgt := 4) hx hb dX0_wantsOfAll_27 (by decide) ?_
        exact ih4 (x4_0 + (J6_bitCount_0f7a4 (v_wanted x4_1.toNatClampNeg))) (x4_1 + (1 : Int32)) y4  H locs ls (hz4a _ (Option.some.inj h).symm) hS (lv_sub hl [2, 1, 0] rfl) hk4_0
  obtain ⟨y4, e4, h⟩ := bd_some h
  refine hL4 1000 (0 : Int32) (0 : Int32) y4  H locs ls e4 hS (lv_sub hl [2, 1, 0] rfl) (fun y4_0 ey4 H locs ls hS hl => ?_)
  subst ey4
  refine lv_iload_n hx hb dX0_wantsOfAll_30 rfl (lv_at hl 0 rfl) ?_
  obtain rfl := Option.some.inj h
  exact rt_i E hQ (.null) hS dX0_wantsOfAll_31
set_option maxHeartbeats 4000000 in
set_option maxRecDepth 100000 in
theorem c_X0_isRidOf {l : Launch} {D : va_G} {cy : Nat → ClassId} (q0 : Nat) (q1 : Nat) (u0_0 : Value) (u0_1 : Value) (u0_2 : Value) (u0_3 : Value) (u0_6 : Value) (u0_7 : Value) (v_number : Int32) (v_wanted : Nat → Int32) (p1 : Int32) (r : Int32 × (Nat → Int32)) (h : X0_isRidOf v_number v_wanted p1 = some r) : Ct l yX0_isRidOf cX0_isRidOf 4 (some .int) 2 42 D cy [.ref q0, .int p1] [oX0 q0 u0_0 u0_1 u0_2 u0_3 (.ref q1) (.int v_number) u0_6 u0_7, aI cy q1 7 v_wanted] (fun _ => [oX0 q0 u0_0 u0_1 u0_2 u0_3 (.ref q1) (.int v_number) u0_6 u0_7, aI cy q1 7 r.2]) (some (.int r.1)) := by
  refine Ct.mk kX0_isRidOf (by decide +kernel) (Nat.le_of_ble_eq_true rfl) ?_
  intro p e s m below meth c A ls args R Q hRf hRl hQ E H locs hS hl
  have hx := E.x
  have hb := E.b
  have hl : lv_has ls 4 [(0, .ref q0), (1, .int p1)] := hl
  unfold X0_isRidOf at h
  refine lv_aload_n hx hb dX0_isRidOf_0 rfl (lv_at hl 0 rfl) ?_
  refine lv_iload_n hx hb dX0_isRidOf_1 rfl (lv_at hl 1 rfl) ?_
  refine ct_V (ws' := fun _ => [oX0 q0 u0_0 u0_1 u0_2 u0_3 (.ref q1) (.int v_number) u0_6 u0_7, aI cy q1 7 v_wanted]) (st' := [.int (X0_has v_number p1)]) (rest := []) E hS vlX0_37 (c_X0_has (l := l) (D := D) (cy := cy) (q0 := q0) (u0_0 := u0_0) (u0_1 := u0_1) (u0_2 := u0_2) (u0_3 := u0_3) (u0_4 := .ref q1) (u0_6 := u0_6) (u0_7 := u0_7) (v_number := v_number) (p1 := p1) (r := (X0_has v_number p1)) rfl) [0] rfl rfl (fun _ => rfl) (fun _ => rfl) rfl rfl rfl rfl (Nat.le_of_ble_eq_true rfl) hl.1 (by rw [hRf]; exact Nat.le_of_ble_eq_true rfl) (by rw [hRl]; exact Nat.le_of_ble_eq_true rfl) ⟨Nat.zero_le _, Nat.zero_le _⟩ dX0_isRidOf_2 rfl (fun H locs _ hS => ?_)
  refine lv_if_ne (tgt := 10) hx hb dX0_isRidOf_5 (by decide) (fun c1 => ?_) (fun c1 => ?_)
  · have h := it_neg c1 h
    refine lv_aload_n hx hb dX0_isRidOf_10 rfl (lv_at hl 0 rfl) ?_
    obtain ⟨y11, e2, h⟩ := bd_some h
    refine ct_V (ws' := fun _ => [oX0 q0 u0_0 u0_1 u0_2 u0_3 (.ref q1) (.int v_number) u0_6 u0_7, aI cy q1 7 v_wanted]) (st' := [.int y11]) (rest := []) E hS vlX0_50 (c_X0_wantsOfAll (l := l) (D := D) (cy := cy) (q0 := q0) (q1 := q1) (u0_0 := u0_0) (u0_1 := u0_1) (u0_2 := u0_2) (u0_3 := u0_3) (u0_6 := u0_6) (u0_7 := u0_7) (v_number := v_number) (v_wanted := v_wanted) (r := y11) e2) [0, 1] rfl rfl (fun _ => rfl) (fun _ => rfl) rfl rfl rfl rfl (Nat.le_of_ble_eq_true rfl) hl.1 (by rw [hRf]; exact Nat.le_of_ble_eq_true rfl) (by rw [hRl]; exact Nat.le_of_ble_eq_true rfl) ⟨Nat.zero_le _, Nat.zero_le _⟩ dX0_isRidOf_11 rfl (fun H locs _ hS => ?_)
    refine lv_istore_n (lv' := [(2, .int y11), (0, .ref q0), (1, .int p1)]) hx hb dX0_isRidOf_14 rfl hl (by decide) rfl (fun ls hl => ?_)
    refine lv_aload_n hx hb dX0_isRidOf_15 rfl (lv_at hl 1 rfl) ?_
    refine r_get E frX0_24 hS 0 rfl rfl dX0_isRidOf_16 ?_
    refine lv_iload_n hx hb dX0_isRidOf_19 rfl (lv_at hl 2 rfl) ?_
    refine lv_iconst (v := 0) hx hb dX0_isRidOf_20 (by decide) ?_
    obtain ⟨g3, h⟩ := gi_some h
    refine r_iast (ws' := [oX0 q0 u0_0 u0_1 u0_2 u0_3 (.ref q1) (.int v_number) u0_6 u0_7, aI cy q1 7 (upd v_wanted p1.toNatClampNeg (0 : Int32))]) E hS 1 rfl g3 rfl dX0_isRidOf_21 (fun H locs hS => ?_)
    refine lv_iconst (v := 0) hx hb dX0_isRidOf_22 (by decide) ?_
    refine lv_istore_n (lv' := [(3, .int (0 : Int32)), (2, .int y11), (0, .ref q0), (1, .int p1)]) hx hb dX0_isRidOf_23 rfl hl (by decide) rfl (fun ls hl => ?_)
    have hL24 : ∀ (n : Nat) (x24_0 : Int32) (x24_1 : Nat → Int32) (y24 : (Nat → Int32)) (H : Heap) (locs : List Loc) (ls : Array Slot), lp (fun x24 => X0_isRidOf_s24 v_number p1 x24.1 x24.2) n (x24_0, x24_1) = some y24 → Sv D A s.heap [oX0 q0 u0_0 u0_1 u0_2 u0_3 (.ref q1) (.int v_number) u0_6 u0_7, aI cy q1 7 x24_1] H locs → lv_has ls 4 [(0, .ref q0), (1, .int p1), (2, .int y11), (3, .int x24_0)] → ( ∀ (y24_0 : Nat → Int32), y24_0 = y24 → ∀ (H : Heap) (locs : List Loc) (ls : Array Slot), Sv D A s.heap [oX0 q0 u0_0 u0_1 u0_2 u0_3 (.ref q1) (.int v_number) u0_6 u0_7, aI cy q1 7 y24_0] H locs → lv_has ls 4 [(0, .ref q0), (2, .int y11)] → W p l e R s m args below meth c H locs 0 0 Q (F0 m 52 ls [])) → W p l e R s m args below meth c H locs 0 0 Q (F0 m 24 ls []) := by
      intro n
      induction n with
      | zero =>
        intro x24_0 x24_1 y24 H locs ls h
        exact lp_zero h
      | succ n ih24 =>
        intro x24_0 x24_1 y24 H locs ls h hS hl hk24_0
        obtain ⟨z24, h, hz24a, hz24b⟩ := lp_succ h
        have h : X0_isRidOf_s24 v_number p1 x24_0 x24_1 = some z24 := h
        unfold X0_isRidOf_s24 at h
        refine lv_iload_n hx hb dX0_isRidOf_24 rfl (lv_at hl 3 rfl) ?_
        refine lv_aload_n hx hb dX0_isRidOf_25 rfl (lv_at hl 0 rfl) ?_
        refine r_get E frX0_27 hS 0 rfl rfl dX0_isRidOf_26 ?_
        refine lv_icmp_ge (tgt := 52) hx hb dX0_isRidOf_29 (by decide) (fun c4 => ?_) (fun c4 => ?_)
        · have h := it_pos c4 h
          exact hk24_0 x24_1 (hz24b _ (Option.some.inj h).symm)  H locs ls hS (lv_sub hl [0, 2] rfl)
        · have h := it_neg c4 h
          refine lv_aload_n hx hb dX0_isRidOf_32 rfl (lv_at hl 0 rfl) ?_
          refine r_get E frX0_24 hS 0 rfl rfl dX0_isRidOf_33 ?_
          refine lv_iload_n hx hb dX0_isRidOf_36 rfl (lv_at hl 3 rfl) ?_
          refine lv_dup2_11 hx hb dX0_isRidOf_37 rfl rfl ?_
          obtain ⟨g5, h⟩ := gi_some h
          refine r_iald E hS 1 rfl g5 dX0_isRidOf_38 ?_
          refine lv_iconst (v := 1) hx hb dX0_isRidOf_39 (by decide) ?_
          refine lv_iload_n hx hb dX0_isRidOf_40 rfl (lv_at hl 1 rfl) ?_
          refine lv_ishl hx hb dX0_isRidOf_41 ?_
          refine lv_iconst (v := -1) hx hb dX0_isRidOf_42 (by decide) ?_
          refine lv_ixor hx hb dX0_isRidOf_43 ?_
          refine lv_iand hx hb dX0_isRidOf_44 ?_
          obtain ⟨g6, h⟩ := gi_some h
          refine r_iast (ws' := [oX0 q0 u0_0 u0_1 u0_2 u0_3 (.ref q1) (.int v_number) u0_6 u0_7, aI cy q1 7 (upd x24_1 x24_0.toNatClampNeg ((x24_1 x24_0.toNatClampNeg) &&& (((1 : Int32) <<< (p1 &&& 31)) ^^^ (-1 : Int32))))]) E hS 1 rfl g6 rfl dX0_isRidOf_45 (fun H locs hS => ?_)
          refine lv_iinc (v := (x24_0 + (1 : Int32))) (lv' := [(3, .int (x24_0 + (1 : Int32))), (0, .ref q0), (1, .int p1), (2, .int y11)]) hx hb dX0_isRidOf_46 hl (k := 3) rfl rfl (by decide) rfl (fun ls hl => ?_)
          refine lv_goto (tgt := 24) hx hb dX0_isRidOf_49 (by decide) ?_
          exact ih24 (x24_0 + (1 : Int32)) (upd x24_1 x24_0.toNatClampNeg ((x24_1 x24_0.toNatClampNeg) &&& (((1 : Int32) <<< (p1 &&& 31)) ^^^ (-1 : Int32)))) y24  H locs ls (hz24a _ (Option.some.inj h).symm) hS (lv_sub hl [1, 2, 3, 0] rfl) hk24_0
    obtain ⟨y24, e24, h⟩ := bd_some h
    refine hL24 1000 (0 : Int32) (upd v_wanted p1.toNatClampNeg (0 : Int32)) y24  H locs ls e24 hS (lv_sub hl [2, 3, 1, 0] rfl) (fun y24_0 ey24 H locs ls hS hl => ?_)
    subst ey24
    refine lv_iload_n hx hb dX0_isRidOf_52 rfl (lv_at hl 1 rfl) ?_
    refine lv_aload_n hx hb dX0_isRidOf_53 rfl (lv_at hl 0 rfl) ?_
    obtain ⟨y54, e7, h⟩ := bd_some h
    refine ct_V (ws' := fun _ => [oX0 q0 u0_0 u0_1 u0_2 u0_3 (.ref q1) (.int v_number) u0_6 u0_7, aI cy q1 7 y24_0]) (st' := [.int y54, .int y11]) (rest := [.int y11]) E hS vlX0_50 (c_X0_wantsOfAll (l := l) (D := D) (cy := cy) (q0 := q0) (q1 := q1) (u0_0 := u0_0) (u0_1 := u0_1) (u0_2 := u0_2) (u0_3 := u0_3) (u0_6 := u0_6) (u0_7 := u0_7) (v_number := v_number) (v_wanted := y24_0) (r := y54) e7) [0, 1] rfl rfl (fun _ => rfl) (fun _ => rfl) rfl rfl rfl rfl (Nat.le_of_ble_eq_true rfl) hl.1 (by rw [hRf]; exact Nat.le_of_ble_eq_true rfl) (by rw [hRl]; exact Nat.le_of_ble_eq_true rfl) ⟨Nat.zero_le _, Nat.zero_le _⟩ dX0_isRidOf_54 rfl (fun H locs _ hS => ?_)
    refine lv_isub hx hb dX0_isRidOf_57 ?_
    refine lv_istore_n (lv' := [(3, .int (y11 - y54)), (0, .ref q0), (2, .int y11)]) hx hb dX0_isRidOf_58 rfl hl (by decide) rfl (fun ls hl => ?_)
    refine lv_iload_n hx hb dX0_isRidOf_59 rfl (lv_at hl 0 rfl) ?_
    have hJ69 : ∀ (s69_0 : Int32) (ls : Array Slot), s69_0 = (if (y11 - y54) = 0 then (-2 : Int32) else (y11 - y54)) → lv_has ls 4 [] → W p l e R s m args below meth c H locs 0 0 Q (F0 m 69 ls [.int s69_0]) := by
      intro s69_0 ls es69_0 hl
      subst es69_0
      obtain rfl := Option.some.inj h
      exact rt_i E hQ (.null) hS dX0_isRidOf_69
    refine lv_if_ne (tgt := 68) hx hb dX0_isRidOf_60 (by decide) (fun c8 => ?_) (fun c8 => ?_)
    · refine lv_iload_n hx hb dX0_isRidOf_68 rfl (lv_at hl 0 rfl) ?_
      exact hJ69 _ ls ((if_neg c8)).symm (lv_sub hl [] rfl)
    · refine lv_bipush (v := -2) hx hb dX0_isRidOf_63 (by decide) ?_
      refine lv_goto (tgt := 69) hx hb dX0_isRidOf_65 (by decide) ?_
      exact hJ69 _ ls ((if_pos c8)).symm (lv_sub hl [] rfl)
  · have h := it_pos c1 h
    refine lv_iconst (v := -1) hx hb dX0_isRidOf_8 (by decide) ?_
    obtain rfl := Option.some.inj h
    exact rt_i E hQ (.null) hS dX0_isRidOf_9
set_option maxHeartbeats 4000000 in
set_option maxRecDepth 100000 in
theorem c_X0_wanting {l : Launch} {D : va_G} {cy : Nat → ClassId} (q0 : Nat) (q1 : Nat) (u0_0 : Value) (u0_1 : Value) (u0_2 : Value) (u0_3 : Value) (u0_6 : Value) (u0_7 : Value) (v_number : Int32) (v_wanted : Nat → Int32) (p1 : Int32) (r : Int32) (h : X0_wanting v_number v_wanted p1 = some r) : Ct l yX0_wanting cX0_wanting 4 (some .int) 0 0 D cy [.ref q0, .int p1] [oX0 q0 u0_0 u0_1 u0_2 u0_3 (.ref q1) (.int v_number) u0_6 u0_7, aI cy q1 7 v_wanted] (fun _ => [oX0 q0 u0_0 u0_1 u0_2 u0_3 (.ref q1) (.int v_number) u0_6 u0_7, aI cy q1 7 v_wanted]) (some (.int r)) := by
  refine Ct.mk kX0_wanting (by decide +kernel) (Nat.le_of_ble_eq_true rfl) ?_
  intro p e s m below meth c A ls args R Q hRf hRl hQ E H locs hS hl
  have hx := E.x
  have hb := E.b
  have hl : lv_has ls 4 [(0, .ref q0), (1, .int p1)] := hl
  unfold X0_wanting at h
  refine lv_iconst (v := 0) hx hb dX0_wanting_0 (by decide) ?_
  refine lv_istore_n (lv' := [(2, .int (0 : Int32)), (0, .ref q0), (1, .int p1)]) hx hb dX0_wanting_1 rfl hl (by decide) rfl (fun ls hl => ?_)
  refine lv_iconst (v := 0) hx hb dX0_wanting_2 (by decide) ?_
  refine lv_istore_n (lv' := [(3, .int (0 : Int32)), (2, .int (0 : Int32)), (0, .ref q0), (1, .int p1)]) hx hb dX0_wanting_3 rfl hl (by decide) rfl (fun ls hl => ?_)
  have hL4 : ∀ (n : Nat) (x4_0 : Int32) (x4_1 : Int32) (y4 : Int32) (H : Heap) (locs : List Loc) (ls : Array Slot), lp (fun x4 => X0_wanting_s4 v_number v_wanted p1 x4.1 x4.2) n (x4_0, x4_1) = some y4 → Sv D A s.heap [oX0 q0 u0_0 u0_1 u0_2 u0_3 (.ref q1) (.int v_number) u0_6 u0_7, aI cy q1 7 v_wanted] H locs → lv_has ls 4 [(0, .ref q0), (1, .int p1), (2, .int x4_0), (3, .int x4_1)] → ( ∀ (y4_0 : Int32), y4_0 = y4 → ∀ (H : Heap) (locs : List Loc) (ls : Array Slot), Sv D A s.heap [oX0 q0 u0_0 u0_1 u0_2 u0_3 (.ref q1) (.int v_number) u0_6 u0_7, aI cy q1 7 v_wanted] H locs → lv_has ls 4 [(2, .int y4_0)] → W p l e R s m args below meth c H locs 0 0 Q (F0 m 33 ls [])) → W p l e R s m args below meth c H locs 0 0 Q (F0 m 4 ls []) := by
    intro n
    induction n with
    | zero =>
      intro x4_0 x4_1 y4 H locs ls h
      exact lp_zero h
    | succ n ih4 =>
      intro x4_0 x4_1 y4 H locs ls h hS hl hk4_0
      obtain ⟨z4, h, hz4a, hz4b⟩ := lp_succ h
      have h : X0_wanting_s4 v_number v_wanted p1 x4_0 x4_1 = some z4 := h
      unfold X0_wanting_s4 at h
      refine lv_iload_n hx hb dX0_wanting_4 rfl (lv_at hl 3 rfl) ?_
      refine lv_aload_n hx hb dX0_wanting_5 rfl (lv_at hl 0 rfl) ?_
      refine r_get E frX0_27 hS 0 rfl rfl dX0_wanting_6 ?_
      refine lv_icmp_ge (tgt := 33) hx hb dX0_wanting_9 (by decide) (fun c1 => ?_) (fun c1 => ?_)
      · have h := it_pos c1 h
        exact hk4_0 x4_0 (hz4b _ (Option.some.inj h).symm)  H locs ls hS (lv_sub hl [2] rfl)
      · have h := it_neg c1 h
        refine lv_iload_n hx hb dX0_wanting_12 rfl (lv_at hl 2 rfl) ?_
        refine lv_aload_n hx hb dX0_wanting_13 rfl (lv_at hl 0 rfl) ?_
        refine r_get E frX0_24 hS 0 rfl rfl dX0_wanting_14 ?_
        refine lv_iload_n hx hb dX0_wanting_17 rfl (lv_at hl 3 rfl) ?_
        obtain ⟨g2, h⟩ := gi_some h
        refine r_iald E hS 1 rfl g2 dX0_wanting_18 ?_
        refine lv_iload_n hx hb dX0_wanting_19 rfl (lv_at hl 1 rfl) ?_
        refine lv_ishr hx hb dX0_wanting_20 ?_
        refine lv_iconst (v := 1) hx hb dX0_wanting_21 (by decide) ?_
        refine lv_iand hx hb dX0_wanting_22 ?_
        refine lv_iload_n hx hb dX0_wanting_23 rfl (lv_at hl 3 rfl) ?_
        refine lv_ishl hx hb dX0_wanting_24 ?_
        refine lv_ior hx hb dX0_wanting_25 ?_
        refine lv_istore_n (lv' := [(2, .int (x4_0 ||| ((((v_wanted x4_1.toNatClampNeg) >>> (p1 &&& 31)) &&& (1 : Int32)) <<< (x4_1 &&& 31)))), (0, .ref q0), (1, .int p1), (3, .int x4_1)]) hx hb dX0_wanting_26 rfl hl (by decide) rfl (fun ls hl => ?_)
        refine lv_iinc (v := (x4_1 + (1 : Int32))) (lv' := [(3, .int (x4_1 + (1 : Int32))), (2, .int (x4_0 ||| ((((v_wanted x4_1.toNatClampNeg) >>> (p1 &&& 31)) &&& (1 : Int32)) <<< (x4_1 &&& 31)))), (0, .ref q0), (1, .int p1)]) hx hb dX0_wanting_27 hl (k := 3) rfl rfl (by decide) rfl (fun ls hl => ?_)
        refine lv_goto (tgt := 4) hx hb dX0_wanting_30 (by decide) ?_
        exact ih4 (x4_0 ||| ((((v_wanted x4_1.toNatClampNeg) >>> (p1 &&& 31)) &&& (1 : Int32)) <<< (x4_1 &&& 31))) (x4_1 + (1 : Int32)) y4  H locs ls (hz4a _ (Option.some.inj h).symm) hS (lv_sub hl [2, 3, 1, 0] rfl) hk4_0
  obtain ⟨y4, e4, h⟩ := bd_some h
  refine hL4 1000 (0 : Int32) (0 : Int32) y4  H locs ls e4 hS (lv_sub hl [2, 3, 1, 0] rfl) (fun y4_0 ey4 H locs ls hS hl => ?_)
  subst ey4
  refine lv_iload_n hx hb dX0_wanting_33 rfl (lv_at hl 0 rfl) ?_
  obtain rfl := Option.some.inj h
  exact rt_i E hQ (.null) hS dX0_wanting_34
set_option maxHeartbeats 4000000 in
set_option maxRecDepth 100000 in
theorem c_X0_wantedBy {l : Launch} {D : va_G} {cy : Nat → ClassId} (q0 : Nat) (q1 : Nat) (u0_0 : Value) (u0_1 : Value) (u0_2 : Value) (u0_3 : Value) (u0_6 : Value) (u0_7 : Value) (v_number : Int32) (v_wanted : Nat → Int32) (p1 : Int32) (r : Int32) (h : X0_wantedBy v_number v_wanted p1 = some r) : Ct l yX0_wantedBy cX0_wantedBy 4 (some .int) 0 0 D cy [.ref q0, .int p1] [oX0 q0 u0_0 u0_1 u0_2 u0_3 (.ref q1) (.int v_number) u0_6 u0_7, aI cy q1 7 v_wanted] (fun _ => [oX0 q0 u0_0 u0_1 u0_2 u0_3 (.ref q1) (.int v_number) u0_6 u0_7, aI cy q1 7 v_wanted]) (some (.int r)) := by
  refine Ct.mk kX0_wantedBy (by decide +kernel) (Nat.le_of_ble_eq_true rfl) ?_
  intro p e s m below meth c A ls args R Q hRf hRl hQ E H locs hS hl
  have hx := E.x
  have hb := E.b
  have hl : lv_has ls 4 [(0, .ref q0), (1, .int p1)] := hl
  unfold X0_wantedBy at h
  refine lv_iconst (v := 0) hx hb dX0_wantedBy_0 (by decide) ?_
  refine lv_istore_n (lv' := [(2, .int (0 : Int32)), (0, .ref q0), (1, .int p1)]) hx hb dX0_wantedBy_1 rfl hl (by decide) rfl (fun ls hl => ?_)
  refine lv_iconst (v := 0) hx hb dX0_wantedBy_2 (by decide) ?_
  refine lv_istore_n (lv' := [(3, .int (0 : Int32)), (2, .int (0 : Int32)), (0, .ref q0), (1, .int p1)]) hx hb dX0_wantedBy_3 rfl hl (by decide) rfl (fun ls hl => ?_)
  have hL4 : ∀ (n : Nat) (x4_0 : Int32) (x4_1 : Int32) (y4 : Int32) (H : Heap) (locs : List Loc) (ls : Array Slot), lp (fun x4 => X0_wantedBy_s4 v_number v_wanted p1 x4.1 x4.2) n (x4_0, x4_1) = some y4 → Sv D A s.heap [oX0 q0 u0_0 u0_1 u0_2 u0_3 (.ref q1) (.int v_number) u0_6 u0_7, aI cy q1 7 v_wanted] H locs → lv_has ls 4 [(0, .ref q0), (1, .int p1), (2, .int x4_0), (3, .int x4_1)] → ( ∀ (y4_0 : Int32), y4_0 = y4 → ∀ (H : Heap) (locs : List Loc) (ls : Array Slot), Sv D A s.heap [oX0 q0 u0_0 u0_1 u0_2 u0_3 (.ref q1) (.int v_number) u0_6 u0_7, aI cy q1 7 v_wanted] H locs → lv_has ls 4 [(2, .int y4_0)] → W p l e R s m args below meth c H locs 0 0 Q (F0 m 39 ls [])) → W p l e R s m args below meth c H locs 0 0 Q (F0 m 4 ls []) := by
    intro n
    induction n with
    | zero =>
      intro x4_0 x4_1 y4 H locs ls h
      exact lp_zero h
    | succ n ih4 =>
      intro x4_0 x4_1 y4 H locs ls h hS hl hk4_0
      obtain ⟨z4, h, hz4a, hz4b⟩ := lp_succ h
      have h : X0_wantedBy_s4 v_number v_wanted p1 x4_0 x4_1 = some z4 := h
      unfold X0_wantedBy_s4 at h
      refine lv_iload_n hx hb dX0_wantedBy_4 rfl (lv_at hl 3 rfl) ?_
      refine lv_aload_n hx hb dX0_wantedBy_5 rfl (lv_at hl 0 rfl) ?_
      refine r_get E frX0_27 hS 0 rfl rfl dX0_wantedBy_6 ?_
      refine lv_icmp_ge (tgt := 39) hx hb dX0_wantedBy_9 (by decide) (fun c1 => ?_) (fun c1 => ?_)
      · have h := it_pos c1 h
        exact hk4_0 x4_0 (hz4b _ (Option.some.inj h).symm)  H locs ls hS (lv_sub hl [2] rfl)
      · have h := it_neg c1 h
        refine lv_iload_n hx hb dX0_wantedBy_12 rfl (lv_at hl 2 rfl) ?_
        refine lv_iload_n hx hb dX0_wantedBy_13 rfl (lv_at hl 1 rfl) ?_
        refine lv_iload_n hx hb dX0_wantedBy_14 rfl (lv_at hl 3 rfl) ?_
        refine lv_ishr hx hb dX0_wantedBy_15 ?_
        refine lv_iconst (v := 1) hx hb dX0_wantedBy_16 (by decide) ?_
        refine lv_iand hx hb dX0_wantedBy_17 ?_
        refine lv_if_eq (tgt := 30) hx hb dX0_wantedBy_18 (by decide) (fun c2 => ?_) (fun c2 => ?_)
        · have h := it_pos c2 h
          refine lv_iconst (v := 0) hx hb dX0_wantedBy_30 (by decide) ?_
          refine lv_ior hx hb dX0_wantedBy_31 ?_
          refine lv_istore_n (lv' := [(2, .int (x4_0 ||| (0 : Int32))), (0, .ref q0), (1, .int p1), (3, .int x4_1)]) hx hb dX0_wantedBy_32 rfl hl (by decide) rfl (fun ls hl => ?_)
          refine lv_iinc (v := (x4_1 + (1 : Int32))) (lv' := [(3, .int (x4_1 + (1 : Int32))), (2, .int (x4_0 ||| (0 : Int32))), (0, .ref q0), (1, .int p1)]) hx hb dX0_wantedBy_33 hl (k := 3) rfl rfl (by decide) rfl (fun ls hl => ?_)
          refine lv_goto (tgt := 4) hx hb dX0_wantedBy_36 (by decide) ?_
          exact ih4 (x4_0 ||| (0 : Int32)) (x4_1 + (1 : Int32)) y4  H locs ls (hz4a _ (Option.some.inj h).symm) hS (lv_sub hl [2, 3, 1, 0] rfl) hk4_0
        · have h := it_neg c2 h
          refine lv_aload_n hx hb dX0_wantedBy_21 rfl (lv_at hl 0 rfl) ?_
          refine r_get E frX0_24 hS 0 rfl rfl dX0_wantedBy_22 ?_
          refine lv_iload_n hx hb dX0_wantedBy_25 rfl (lv_at hl 3 rfl) ?_
          obtain ⟨g3, h⟩ := gi_some h
          refine r_iald E hS 1 rfl g3 dX0_wantedBy_26 ?_
          refine lv_goto (tgt := 31) hx hb dX0_wantedBy_27 (by decide) ?_
          refine lv_ior hx hb dX0_wantedBy_31 ?_
          refine lv_istore_n (lv' := [(2, .int (x4_0 ||| (v_wanted x4_1.toNatClampNeg))), (0, .ref q0), (1, .int p1), (3, .int x4_1)]) hx hb dX0_wantedBy_32 rfl hl (by decide) rfl (fun ls hl => ?_)
          refine lv_iinc (v := (x4_1 + (1 : Int32))) (lv' := [(3, .int (x4_1 + (1 : Int32))), (2, .int (x4_0 ||| (v_wanted x4_1.toNatClampNeg))), (0, .ref q0), (1, .int p1)]) hx hb dX0_wantedBy_33 hl (k := 3) rfl rfl (by decide) rfl (fun ls hl => ?_)
          refine lv_goto (tgt := 4) hx hb dX0_wantedBy_36 (by decide) ?_
          exact ih4 (x4_0 ||| (v_wanted x4_1.toNatClampNeg)) (x4_1 + (1 : Int32)) y4  H locs ls (hz4a _ (Option.some.inj h).symm) hS (lv_sub hl [2, 3, 1, 0] rfl) hk4_0
  obtain ⟨y4, e4, h⟩ := bd_some h
  refine hL4 1000 (0 : Int32) (0 : Int32) y4  H locs ls e4 hS (lv_sub hl [2, 3, 1, 0] rfl) (fun y4_0 ey4 H locs ls hS hl => ?_)
  subst ey4
  refine lv_iload_n hx hb dX0_wantedBy_39 rfl (lv_at hl 0 rfl) ?_
  obtain rfl := Option.some.inj h
  exact rt_i E hQ (.null) hS dX0_wantedBy_40
set_option maxHeartbeats 4000000 in
set_option maxRecDepth 100000 in
theorem c_X0_wantingSome {l : Launch} {D : va_G} {cy : Nat → ClassId} (q0 : Nat) (q1 : Nat) (u0_0 : Value) (u0_1 : Value) (u0_2 : Value) (u0_3 : Value) (u0_6 : Value) (u0_7 : Value) (v_number : Int32) (v_wanted : Nat → Int32) (p1 : Int32) (r : Int32) (h : X0_wantingSome v_number v_wanted p1 = some r) : Ct l yX0_wantingSome cX0_wantingSome 4 (some .int) 0 0 D cy [.ref q0, .int p1] [oX0 q0 u0_0 u0_1 u0_2 u0_3 (.ref q1) (.int v_number) u0_6 u0_7, aI cy q1 7 v_wanted] (fun _ => [oX0 q0 u0_0 u0_1 u0_2 u0_3 (.ref q1) (.int v_number) u0_6 u0_7, aI cy q1 7 v_wanted]) (some (.int r)) := by
  refine Ct.mk kX0_wantingSome (by decide +kernel) (Nat.le_of_ble_eq_true rfl) ?_
  intro p e s m below meth c A ls args R Q hRf hRl hQ E H locs hS hl
  have hx := E.x
  have hb := E.b
  have hl : lv_has ls 4 [(0, .ref q0), (1, .int p1)] := hl
  unfold X0_wantingSome at h
  refine lv_iconst (v := 0) hx hb dX0_wantingSome_0 (by decide) ?_
  refine lv_istore_n (lv' := [(2, .int (0 : Int32)), (0, .ref q0), (1, .int p1)]) hx hb dX0_wantingSome_1 rfl hl (by decide) rfl (fun ls hl => ?_)
  refine lv_iconst (v := 0) hx hb dX0_wantingSome_2 (by decide) ?_
  refine lv_istore_n (lv' := [(3, .int (0 : Int32)), (2, .int (0 : Int32)), (0, .ref q0), (1, .int p1)]) hx hb dX0_wantingSome_3 rfl hl (by decide) rfl (fun ls hl => ?_)
  have hL4 : ∀ (n : Nat) (x4_0 : Int32) (x4_1 : Int32) (y4 : Int32) (H : Heap) (locs : List Loc) (ls : Array Slot), lp (fun x4 => X0_wantingSome_s4 v_number v_wanted p1 x4.1 x4.2) n (x4_0, x4_1) = some y4 → Sv D A s.heap [oX0 q0 u0_0 u0_1 u0_2 u0_3 (.ref q1) (.int v_number) u0_6 u0_7, aI cy q1 7 v_wanted] H locs → lv_has ls 4 [(0, .ref q0), (1, .int p1), (2, .int x4_0), (3, .int x4_1)] → ( ∀ (y4_0 : Int32), y4_0 = y4 → ∀ (H : Heap) (locs : List Loc) (ls : Array Slot), Sv D A s.heap [oX0 q0 u0_0 u0_1 u0_2 u0_3 (.ref q1) (.int v_number) u0_6 u0_7, aI cy q1 7 v_wanted] H locs → lv_has ls 4 [(2, .int y4_0)] → W p l e R s m args below meth c H locs 0 0 Q (F0 m 39 ls [])) → W p l e R s m args below meth c H locs 0 0 Q (F0 m 4 ls []) := by
    intro n
    induction n with
    | zero =>
      intro x4_0 x4_1 y4 H locs ls h
      exact lp_zero h
    | succ n ih4 =>
      intro x4_0 x4_1 y4 H locs ls h hS hl hk4_0
      obtain ⟨z4, h, hz4a, hz4b⟩ := lp_succ h
      have h : X0_wantingSome_s4 v_number v_wanted p1 x4_0 x4_1 = some z4 := h
      unfold X0_wantingSome_s4 at h
      refine lv_iload_n hx hb dX0_wantingSome_4 rfl (lv_at hl 3 rfl) ?_
      refine lv_aload_n hx hb dX0_wantingSome_5 rfl (lv_at hl 0 rfl) ?_
      refine r_get E frX0_27 hS 0 rfl rfl dX0_wantingSome_6 ?_
      refine lv_icmp_ge (tgt := 39) hx hb dX0_wantingSome_9 (by decide) (fun c1 => ?_) (fun c1 => ?_)
      · have h := it_pos c1 h
        exact hk4_0 x4_0 (hz4b _ (Option.some.inj h).symm)  H locs ls hS (lv_sub hl [2] rfl)
      · have h := it_neg c1 h
        refine lv_iload_n hx hb dX0_wantingSome_12 rfl (lv_at hl 2 rfl) ?_
        refine lv_aload_n hx hb dX0_wantingSome_13 rfl (lv_at hl 0 rfl) ?_
        refine r_get E frX0_24 hS 0 rfl rfl dX0_wantingSome_14 ?_
        refine lv_iload_n hx hb dX0_wantingSome_17 rfl (lv_at hl 3 rfl) ?_
        obtain ⟨g2, h⟩ := gi_some h
        refine r_iald E hS 1 rfl g2 dX0_wantingSome_18 ?_
        refine lv_iload_n hx hb dX0_wantingSome_19 rfl (lv_at hl 1 rfl) ?_
        refine lv_iand hx hb dX0_wantingSome_20 ?_
        have hJ31 : ∀ (s31_1 : Int32) (ls : Array Slot), s31_1 = (if ((v_wanted x4_1.toNatClampNeg) &&& p1) = 0 then (0 : Int32) else ((1 : Int32) <<< (x4_1 &&& 31))) → lv_has ls 4 [(0, .ref q0), (1, .int p1), (3, .int x4_1)] → W p l e R s m args below meth c H locs 0 0 Q (F0 m 31 ls [.int s31_1, .int x4_0]) := by
          intro s31_1 ls es31_1 hl
          subst es31_1
          refine lv_ior hx hb dX0_wantingSome_31 ?_
          refine lv_istore_n (lv' := [(2, .int (x4_0 ||| (if ((v_wanted x4_1.toNatClampNeg) &&& p1) = 0 then (0 : Int32) else ((1 : Int32) <<< (x4_1 &&& 31))))), (0, .ref q0), (1, .int p1), (3, .int x4_1)]) hx hb dX0_wantingSome_32 rfl hl (by decide) rfl (fun ls hl => ?_)
          refine lv_iinc (v := (x4_1 + (1 : Int32))) (lv' := [(3, .int (x4_1 + (1 : Int32))), (2, .int (x4_0 ||| (if ((v_wanted x4_1.toNatClampNeg) &&& p1) = 0 then (0 : Int32) else ((1 : Int32) <<< (x4_1 &&& 31))))), (0, .ref q0), (1, .int p1)]) hx hb dX0_wantingSome_33 hl (k := 3) rfl rfl (by decide) rfl (fun ls hl => ?_)
          refine lv_goto (tgt := 4) hx hb dX0_wantingSome_36 (by decide) ?_
          exact ih4 (x4_0 ||| (if ((v_wanted x4_1.toNatClampNeg) &&& p1) = 0 then (0 : Int32) else ((1 : Int32) <<< (x4_1 &&& 31)))) (x4_1 + (1 : Int32)) y4  H locs ls (hz4a _ (Option.some.inj h).symm) hS (lv_sub hl [2, 3, 1, 0] rfl) hk4_0
        refine lv_if_eq (tgt := 30) hx hb dX0_wantingSome_21 (by decide) (fun c3 => ?_) (fun c3 => ?_)
        · refine lv_iconst (v := 0) hx hb dX0_wantingSome_30 (by decide) ?_
          exact hJ31 _ ls ((if_pos c3)).symm (lv_sub hl [0, 1, 3] rfl)
        · refine lv_iconst (v := 1) hx hb dX0_wantingSome_24 (by decide) ?_
          refine lv_iload_n hx hb dX0_wantingSome_25 rfl (lv_at hl 3 rfl) ?_
          refine lv_ishl hx hb dX0_wantingSome_26 ?_
          refine lv_goto (tgt := 31) hx hb dX0_wantingSome_27 (by decide) ?_
          exact hJ31 _ ls ((if_neg c3)).symm (lv_sub hl [0, 1, 3] rfl)
  obtain ⟨y4, e4, h⟩ := bd_some h
  refine hL4 1000 (0 : Int32) (0 : Int32) y4  H locs ls e4 hS (lv_sub hl [2, 3, 1, 0] rfl) (fun y4_0 ey4 H locs ls hS hl => ?_)
  subst ey4
  refine lv_iload_n hx hb dX0_wantingSome_39 rfl (lv_at hl 0 rfl) ?_
  obtain rfl := Option.some.inj h
  exact rt_i E hQ (.null) hS dX0_wantingSome_40
set_option maxHeartbeats 4000000 in
set_option maxRecDepth 100000 in
theorem c_X0_unserved {l : Launch} {D : va_G} {cy : Nat → ClassId} (q0 : Nat) (q1 : Nat) (u0_0 : Value) (u0_1 : Value) (u0_2 : Value) (u0_3 : Value) (u0_6 : Value) (u0_7 : Value) (v_number : Int32) (v_wanted : Nat → Int32) (p1 : Int32) (r : Int32) (h : X0_unserved v_number v_wanted p1 = some r) : Ct l yX0_unserved cX0_unserved 2 (some .int) 1 23 D cy [.ref q0, .int p1] [oX0 q0 u0_0 u0_1 u0_2 u0_3 (.ref q1) (.int v_number) u0_6 u0_7, aI cy q1 7 v_wanted] (fun _ => [oX0 q0 u0_0 u0_1 u0_2 u0_3 (.ref q1) (.int v_number) u0_6 u0_7, aI cy q1 7 v_wanted]) (some (.int r)) := by
  refine Ct.mk kX0_unserved (by decide +kernel) (Nat.le_of_ble_eq_true rfl) ?_
  intro p e s m below meth c A ls args R Q hRf hRl hQ E H locs hS hl
  have hx := E.x
  have hb := E.b
  have hl : lv_has ls 2 [(0, .ref q0), (1, .int p1)] := hl
  unfold X0_unserved at h
  refine lv_aload_n hx hb dX0_unserved_0 rfl (lv_at hl 0 rfl) ?_
  refine lv_aload_n hx hb dX0_unserved_1 rfl (lv_at hl 0 rfl) ?_
  refine ct_V (ws' := fun _ => [oX0 q0 u0_0 u0_1 u0_2 u0_3 (.ref q1) (.int v_number) u0_6 u0_7, aI cy q1 7 v_wanted]) (st' := [.int (X0_everybody v_number), .ref q0]) (rest := [.ref q0]) E hS vlX0_54 (c_X0_everybody (l := l) (D := D) (cy := cy) (q0 := q0) (u0_0 := u0_0) (u0_1 := u0_1) (u0_2 := u0_2) (u0_3 := u0_3) (u0_4 := .ref q1) (u0_6 := u0_6) (u0_7 := u0_7) (v_number := v_number) (r := (X0_everybody v_number)) rfl) [0] rfl rfl (fun _ => rfl) (fun _ => rfl) rfl rfl rfl rfl (Nat.le_of_ble_eq_true rfl) hl.1 (by rw [hRf]; exact Nat.le_of_ble_eq_true rfl) (by rw [hRl]; exact Nat.le_of_ble_eq_true rfl) ⟨Nat.zero_le _, Nat.zero_le _⟩ dX0_unserved_2 rfl (fun H locs _ hS => ?_)
  obtain ⟨y5, e1, h⟩ := bd_some h
  refine ct_V (ws' := fun _ => [oX0 q0 u0_0 u0_1 u0_2 u0_3 (.ref q1) (.int v_number) u0_6 u0_7, aI cy q1 7 v_wanted]) (st' := [.int y5]) (rest := []) E hS vlX0_57 (c_X0_wantingSome (l := l) (D := D) (cy := cy) (q0 := q0) (q1 := q1) (u0_0 := u0_0) (u0_1 := u0_1) (u0_2 := u0_2) (u0_3 := u0_3) (u0_6 := u0_6) (u0_7 := u0_7) (v_number := v_number) (v_wanted := v_wanted) (p1 := (X0_everybody v_number)) (r := y5) e1) [0, 1] rfl rfl (fun _ => rfl) (fun _ => rfl) rfl rfl rfl rfl (Nat.le_of_ble_eq_true rfl) hl.1 (by rw [hRf]; exact Nat.le_of_ble_eq_true rfl) (by rw [hRl]; exact Nat.le_of_ble_eq_true rfl) ⟨Nat.zero_le _, Nat.zero_le _⟩ dX0_unserved_5 rfl (fun H locs _ hS => ?_)
  refine lv_aload_n hx hb dX0_unserved_8 rfl (lv_at hl 0 rfl) ?_
  refine lv_iload_n hx hb dX0_unserved_9 rfl (lv_at hl 1 rfl) ?_
  obtain ⟨y10, e2, h⟩ := bd_some h
  refine ct_V (ws' := fun _ => [oX0 q0 u0_0 u0_1 u0_2 u0_3 (.ref q1) (.int v_number) u0_6 u0_7, aI cy q1 7 v_wanted]) (st' := [.int y10, .int y5]) (rest := [.int y5]) E hS vlX0_57 (c_X0_wantingSome (l := l) (D := D) (cy := cy) (q0 := q0) (q1 := q1) (u0_0 := u0_0) (u0_1 := u0_1) (u0_2 := u0_2) (u0_3 := u0_3) (u0_6 := u0_6) (u0_7 := u0_7) (v_number := v_number) (v_wanted := v_wanted) (p1 := p1) (r := y10) e2) [0, 1] rfl rfl (fun _ => rfl) (fun _ => rfl) rfl rfl rfl rfl (Nat.le_of_ble_eq_true rfl) hl.1 (by rw [hRf]; exact Nat.le_of_ble_eq_true rfl) (by rw [hRl]; exact Nat.le_of_ble_eq_true rfl) ⟨Nat.zero_le _, Nat.zero_le _⟩ dX0_unserved_10 rfl (fun H locs _ hS => ?_)
  refine lv_iconst (v := -1) hx hb dX0_unserved_13 (by decide) ?_
  refine lv_ixor hx hb dX0_unserved_14 ?_
  refine lv_iand hx hb dX0_unserved_15 ?_
  refine ct_S (ws' := fun _ => [oX0 q0 u0_0 u0_1 u0_2 u0_3 (.ref q1) (.int v_number) u0_6 u0_7, aI cy q1 7 v_wanted]) (st' := [.int (J6_bitCount_0f7a4 (y5 &&& (y10 ^^^ (-1 : Int32))))]) (rest := []) E hS slX0_61 (c_J6_bitCount_0f7a4 (l := l) (D := D) (cy := cy) (p0 := (y5 &&& (y10 ^^^ (-1 : Int32)))) (r := (J6_bitCount_0f7a4 (y5 &&& (y10 ^^^ (-1 : Int32))))) rfl) [] rfl rfl (fun _ => rfl) (fun _ => rfl) rfl rfl (Nat.le_of_ble_eq_true rfl) hl.1 (by rw [hRf]; exact Nat.le_of_ble_eq_true rfl) (by rw [hRl]; exact Nat.le_of_ble_eq_true rfl) ⟨Nat.zero_le _, Nat.zero_le _⟩ dX0_unserved_16 rfl (fun H locs _ hS => ?_)
  obtain rfl := Option.some.inj h
  exact rt_i E hQ (.null) hS dX0_unserved_19
set_option maxHeartbeats 4000000 in
set_option maxRecDepth 100000 in
theorem c_X0_areFriends {l : Launch} {D : va_G} {cy : Nat → ClassId} (q0 : Nat) (q1 : Nat) (u0_0 : Value) (u0_1 : Value) (u0_2 : Value) (u0_3 : Value) (u0_6 : Value) (u0_7 : Value) (v_number : Int32) (v_wanted : Nat → Int32) (p1 : Int32) (r : Int32) (h : X0_areFriends v_number v_wanted p1 = some r) : Ct l yX0_areFriends cX0_areFriends 3 (some .boolean) 0 0 D cy [.ref q0, .int p1] [oX0 q0 u0_0 u0_1 u0_2 u0_3 (.ref q1) (.int v_number) u0_6 u0_7, aI cy q1 7 v_wanted] (fun _ => [oX0 q0 u0_0 u0_1 u0_2 u0_3 (.ref q1) (.int v_number) u0_6 u0_7, aI cy q1 7 v_wanted]) (some (.int r)) := by
  refine Ct.mk kX0_areFriends (by decide +kernel) (Nat.le_of_ble_eq_true rfl) ?_
  intro p e s m below meth c A ls args R Q hRf hRl hQ E H locs hS hl
  have hx := E.x
  have hb := E.b
  have hl : lv_has ls 3 [(0, .ref q0), (1, .int p1)] := hl
  unfold X0_areFriends at h
  refine lv_iconst (v := 0) hx hb dX0_areFriends_0 (by decide) ?_
  refine lv_istore_n (lv' := [(2, .int (0 : Int32)), (0, .ref q0), (1, .int p1)]) hx hb dX0_areFriends_1 rfl hl (by decide) rfl (fun ls hl => ?_)
  have hL2 : ∀ (n : Nat) (x2_0 : Int32) (y2 : (Unit) ⊕ (Unit)) (H : Heap) (locs : List Loc) (ls : Array Slot), lp (fun x2 => X0_areFriends_s2 v_number v_wanted p1 x2) n x2_0 = some y2 → Sv D A s.heap [oX0 q0 u0_0 u0_1 u0_2 u0_3 (.ref q1) (.int v_number) u0_6 u0_7, aI cy q1 7 v_wanted] H locs → lv_has ls 3 [(0, .ref q0), (1, .int p1), (2, .int x2_0)] → ( .inl () = y2 → ∀ (H : Heap) (locs : List Loc) (ls : Array Slot), Sv D A s.heap [oX0 q0 u0_0 u0_1 u0_2 u0_3 (.ref q1) (.int v_number) u0_6 u0_7, aI cy q1 7 v_wanted] H locs → lv_has ls 3 [] → W p l e R s m args below meth c H locs 0 0 Q (F0 m 45 ls [])) → ( .inr () = y2 → ∀ (H : Heap) (locs : List Loc) (ls : Array Slot), Sv D A s.heap [oX0 q0 u0_0 u0_1 u0_2 u0_3 (.ref q1) (.int v_number) u0_6 u0_7, aI cy q1 7 v_wanted] H locs → lv_has ls 3 [] → W p l e R s m args below meth c H locs 0 0 Q (F0 m 37 ls [])) → W p l e R s m args below meth c H locs 0 0 Q (F0 m 2 ls []) := by
    intro n
    induction n with
    | zero =>
      intro x2_0 y2 H locs ls h
      exact lp_zero h
    | succ n ih2 =>
      intro x2_0 y2 H locs ls h hS hl hk2_0 hk2_1
      obtain ⟨z2, h, hz2a, hz2b⟩ := lp_succ h
      have h : X0_areFriends_s2 v_number v_wanted p1 x2_0 = some z2 := h
      unfold X0_areFriends_s2 at h
      refine lv_iload_n hx hb dX0_areFriends_2 rfl (lv_at hl 2 rfl) ?_
      refine lv_aload_n hx hb dX0_areFriends_3 rfl (lv_at hl 0 rfl) ?_
      refine r_get E frX0_27 hS 0 rfl rfl dX0_areFriends_4 ?_
      refine lv_icmp_ge (tgt := 45) hx hb dX0_areFriends_7 (by decide) (fun c1 => ?_) (fun c1 => ?_)
      · have h := it_pos c1 h
        exact hk2_0  (hz2b _ (Option.some.inj h).symm)  H locs ls hS (lv_sub hl [] rfl)
      · have h := it_neg c1 h
        refine lv_iload_n hx hb dX0_areFriends_10 rfl (lv_at hl 1 rfl) ?_
        refine lv_iload_n hx hb dX0_areFriends_11 rfl (lv_at hl 2 rfl) ?_
        refine lv_ishr hx hb dX0_areFriends_12 ?_
        refine lv_iconst (v := 1) hx hb dX0_areFriends_13 (by decide) ?_
        refine lv_iand hx hb dX0_areFriends_14 ?_
        refine lv_if_eq (tgt := 39) hx hb dX0_areFriends_15 (by decide) (fun c2 => ?_) (fun c2 => ?_)
        · have h := it_pos c2 h
          refine lv_iinc (v := (x2_0 + (1 : Int32))) (lv' := [(2, .int (x2_0 + (1 : Int32))), (0, .ref q0), (1, .int p1)]) hx hb dX0_areFriends_39 hl (k := 2) rfl rfl (by decide) rfl (fun ls hl => ?_)
          refine lv_goto (tgt := 2) hx hb dX0_areFriends_42 (by decide) ?_
          exact ih2 (x2_0 + (1 : Int32)) y2  H locs ls (hz2a _ (Option.some.inj h).symm) hS (lv_sub hl [1, 2, 0] rfl) hk2_0 hk2_1
        · have h := it_neg c2 h
          refine lv_iload_n hx hb dX0_areFriends_18 rfl (lv_at hl 1 rfl) ?_
          refine lv_aload_n hx hb dX0_areFriends_19 rfl (lv_at hl 0 rfl) ?_
          refine r_get E frX0_24 hS 0 rfl rfl dX0_areFriends_20 ?_
          refine lv_iload_n hx hb dX0_areFriends_23 rfl (lv_at hl 2 rfl) ?_
          obtain ⟨g3, h⟩ := gi_some h
          refine r_iald E hS 1 rfl g3 dX0_areFriends_24 ?_
          refine lv_iconst (v := -1) hx hb dX0_areFriends_25 (by decide) ?_
          refine lv_ixor hx hb dX0_areFriends_26 ?_
          refine lv_iand hx hb dX0_areFriends_27 ?_
          refine lv_iconst (v := 1) hx hb dX0_areFriends_28 (by decide) ?_
          refine lv_iload_n hx hb dX0_areFriends_29 rfl (lv_at hl 2 rfl) ?_
          refine lv_ishl hx hb dX0_areFriends_30 ?_
          refine lv_iconst (v := -1) hx hb dX0_areFriends_31 (by decide) ?_
          refine lv_ixor hx hb dX0_areFriends_32 ?_
          refine lv_iand hx hb dX0_areFriends_33 ?_
          refine lv_if_eq (tgt := 39) hx hb dX0_areFriends_34 (by decide) (fun c4 => ?_) (fun c4 => ?_)
          · have h := it_pos c4 h
            refine lv_iinc (v := (x2_0 + (1 : Int32))) (lv' := [(2, .int (x2_0 + (1 : Int32))), (0, .ref q0), (1, .int p1)]) hx hb dX0_areFriends_39 hl (k := 2) rfl rfl (by decide) rfl (fun ls hl => ?_)
            refine lv_goto (tgt := 2) hx hb dX0_areFriends_42 (by decide) ?_
            exact ih2 (x2_0 + (1 : Int32)) y2  H locs ls (hz2a _ (Option.some.inj h).symm) hS (lv_sub hl [1, 2, 0] rfl) hk2_0 hk2_1
          · have h := it_neg c4 h
            exact hk2_1  (hz2b _ (Option.some.inj h).symm)  H locs ls hS (lv_sub hl [] rfl)
  obtain ⟨y2, e2, h⟩ := bd_some h
  refine hL2 1000 (0 : Int32) y2  H locs ls e2 hS (lv_sub hl [1, 2, 0] rfl) (fun ey2 H locs ls hS hl => ?_) (fun ey2 H locs ls hS hl => ?_)
  · subst ey2
    have h := sm_l h
    refine lv_iconst (v := 1) hx hb dX0_areFriends_45 (by decide) ?_
    obtain rfl := Option.some.inj h
    exact rt_n E rfl hQ (.null) hS dX0_areFriends_46
  · subst ey2
    have h := sm_r h
    refine lv_iconst (v := 0) hx hb dX0_areFriends_37 (by decide) ?_
    obtain rfl := Option.some.inj h
    exact rt_n E rfl hQ (.null) hS dX0_areFriends_38
set_option maxHeartbeats 4000000 in
set_option maxRecDepth 100000 in
theorem c_X0_passMorning {l : Launch} {D : va_G} {cy : Nat → ClassId} (q0 : Nat) (q1 : Nat) (q2 : Nat) (q3 : Nat) (q4 : Nat) (u0_0 : Value) (v_number : Int32) (v_day : Int32) (v_unmet : Int32) (v_pills : Nat → Int32) (v_slept : Nat → Int32) (v_woken : Nat → Int32) (v_wanted : Nat → Int32) (p1 : Int32) (r : Int32 × Int32 × (Nat → Int32) × (Nat → Int32) × (Nat → Int32)) (h : X0_passMorning v_number v_day v_unmet v_pills v_slept v_woken v_wanted p1 = some r) : Ct l yX0_passMorning cX0_passMorning 3 none 2 44 D cy [.ref q0, .int p1] [oX0 q0 u0_0 (.ref q1) (.ref q2) (.ref q3) (.ref q4) (.int v_number) (.int v_day) (.int v_unmet), aI cy q1 7 v_pills, aI cy q2 7 v_slept, aI cy q3 7 v_woken, aI cy q4 7 v_wanted] (fun _ => [oX0 q0 u0_0 (.ref q1) (.ref q2) (.ref q3) (.ref q4) (.int v_number) (.int r.1) (.int r.2.1), aI cy q1 7 r.2.2.1, aI cy q2 7 r.2.2.2.1, aI cy q3 7 r.2.2.2.2, aI cy q4 7 v_wanted]) (none) := by
  refine Ct.mk kX0_passMorning (by decide +kernel) (Nat.le_of_ble_eq_true rfl) ?_
  intro p e s m below meth c A ls args R Q hRf hRl hQ E H locs hS hl
  have hx := E.x
  have hb := E.b
  have hl : lv_has ls 3 [(0, .ref q0), (1, .int p1)] := hl
  unfold X0_passMorning at h
  refine lv_aload_n hx hb dX0_passMorning_0 rfl (lv_at hl 0 rfl) ?_
  refine lv_sipush (v := 9999) hx hb dX0_passMorning_1 (by decide) ?_
  refine lv_aload_n hx hb dX0_passMorning_4 rfl (lv_at hl 0 rfl) ?_
  refine r_get E frX0_34 hS 0 rfl rfl dX0_passMorning_5 ?_
  refine lv_aload_n hx hb dX0_passMorning_8 rfl (lv_at hl 0 rfl) ?_
  refine lv_iload_n hx hb dX0_passMorning_9 rfl (lv_at hl 1 rfl) ?_
  obtain ⟨y10, e1, h⟩ := bd_some h
  refine ct_V (ws' := fun _ => [oX0 q0 u0_0 (.ref q1) (.ref q2) (.ref q3) (.ref q4) (.int v_number) (.int v_day) (.int v_unmet), aI cy q1 7 v_pills, aI cy q2 7 v_slept, aI cy q3 7 v_woken, aI cy q4 7 v_wanted]) (st' := [.int y10, .int v_unmet, .int (9999 : Int32), .ref q0]) (rest := [.int v_unmet, .int (9999 : Int32), .ref q0]) E hS vlX0_66 (c_X0_unserved (l := l) (D := D) (cy := cy) (q0 := q0) (q1 := q4) (u0_0 := u0_0) (u0_1 := .ref q1) (u0_2 := .ref q2) (u0_3 := .ref q3) (u0_6 := .int v_day) (u0_7 := .int v_unmet) (v_number := v_number) (v_wanted := v_wanted) (p1 := p1) (r := y10) e1) [0, 4] rfl rfl (fun _ => rfl) (fun _ => rfl) rfl rfl rfl rfl (Nat.le_of_ble_eq_true rfl) hl.1 (by rw [hRf]; exact Nat.le_of_ble_eq_true rfl) (by rw [hRl]; exact Nat.le_of_ble_eq_true rfl) ⟨Nat.zero_le _, Nat.zero_le _⟩ dX0_passMorning_10 rfl (fun H locs _ hS => ?_)
  refine lv_iadd hx hb dX0_passMorning_13 ?_
  refine ct_S (ws' := fun _ => [oX0 q0 u0_0 (.ref q1) (.ref q2) (.ref q3) (.ref q4) (.int v_number) (.int v_day) (.int v_unmet), aI cy q1 7 v_pills, aI cy q2 7 v_slept, aI cy q3 7 v_woken, aI cy q4 7 v_wanted]) (st' := [.int (J9_min_7cf53 (9999 : Int32) (v_unmet + y10)), .ref q0]) (rest := [.ref q0]) E hS slX0_41 (c_J9_min_7cf53 (l := l) (D := D) (cy := cy) (p0 := (9999 : Int32)) (p1 := (v_unmet + y10)) (r := (J9_min_7cf53 (9999 : Int32) (v_unmet + y10))) rfl) [] rfl rfl (fun _ => rfl) (fun _ => rfl) rfl rfl (Nat.le_of_ble_eq_true rfl) hl.1 (by rw [hRf]; exact Nat.le_of_ble_eq_true rfl) (by rw [hRl]; exact Nat.le_of_ble_eq_true rfl) ⟨Nat.zero_le _, Nat.zero_le _⟩ dX0_passMorning_14 rfl (fun H locs _ hS => ?_)
  refine r_put (ws' := [oX0 q0 u0_0 (.ref q1) (.ref q2) (.ref q3) (.ref q4) (.int v_number) (.int v_day) (.int (J9_min_7cf53 (9999 : Int32) (v_unmet + y10))), aI cy q1 7 v_pills, aI cy q2 7 v_slept, aI cy q3 7 v_woken, aI cy q4 7 v_wanted]) E frX0_34 hS 0 rfl (Nat.le_of_ble_eq_true rfl) rfl rfl rfl rfl dX0_passMorning_17 (fun H locs hS => ?_)
  refine lv_aload_n hx hb dX0_passMorning_20 rfl (lv_at hl 0 rfl) ?_
  refine lv_dup hx hb dX0_passMorning_21 rfl ?_
  refine r_get E frX0_31 hS 0 rfl rfl dX0_passMorning_22 ?_
  refine lv_iconst (v := 1) hx hb dX0_passMorning_25 (by decide) ?_
  refine lv_iadd hx hb dX0_passMorning_26 ?_
  refine r_put (ws' := [oX0 q0 u0_0 (.ref q1) (.ref q2) (.ref q3) (.ref q4) (.int v_number) (.int (v_day + (1 : Int32))) (.int (J9_min_7cf53 (9999 : Int32) (v_unmet + y10))), aI cy q1 7 v_pills, aI cy q2 7 v_slept, aI cy q3 7 v_woken, aI cy q4 7 v_wanted]) E frX0_31 hS 0 rfl (Nat.le_of_ble_eq_true rfl) rfl rfl rfl rfl dX0_passMorning_27 (fun H locs hS => ?_)
  refine lv_iconst (v := 0) hx hb dX0_passMorning_30 (by decide) ?_
  refine lv_istore_n (lv' := [(2, .int (0 : Int32)), (0, .ref q0), (1, .int p1)]) hx hb dX0_passMorning_31 rfl hl (by decide) rfl (fun ls hl => ?_)
  have hL32 : ∀ (n : Nat) (x32_0 : Int32) (x32_1 : Nat → Int32) (x32_2 : Nat → Int32) (x32_3 : Nat → Int32) (y32 : (Nat → Int32) × (Nat → Int32) × (Nat → Int32)) (H : Heap) (locs : List Loc) (ls : Array Slot), lp (fun x32 => X0_passMorning_s32 v_number p1 x32.1 x32.2.1 x32.2.2.1 x32.2.2.2) n (x32_0, x32_1, x32_2, x32_3) = some y32 → Sv D A s.heap [oX0 q0 u0_0 (.ref q1) (.ref q2) (.ref q3) (.ref q4) (.int v_number) (.int (v_day + (1 : Int32))) (.int (J9_min_7cf53 (9999 : Int32) (v_unmet + y10))), aI cy q1 7 x32_1, aI cy q2 7 x32_2, aI cy q3 7 x32_3, aI cy q4 7 v_wanted] H locs → lv_has ls 3 [(0, .ref q0), (1, .int p1), (2, .int x32_0)] → ( ∀ (y32_0 : Nat → Int32) (y32_1 : Nat → Int32) (y32_2 : Nat → Int32), (y32_0, y32_1, y32_2) = y32 → ∀ (H : Heap) (locs : List Loc) (ls : Array Slot), Sv D A s.heap [oX0 q0 u0_0 (.ref q1) (.ref q2) (.ref q3) (.ref q4) (.int v_number) (.int (v_day + (1 : Int32))) (.int (J9_min_7cf53 (9999 : Int32) (v_unmet + y10))), aI cy q1 7 y32_0, aI cy q2 7 y32_1, aI cy q3 7 y32_2, aI cy q4 7 v_wanted] H locs → lv_has ls 3 [] → W p l e R s m args below meth c H locs 0 0 Q (F0 m 121 ls [])) → W p l e R s m args below meth c H locs 0 0 Q (F0 m 32 ls []) := by
    intro n
    induction n with
    | zero =>
      intro x32_0 x32_1 x32_2 x32_3 y32 H locs ls h
      exact lp_zero h
    | succ n ih32 =>
      intro x32_0 x32_1 x32_2 x32_3 y32 H locs ls h hS hl hk32_0
      obtain ⟨z32, h, hz32a, hz32b⟩ := lp_succ h
      have h : X0_passMorning_s32 v_number p1 x32_0 x32_1 x32_2 x32_3 = some z32 := h
      unfold X0_passMorning_s32 at h
      refine lv_iload_n hx hb dX0_passMorning_32 rfl (lv_at hl 2 rfl) ?_
      refine lv_aload_n hx hb dX0_passMorning_33 rfl (lv_at hl 0 rfl) ?_
      refine r_get E frX0_27 hS 0 rfl rfl dX0_passMorning_34 ?_
      refine lv_icmp_ge (tgt := 121) hx hb dX0_passMorning_37 (by decide) (fun c2 => ?_) (fun c2 => ?_)
      · have h := it_pos c2 h
        exact hk32_0 x32_1 x32_2 x32_3 (hz32b _ (Option.some.inj h).symm)  H locs ls hS (lv_sub hl [] rfl)
      · have h := it_neg c2 h
        refine lv_iload_n hx hb dX0_passMorning_40 rfl (lv_at hl 1 rfl) ?_
        refine lv_iload_n hx hb dX0_passMorning_41 rfl (lv_at hl 2 rfl) ?_
        refine lv_ishr hx hb dX0_passMorning_42 ?_
        refine lv_iconst (v := 1) hx hb dX0_passMorning_43 (by decide) ?_
        refine lv_iand hx hb dX0_passMorning_44 ?_
        have hJ97 : ∀ (j97_v_slept : Nat → Int32) (j97_v_woken : Nat → Int32) (H : Heap) (locs : List Loc) (ls : Array Slot), X0_passMorning_k97 x32_0 x32_1 j97_v_slept j97_v_woken = some z32 → Sv D A s.heap [oX0 q0 u0_0 (.ref q1) (.ref q2) (.ref q3) (.ref q4) (.int v_number) (.int (v_day + (1 : Int32))) (.int (J9_min_7cf53 (9999 : Int32) (v_unmet + y10))), aI cy q1 7 x32_1, aI cy q2 7 j97_v_slept, aI cy q3 7 j97_v_woken, aI cy q4 7 v_wanted] H locs → lv_has ls 3 [(0, .ref q0), (1, .int p1), (2, .int x32_0)] → W p l e R s m args below meth c H locs 0 0 Q (F0 m 97 ls []) := by
          intro j97_v_slept j97_v_woken H locs ls h hS hl
          unfold X0_passMorning_k97 at h
          refine lv_aload_n hx hb dX0_passMorning_97 rfl (lv_at hl 0 rfl) ?_
          refine r_get E frX0_15 hS 0 rfl rfl dX0_passMorning_98 ?_
          refine lv_iload_n hx hb dX0_passMorning_101 rfl (lv_at hl 2 rfl) ?_
          refine lv_iconst (v := 0) hx hb dX0_passMorning_102 (by decide) ?_
          refine lv_aload_n hx hb dX0_passMorning_103 rfl (lv_at hl 0 rfl) ?_
          refine r_get E frX0_15 hS 0 rfl rfl dX0_passMorning_104 ?_
          refine lv_iload_n hx hb dX0_passMorning_107 rfl (lv_at hl 2 rfl) ?_
          obtain ⟨g3, h⟩ := gi_some h
          refine r_iald E hS 1 rfl g3 dX0_passMorning_108 ?_
          refine lv_iconst (v := 1) hx hb dX0_passMorning_109 (by decide) ?_
          refine lv_isub hx hb dX0_passMorning_110 ?_
          refine ct_S (ws' := fun _ => [oX0 q0 u0_0 (.ref q1) (.ref q2) (.ref q3) (.ref q4) (.int v_number) (.int (v_day + (1 : Int32))) (.int (J9_min_7cf53 (9999 : Int32) (v_unmet + y10))), aI cy q1 7 x32_1, aI cy q2 7 j97_v_slept, aI cy q3 7 j97_v_woken, aI cy q4 7 v_wanted]) (st' := [.int (J9_max_7cf53 (0 : Int32) ((x32_1 x32_0.toNatClampNeg) - (1 : Int32))), .int x32_0, .ref q1]) (rest := [.int x32_0, .ref q1]) E hS slX0_47 (c_J9_max_7cf53 (l := l) (D := D) (cy := cy) (p0 := (0 : Int32)) (p1 := ((x32_1 x32_0.toNatClampNeg) - (1 : Int32))) (r := (J9_max_7cf53 (0 : Int32) ((x32_1 x32_0.toNatClampNeg) - (1 : Int32)))) rfl) [] rfl rfl (fun _ => rfl) (fun _ => rfl) rfl rfl (Nat.le_of_ble_eq_true rfl) hl.1 (by rw [hRf]; exact Nat.le_of_ble_eq_true rfl) (by rw [hRl]; exact Nat.le_of_ble_eq_true rfl) ⟨Nat.zero_le _, Nat.zero_le _⟩ dX0_passMorning_111 rfl (fun H locs _ hS => ?_)
          obtain ⟨g4, h⟩ := gi_some h
          refine r_iast (ws' := [oX0 q0 u0_0 (.ref q1) (.ref q2) (.ref q3) (.ref q4) (.int v_number) (.int (v_day + (1 : Int32))) (.int (J9_min_7cf53 (9999 : Int32) (v_unmet + y10))), aI cy q1 7 (upd x32_1 x32_0.toNatClampNeg (J9_max_7cf53 (0 : Int32) ((x32_1 x32_0.toNatClampNeg) - (1 : Int32)))), aI cy q2 7 j97_v_slept, aI cy q3 7 j97_v_woken, aI cy q4 7 v_wanted]) E hS 1 rfl g4 rfl dX0_passMorning_114 (fun H locs hS => ?_)
          refine lv_iinc (v := (x32_0 + (1 : Int32))) (lv' := [(2, .int (x32_0 + (1 : Int32))), (0, .ref q0), (1, .int p1)]) hx hb dX0_passMorning_115 hl (k := 2) rfl rfl (by decide) rfl (fun ls hl => ?_)
          refine lv_goto (tgt := 32) hx hb dX0_passMorning_118 (by decide) ?_
          exact ih32 (x32_0 + (1 : Int32)) (upd x32_1 x32_0.toNatClampNeg (J9_max_7cf53 (0 : Int32) ((x32_1 x32_0.toNatClampNeg) - (1 : Int32)))) j97_v_slept j97_v_woken y32  H locs ls (hz32a _ (Option.some.inj h).symm) hS (lv_sub hl [1, 2, 0] rfl) hk32_0
        refine lv_if_eq (tgt := 78) hx hb dX0_passMorning_45 (by decide) (fun c5 => ?_) (fun c5 => ?_)
        · have h := it_pos c5 h
          refine lv_aload_n hx hb dX0_passMorning_78 rfl (lv_at hl 0 rfl) ?_
          refine r_get E frX0_18 hS 0 rfl rfl dX0_passMorning_79 ?_
          refine lv_iload_n hx hb dX0_passMorning_82 rfl (lv_at hl 2 rfl) ?_
          refine lv_bipush (v := 99) hx hb dX0_passMorning_83 (by decide) ?_
          refine lv_aload_n hx hb dX0_passMorning_85 rfl (lv_at hl 0 rfl) ?_
          refine r_get E frX0_18 hS 0 rfl rfl dX0_passMorning_86 ?_
          refine lv_iload_n hx hb dX0_passMorning_89 rfl (lv_at hl 2 rfl) ?_
          obtain ⟨g6, h⟩ := gi_some h
          refine r_iald E hS 2 rfl g6 dX0_passMorning_90 ?_
          refine lv_iconst (v := 1) hx hb dX0_passMorning_91 (by decide) ?_
          refine lv_iadd hx hb dX0_passMorning_92 ?_
          refine ct_S (ws' := fun _ => [oX0 q0 u0_0 (.ref q1) (.ref q2) (.ref q3) (.ref q4) (.int v_number) (.int (v_day + (1 : Int32))) (.int (J9_min_7cf53 (9999 : Int32) (v_unmet + y10))), aI cy q1 7 x32_1, aI cy q2 7 x32_2, aI cy q3 7 x32_3, aI cy q4 7 v_wanted]) (st' := [.int (J9_min_7cf53 (99 : Int32) ((x32_2 x32_0.toNatClampNeg) + (1 : Int32))), .int x32_0, .ref q2]) (rest := [.int x32_0, .ref q2]) E hS slX0_41 (c_J9_min_7cf53 (l := l) (D := D) (cy := cy) (p0 := (99 : Int32)) (p1 := ((x32_2 x32_0.toNatClampNeg) + (1 : Int32))) (r := (J9_min_7cf53 (99 : Int32) ((x32_2 x32_0.toNatClampNeg) + (1 : Int32)))) rfl) [] rfl rfl (fun _ => rfl) (fun _ => rfl) rfl rfl (Nat.le_of_ble_eq_true rfl) hl.1 (by rw [hRf]; exact Nat.le_of_ble_eq_true rfl) (by rw [hRl]; exact Nat.le_of_ble_eq_true rfl) ⟨Nat.zero_le _, Nat.zero_le _⟩ dX0_passMorning_93 rfl (fun H locs _ hS => ?_)
          obtain ⟨g7, h⟩ := gi_some h
          refine r_iast (ws' := [oX0 q0 u0_0 (.ref q1) (.ref q2) (.ref q3) (.ref q4) (.int v_number) (.int (v_day + (1 : Int32))) (.int (J9_min_7cf53 (9999 : Int32) (v_unmet + y10))), aI cy q1 7 x32_1, aI cy q2 7 (upd x32_2 x32_0.toNatClampNeg (J9_min_7cf53 (99 : Int32) ((x32_2 x32_0.toNatClampNeg) + (1 : Int32)))), aI cy q3 7 x32_3, aI cy q4 7 v_wanted]) E hS 2 rfl g7 rfl dX0_passMorning_96 (fun H locs hS => ?_)
          exact hJ97 (upd x32_2 x32_0.toNatClampNeg (J9_min_7cf53 (99 : Int32) ((x32_2 x32_0.toNatClampNeg) + (1 : Int32)))) x32_3  H locs ls h hS (lv_sub hl [0, 1, 2] rfl)
        · have h := it_neg c5 h
          refine lv_aload_n hx hb dX0_passMorning_48 rfl (lv_at hl 0 rfl) ?_
          refine r_get E frX0_21 hS 0 rfl rfl dX0_passMorning_49 ?_
          refine lv_iload_n hx hb dX0_passMorning_52 rfl (lv_at hl 2 rfl) ?_
          refine lv_sipush (v := 999) hx hb dX0_passMorning_53 (by decide) ?_
          refine lv_aload_n hx hb dX0_passMorning_56 rfl (lv_at hl 0 rfl) ?_
          refine r_get E frX0_21 hS 0 rfl rfl dX0_passMorning_57 ?_
          refine lv_iload_n hx hb dX0_passMorning_60 rfl (lv_at hl 2 rfl) ?_
          obtain ⟨g8, h⟩ := gi_some h
          refine r_iald E hS 3 rfl g8 dX0_passMorning_61 ?_
          refine lv_iconst (v := 1) hx hb dX0_passMorning_62 (by decide) ?_
          refine lv_iadd hx hb dX0_passMorning_63 ?_
          refine ct_S (ws' := fun _ => [oX0 q0 u0_0 (.ref q1) (.ref q2) (.ref q3) (.ref q4) (.int v_number) (.int (v_day + (1 : Int32))) (.int (J9_min_7cf53 (9999 : Int32) (v_unmet + y10))), aI cy q1 7 x32_1, aI cy q2 7 x32_2, aI cy q3 7 x32_3, aI cy q4 7 v_wanted]) (st' := [.int (J9_min_7cf53 (999 : Int32) ((x32_3 x32_0.toNatClampNeg) + (1 : Int32))), .int x32_0, .ref q3]) (rest := [.int x32_0, .ref q3]) E hS slX0_41 (c_J9_min_7cf53 (l := l) (D := D) (cy := cy) (p0 := (999 : Int32)) (p1 := ((x32_3 x32_0.toNatClampNeg) + (1 : Int32))) (r := (J9_min_7cf53 (999 : Int32) ((x32_3 x32_0.toNatClampNeg) + (1 : Int32)))) rfl) [] rfl rfl (fun _ => rfl) (fun _ => rfl) rfl rfl (Nat.le_of_ble_eq_true rfl) hl.1 (by rw [hRf]; exact Nat.le_of_ble_eq_true rfl) (by rw [hRl]; exact Nat.le_of_ble_eq_true rfl) ⟨Nat.zero_le _, Nat.zero_le _⟩ dX0_passMorning_64 rfl (fun H locs _ hS => ?_)
          obtain ⟨g9, h⟩ := gi_some h
          refine r_iast (ws' := [oX0 q0 u0_0 (.ref q1) (.ref q2) (.ref q3) (.ref q4) (.int v_number) (.int (v_day + (1 : Int32))) (.int (J9_min_7cf53 (9999 : Int32) (v_unmet + y10))), aI cy q1 7 x32_1, aI cy q2 7 x32_2, aI cy q3 7 (upd x32_3 x32_0.toNatClampNeg (J9_min_7cf53 (999 : Int32) ((x32_3 x32_0.toNatClampNeg) + (1 : Int32)))), aI cy q4 7 v_wanted]) E hS 3 rfl g9 rfl dX0_passMorning_67 (fun H locs hS => ?_)
          refine lv_aload_n hx hb dX0_passMorning_68 rfl (lv_at hl 0 rfl) ?_
          refine r_get E frX0_18 hS 0 rfl rfl dX0_passMorning_69 ?_
          refine lv_iload_n hx hb dX0_passMorning_72 rfl (lv_at hl 2 rfl) ?_
          refine lv_iconst (v := 0) hx hb dX0_passMorning_73 (by decide) ?_
          obtain ⟨g10, h⟩ := gi_some h
          refine r_iast (ws' := [oX0 q0 u0_0 (.ref q1) (.ref q2) (.ref q3) (.ref q4) (.int v_number) (.int (v_day + (1 : Int32))) (.int (J9_min_7cf53 (9999 : Int32) (v_unmet + y10))), aI cy q1 7 x32_1, aI cy q2 7 (upd x32_2 x32_0.toNatClampNeg (0 : Int32)), aI cy q3 7 (upd x32_3 x32_0.toNatClampNeg (J9_min_7cf53 (999 : Int32) ((x32_3 x32_0.toNatClampNeg) + (1 : Int32)))), aI cy q4 7 v_wanted]) E hS 2 rfl g10 rfl dX0_passMorning_74 (fun H locs hS => ?_)
          refine lv_goto (tgt := 97) hx hb dX0_passMorning_75 (by decide) ?_
          exact hJ97 (upd x32_2 x32_0.toNatClampNeg (0 : Int32)) (upd x32_3 x32_0.toNatClampNeg (J9_min_7cf53 (999 : Int32) ((x32_3 x32_0.toNatClampNeg) + (1 : Int32))))  H locs ls h hS (lv_sub hl [0, 1, 2] rfl)
  obtain ⟨y32, e32, h⟩ := bd_some h
  refine hL32 1000 (0 : Int32) v_pills v_slept v_woken y32  H locs ls e32 hS (lv_sub hl [1, 2, 0] rfl) (fun y32_0 y32_1 y32_2 ey32 H locs ls hS hl => ?_)
  subst ey32
  have h := un_r h
  have h := un_r h
  obtain rfl := Option.some.inj h
  exact rt_v E hQ (.null) hS dX0_passMorning_121
set_option maxHeartbeats 4000000 in
set_option maxRecDepth 100000 in
theorem c_X0_restsWoken {l : Launch} {D : va_G} {cy : Nat → ClassId} (q0 : Nat) (q1 : Nat) (u0_0 : Value) (u0_1 : Value) (u0_2 : Value) (u0_4 : Value) (u0_5 : Value) (u0_6 : Value) (u0_7 : Value) (v_woken : Nat → Int32) (r : (Nat → Int32)) (h : X0_restsWoken v_woken = some r) : Ct l yX0_restsWoken cX0_restsWoken 2 none 0 0 D cy [.ref q0] [oX0 q0 u0_0 u0_1 u0_2 (.ref q1) u0_4 u0_5 u0_6 u0_7, aI cy q1 7 v_woken] (fun _ => [oX0 q0 u0_0 u0_1 u0_2 (.ref q1) u0_4 u0_5 u0_6 u0_7, aI cy q1 7 r]) (none) := by
  refine Ct.mk kX0_restsWoken (by decide +kernel) (Nat.le_of_ble_eq_true rfl) ?_
  intro p e s m below meth c A ls args R Q hRf hRl hQ E H locs hS hl
  have hx := E.x
  have hb := E.b
  have hl : lv_has ls 2 [(0, .ref q0)] := hl
  unfold X0_restsWoken at h
  refine lv_iconst (v := 0) hx hb dX0_restsWoken_0 (by decide) ?_
  refine lv_istore_n (lv' := [(1, .int (0 : Int32)), (0, .ref q0)]) hx hb dX0_restsWoken_1 rfl hl (by decide) rfl (fun ls hl => ?_)
  have hL2 : ∀ (n : Nat) (x2_0 : Int32) (x2_1 : Nat → Int32) (y2 : (Nat → Int32)) (H : Heap) (locs : List Loc) (ls : Array Slot), lp (fun x2 => X0_restsWoken_s2 x2.1 x2.2) n (x2_0, x2_1) = some y2 → Sv D A s.heap [oX0 q0 u0_0 u0_1 u0_2 (.ref q1) u0_4 u0_5 u0_6 u0_7, aI cy q1 7 x2_1] H locs → lv_has ls 2 [(0, .ref q0), (1, .int x2_0)] → ( ∀ (y2_0 : Nat → Int32), y2_0 = y2 → ∀ (H : Heap) (locs : List Loc) (ls : Array Slot), Sv D A s.heap [oX0 q0 u0_0 u0_1 u0_2 (.ref q1) u0_4 u0_5 u0_6 u0_7, aI cy q1 7 y2_0] H locs → lv_has ls 2 [] → W p l e R s m args below meth c H locs 0 0 Q (F0 m 21 ls [])) → W p l e R s m args below meth c H locs 0 0 Q (F0 m 2 ls []) := by
    intro n
    induction n with
    | zero =>
      intro x2_0 x2_1 y2 H locs ls h
      exact lp_zero h
    | succ n ih2 =>
      intro x2_0 x2_1 y2 H locs ls h hS hl hk2_0
      obtain ⟨z2, h, hz2a, hz2b⟩ := lp_succ h
      have h : X0_restsWoken_s2 x2_0 x2_1 = some z2 := h
      unfold X0_restsWoken_s2 at h
      refine lv_iload_n hx hb dX0_restsWoken_2 rfl (lv_at hl 1 rfl) ?_
      refine lv_bipush (v := 7) hx hb dX0_restsWoken_3 (by decide) ?_
      refine lv_icmp_ge (tgt := 21) hx hb dX0_restsWoken_5 (by decide) (fun c1 => ?_) (fun c1 => ?_)
      · have h := it_pos c1 h
        exact hk2_0 x2_1 (hz2b _ (Option.some.inj h).symm)  H locs ls hS (lv_sub hl [] rfl)
      · have h := it_neg c1 h
        refine lv_aload_n hx hb dX0_restsWoken_8 rfl (lv_at hl 0 rfl) ?_
        refine r_get E frX0_21 hS 0 rfl rfl dX0_restsWoken_9 ?_
        refine lv_iload_n hx hb dX0_restsWoken_12 rfl (lv_at hl 1 rfl) ?_
        refine lv_iconst (v := 0) hx hb dX0_restsWoken_13 (by decide) ?_
        obtain ⟨g2, h⟩ := gi_some h
        refine r_iast (ws' := [oX0 q0 u0_0 u0_1 u0_2 (.ref q1) u0_4 u0_5 u0_6 u0_7, aI cy q1 7 (upd x2_1 x2_0.toNatClampNeg (0 : Int32))]) E hS 1 rfl g2 rfl dX0_restsWoken_14 (fun H locs hS => ?_)
        refine lv_iinc (v := (x2_0 + (1 : Int32))) (lv' := [(1, .int (x2_0 + (1 : Int32))), (0, .ref q0)]) hx hb dX0_restsWoken_15 hl (k := 1) rfl rfl (by decide) rfl (fun ls hl => ?_)
        refine lv_goto (tgt := 2) hx hb dX0_restsWoken_18 (by decide) ?_
        exact ih2 (x2_0 + (1 : Int32)) (upd x2_1 x2_0.toNatClampNeg (0 : Int32)) y2  H locs ls (hz2a _ (Option.some.inj h).symm) hS (lv_sub hl [1, 0] rfl) hk2_0
  obtain ⟨y2, e2, h⟩ := bd_some h
  refine hL2 1000 (0 : Int32) v_woken y2  H locs ls e2 hS (lv_sub hl [1, 0] rfl) (fun y2_0 ey2 H locs ls hS hl => ?_)
  subst ey2
  obtain rfl := Option.some.inj h
  exact rt_v E hQ (.null) hS dX0_restsWoken_21
set_option maxHeartbeats 4000000 in
set_option maxRecDepth 100000 in
theorem c_X0_mostWoken {l : Launch} {D : va_G} {cy : Nat → ClassId} (q0 : Nat) (q1 : Nat) (u0_0 : Value) (u0_1 : Value) (u0_2 : Value) (u0_4 : Value) (u0_6 : Value) (u0_7 : Value) (v_number : Int32) (v_woken : Nat → Int32) (r : Int32) (h : X0_mostWoken v_number v_woken = some r) : Ct l yX0_mostWoken cX0_mostWoken 3 (some .int) 0 0 D cy [.ref q0] [oX0 q0 u0_0 u0_1 u0_2 (.ref q1) u0_4 (.int v_number) u0_6 u0_7, aI cy q1 7 v_woken] (fun _ => [oX0 q0 u0_0 u0_1 u0_2 (.ref q1) u0_4 (.int v_number) u0_6 u0_7, aI cy q1 7 v_woken]) (some (.int r)) := by
  refine Ct.mk kX0_mostWoken (by decide +kernel) (Nat.le_of_ble_eq_true rfl) ?_
  intro p e s m below meth c A ls args R Q hRf hRl hQ E H locs hS hl
  have hx := E.x
  have hb := E.b
  have hl : lv_has ls 3 [(0, .ref q0)] := hl
  unfold X0_mostWoken at h
  refine lv_iconst (v := 0) hx hb dX0_mostWoken_0 (by decide) ?_
  refine lv_istore_n (lv' := [(1, .int (0 : Int32)), (0, .ref q0)]) hx hb dX0_mostWoken_1 rfl hl (by decide) rfl (fun ls hl => ?_)
  refine lv_iconst (v := 1) hx hb dX0_mostWoken_2 (by decide) ?_
  refine lv_istore_n (lv' := [(2, .int (1 : Int32)), (1, .int (0 : Int32)), (0, .ref q0)]) hx hb dX0_mostWoken_3 rfl hl (by decide) rfl (fun ls hl => ?_)
  have hL4 : ∀ (n : Nat) (x4_0 : Int32) (x4_1 : Int32) (y4 : Int32) (H : Heap) (locs : List Loc) (ls : Array Slot), lp (fun x4 => X0_mostWoken_s4 v_number v_woken x4.1 x4.2) n (x4_0, x4_1) = some y4 → Sv D A s.heap [oX0 q0 u0_0 u0_1 u0_2 (.ref q1) u0_4 (.int v_number) u0_6 u0_7, aI cy q1 7 v_woken] H locs → lv_has ls 3 [(0, .ref q0), (1, .int x4_0), (2, .int x4_1)] → ( ∀ (y4_0 : Int32), y4_0 = y4 → ∀ (H : Heap) (locs : List Loc) (ls : Array Slot), Sv D A s.heap [oX0 q0 u0_0 u0_1 u0_2 (.ref q1) u0_4 (.int v_number) u0_6 u0_7, aI cy q1 7 v_woken] H locs → lv_has ls 3 [(1, .int y4_0)] → W p l e R s m args below meth c H locs 0 0 Q (F0 m 39 ls [])) → W p l e R s m args below meth c H locs 0 0 Q (F0 m 4 ls []) := by
    intro n
    induction n with
    | zero =>
      intro x4_0 x4_1 y4 H locs ls h
      exact lp_zero h
    | succ n ih4 =>
      intro x4_0 x4_1 y4 H locs ls h hS hl hk4_0
      obtain ⟨z4, h, hz4a, hz4b⟩ := lp_succ h
      have h : X0_mostWoken_s4 v_number v_woken x4_0 x4_1 = some z4 := h
      unfold X0_mostWoken_s4 at h
      refine lv_iload_n hx hb dX0_mostWoken_4 rfl (lv_at hl 2 rfl) ?_
      refine lv_aload_n hx hb dX0_mostWoken_5 rfl (lv_at hl 0 rfl) ?_
      refine r_get E frX0_27 hS 0 rfl rfl dX0_mostWoken_6 ?_
      refine lv_icmp_ge (tgt := 39) hx hb dX0_mostWoken_9 (by decide) (fun c1 => ?_) (fun c1 => ?_)
      · have h := it_pos c1 h
        exact hk4_0 x4_0 (hz4b _ (Option.some.inj h).symm)  H locs ls hS (lv_sub hl [1] rfl)
      · have h := it_neg c1 h
        refine lv_aload_n hx hb dX0_mostWoken_12 rfl (lv_at hl 0 rfl) ?_
        refine r_get E frX0_21 hS 0 rfl rfl dX0_mostWoken_13 ?_
        refine lv_iload_n hx hb dX0_mostWoken_16 rfl (lv_at hl 2 rfl) ?_
        obtain ⟨g2, h⟩ := gi_some h
        refine r_iald E hS 1 rfl g2 dX0_mostWoken_17 ?_
        refine lv_aload_n hx hb dX0_mostWoken_18 rfl (lv_at hl 0 rfl) ?_
        refine r_get E frX0_21 hS 0 rfl rfl dX0_mostWoken_19 ?_
        refine lv_iload_n hx hb dX0_mostWoken_22 rfl (lv_at hl 1 rfl) ?_
        obtain ⟨g3, h⟩ := gi_some h
        refine r_iald E hS 1 rfl g3 dX0_mostWoken_23 ?_
        have hJ32 : ∀ (s32_0 : Int32) (ls : Array Slot), s32_0 = (if (v_woken x4_1.toNatClampNeg) ≤ (v_woken x4_0.toNatClampNeg) then x4_0 else x4_1) → lv_has ls 3 [(0, .ref q0), (2, .int x4_1)] → W p l e R s m args below meth c H locs 0 0 Q (F0 m 32 ls [.int s32_0]) := by
          intro s32_0 ls es32_0 hl
          subst es32_0
          refine lv_istore_n (lv' := [(1, .int (if (v_woken x4_1.toNatClampNeg) ≤ (v_woken x4_0.toNatClampNeg) then x4_0 else x4_1)), (0, .ref q0), (2, .int x4_1)]) hx hb dX0_mostWoken_32 rfl hl (by decide) rfl (fun ls hl => ?_)
          refine lv_iinc (v := (x4_1 + (1 : Int32))) (lv' := [(2, .int (x4_1 + (1 : Int32))), (1, .int (if (v_woken x4_1.toNatClampNeg) ≤ (v_woken x4_0.toNatClampNeg) then x4_0 else x4_1)), (0, .ref q0)]) hx hb dX0_mostWoken_33 hl (k := 2) rfl rfl (by decide) rfl (fun ls hl => ?_)
          refine lv_goto (tgt := 4) hx hb dX0_mostWoken_36 (by decide) ?_
          exact ih4 (if (v_woken x4_1.toNatClampNeg) ≤ (v_woken x4_0.toNatClampNeg) then x4_0 else x4_1) (x4_1 + (1 : Int32)) y4  H locs ls (hz4a _ (Option.some.inj h).symm) hS (lv_sub hl [2, 1, 0] rfl) hk4_0
        refine lv_icmp_le (tgt := 31) hx hb dX0_mostWoken_24 (by decide) (fun c4 => ?_) (fun c4 => ?_)
        · refine lv_iload_n hx hb dX0_mostWoken_31 rfl (lv_at hl 1 rfl) ?_
          exact hJ32 _ ls ((if_pos c4)).symm (lv_sub hl [0, 2] rfl)
        · refine lv_iload_n hx hb dX0_mostWoken_27 rfl (lv_at hl 2 rfl) ?_
          refine lv_goto (tgt := 32) hx hb dX0_mostWoken_28 (by decide) ?_
          exact hJ32 _ ls ((if_neg c4)).symm (lv_sub hl [0, 2] rfl)
  obtain ⟨y4, e4, h⟩ := bd_some h
  refine hL4 1000 (0 : Int32) (1 : Int32) y4  H locs ls e4 hS (lv_sub hl [2, 1, 0] rfl) (fun y4_0 ey4 H locs ls hS hl => ?_)
  subst ey4
  refine lv_iload_n hx hb dX0_mostWoken_39 rfl (lv_at hl 0 rfl) ?_
  obtain rfl := Option.some.inj h
  exact rt_i E hQ (.null) hS dX0_mostWoken_40
set_option maxHeartbeats 4000000 in
set_option maxRecDepth 100000 in
theorem c_X0_sum {l : Launch} {D : va_G} {cy : Nat → ClassId} (q0 : Nat) (q1 : Nat) (u0_0 : Value) (u0_1 : Value) (u0_2 : Value) (u0_3 : Value) (u0_4 : Value) (u0_6 : Value) (u0_7 : Value) (v_number : Int32) (nw1_ : Nat) (w1_ : Nat → Int32) (r : Int32) (h : X0_sum v_number nw1_ w1_ = some r) : Ct l yX0_sum cX0_sum 4 (some .int) 0 0 D cy [.ref q0, .ref q1] [oX0 q0 u0_0 u0_1 u0_2 u0_3 u0_4 (.int v_number) u0_6 u0_7, aI cy q1 nw1_ w1_] (fun _ => [oX0 q0 u0_0 u0_1 u0_2 u0_3 u0_4 (.int v_number) u0_6 u0_7, aI cy q1 nw1_ w1_]) (some (.int r)) := by
  refine Ct.mk kX0_sum (by decide +kernel) (Nat.le_of_ble_eq_true rfl) ?_
  intro p e s m below meth c A ls args R Q hRf hRl hQ E H locs hS hl
  have hx := E.x
  have hb := E.b
  have hl : lv_has ls 4 [(0, .ref q0), (1, .ref q1)] := hl
  unfold X0_sum at h
  refine lv_iconst (v := 0) hx hb dX0_sum_0 (by decide) ?_
  refine lv_istore_n (lv' := [(2, .int (0 : Int32)), (0, .ref q0), (1, .ref q1)]) hx hb dX0_sum_1 rfl hl (by decide) rfl (fun ls hl => ?_)
  refine lv_iconst (v := 0) hx hb dX0_sum_2 (by decide) ?_
  refine lv_istore_n (lv' := [(3, .int (0 : Int32)), (2, .int (0 : Int32)), (0, .ref q0), (1, .ref q1)]) hx hb dX0_sum_3 rfl hl (by decide) rfl (fun ls hl => ?_)
  have hL4 : ∀ (n : Nat) (x4_0 : Int32) (x4_1 : Int32) (y4 : Int32) (H : Heap) (locs : List Loc) (ls : Array Slot), lp (fun x4 => X0_sum_s4 v_number nw1_ w1_ x4.1 x4.2) n (x4_0, x4_1) = some y4 → Sv D A s.heap [oX0 q0 u0_0 u0_1 u0_2 u0_3 u0_4 (.int v_number) u0_6 u0_7, aI cy q1 nw1_ w1_] H locs → lv_has ls 4 [(0, .ref q0), (1, .ref q1), (2, .int x4_0), (3, .int x4_1)] → ( ∀ (y4_0 : Int32), y4_0 = y4 → ∀ (H : Heap) (locs : List Loc) (ls : Array Slot), Sv D A s.heap [oX0 q0 u0_0 u0_1 u0_2 u0_3 u0_4 (.int v_number) u0_6 u0_7, aI cy q1 nw1_ w1_] H locs → lv_has ls 4 [(2, .int y4_0)] → W p l e R s m args below meth c H locs 0 0 Q (F0 m 30 ls [])) → W p l e R s m args below meth c H locs 0 0 Q (F0 m 4 ls []) := by
    intro n
    induction n with
    | zero =>
      intro x4_0 x4_1 y4 H locs ls h
      exact lp_zero h
    | succ n ih4 =>
      intro x4_0 x4_1 y4 H locs ls h hS hl hk4_0
      obtain ⟨z4, h, hz4a, hz4b⟩ := lp_succ h
      have h : X0_sum_s4 v_number nw1_ w1_ x4_0 x4_1 = some z4 := h
      unfold X0_sum_s4 at h
      refine lv_iload_n hx hb dX0_sum_4 rfl (lv_at hl 3 rfl) ?_
      refine lv_aload_n hx hb dX0_sum_5 rfl (lv_at hl 0 rfl) ?_
      refine r_get E frX0_27 hS 0 rfl rfl dX0_sum_6 ?_
      refine lv_icmp_ge (tgt := 30) hx hb dX0_sum_9 (by decide) (fun c1 => ?_) (fun c1 => ?_)
      · have h := it_pos c1 h
        exact hk4_0 x4_0 (hz4b _ (Option.some.inj h).symm)  H locs ls hS (lv_sub hl [2] rfl)
      · have h := it_neg c1 h
        refine lv_iload_n hx hb dX0_sum_12 rfl (lv_at hl 3 rfl) ?_
        refine lv_aload_n hx hb dX0_sum_13 rfl (lv_at hl 1 rfl) ?_
        refine r_alen (v := (Int32.ofNat nw1_)) E hS 1 2 rfl rfl rfl dX0_sum_14 ?_
        refine lv_icmp_ge (tgt := 30) hx hb dX0_sum_15 (by decide) (fun c2 => ?_) (fun c2 => ?_)
        · have h := it_pos c2 h
          exact hk4_0 x4_0 (hz4b _ (Option.some.inj h).symm)  H locs ls hS (lv_sub hl [2] rfl)
        · have h := it_neg c2 h
          refine lv_iload_n hx hb dX0_sum_18 rfl (lv_at hl 2 rfl) ?_
          refine lv_aload_n hx hb dX0_sum_19 rfl (lv_at hl 1 rfl) ?_
          refine lv_iload_n hx hb dX0_sum_20 rfl (lv_at hl 3 rfl) ?_
          obtain ⟨g3, h⟩ := gi_some h
          refine r_iald E hS 1 rfl g3 dX0_sum_21 ?_
          refine lv_iadd hx hb dX0_sum_22 ?_
          refine lv_istore_n (lv' := [(2, .int (x4_0 + (w1_ x4_1.toNatClampNeg))), (0, .ref q0), (1, .ref q1), (3, .int x4_1)]) hx hb dX0_sum_23 rfl hl (by decide) rfl (fun ls hl => ?_)
          refine lv_iinc (v := (x4_1 + (1 : Int32))) (lv' := [(3, .int (x4_1 + (1 : Int32))), (2, .int (x4_0 + (w1_ x4_1.toNatClampNeg))), (0, .ref q0), (1, .ref q1)]) hx hb dX0_sum_24 hl (k := 3) rfl rfl (by decide) rfl (fun ls hl => ?_)
          refine lv_goto (tgt := 4) hx hb dX0_sum_27 (by decide) ?_
          exact ih4 (x4_0 + (w1_ x4_1.toNatClampNeg)) (x4_1 + (1 : Int32)) y4  H locs ls (hz4a _ (Option.some.inj h).symm) hS (lv_sub hl [2, 3, 1, 0] rfl) hk4_0
  obtain ⟨y4, e4, h⟩ := bd_some h
  refine hL4 1000 (0 : Int32) (0 : Int32) y4  H locs ls e4 hS (lv_sub hl [2, 3, 1, 0] rfl) (fun y4_0 ey4 H locs ls hS hl => ?_)
  subst ey4
  refine lv_iload_n hx hb dX0_sum_30 rfl (lv_at hl 0 rfl) ?_
  obtain rfl := Option.some.inj h
  exact rt_i E hQ (.null) hS dX0_sum_31
set_option maxHeartbeats 4000000 in
set_option maxRecDepth 100000 in
theorem c_X0_becomes {l : Launch} {D : va_G} {cy : Nat → ClassId} (q0 : Nat) (q1 : Nat) (q2 : Nat) (q3 : Nat) (q4 : Nat) (q5 : Nat) (q6 : Nat) (q7 : Nat) (q8 : Nat) (q9 : Nat) (q10 : Nat) (q11 : Nat) (v_number : Int32) (v_day : Int32) (v_unmet : Int32) (v_skill : Nat → Int32) (v_pills : Nat → Int32) (v_slept : Nat → Int32) (v_woken : Nat → Int32) (v_wanted : Nat → Int32) (w1_number : Int32) (w1_day : Int32) (w1_unmet : Int32) (w1_skill : Nat → Int32) (w1_pills : Nat → Int32) (w1_slept : Nat → Int32) (w1_woken : Nat → Int32) (w1_wanted : Nat → Int32) (r : Int32 × Int32 × Int32 × (Nat → Int32) × (Nat → Int32) × (Nat → Int32) × (Nat → Int32) × (Nat → Int32)) (h : X0_becomes v_skill v_pills v_slept v_woken v_wanted w1_number w1_day w1_unmet w1_skill w1_pills w1_slept w1_woken w1_wanted = some r) : Ct l yX0_becomes cX0_becomes 3 none 0 0 D cy [.ref q0, .ref q6] [oX0 q0 (.ref q1) (.ref q2) (.ref q3) (.ref q4) (.ref q5) (.int v_number) (.int v_day) (.int v_unmet), aI cy q1 7 v_skill, aI cy q2 7 v_pills, aI cy q3 7 v_slept, aI cy q4 7 v_woken, aI cy q5 7 v_wanted, oX0 q6 (.ref q7) (.ref q8) (.ref q9) (.ref q10) (.ref q11) (.int w1_number) (.int w1_day) (.int w1_unmet), aI cy q7 7 w1_skill, aI cy q8 7 w1_pills, aI cy q9 7 w1_slept, aI cy q10 7 w1_woken, aI cy q11 7 w1_wanted] (fun _ => [oX0 q0 (.ref q1) (.ref q2) (.ref q3) (.ref q4) (.ref q5) (.int r.1) (.int r.2.1) (.int r.2.2.1), aI cy q1 7 r.2.2.2.1, aI cy q2 7 r.2.2.2.2.1, aI cy q3 7 r.2.2.2.2.2.1, aI cy q4 7 r.2.2.2.2.2.2.1, aI cy q5 7 r.2.2.2.2.2.2.2, oX0 q6 (.ref q7) (.ref q8) (.ref q9) (.ref q10) (.ref q11) (.int w1_number) (.int w1_day) (.int w1_unmet), aI cy q7 7 w1_skill, aI cy q8 7 w1_pills, aI cy q9 7 w1_slept, aI cy q10 7 w1_woken, aI cy q11 7 w1_wanted]) (none) := by
  refine Ct.mk kX0_becomes (by decide +kernel) (Nat.le_of_ble_eq_true rfl) ?_
  intro p e s m below meth c A ls args R Q hRf hRl hQ E H locs hS hl
  have hx := E.x
  have hb := E.b
  have hl : lv_has ls 3 [(0, .ref q0), (1, .ref q6)] := hl
  unfold X0_becomes at h
  refine lv_iconst (v := 0) hx hb dX0_becomes_0 (by decide) ?_
  refine lv_istore_n (lv' := [(2, .int (0 : Int32)), (0, .ref q0), (1, .ref q6)]) hx hb dX0_becomes_1 rfl hl (by decide) rfl (fun ls hl => ?_)
  have hL2 : ∀ (n : Nat) (x2_0 : Int32) (x2_1 : Nat → Int32) (x2_2 : Nat → Int32) (x2_3 : Nat → Int32) (x2_4 : Nat → Int32) (x2_5 : Nat → Int32) (y2 : (Nat → Int32) × (Nat → Int32) × (Nat → Int32) × (Nat → Int32) × (Nat → Int32)) (H : Heap) (locs : List Loc) (ls : Array Slot), lp (fun x2 => X0_becomes_s2 w1_skill w1_pills w1_slept w1_woken w1_wanted x2.1 x2.2.1 x2.2.2.1 x2.2.2.2.1 x2.2.2.2.2.1 x2.2.2.2.2.2) n (x2_0, x2_1, x2_2, x2_3, x2_4, x2_5) = some y2 → Sv D A s.heap [oX0 q0 (.ref q1) (.ref q2) (.ref q3) (.ref q4) (.ref q5) (.int v_number) (.int v_day) (.int v_unmet), aI cy q1 7 x2_1, aI cy q2 7 x2_2, aI cy q3 7 x2_3, aI cy q4 7 x2_4, aI cy q5 7 x2_5, oX0 q6 (.ref q7) (.ref q8) (.ref q9) (.ref q10) (.ref q11) (.int w1_number) (.int w1_day) (.int w1_unmet), aI cy q7 7 w1_skill, aI cy q8 7 w1_pills, aI cy q9 7 w1_slept, aI cy q10 7 w1_woken, aI cy q11 7 w1_wanted] H locs → lv_has ls 3 [(0, .ref q0), (1, .ref q6), (2, .int x2_0)] → ( ∀ (y2_0 : Nat → Int32) (y2_1 : Nat → Int32) (y2_2 : Nat → Int32) (y2_3 : Nat → Int32) (y2_4 : Nat → Int32), (y2_0, y2_1, y2_2, y2_3, y2_4) = y2 → ∀ (H : Heap) (locs : List Loc) (ls : Array Slot), Sv D A s.heap [oX0 q0 (.ref q1) (.ref q2) (.ref q3) (.ref q4) (.ref q5) (.int v_number) (.int v_day) (.int v_unmet), aI cy q1 7 y2_0, aI cy q2 7 y2_1, aI cy q3 7 y2_2, aI cy q4 7 y2_3, aI cy q5 7 y2_4, oX0 q6 (.ref q7) (.ref q8) (.ref q9) (.ref q10) (.ref q11) (.int w1_number) (.int w1_day) (.int w1_unmet), aI cy q7 7 w1_skill, aI cy q8 7 w1_pills, aI cy q9 7 w1_slept, aI cy q10 7 w1_woken, aI cy q11 7 w1_wanted] H locs → lv_has ls 3 [(0, .ref q0), (1, .ref q6)] → W p l e R s m args below meth c H locs 0 0 Q (F0 m 74 ls [])) → W p l e R s m args below meth c H locs 0 0 Q (F0 m 2 ls []) := by
    intro n
    induction n with
    | zero =>
      intro x2_0 x2_1 x2_2 x2_3 x2_4 x2_5 y2 H locs ls h
      exact lp_zero h
    | succ n ih2 =>
      intro x2_0 x2_1 x2_2 x2_3 x2_4 x2_5 y2 H locs ls h hS hl hk2_0
      obtain ⟨z2, h, hz2a, hz2b⟩ := lp_succ h
      have h : X0_becomes_s2 w1_skill w1_pills w1_slept w1_woken w1_wanted x2_0 x2_1 x2_2 x2_3 x2_4 x2_5 = some z2 := h
      unfold X0_becomes_s2 at h
      refine lv_iload_n hx hb dX0_becomes_2 rfl (lv_at hl 2 rfl) ?_
      refine lv_bipush (v := 7) hx hb dX0_becomes_3 (by decide) ?_
      refine lv_icmp_ge (tgt := 74) hx hb dX0_becomes_5 (by decide) (fun c1 => ?_) (fun c1 => ?_)
      · have h := it_pos c1 h
        exact hk2_0 x2_1 x2_2 x2_3 x2_4 x2_5 (hz2b _ (Option.some.inj h).symm)  H locs ls hS (lv_sub hl [0, 1] rfl)
      · have h := it_neg c1 h
        refine lv_aload_n hx hb dX0_becomes_8 rfl (lv_at hl 0 rfl) ?_
        refine r_get E frX0_9 hS 0 rfl rfl dX0_becomes_9 ?_
        refine lv_iload_n hx hb dX0_becomes_12 rfl (lv_at hl 2 rfl) ?_
        refine lv_aload_n hx hb dX0_becomes_13 rfl (lv_at hl 1 rfl) ?_
        refine r_get E frX0_9 hS 6 rfl rfl dX0_becomes_14 ?_
        refine lv_iload_n hx hb dX0_becomes_17 rfl (lv_at hl 2 rfl) ?_
        obtain ⟨g2, h⟩ := gi_some h
        refine r_iald E hS 7 rfl g2 dX0_becomes_18 ?_
        obtain ⟨g3, h⟩ := gi_some h
        refine r_iast (ws' := [oX0 q0 (.ref q1) (.ref q2) (.ref q3) (.ref q4) (.ref q5) (.int v_number) (.int v_day) (.int v_unmet), aI cy q1 7 (upd x2_1 x2_0.toNatClampNeg (w1_skill x2_0.toNatClampNeg)), aI cy q2 7 x2_2, aI cy q3 7 x2_3, aI cy q4 7 x2_4, aI cy q5 7 x2_5, oX0 q6 (.ref q7) (.ref q8) (.ref q9) (.ref q10) (.ref q11) (.int w1_number) (.int w1_day) (.int w1_unmet), aI cy q7 7 w1_skill, aI cy q8 7 w1_pills, aI cy q9 7 w1_slept, aI cy q10 7 w1_woken, aI cy q11 7 w1_wanted]) E hS 1 rfl g3 rfl dX0_becomes_19 (fun H locs hS => ?_)
        refine lv_aload_n hx hb dX0_becomes_20 rfl (lv_at hl 0 rfl) ?_
        refine r_get E frX0_15 hS 0 rfl rfl dX0_becomes_21 ?_
        refine lv_iload_n hx hb dX0_becomes_24 rfl (lv_at hl 2 rfl) ?_
        refine lv_aload_n hx hb dX0_becomes_25 rfl (lv_at hl 1 rfl) ?_
        refine r_get E frX0_15 hS 6 rfl rfl dX0_becomes_26 ?_
        refine lv_iload_n hx hb dX0_becomes_29 rfl (lv_at hl 2 rfl) ?_
        obtain ⟨g4, h⟩ := gi_some h
        refine r_iald E hS 8 rfl g4 dX0_becomes_30 ?_
        obtain ⟨g5, h⟩ := gi_some h
        refine r_iast (ws' := [oX0 q0 (.ref q1) (.ref q2) (.ref q3) (.ref q4) (.ref q5) (.int v_number) (.int v_day) (.int v_unmet), aI cy q1 7 (upd x2_1 x2_0.toNatClampNeg (w1_skill x2_0.toNatClampNeg)), aI cy q2 7 (upd x2_2 x2_0.toNatClampNeg (w1_pills x2_0.toNatClampNeg)), aI cy q3 7 x2_3, aI cy q4 7 x2_4, aI cy q5 7 x2_5, oX0 q6 (.ref q7) (.ref q8) (.ref q9) (.ref q10) (.ref q11) (.int w1_number) (.int w1_day) (.int w1_unmet), aI cy q7 7 w1_skill, aI cy q8 7 w1_pills, aI cy q9 7 w1_slept, aI cy q10 7 w1_woken, aI cy q11 7 w1_wanted]) E hS 2 rfl g5 rfl dX0_becomes_31 (fun H locs hS => ?_)
        refine lv_aload_n hx hb dX0_becomes_32 rfl (lv_at hl 0 rfl) ?_
        refine r_get E frX0_18 hS 0 rfl rfl dX0_becomes_33 ?_
        refine lv_iload_n hx hb dX0_becomes_36 rfl (lv_at hl 2 rfl) ?_
        refine lv_aload_n hx hb dX0_becomes_37 rfl (lv_at hl 1 rfl) ?_
        refine r_get E frX0_18 hS 6 rfl rfl dX0_becomes_38 ?_
        refine lv_iload_n hx hb dX0_becomes_41 rfl (lv_at hl 2 rfl) ?_
        obtain ⟨g6, h⟩ := gi_some h
        refine r_iald E hS 9 rfl g6 dX0_becomes_42 ?_
        obtain ⟨g7, h⟩ := gi_some h
        refine r_iast (ws' := [oX0 q0 (.ref q1) (.ref q2) (.ref q3) (.ref q4) (.ref q5) (.int v_number) (.int v_day) (.int v_unmet), aI cy q1 7 (upd x2_1 x2_0.toNatClampNeg (w1_skill x2_0.toNatClampNeg)), aI cy q2 7 (upd x2_2 x2_0.toNatClampNeg (w1_pills x2_0.toNatClampNeg)), aI cy q3 7 (upd x2_3 x2_0.toNatClampNeg (w1_slept x2_0.toNatClampNeg)), aI cy q4 7 x2_4, aI cy q5 7 x2_5, oX0 q6 (.ref q7) (.ref q8) (.ref q9) (.ref q10) (.ref q11) (.int w1_number) (.int w1_day) (.int w1_unmet), aI cy q7 7 w1_skill, aI cy q8 7 w1_pills, aI cy q9 7 w1_slept, aI cy q10 7 w1_woken, aI cy q11 7 w1_wanted]) E hS 3 rfl g7 rfl dX0_becomes_43 (fun H locs hS => ?_)
        refine lv_aload_n hx hb dX0_becomes_44 rfl (lv_at hl 0 rfl) ?_
        refine r_get E frX0_21 hS 0 rfl rfl dX0_becomes_45 ?_
        refine lv_iload_n hx hb dX0_becomes_48 rfl (lv_at hl 2 rfl) ?_
        refine lv_aload_n hx hb dX0_becomes_49 rfl (lv_at hl 1 rfl) ?_
        refine r_get E frX0_21 hS 6 rfl rfl dX0_becomes_50 ?_
        refine lv_iload_n hx hb dX0_becomes_53 rfl (lv_at hl 2 rfl) ?_
        obtain ⟨g8, h⟩ := gi_some h
        refine r_iald E hS 10 rfl g8 dX0_becomes_54 ?_
        obtain ⟨g9, h⟩ := gi_some h
        refine r_iast (ws' := [oX0 q0 (.ref q1) (.ref q2) (.ref q3) (.ref q4) (.ref q5) (.int v_number) (.int v_day) (.int v_unmet), aI cy q1 7 (upd x2_1 x2_0.toNatClampNeg (w1_skill x2_0.toNatClampNeg)), aI cy q2 7 (upd x2_2 x2_0.toNatClampNeg (w1_pills x2_0.toNatClampNeg)), aI cy q3 7 (upd x2_3 x2_0.toNatClampNeg (w1_slept x2_0.toNatClampNeg)), aI cy q4 7 (upd x2_4 x2_0.toNatClampNeg (w1_woken x2_0.toNatClampNeg)), aI cy q5 7 x2_5, oX0 q6 (.ref q7) (.ref q8) (.ref q9) (.ref q10) (.ref q11) (.int w1_number) (.int w1_day) (.int w1_unmet), aI cy q7 7 w1_skill, aI cy q8 7 w1_pills, aI cy q9 7 w1_slept, aI cy q10 7 w1_woken, aI cy q11 7 w1_wanted]) E hS 4 rfl g9 rfl dX0_becomes_55 (fun H locs hS => ?_)
        refine lv_aload_n hx hb dX0_becomes_56 rfl (lv_at hl 0 rfl) ?_
        refine r_get E frX0_24 hS 0 rfl rfl dX0_becomes_57 ?_
        refine lv_iload_n hx hb dX0_becomes_60 rfl (lv_at hl 2 rfl) ?_
        refine lv_aload_n hx hb dX0_becomes_61 rfl (lv_at hl 1 rfl) ?_
        refine r_get E frX0_24 hS 6 rfl rfl dX0_becomes_62 ?_
        refine lv_iload_n hx hb dX0_becomes_65 rfl (lv_at hl 2 rfl) ?_
        obtain ⟨g10, h⟩ := gi_some h
        refine r_iald E hS 11 rfl g10 dX0_becomes_66 ?_
        obtain ⟨g11, h⟩ := gi_some h
        refine r_iast (ws' := [oX0 q0 (.ref q1) (.ref q2) (.ref q3) (.ref q4) (.ref q5) (.int v_number) (.int v_day) (.int v_unmet), aI cy q1 7 (upd x2_1 x2_0.toNatClampNeg (w1_skill x2_0.toNatClampNeg)), aI cy q2 7 (upd x2_2 x2_0.toNatClampNeg (w1_pills x2_0.toNatClampNeg)), aI cy q3 7 (upd x2_3 x2_0.toNatClampNeg (w1_slept x2_0.toNatClampNeg)), aI cy q4 7 (upd x2_4 x2_0.toNatClampNeg (w1_woken x2_0.toNatClampNeg)), aI cy q5 7 (upd x2_5 x2_0.toNatClampNeg (w1_wanted x2_0.toNatClampNeg)), oX0 q6 (.ref q7) (.ref q8) (.ref q9) (.ref q10) (.ref q11) (.int w1_number) (.int w1_day) (.int w1_unmet), aI cy q7 7 w1_skill, aI cy q8 7 w1_pills, aI cy q9 7 w1_slept, aI cy q10 7 w1_woken, aI cy q11 7 w1_wanted]) E hS 5 rfl g11 rfl dX0_becomes_67 (fun H locs hS => ?_)
        refine lv_iinc (v := (x2_0 + (1 : Int32))) (lv' := [(2, .int (x2_0 + (1 : Int32))), (0, .ref q0), (1, .ref q6)]) hx hb dX0_becomes_68 hl (k := 2) rfl rfl (by decide) rfl (fun ls hl => ?_)
        refine lv_goto (tgt := 2) hx hb dX0_becomes_71 (by decide) ?_
        exact ih2 (x2_0 + (1 : Int32)) (upd x2_1 x2_0.toNatClampNeg (w1_skill x2_0.toNatClampNeg)) (upd x2_2 x2_0.toNatClampNeg (w1_pills x2_0.toNatClampNeg)) (upd x2_3 x2_0.toNatClampNeg (w1_slept x2_0.toNatClampNeg)) (upd x2_4 x2_0.toNatClampNeg (w1_woken x2_0.toNatClampNeg)) (upd x2_5 x2_0.toNatClampNeg (w1_wanted x2_0.toNatClampNeg)) y2  H locs ls (hz2a _ (Option.some.inj h).symm) hS (lv_sub hl [1, 2, 0] rfl) hk2_0
  obtain ⟨y2, e2, h⟩ := bd_some h
  refine hL2 1000 (0 : Int32) v_skill v_pills v_slept v_woken v_wanted y2  H locs ls e2 hS (lv_sub hl [1, 2, 0] rfl) (fun y2_0 y2_1 y2_2 y2_3 y2_4 ey2 H locs ls hS hl => ?_)
  subst ey2
  have h := un_r h
  have h := un_r h
  have h := un_r h
  have h := un_r h
  refine lv_aload_n hx hb dX0_becomes_74 rfl (lv_at hl 0 rfl) ?_
  refine lv_aload_n hx hb dX0_becomes_75 rfl (lv_at hl 1 rfl) ?_
  refine r_get E frX0_27 hS 6 rfl rfl dX0_becomes_76 ?_
  refine r_put (ws' := [oX0 q0 (.ref q1) (.ref q2) (.ref q3) (.ref q4) (.ref q5) (.int w1_number) (.int v_day) (.int v_unmet), aI cy q1 7 y2_0, aI cy q2 7 y2_1, aI cy q3 7 y2_2, aI cy q4 7 y2_3, aI cy q5 7 y2_4, oX0 q6 (.ref q7) (.ref q8) (.ref q9) (.ref q10) (.ref q11) (.int w1_number) (.int w1_day) (.int w1_unmet), aI cy q7 7 w1_skill, aI cy q8 7 w1_pills, aI cy q9 7 w1_slept, aI cy q10 7 w1_woken, aI cy q11 7 w1_wanted]) E frX0_27 hS 0 rfl (Nat.le_of_ble_eq_true rfl) rfl rfl rfl rfl dX0_becomes_79 (fun H locs hS => ?_)
  refine lv_aload_n hx hb dX0_becomes_82 rfl (lv_at hl 0 rfl) ?_
  refine lv_aload_n hx hb dX0_becomes_83 rfl (lv_at hl 1 rfl) ?_
  refine r_get E frX0_31 hS 6 rfl rfl dX0_becomes_84 ?_
  refine r_put (ws' := [oX0 q0 (.ref q1) (.ref q2) (.ref q3) (.ref q4) (.ref q5) (.int w1_number) (.int w1_day) (.int v_unmet), aI cy q1 7 y2_0, aI cy q2 7 y2_1, aI cy q3 7 y2_2, aI cy q4 7 y2_3, aI cy q5 7 y2_4, oX0 q6 (.ref q7) (.ref q8) (.ref q9) (.ref q10) (.ref q11) (.int w1_number) (.int w1_day) (.int w1_unmet), aI cy q7 7 w1_skill, aI cy q8 7 w1_pills, aI cy q9 7 w1_slept, aI cy q10 7 w1_woken, aI cy q11 7 w1_wanted]) E frX0_31 hS 0 rfl (Nat.le_of_ble_eq_true rfl) rfl rfl rfl rfl dX0_becomes_87 (fun H locs hS => ?_)
  refine lv_aload_n hx hb dX0_becomes_90 rfl (lv_at hl 0 rfl) ?_
  refine lv_aload_n hx hb dX0_becomes_91 rfl (lv_at hl 1 rfl) ?_
  refine r_get E frX0_34 hS 6 rfl rfl dX0_becomes_92 ?_
  refine r_put (ws' := [oX0 q0 (.ref q1) (.ref q2) (.ref q3) (.ref q4) (.ref q5) (.int w1_number) (.int w1_day) (.int w1_unmet), aI cy q1 7 y2_0, aI cy q2 7 y2_1, aI cy q3 7 y2_2, aI cy q4 7 y2_3, aI cy q5 7 y2_4, oX0 q6 (.ref q7) (.ref q8) (.ref q9) (.ref q10) (.ref q11) (.int w1_number) (.int w1_day) (.int w1_unmet), aI cy q7 7 w1_skill, aI cy q8 7 w1_pills, aI cy q9 7 w1_slept, aI cy q10 7 w1_woken, aI cy q11 7 w1_wanted]) E frX0_34 hS 0 rfl (Nat.le_of_ble_eq_true rfl) rfl rfl rfl rfl dX0_becomes_95 (fun H locs hS => ?_)
  obtain rfl := Option.some.inj h
  exact rt_v E hQ (.null) hS dX0_becomes_98

