set_option maxHeartbeats 4000000 in
set_option maxRecDepth 100000 in
theorem c_X8_takes {l : Launch} {D : va_G} {cy : Nat → ClassId} (q0 : Nat) (q1 : Nat) (q2 : Nat) (q3 : Nat) (u0_3 : Value) (v_size : Int32) (v_skill : Nat → Int32) (v_wanting : Nat → Int32) (v_woke : Nat → Int32) (p1 : Int32) (p2 : Int32) (p3 : Int32) (r : Int32 × Int32 × (Nat → Int32) × (Nat → Int32) × (Nat → Int32)) (h : X8_takes v_size v_skill v_wanting v_woke p1 p2 p3 = some r) : Ct l yX8_takes cX8_takes 5 (some .boolean) 0 0 D cy [.ref q0, .int p1, .int p2, .int p3] [oX8 q0 (.ref q1) (.ref q2) (.ref q3) u0_3 (.int v_size), aI cy q1 10 v_skill, aI cy q2 10 v_wanting, aZ cy q3 10 v_woke] (fun _ => [oX8 q0 (.ref q1) (.ref q2) (.ref q3) u0_3 (.int r.2.1), aI cy q1 10 r.2.2.1, aI cy q2 10 r.2.2.2.1, aZ cy q3 10 r.2.2.2.2]) (some (.int r.1)) := by
  refine Ct.mk kX8_takes (by decide +kernel) (Nat.le_of_ble_eq_true rfl) ?_
  intro p e s m below meth c A ls args R Q hRf hRl hQ E H locs hS hl
  have hx := E.x
  have hb := E.b
  have hl : lv_has ls 5 [(0, .ref q0), (1, .int p1), (2, .int p2), (3, .int p3)] := hl
  unfold X8_takes at h
  refine lv_iload_n hx hb dX8_takes_0 rfl (lv_at hl 1 rfl) ?_
  have hJ34 : ∀ (s34_0 : Int32) (ls : Array Slot), s34_0 = (if p1 < 0 then (0 : Int32) else (if (9 : Int32) < p1 then (0 : Int32) else (if p2 < 0 then (0 : Int32) else (if (7 : Int32) ≤ p2 then (0 : Int32) else (if p3 < 0 then (0 : Int32) else (if (1 : Int32) < p3 then (0 : Int32) else (1 : Int32))))))) → lv_has ls 5 [(0, .ref q0), (1, .int p1), (2, .int p2), (3, .int p3)] → W p l e R s m args below meth c H locs 0 0 Q (F0 m 34 ls [.int s34_0]) := by
    intro s34_0 ls es34_0 hl
    subst es34_0
    refine lv_istore (lv' := [(4, .int (if p1 < 0 then (0 : Int32) else (if (9 : Int32) < p1 then (0 : Int32) else (if p2 < 0 then (0 : Int32) else (if (7 : Int32) ≤ p2 then (0 : Int32) else (if p3 < 0 then (0 : Int32) else (if (1 : Int32) < p3 then (0 : Int32) else (1 : Int32)))))))), (0, .ref q0), (1, .int p1), (2, .int p2), (3, .int p3)]) hx hb dX8_takes_34 hl (by decide) rfl (fun ls hl => ?_)
    refine lv_iload hx hb dX8_takes_36 (lv_at hl 0 rfl) ?_
    refine lv_if_eq (tgt := 50) hx hb dX8_takes_38 (by decide) (fun c1 => ?_) (fun c1 => ?_)
    · have h := it_pos c1 h
      refine lv_iconst (v := 0) hx hb dX8_takes_50 (by decide) ?_
      obtain rfl := Option.some.inj h
      exact rt_n E rfl hQ (.null) hS dX8_takes_51
    · have h := it_neg c1 h
      refine lv_aload_n hx hb dX8_takes_41 rfl (lv_at hl 1 rfl) ?_
      refine r_get E frX8_25 hS 0 rfl rfl dX8_takes_42 ?_
      refine lv_bipush (v := 10) hx hb dX8_takes_45 (by decide) ?_
      refine lv_icmp_lt (tgt := 52) hx hb dX8_takes_47 (by decide) (fun c2 => ?_) (fun c2 => ?_)
      · have h := it_pos c2 h
        refine lv_aload_n hx hb dX8_takes_52 rfl (lv_at hl 1 rfl) ?_
        refine r_get E frX8_11 hS 0 rfl rfl dX8_takes_53 ?_
        refine lv_aload_n hx hb dX8_takes_56 rfl (lv_at hl 1 rfl) ?_
        refine r_get E frX8_25 hS 0 rfl rfl dX8_takes_57 ?_
        refine lv_iload_n hx hb dX8_takes_60 rfl (lv_at hl 2 rfl) ?_
        obtain ⟨g3, h⟩ := gi_some h
        refine r_iast (ws' := [oX8 q0 (.ref q1) (.ref q2) (.ref q3) u0_3 (.int v_size), aI cy q1 10 (upd v_skill v_size.toNatClampNeg p1), aI cy q2 10 v_wanting, aZ cy q3 10 v_woke]) E hS 1 rfl g3 rfl dX8_takes_61 (fun H locs hS => ?_)
        refine lv_aload_n hx hb dX8_takes_62 rfl (lv_at hl 1 rfl) ?_
        refine r_get E frX8_15 hS 0 rfl rfl dX8_takes_63 ?_
        refine lv_aload_n hx hb dX8_takes_66 rfl (lv_at hl 1 rfl) ?_
        refine r_get E frX8_25 hS 0 rfl rfl dX8_takes_67 ?_
        refine lv_iload_n hx hb dX8_takes_70 rfl (lv_at hl 3 rfl) ?_
        obtain ⟨g4, h⟩ := gi_some h
        refine r_iast (ws' := [oX8 q0 (.ref q1) (.ref q2) (.ref q3) u0_3 (.int v_size), aI cy q1 10 (upd v_skill v_size.toNatClampNeg p1), aI cy q2 10 (upd v_wanting v_size.toNatClampNeg p2), aZ cy q3 10 v_woke]) E hS 2 rfl g4 rfl dX8_takes_71 (fun H locs hS => ?_)
        refine lv_aload_n hx hb dX8_takes_72 rfl (lv_at hl 1 rfl) ?_
        refine r_get E frX8_18 hS 0 rfl rfl dX8_takes_73 ?_
        refine lv_aload_n hx hb dX8_takes_76 rfl (lv_at hl 1 rfl) ?_
        refine r_get E frX8_25 hS 0 rfl rfl dX8_takes_77 ?_
        refine lv_iload_n hx hb dX8_takes_80 rfl (lv_at hl 4 rfl) ?_
        refine lv_iconst (v := 1) hx hb dX8_takes_81 (by decide) ?_
        have hJ90 : ∀ (s90_2 : Int32) (ls : Array Slot), s90_2 = (if p3 = (1 : Int32) then (1 : Int32) else (0 : Int32)) → lv_has ls 5 [(0, .ref q0)] → W p l e R s m args below meth c H locs 0 0 Q (F0 m 90 ls [.int s90_2, .int v_size, .ref q3]) := by
          intro s90_2 ls es90_2 hl
          subst es90_2
          obtain ⟨g5, h⟩ := gi_some h
          refine r_zast (ws' := [oX8 q0 (.ref q1) (.ref q2) (.ref q3) u0_3 (.int v_size), aI cy q1 10 (upd v_skill v_size.toNatClampNeg p1), aI cy q2 10 (upd v_wanting v_size.toNatClampNeg p2), aZ cy q3 10 (upd v_woke v_size.toNatClampNeg (vp_nar .boolean (if p3 = (1 : Int32) then (1 : Int32) else (0 : Int32))))]) E hS 3 rfl g5 rfl dX8_takes_90 (fun H locs hS => ?_)
          refine lv_aload_n hx hb dX8_takes_91 rfl (lv_at hl 0 rfl) ?_
          refine lv_dup hx hb dX8_takes_92 rfl ?_
          refine r_get E frX8_25 hS 0 rfl rfl dX8_takes_93 ?_
          refine lv_iconst (v := 1) hx hb dX8_takes_96 (by decide) ?_
          refine lv_iadd hx hb dX8_takes_97 ?_
          refine r_put (ws' := [oX8 q0 (.ref q1) (.ref q2) (.ref q3) u0_3 (.int (v_size + (1 : Int32))), aI cy q1 10 (upd v_skill v_size.toNatClampNeg p1), aI cy q2 10 (upd v_wanting v_size.toNatClampNeg p2), aZ cy q3 10 (upd v_woke v_size.toNatClampNeg (vp_nar .boolean (if p3 = (1 : Int32) then (1 : Int32) else (0 : Int32))))]) E frX8_25 hS 0 rfl (Nat.le_of_ble_eq_true rfl) rfl rfl rfl rfl dX8_takes_98 (fun H locs hS => ?_)
          refine lv_iconst (v := 1) hx hb dX8_takes_101 (by decide) ?_
          obtain rfl := Option.some.inj h
          exact rt_n E rfl hQ (.null) hS dX8_takes_102
        refine lv_icmp_ne (tgt := 89) hx hb dX8_takes_82 (by decide) (fun c6 => ?_) (fun c6 => ?_)
        · refine lv_iconst (v := 0) hx hb dX8_takes_89 (by decide) ?_
          exact hJ90 _ ls ((if_neg c6)).symm (lv_sub hl [1] rfl)
        · refine lv_iconst (v := 1) hx hb dX8_takes_85 (by decide) ?_
          refine lv_goto (tgt := 90) hx hb dX8_takes_86 (by decide) ?_
          exact hJ90 _ ls ((if_pos c6)).symm (lv_sub hl [1] rfl)
      · have h := it_neg c2 h
        refine lv_iconst (v := 0) hx hb dX8_takes_50 (by decide) ?_
        obtain rfl := Option.some.inj h
        exact rt_n E rfl hQ (.null) hS dX8_takes_51
  refine lv_if_lt (tgt := 33) hx hb dX8_takes_1 (by decide) (fun c7 => ?_) (fun c7 => ?_)
  · refine lv_iconst (v := 0) hx hb dX8_takes_33 (by decide) ?_
    exact hJ34 _ ls ((if_pos c7)).symm (lv_sub hl [0, 1, 2, 3] rfl)
  · refine lv_iload_n hx hb dX8_takes_4 rfl (lv_at hl 1 rfl) ?_
    refine lv_bipush (v := 9) hx hb dX8_takes_5 (by decide) ?_
    refine lv_icmp_gt (tgt := 33) hx hb dX8_takes_7 (by decide) (fun c8 => ?_) (fun c8 => ?_)
    · refine lv_iconst (v := 0) hx hb dX8_takes_33 (by decide) ?_
      exact hJ34 _ ls (((if_neg c7).trans (if_pos c8))).symm (lv_sub hl [0, 1, 2, 3] rfl)
    · refine lv_iload_n hx hb dX8_takes_10 rfl (lv_at hl 2 rfl) ?_
      refine lv_if_lt (tgt := 33) hx hb dX8_takes_11 (by decide) (fun c9 => ?_) (fun c9 => ?_)
      · refine lv_iconst (v := 0) hx hb dX8_takes_33 (by decide) ?_
        exact hJ34 _ ls (((if_neg c7).trans ((if_neg c8).trans (if_pos c9)))).symm (lv_sub hl [0, 1, 2, 3] rfl)
      · refine lv_iload_n hx hb dX8_takes_14 rfl (lv_at hl 2 rfl) ?_
        refine lv_bipush (v := 7) hx hb dX8_takes_15 (by decide) ?_
        refine lv_icmp_ge (tgt := 33) hx hb dX8_takes_17 (by decide) (fun c10 => ?_) (fun c10 => ?_)
        · refine lv_iconst (v := 0) hx hb dX8_takes_33 (by decide) ?_
          exact hJ34 _ ls (((if_neg c7).trans ((if_neg c8).trans ((if_neg c9).trans (if_pos c10))))).symm (lv_sub hl [0, 1, 2, 3] rfl)
        · refine lv_iload_n hx hb dX8_takes_20 rfl (lv_at hl 3 rfl) ?_
          refine lv_if_lt (tgt := 33) hx hb dX8_takes_21 (by decide) (fun c11 => ?_) (fun c11 => ?_)
          · refine lv_iconst (v := 0) hx hb dX8_takes_33 (by decide) ?_
            exact hJ34 _ ls (((if_neg c7).trans ((if_neg c8).trans ((if_neg c9).trans ((if_neg c10).trans (if_pos c11)))))).symm (lv_sub hl [0, 1, 2, 3] rfl)
          · refine lv_iload_n hx hb dX8_takes_24 rfl (lv_at hl 3 rfl) ?_
            refine lv_iconst (v := 1) hx hb dX8_takes_25 (by decide) ?_
            refine lv_icmp_gt (tgt := 33) hx hb dX8_takes_26 (by decide) (fun c12 => ?_) (fun c12 => ?_)
            · refine lv_iconst (v := 0) hx hb dX8_takes_33 (by decide) ?_
              exact hJ34 _ ls (((if_neg c7).trans ((if_neg c8).trans ((if_neg c9).trans ((if_neg c10).trans ((if_neg c11).trans (if_pos c12))))))).symm (lv_sub hl [0, 1, 2, 3] rfl)
            · refine lv_iconst (v := 1) hx hb dX8_takes_29 (by decide) ?_
              refine lv_goto (tgt := 34) hx hb dX8_takes_30 (by decide) ?_
              exact hJ34 _ ls (((if_neg c7).trans ((if_neg c8).trans ((if_neg c9).trans ((if_neg c10).trans ((if_neg c11).trans (if_neg c12))))))).symm (lv_sub hl [0, 1, 2, 3] rfl)
set_option maxHeartbeats 4000000 in
set_option maxRecDepth 100000 in
theorem c_X8_empties {l : Launch} {D : va_G} {cy : Nat → ClassId} (q0 : Nat) (u0_0 : Value) (u0_1 : Value) (u0_2 : Value) (u0_3 : Value) (v_size : Int32) (r : Int32 × Int32) (h : X8_empties v_size = r) : Ct l yX8_empties cX8_empties 2 (some .int) 0 0 D cy [.ref q0] [oX8 q0 u0_0 u0_1 u0_2 u0_3 (.int v_size)] (fun _ => [oX8 q0 u0_0 u0_1 u0_2 u0_3 (.int r.2)]) (some (.int r.1)) := by
  refine Ct.mk kX8_empties (by decide +kernel) (Nat.le_of_ble_eq_true rfl) ?_
  intro p e s m below meth c A ls args R Q hRf hRl hQ E H locs hS hl
  have hx := E.x
  have hb := E.b
  have hl : lv_has ls 2 [(0, .ref q0)] := hl
  unfold X8_empties at h
  refine lv_aload_n hx hb dX8_empties_0 rfl (lv_at hl 0 rfl) ?_
  refine r_get E frX8_25 hS 0 rfl rfl dX8_empties_1 ?_
  refine lv_istore_n (lv' := [(1, .int v_size), (0, .ref q0)]) hx hb dX8_empties_4 rfl hl (by decide) rfl (fun ls hl => ?_)
  refine lv_aload_n hx hb dX8_empties_5 rfl (lv_at hl 1 rfl) ?_
  refine lv_iconst (v := 0) hx hb dX8_empties_6 (by decide) ?_
  refine r_put (ws' := [oX8 q0 u0_0 u0_1 u0_2 u0_3 (.int (0 : Int32))]) E frX8_25 hS 0 rfl (Nat.le_of_ble_eq_true rfl) rfl rfl rfl rfl dX8_empties_7 (fun H locs hS => ?_)
  refine lv_iload_n hx hb dX8_empties_10 rfl (lv_at hl 0 rfl) ?_
  subst h
  exact rt_i E hQ (.null) hS dX8_empties_11
set_option maxHeartbeats 4000000 in
set_option maxRecDepth 100000 in
theorem c_X8_rouses {l : Launch} {D : va_G} {cy : Nat → ClassId} (p0 : Int32) (p1 : Int32) (p2 : Int32) (r : Int32) (h : X8_rouses p0 p1 p2 = some r) : Ct l yX8_rouses cX8_rouses 3 (some .boolean) 0 0 D cy [.int p0, .int p1, .int p2] [] (fun _ => []) (some (.int r)) := by
  refine Ct.mk kX8_rouses (by decide +kernel) (Nat.le_of_ble_eq_true rfl) ?_
  intro p e s m below meth c A ls args R Q hRf hRl hQ E H locs hS hl
  have hx := E.x
  have hb := E.b
  have hl : lv_has ls 3 [(0, .int p0), (1, .int p1), (2, .int p2)] := hl
  unfold X8_rouses at h
  refine lv_iload_n hx hb dX8_rouses_0 rfl (lv_at hl 0 rfl) ?_
  refine lv_bipush (v := 40) hx hb dX8_rouses_1 (by decide) ?_
  obtain ⟨g1, h⟩ := gz_some h
  refine lv_idiv hx hb dX8_rouses_3 g1 ?_
  refine lv_iload_n hx hb dX8_rouses_4 rfl (lv_at hl 1 rfl) ?_
  refine lv_imul hx hb dX8_rouses_5 ?_
  refine lv_iload_n hx hb dX8_rouses_6 rfl (lv_at hl 0 rfl) ?_
  refine lv_bipush (v := 10) hx hb dX8_rouses_7 (by decide) ?_
  obtain ⟨g2, h⟩ := gz_some h
  refine lv_idiv hx hb dX8_rouses_9 g2 ?_
  refine lv_iconst (v := 4) hx hb dX8_rouses_10 (by decide) ?_
  obtain ⟨g3, h⟩ := gz_some h
  refine lv_irem hx hb dX8_rouses_11 g3 ?_
  refine lv_iload_n hx hb dX8_rouses_12 rfl (lv_at hl 2 rfl) ?_
  refine lv_imul hx hb dX8_rouses_13 ?_
  refine lv_iadd hx hb dX8_rouses_14 ?_
  refine lv_iload_n hx hb dX8_rouses_15 rfl (lv_at hl 0 rfl) ?_
  refine lv_bipush (v := 10) hx hb dX8_rouses_16 (by decide) ?_
  obtain ⟨g4, h⟩ := gz_some h
  refine lv_irem hx hb dX8_rouses_18 g4 ?_
  have hJ27 : ∀ (s27_0 : Int32) (ls : Array Slot), s27_0 = (if (((p0 / (40 : Int32)) * p1) + ((irem (p0 / (10 : Int32)) (4 : Int32)) * p2)) ≤ (irem p0 (10 : Int32)) then (0 : Int32) else (1 : Int32)) → lv_has ls 3 [] → W p l e R s m args below meth c H locs 0 0 Q (F0 m 27 ls [.int s27_0]) := by
    intro s27_0 ls es27_0 hl
    subst es27_0
    obtain rfl := Option.some.inj h
    exact rt_n E (by repeat' (first | rfl | split)) hQ (.null) hS dX8_rouses_27
  refine lv_icmp_le (tgt := 26) hx hb dX8_rouses_19 (by decide) (fun c5 => ?_) (fun c5 => ?_)
  · refine lv_iconst (v := 0) hx hb dX8_rouses_26 (by decide) ?_
    exact hJ27 _ ls ((if_pos c5)).symm (lv_sub hl [] rfl)
  · refine lv_iconst (v := 1) hx hb dX8_rouses_22 (by decide) ?_
    refine lv_goto (tgt := 27) hx hb dX8_rouses_23 (by decide) ?_
    exact hJ27 _ ls ((if_neg c5)).symm (lv_sub hl [] rfl)
set_option maxHeartbeats 4000000 in
set_option maxRecDepth 100000 in
theorem c_X8_sifts {l : Launch} {D : va_G} {cy : Nat → ClassId} (q0 : Nat) (q1 : Nat) (q2 : Nat) (q3 : Nat) (q4 : Nat) (v_size : Int32) (v_skill : Nat → Int32) (v_wanting : Nat → Int32) (v_woke : Nat → Int32) (v_fits : Nat → Int32) (r : Int32 × (Nat → Int32)) (h : X8_sifts v_size v_skill v_wanting v_woke v_fits = some r) : Ct l yX8_sifts cX8_sifts 4 (some .int) 1 22 D cy [.ref q0] [oX8 q0 (.ref q1) (.ref q2) (.ref q3) (.ref q4) (.int v_size), aI cy q1 10 v_skill, aI cy q2 10 v_wanting, aZ cy q3 10 v_woke, aZ cy q4 160 v_fits] (fun _ => [oX8 q0 (.ref q1) (.ref q2) (.ref q3) (.ref q4) (.int v_size), aI cy q1 10 v_skill, aI cy q2 10 v_wanting, aZ cy q3 10 v_woke, aZ cy q4 160 r.2]) (some (.int r.1)) := by
  refine Ct.mk kX8_sifts (by decide +kernel) (Nat.le_of_ble_eq_true rfl) ?_
  intro p e s m below meth c A ls args R Q hRf hRl hQ E H locs hS hl
  have hx := E.x
  have hb := E.b
  have hl : lv_has ls 4 [(0, .ref q0)] := hl
  unfold X8_sifts at h
  refine lv_iconst (v := 0) hx hb dX8_sifts_0 (by decide) ?_
  refine lv_istore_n (lv' := [(1, .int (0 : Int32)), (0, .ref q0)]) hx hb dX8_sifts_1 rfl hl (by decide) rfl (fun ls hl => ?_)
  refine lv_iconst (v := 0) hx hb dX8_sifts_2 (by decide) ?_
  refine lv_istore_n (lv' := [(2, .int (0 : Int32)), (1, .int (0 : Int32)), (0, .ref q0)]) hx hb dX8_sifts_3 rfl hl (by decide) rfl (fun ls hl => ?_)
  have hL4 : ∀ (n : Nat) (x4_0 : Int32) (x4_1 : Int32) (x4_2 : Nat → Int32) (y4 : Int32 × (Nat → Int32)) (H : Heap) (locs : List Loc) (ls : Array Slot), lp (fun x4 => X8_sifts_s4 v_size v_skill v_wanting v_woke x4.1 x4.2.1 x4.2.2) n (x4_0, x4_1, x4_2) = some y4 → Sv D A s.heap [oX8 q0 (.ref q1) (.ref q2) (.ref q3) (.ref q4) (.int v_size), aI cy q1 10 v_skill, aI cy q2 10 v_wanting, aZ cy q3 10 v_woke, aZ cy q4 160 x4_2] H locs → lv_has ls 4 [(0, .ref q0), (1, .int x4_0), (2, .int x4_1)] → ( ∀ (y4_0 : Int32) (y4_1 : Nat → Int32), (y4_0, y4_1) = y4 → ∀ (H : Heap) (locs : List Loc) (ls : Array Slot), Sv D A s.heap [oX8 q0 (.ref q1) (.ref q2) (.ref q3) (.ref q4) (.int v_size), aI cy q1 10 v_skill, aI cy q2 10 v_wanting, aZ cy q3 10 v_woke, aZ cy q4 160 y4_1] H locs → lv_has ls 4 [(1, .int y4_0)] → W p l e R s m args below meth c H locs 0 0 Q (F0 m 102 ls [])) → W p l e R s m args below meth c H locs 0 0 Q (F0 m 4 ls []) := by
    intro n
    induction n with
    | zero =>
      intro x4_0 x4_1 x4_2 y4 H locs ls h
      exact lp_zero h
    | succ n ih4 =>
      intro x4_0 x4_1 x4_2 y4 H locs ls h hS hl hk4_0
      obtain ⟨z4, h, hz4a, hz4b⟩ := lp_succ h
      have h : X8_sifts_s4 v_size v_skill v_wanting v_woke x4_0 x4_1 x4_2 = some z4 := h
      unfold X8_sifts_s4 at h
      refine lv_iload_n hx hb dX8_sifts_4 rfl (lv_at hl 2 rfl) ?_
      refine lv_sipush (v := 160) hx hb dX8_sifts_5 (by decide) ?_
      refine lv_icmp_ge (tgt := 102) hx hb dX8_sifts_8 (by decide) (fun c1 => ?_) (fun c1 => ?_)
      · have h := it_pos c1 h
        exact hk4_0 x4_0 x4_2 (hz4b _ (Option.some.inj h).symm)  H locs ls hS (lv_sub hl [1] rfl)
      · have h := it_neg c1 h
        refine lv_aload_n hx hb dX8_sifts_11 rfl (lv_at hl 0 rfl) ?_
        refine r_get E frX8_22 hS 0 rfl rfl dX8_sifts_12 ?_
        refine lv_iload_n hx hb dX8_sifts_15 rfl (lv_at hl 2 rfl) ?_
        refine lv_iconst (v := 1) hx hb dX8_sifts_16 (by decide) ?_
        obtain ⟨g2, h⟩ := gi_some h
        refine r_zast (ws' := [oX8 q0 (.ref q1) (.ref q2) (.ref q3) (.ref q4) (.int v_size), aI cy q1 10 v_skill, aI cy q2 10 v_wanting, aZ cy q3 10 v_woke, aZ cy q4 160 (upd x4_2 x4_1.toNatClampNeg (vp_nar .boolean (1 : Int32)))]) E hS 4 rfl g2 rfl dX8_sifts_17 (fun H locs hS => ?_)
        refine lv_iconst (v := 0) hx hb dX8_sifts_18 (by decide) ?_
        refine lv_istore_n (lv' := [(3, .int (0 : Int32)), (0, .ref q0), (1, .int x4_0), (2, .int x4_1)]) hx hb dX8_sifts_19 rfl hl (by decide) rfl (fun ls hl => ?_)
        have hL20 : ∀ (n : Nat) (x20_0 : Int32) (x20_1 : Nat → Int32) (y20 : (Nat → Int32)) (H : Heap) (locs : List Loc) (ls : Array Slot), lp (fun x20 => X8_sifts_s20 v_size v_skill v_wanting v_woke x4_1 x20.1 x20.2) n (x20_0, x20_1) = some y20 → Sv D A s.heap [oX8 q0 (.ref q1) (.ref q2) (.ref q3) (.ref q4) (.int v_size), aI cy q1 10 v_skill, aI cy q2 10 v_wanting, aZ cy q3 10 v_woke, aZ cy q4 160 x20_1] H locs → lv_has ls 4 [(0, .ref q0), (1, .int x4_0), (2, .int x4_1), (3, .int x20_0)] → ( ∀ (y20_0 : Nat → Int32), y20_0 = y20 → ∀ (H : Heap) (locs : List Loc) (ls : Array Slot), Sv D A s.heap [oX8 q0 (.ref q1) (.ref q2) (.ref q3) (.ref q4) (.int v_size), aI cy q1 10 v_skill, aI cy q2 10 v_wanting, aZ cy q3 10 v_woke, aZ cy q4 160 y20_0] H locs → lv_has ls 4 [(0, .ref q0), (1, .int x4_0), (2, .int x4_1)] → W p l e R s m args below meth c H locs 0 0 Q (F0 m 79 ls [])) → W p l e R s m args below meth c H locs 0 0 Q (F0 m 20 ls []) := by
          intro n
          induction n with
          | zero =>
            intro x20_0 x20_1 y20 H locs ls h
            exact lp_zero h
          | succ n ih20 =>
            intro x20_0 x20_1 y20 H locs ls h hS hl hk20_0
            obtain ⟨z20, h, hz20a, hz20b⟩ := lp_succ h
            have h : X8_sifts_s20 v_size v_skill v_wanting v_woke x4_1 x20_0 x20_1 = some z20 := h
            unfold X8_sifts_s20 at h
            refine lv_iload_n hx hb dX8_sifts_20 rfl (lv_at hl 3 rfl) ?_
            refine lv_aload_n hx hb dX8_sifts_21 rfl (lv_at hl 0 rfl) ?_
            refine r_get E frX8_25 hS 0 rfl rfl dX8_sifts_22 ?_
            refine lv_icmp_ge (tgt := 79) hx hb dX8_sifts_25 (by decide) (fun c3 => ?_) (fun c3 => ?_)
            · have h := it_pos c3 h
              exact hk20_0 x20_1 (hz20b _ (Option.some.inj h).symm)  H locs ls hS (lv_sub hl [0, 1, 2] rfl)
            · have h := it_neg c3 h
              refine lv_iload_n hx hb dX8_sifts_28 rfl (lv_at hl 3 rfl) ?_
              refine lv_bipush (v := 10) hx hb dX8_sifts_29 (by decide) ?_
              refine lv_icmp_ge (tgt := 79) hx hb dX8_sifts_31 (by decide) (fun c4 => ?_) (fun c4 => ?_)
              · have h := it_pos c4 h
                exact hk20_0 x20_1 (hz20b _ (Option.some.inj h).symm)  H locs ls hS (lv_sub hl [0, 1, 2] rfl)
              · have h := it_neg c4 h
                refine lv_aload_n hx hb dX8_sifts_34 rfl (lv_at hl 0 rfl) ?_
                refine r_get E frX8_22 hS 0 rfl rfl dX8_sifts_35 ?_
                refine lv_iload_n hx hb dX8_sifts_38 rfl (lv_at hl 2 rfl) ?_
                refine lv_dup2_11 hx hb dX8_sifts_39 rfl rfl ?_
                obtain ⟨g5, h⟩ := gi_some h
                refine r_zald E hS 4 rfl g5 dX8_sifts_40 ?_
                refine lv_iload_n hx hb dX8_sifts_41 rfl (lv_at hl 2 rfl) ?_
                refine lv_aload_n hx hb dX8_sifts_42 rfl (lv_at hl 0 rfl) ?_
                refine r_get E frX8_11 hS 0 rfl rfl dX8_sifts_43 ?_
                refine lv_iload_n hx hb dX8_sifts_46 rfl (lv_at hl 3 rfl) ?_
                obtain ⟨g6, h⟩ := gi_some h
                refine r_iald E hS 1 rfl g6 dX8_sifts_47 ?_
                refine lv_aload_n hx hb dX8_sifts_48 rfl (lv_at hl 0 rfl) ?_
                refine r_get E frX8_15 hS 0 rfl rfl dX8_sifts_49 ?_
                refine lv_iload_n hx hb dX8_sifts_52 rfl (lv_at hl 3 rfl) ?_
                obtain ⟨g7, h⟩ := gi_some h
                refine r_iald E hS 2 rfl g7 dX8_sifts_53 ?_
                obtain ⟨y54, e8, h⟩ := bd_some h
                refine ct_S (ws' := fun _ => [oX8 q0 (.ref q1) (.ref q2) (.ref q3) (.ref q4) (.int v_size), aI cy q1 10 v_skill, aI cy q2 10 v_wanting, aZ cy q3 10 v_woke, aZ cy q4 160 x20_1]) (st' := [.int y54, .int (x20_1 x4_1.toNatClampNeg), .int x4_1, .ref q4]) (rest := [.int (x20_1 x4_1.toNatClampNeg), .int x4_1, .ref q4]) E hS slX8_29 (c_X8_rouses (l := l) (D := D) (cy := cy) (p0 := x4_1) (p1 := (v_skill x20_0.toNatClampNeg)) (p2 := (v_wanting x20_0.toNatClampNeg)) (r := y54) e8) [] rfl rfl (fun _ => rfl) (fun _ => rfl) rfl rfl (Nat.le_of_ble_eq_true rfl) hl.1 (by rw [hRf]; exact Nat.le_of_ble_eq_true rfl) (by rw [hRl]; exact Nat.le_of_ble_eq_true rfl) ⟨Nat.zero_le _, Nat.zero_le _⟩ dX8_sifts_54 rfl (fun H locs _ hS => ?_)
                refine lv_aload_n hx hb dX8_sifts_57 rfl (lv_at hl 0 rfl) ?_
                refine r_get E frX8_18 hS 0 rfl rfl dX8_sifts_58 ?_
                refine lv_iload_n hx hb dX8_sifts_61 rfl (lv_at hl 3 rfl) ?_
                obtain ⟨g9, h⟩ := gi_some h
                refine r_zald E hS 3 rfl g9 dX8_sifts_62 ?_
                have hJ71 : ∀ (s71_3 : Int32) (ls : Array Slot), s71_3 = (if y54 = (v_woke x20_0.toNatClampNeg) then (1 : Int32) else (0 : Int32)) → lv_has ls 4 [(0, .ref q0), (1, .int x4_0), (2, .int x4_1), (3, .int x20_0)] → W p l e R s m args below meth c H locs 0 0 Q (F0 m 71 ls [.int s71_3, .int (x20_1 x4_1.toNatClampNeg), .int x4_1, .ref q4]) := by
                  intro s71_3 ls es71_3 hl
                  subst es71_3
                  refine lv_iand hx hb dX8_sifts_71 ?_
                  obtain ⟨g10, h⟩ := gi_some h
                  refine r_zast (ws' := [oX8 q0 (.ref q1) (.ref q2) (.ref q3) (.ref q4) (.int v_size), aI cy q1 10 v_skill, aI cy q2 10 v_wanting, aZ cy q3 10 v_woke, aZ cy q4 160 (upd x20_1 x4_1.toNatClampNeg (vp_nar .boolean ((x20_1 x4_1.toNatClampNeg) &&& (if y54 = (v_woke x20_0.toNatClampNeg) then (1 : Int32) else (0 : Int32)))))]) E hS 4 rfl g10 rfl dX8_sifts_72 (fun H locs hS => ?_)
                  refine lv_iinc (v := (x20_0 + (1 : Int32))) (lv' := [(3, .int (x20_0 + (1 : Int32))), (0, .ref q0), (1, .int x4_0), (2, .int x4_1)]) hx hb dX8_sifts_73 hl (k := 3) rfl rfl (by decide) rfl (fun ls hl => ?_)
                  refine lv_goto (tgt := 20) hx hb dX8_sifts_76 (by decide) ?_
                  exact ih20 (x20_0 + (1 : Int32)) (upd x20_1 x4_1.toNatClampNeg (vp_nar .boolean ((x20_1 x4_1.toNatClampNeg) &&& (if y54 = (v_woke x20_0.toNatClampNeg) then (1 : Int32) else (0 : Int32))))) y20  H locs ls (hz20a _ (Option.some.inj h).symm) hS (lv_sub hl [1, 2, 3, 0] rfl) hk20_0
                refine lv_icmp_ne (tgt := 70) hx hb dX8_sifts_63 (by decide) (fun c11 => ?_) (fun c11 => ?_)
                · refine lv_iconst (v := 0) hx hb dX8_sifts_70 (by decide) ?_
                  exact hJ71 _ ls ((if_neg c11)).symm (lv_sub hl [0, 1, 2, 3] rfl)
                · refine lv_iconst (v := 1) hx hb dX8_sifts_66 (by decide) ?_
                  refine lv_goto (tgt := 71) hx hb dX8_sifts_67 (by decide) ?_
                  exact hJ71 _ ls ((if_pos c11)).symm (lv_sub hl [0, 1, 2, 3] rfl)
        obtain ⟨y20, e20, h⟩ := bd_some h
        refine hL20 1000 (0 : Int32) (upd x4_2 x4_1.toNatClampNeg (vp_nar .boolean (1 : Int32))) y20  H locs ls e20 hS (lv_sub hl [1, 2, 3, 0] rfl) (fun y20_0 ey20 H locs ls hS hl => ?_)
        subst ey20
        refine lv_iload_n hx hb dX8_sifts_79 rfl (lv_at hl 1 rfl) ?_
        refine lv_aload_n hx hb dX8_sifts_80 rfl (lv_at hl 0 rfl) ?_
        refine r_get E frX8_22 hS 0 rfl rfl dX8_sifts_81 ?_
        refine lv_iload_n hx hb dX8_sifts_84 rfl (lv_at hl 2 rfl) ?_
        obtain ⟨g12, h⟩ := gi_some h
        refine r_zald E hS 4 rfl g12 dX8_sifts_85 ?_
        have hJ94 : ∀ (s94_1 : Int32) (ls : Array Slot), s94_1 = (if (y20_0 x4_1.toNatClampNeg) = 0 then (0 : Int32) else (1 : Int32)) → lv_has ls 4 [(0, .ref q0), (2, .int x4_1)] → W p l e R s m args below meth c H locs 0 0 Q (F0 m 94 ls [.int s94_1, .int x4_0]) := by
          intro s94_1 ls es94_1 hl
          subst es94_1
          refine lv_iadd hx hb dX8_sifts_94 ?_
          refine lv_istore_n (lv' := [(1, .int (x4_0 + (if (y20_0 x4_1.toNatClampNeg) = 0 then (0 : Int32) else (1 : Int32)))), (0, .ref q0), (2, .int x4_1)]) hx hb dX8_sifts_95 rfl hl (by decide) rfl (fun ls hl => ?_)
          refine lv_iinc (v := (x4_1 + (1 : Int32))) (lv' := [(2, .int (x4_1 + (1 : Int32))), (1, .int (x4_0 + (if (y20_0 x4_1.toNatClampNeg) = 0 then (0 : Int32) else (1 : Int32)))), (0, .ref q0)]) hx hb dX8_sifts_96 hl (k := 2) rfl rfl (by decide) rfl (fun ls hl => ?_)
          refine lv_goto (tgt := 4) hx hb dX8_sifts_99 (by decide) ?_
          exact ih4 (x4_0 + (if (y20_0 x4_1.toNatClampNeg) = 0 then (0 : Int32) else (1 : Int32))) (x4_1 + (1 : Int32)) y20_0 y4  H locs ls (hz4a _ (Option.some.inj h).symm) hS (lv_sub hl [2, 1, 0] rfl) hk4_0
        refine lv_if_eq (tgt := 93) hx hb dX8_sifts_86 (by decide) (fun c13 => ?_) (fun c13 => ?_)
        · refine lv_iconst (v := 0) hx hb dX8_sifts_93 (by decide) ?_
          exact hJ94 _ ls ((if_pos c13)).symm (lv_sub hl [0, 2] rfl)
        · refine lv_iconst (v := 1) hx hb dX8_sifts_89 (by decide) ?_
          refine lv_goto (tgt := 94) hx hb dX8_sifts_90 (by decide) ?_
          exact hJ94 _ ls ((if_neg c13)).symm (lv_sub hl [0, 2] rfl)
  obtain ⟨y4, e4, h⟩ := bd_some h
  refine hL4 1000 (0 : Int32) (0 : Int32) v_fits y4  H locs ls e4 hS (lv_sub hl [2, 1, 0] rfl) (fun y4_0 y4_1 ey4 H locs ls hS hl => ?_)
  subst ey4
  have h := un_r h
  refine lv_iload_n hx hb dX8_sifts_102 rfl (lv_at hl 0 rfl) ?_
  obtain rfl := Option.some.inj h
  exact rt_i E hQ (.null) hS dX8_sifts_103
set_option maxHeartbeats 4000000 in
set_option maxRecDepth 100000 in
theorem c_X8_leastLaw {l : Launch} {D : va_G} {cy : Nat → ClassId} (q0 : Nat) (q1 : Nat) (u0_0 : Value) (u0_1 : Value) (u0_2 : Value) (u0_4 : Value) (v_fits : Nat → Int32) (r : Int32) (h : X8_leastLaw v_fits = some r) : Ct l yX8_leastLaw cX8_leastLaw 2 (some .int) 0 0 D cy [.ref q0] [oX8 q0 u0_0 u0_1 u0_2 (.ref q1) u0_4, aZ cy q1 160 v_fits] (fun _ => [oX8 q0 u0_0 u0_1 u0_2 (.ref q1) u0_4, aZ cy q1 160 v_fits]) (some (.int r)) := by
  refine Ct.mk kX8_leastLaw (by decide +kernel) (Nat.le_of_ble_eq_true rfl) ?_
  intro p e s m below meth c A ls args R Q hRf hRl hQ E H locs hS hl
  have hx := E.x
  have hb := E.b
  have hl : lv_has ls 2 [(0, .ref q0)] := hl
  unfold X8_leastLaw at h
  refine lv_iconst (v := 0) hx hb dX8_leastLaw_0 (by decide) ?_
  refine lv_istore_n (lv' := [(1, .int (0 : Int32)), (0, .ref q0)]) hx hb dX8_leastLaw_1 rfl hl (by decide) rfl (fun ls hl => ?_)
  have hL2 : ∀ (n : Nat) (x2_0 : Int32) (y2 : (Unit) ⊕ (Int32)) (H : Heap) (locs : List Loc) (ls : Array Slot), lp (fun x2 => X8_leastLaw_s2 v_fits x2) n x2_0 = some y2 → Sv D A s.heap [oX8 q0 u0_0 u0_1 u0_2 (.ref q1) u0_4, aZ cy q1 160 v_fits] H locs → lv_has ls 2 [(0, .ref q0), (1, .int x2_0)] → ( .inl () = y2 → ∀ (H : Heap) (locs : List Loc) (ls : Array Slot), Sv D A s.heap [oX8 q0 u0_0 u0_1 u0_2 (.ref q1) u0_4, aZ cy q1 160 v_fits] H locs → lv_has ls 2 [] → W p l e R s m args below meth c H locs 0 0 Q (F0 m 26 ls [])) → ( ∀ (ye2_1_0 : Int32), .inr ye2_1_0 = y2 → ∀ (H : Heap) (locs : List Loc) (ls : Array Slot), Sv D A s.heap [oX8 q0 u0_0 u0_1 u0_2 (.ref q1) u0_4, aZ cy q1 160 v_fits] H locs → lv_has ls 2 [(1, .int ye2_1_0)] → W p l e R s m args below meth c H locs 0 0 Q (F0 m 18 ls [])) → W p l e R s m args below meth c H locs 0 0 Q (F0 m 2 ls []) := by
    intro n
    induction n with
    | zero =>
      intro x2_0 y2 H locs ls h
      exact lp_zero h
    | succ n ih2 =>
      intro x2_0 y2 H locs ls h hS hl hk2_0 hk2_1
      obtain ⟨z2, h, hz2a, hz2b⟩ := lp_succ h
      have h : X8_leastLaw_s2 v_fits x2_0 = some z2 := h
      unfold X8_leastLaw_s2 at h
      refine lv_iload_n hx hb dX8_leastLaw_2 rfl (lv_at hl 1 rfl) ?_
      refine lv_sipush (v := 160) hx hb dX8_leastLaw_3 (by decide) ?_
      refine lv_icmp_ge (tgt := 26) hx hb dX8_leastLaw_6 (by decide) (fun c1 => ?_) (fun c1 => ?_)
      · have h := it_pos c1 h
        exact hk2_0  (hz2b _ (Option.some.inj h).symm)  H locs ls hS (lv_sub hl [] rfl)
      · have h := it_neg c1 h
        refine lv_aload_n hx hb dX8_leastLaw_9 rfl (lv_at hl 0 rfl) ?_
        refine r_get E frX8_22 hS 0 rfl rfl dX8_leastLaw_10 ?_
        refine lv_iload_n hx hb dX8_leastLaw_13 rfl (lv_at hl 1 rfl) ?_
        obtain ⟨g2, h⟩ := gi_some h
        refine r_zald E hS 1 rfl g2 dX8_leastLaw_14 ?_
        refine lv_if_eq (tgt := 20) hx hb dX8_leastLaw_15 (by decide) (fun c3 => ?_) (fun c3 => ?_)
        · have h := it_pos c3 h
          refine lv_iinc (v := (x2_0 + (1 : Int32))) (lv' := [(1, .int (x2_0 + (1 : Int32))), (0, .ref q0)]) hx hb dX8_leastLaw_20 hl (k := 1) rfl rfl (by decide) rfl (fun ls hl => ?_)
          refine lv_goto (tgt := 2) hx hb dX8_leastLaw_23 (by decide) ?_
          exact ih2 (x2_0 + (1 : Int32)) y2  H locs ls (hz2a _ (Option.some.inj h).symm) hS (lv_sub hl [1, 0] rfl) hk2_0 hk2_1
        · have h := it_neg c3 h
          exact hk2_1 x2_0 (hz2b _ (Option.some.inj h).symm)  H locs ls hS (lv_sub hl [1] rfl)
  obtain ⟨y2, e2, h⟩ := bd_some h
  refine hL2 1000 (0 : Int32) y2  H locs ls e2 hS (lv_sub hl [1, 0] rfl) (fun ey2 H locs ls hS hl => ?_) (fun ye2_1_0 ey2 H locs ls hS hl => ?_)
  · subst ey2
    have h := sm_l h
    refine lv_iconst (v := -1) hx hb dX8_leastLaw_26 (by decide) ?_
    obtain rfl := Option.some.inj h
    exact rt_i E hQ (.null) hS dX8_leastLaw_27
  · subst ey2
    have h := sm_r h
    refine lv_iload_n hx hb dX8_leastLaw_18 rfl (lv_at hl 0 rfl) ?_
    obtain rfl := Option.some.inj h
    exact rt_i E hQ (.null) hS dX8_leastLaw_19
set_option maxHeartbeats 4000000 in
set_option maxRecDepth 100000 in
theorem c_X8_waking {l : Launch} {D : va_G} {cy : Nat → ClassId} (q0 : Nat) (q1 : Nat) (u0_0 : Value) (u0_1 : Value) (u0_2 : Value) (u0_4 : Value) (v_fits : Nat → Int32) (p1 : Int32) (p2 : Int32) (r : Int32) (h : X8_waking v_fits p1 p2 = some r) : Ct l yX8_waking cX8_waking 5 (some .int) 1 22 D cy [.ref q0, .int p1, .int p2] [oX8 q0 u0_0 u0_1 u0_2 (.ref q1) u0_4, aZ cy q1 160 v_fits] (fun _ => [oX8 q0 u0_0 u0_1 u0_2 (.ref q1) u0_4, aZ cy q1 160 v_fits]) (some (.int r)) := by
  refine Ct.mk kX8_waking (by decide +kernel) (Nat.le_of_ble_eq_true rfl) ?_
  intro p e s m below meth c A ls args R Q hRf hRl hQ E H locs hS hl
  have hx := E.x
  have hb := E.b
  have hl : lv_has ls 5 [(0, .ref q0), (1, .int p1), (2, .int p2)] := hl
  unfold X8_waking at h
  refine lv_iconst (v := 0) hx hb dX8_waking_0 (by decide) ?_
  refine lv_istore_n (lv' := [(3, .int (0 : Int32)), (0, .ref q0), (1, .int p1), (2, .int p2)]) hx hb dX8_waking_1 rfl hl (by decide) rfl (fun ls hl => ?_)
  refine lv_iconst (v := 0) hx hb dX8_waking_2 (by decide) ?_
  refine lv_istore (lv' := [(4, .int (0 : Int32)), (3, .int (0 : Int32)), (0, .ref q0), (1, .int p1), (2, .int p2)]) hx hb dX8_waking_3 hl (by decide) rfl (fun ls hl => ?_)
  have hL5 : ∀ (n : Nat) (x5_0 : Int32) (x5_1 : Int32) (y5 : Int32) (H : Heap) (locs : List Loc) (ls : Array Slot), lp (fun x5 => X8_waking_s5 v_fits p1 p2 x5.1 x5.2) n (x5_0, x5_1) = some y5 → Sv D A s.heap [oX8 q0 u0_0 u0_1 u0_2 (.ref q1) u0_4, aZ cy q1 160 v_fits] H locs → lv_has ls 5 [(0, .ref q0), (1, .int p1), (2, .int p2), (3, .int x5_0), (4, .int x5_1)] → ( ∀ (y5_0 : Int32), y5_0 = y5 → ∀ (H : Heap) (locs : List Loc) (ls : Array Slot), Sv D A s.heap [oX8 q0 u0_0 u0_1 u0_2 (.ref q1) u0_4, aZ cy q1 160 v_fits] H locs → lv_has ls 5 [(3, .int y5_0)] → W p l e R s m args below meth c H locs 0 0 Q (F0 m 47 ls [])) → W p l e R s m args below meth c H locs 0 0 Q (F0 m 5 ls []) := by
    intro n
    induction n with
    | zero =>
      intro x5_0 x5_1 y5 H locs ls h
      exact lp_zero h
    | succ n ih5 =>
      intro x5_0 x5_1 y5 H locs ls h hS hl hk5_0
      obtain ⟨z5, h, hz5a, hz5b⟩ := lp_succ h
      have h : X8_waking_s5 v_fits p1 p2 x5_0 x5_1 = some z5 := h
      unfold X8_waking_s5 at h
      refine lv_iload hx hb dX8_waking_5 (lv_at hl 4 rfl) ?_
      refine lv_sipush (v := 160) hx hb dX8_waking_7 (by decide) ?_
      refine lv_icmp_ge (tgt := 47) hx hb dX8_waking_10 (by decide) (fun c1 => ?_) (fun c1 => ?_)
      · have h := it_pos c1 h
        exact hk5_0 x5_0 (hz5b _ (Option.some.inj h).symm)  H locs ls hS (lv_sub hl [3] rfl)
      · have h := it_neg c1 h
        refine lv_iload_n hx hb dX8_waking_13 rfl (lv_at hl 3 rfl) ?_
        refine lv_aload_n hx hb dX8_waking_14 rfl (lv_at hl 0 rfl) ?_
        refine r_get E frX8_22 hS 0 rfl rfl dX8_waking_15 ?_
        refine lv_iload hx hb dX8_waking_18 (lv_at hl 4 rfl) ?_
        obtain ⟨g2, h⟩ := gi_some h
        refine r_zald E hS 1 rfl g2 dX8_waking_20 ?_
        refine lv_if_eq (tgt := 38) hx hb dX8_waking_21 (by decide) (fun c3 => ?_) (fun c3 => ?_)
        · have h := it_pos c3 h
          refine lv_iconst (v := 0) hx hb dX8_waking_38 (by decide) ?_
          refine lv_iadd hx hb dX8_waking_39 ?_
          refine lv_istore_n (lv' := [(3, .int (x5_0 + (0 : Int32))), (0, .ref q0), (1, .int p1), (2, .int p2), (4, .int x5_1)]) hx hb dX8_waking_40 rfl hl (by decide) rfl (fun ls hl => ?_)
          refine lv_iinc (v := (x5_1 + (1 : Int32))) (lv' := [(4, .int (x5_1 + (1 : Int32))), (3, .int (x5_0 + (0 : Int32))), (0, .ref q0), (1, .int p1), (2, .int p2)]) hx hb dX8_waking_41 hl (k := 4) rfl rfl (by decide) rfl (fun ls hl => ?_)
          refine lv_goto (tgt := 5) hx hb dX8_waking_44 (by decide) ?_
          exact ih5 (x5_0 + (0 : Int32)) (x5_1 + (1 : Int32)) y5  H locs ls (hz5a _ (Option.some.inj h).symm) hS (lv_sub hl [2, 3, 4, 1, 0] rfl) hk5_0
        · have h := it_neg c3 h
          refine lv_iload hx hb dX8_waking_24 (lv_at hl 4 rfl) ?_
          refine lv_iload_n hx hb dX8_waking_26 rfl (lv_at hl 1 rfl) ?_
          refine lv_iload_n hx hb dX8_waking_27 rfl (lv_at hl 2 rfl) ?_
          obtain ⟨y28, e4, h⟩ := bd_some h
          refine ct_S (ws' := fun _ => [oX8 q0 u0_0 u0_1 u0_2 (.ref q1) u0_4, aZ cy q1 160 v_fits]) (st' := [.int y28, .int x5_0]) (rest := [.int x5_0]) E hS slX8_29 (c_X8_rouses (l := l) (D := D) (cy := cy) (p0 := x5_1) (p1 := p1) (p2 := p2) (r := y28) e4) [] rfl rfl (fun _ => rfl) (fun _ => rfl) rfl rfl (Nat.le_of_ble_eq_true rfl) hl.1 (by rw [hRf]; exact Nat.le_of_ble_eq_true rfl) (by rw [hRl]; exact Nat.le_of_ble_eq_true rfl) ⟨Nat.zero_le _, Nat.zero_le _⟩ dX8_waking_28 rfl (fun H locs _ hS => ?_)
          refine lv_if_eq (tgt := 38) hx hb dX8_waking_31 (by decide) (fun c5 => ?_) (fun c5 => ?_)
          · have h := it_pos c5 h
            refine lv_iconst (v := 0) hx hb dX8_waking_38 (by decide) ?_
            refine lv_iadd hx hb dX8_waking_39 ?_
            refine lv_istore_n (lv' := [(3, .int (x5_0 + (0 : Int32))), (0, .ref q0), (1, .int p1), (2, .int p2), (4, .int x5_1)]) hx hb dX8_waking_40 rfl hl (by decide) rfl (fun ls hl => ?_)
            refine lv_iinc (v := (x5_1 + (1 : Int32))) (lv' := [(4, .int (x5_1 + (1 : Int32))), (3, .int (x5_0 + (0 : Int32))), (0, .ref q0), (1, .int p1), (2, .int p2)]) hx hb dX8_waking_41 hl (k := 4) rfl rfl (by decide) rfl (fun ls hl => ?_)
            refine lv_goto (tgt := 5) hx hb dX8_waking_44 (by decide) ?_
            exact ih5 (x5_0 + (0 : Int32)) (x5_1 + (1 : Int32)) y5  H locs ls (hz5a _ (Option.some.inj h).symm) hS (lv_sub hl [2, 3, 4, 1, 0] rfl) hk5_0
          · have h := it_neg c5 h
            refine lv_iconst (v := 1) hx hb dX8_waking_34 (by decide) ?_
            refine lv_goto (tgt := 39) hx hb dX8_waking_35 (by decide) ?_
            refine lv_iadd hx hb dX8_waking_39 ?_
            refine lv_istore_n (lv' := [(3, .int (x5_0 + (1 : Int32))), (0, .ref q0), (1, .int p1), (2, .int p2), (4, .int x5_1)]) hx hb dX8_waking_40 rfl hl (by decide) rfl (fun ls hl => ?_)
            refine lv_iinc (v := (x5_1 + (1 : Int32))) (lv' := [(4, .int (x5_1 + (1 : Int32))), (3, .int (x5_0 + (1 : Int32))), (0, .ref q0), (1, .int p1), (2, .int p2)]) hx hb dX8_waking_41 hl (k := 4) rfl rfl (by decide) rfl (fun ls hl => ?_)
            refine lv_goto (tgt := 5) hx hb dX8_waking_44 (by decide) ?_
            exact ih5 (x5_0 + (1 : Int32)) (x5_1 + (1 : Int32)) y5  H locs ls (hz5a _ (Option.some.inj h).symm) hS (lv_sub hl [2, 3, 4, 1, 0] rfl) hk5_0
  obtain ⟨y5, e5, h⟩ := bd_some h
  refine hL5 1000 (0 : Int32) (0 : Int32) y5  H locs ls e5 hS (lv_sub hl [2, 3, 4, 1, 0] rfl) (fun y5_0 ey5 H locs ls hS hl => ?_)
  subst ey5
  refine lv_iload_n hx hb dX8_waking_47 rfl (lv_at hl 0 rfl) ?_
  obtain rfl := Option.some.inj h
  exact rt_i E hQ (.null) hS dX8_waking_48

