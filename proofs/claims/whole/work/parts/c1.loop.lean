/-! ===== the law's loop ===== -/
theorem Iv.up {D : va_G} {A : Nat → Prop} {H0 : Heap} {cy : Nat → ClassId} {qx : Nat} {ν : Nat → Nat} {qm : Nat} {μ : Nat → Nat} {qo K : Nat} {H : Heap} {locs : List Loc} (h : Iv D A H0 cy qx ν qm μ qo K H locs) : Iv D A H0 cy qx ν qm μ qo (K + 1) H locs := by
  obtain ⟨ι, ζ, n, vs, out, u_read, bn, mr, bi, ba, bg, mi, ma, hRF, hRV, hRM, hVC, hTO, hTX, hPA, hKP, hHE, hSI, hS⟩ := h
  exact ⟨ι, ζ, n, vs, out, u_read, bn, mr, bi, ba, bg, mi, ma, hRF, hRV, hRM, hVC, hTO, hTX, hPA, hKP.mo (Nat.le_succ K), hHE, hSI, hS⟩
theorem Iv.s {D : va_G} {A : Nat → Prop} {H0 : Heap} {cy : Nat → ClassId} {qx : Nat} {ν : Nat → Nat} {qm : Nat} {μ : Nat → Nat} {qo K : Nat} {H : Heap} {locs : List Loc} (h : Iv D A H0 cy qx ν qm μ qo K H locs) : va_S A H0 H locs := by
  obtain ⟨ι, ζ, n, vs, out, u_read, bn, mr, bi, ba, bg, mi, ma, hRF, hRV, hRM, hVC, hTO, hTX, hPA, hKP, hHE, hSI, hS⟩ := h
  exact hS.2.2
theorem vpi {a L : Nat} (h : a < L) (hL : L ≤ 2560) : vp_in (o32 a) L := by
  rintro (h1 | h1)
  · exact o_nn a (by omega) h1
  · rw [o_cl (by omega)] at h1; omega
set_option maxHeartbeats 4000000 in
set_option maxRecDepth 100000 in
theorem law_loop {p : Program} {l : Launch} {e : Env} {s : State} {m : MethodId} {below : List Frame} {meth : Method} {c : Code} {D : va_G} {cy : Nat → ClassId} {g : Gt} {b L : Nat} {xs : Nat → Int32} {qx qm qo : Nat} {ν μ : Nat → Nat} (hL : L ≤ 2560) (hfl : l.stackTraces = false) (E : Ev p s m #[Value.ref b] meth c cL_law 8 RL (some .boolean) D cy (fun q => s.heap.size ≤ q)) (hG : Gx g (fun q => s.heap.size ≤ q) s s.heap) (hT : Tx (fun q => s.heap.size ≤ q) s s.heap) (hX : va_X b L xs s s.heap) (hbl : b < s.heap.size) :
    ∀ (N k cells slots : Nat) (H : Heap) (locs : List Loc) (ls : Array Slot), 5 * k ≤ L → L + 5 ≤ 5 * k + 5 * N → cells = 161 + k → slots = 4635 + 6 * k → Iv D (fun q => s.heap.size ≤ q) s.heap cy qx ν qm μ qo k H locs → lv_has ls 8 [(0, .ref b), (1, .ref qx), (2, .ref qm), (3, .ref qo), (4, .int (o32 (5 * k)))] → W p l e room_1 s m #[Value.ref b] below meth c H locs cells slots (lw_Z below #[Value.ref b] s) (F0 m 23 ls []) := by
  have hx := E.x
  have hb := E.b
  have hbA : ¬ (fun q : Nat => s.heap.size ≤ q) b := Nat.not_le.mpr hbl
  intro N
  induction N with
  | zero =>
    intro k cells slots H locs ls h1 h2
    exact absurd h2 (by omega)
  | succ N ih =>
    intro k cells slots H locs ls hk hN hce hse hI hl
    refine lv_iload hx hb dL_law_23 (lv_at hl 4 rfl) ?_
    refine lv_aload_n hx hb dL_law_25 rfl (lv_at hl 0 rfl) ?_
    refine va_slen hx hb hX hbl hbA hI.s dL_law_26 ?_
    refine lv_iconst (v := 5) hx hb dL_law_27 (by decide) ?_
    refine lv_isub hx hb dL_law_28 ?_
    refine lv_icmp_gt (tgt := 1468) hx hb dL_law_29 (by decide) (fun _ => ?_) (fun hc => ?_)
    · refine lv_iconst (v := 1) hx hb dL_law_1468 (by decide) ?_
      refine va_forget (fun q hq => hI.s.2.2 q hq) ?_
      refine W.widen (k := 601024) (n := 7293034) (by omega) (by omega) ?_
      exact lw_ret hx hb E.r E.lk dL_law_1469
    · have hlt : 5 * k + 5 ≤ L := by
        rcases Nat.lt_or_ge L (5 * k + 5) with q | q
        · refine absurd ?_ hc
          rw [Int32.lt_iff_toInt_lt, show Int32.ofNat L - 5 = o32 L - o32 5 from rfl, Int32.toInt_sub, o_toInt (by omega), o_toInt (by omega), o_toInt (by omega)]
          rw [Int.bmod_eq_of_le (by omega) (by omega)]
          omega
        · exact q
      refine lv_aload_n hx hb dL_law_32 rfl (lv_at hl 0 rfl) ?_
      refine lv_iload hx hb dL_law_33 (lv_at hl 4 rfl) ?_
      refine va_sld hx hb hX hbl hbA hI.s (vpi (show 5 * k < L by omega) hL) dL_law_35 ?_
      refine lv_bipush (v := 63) hx hb dL_law_36 (by decide) ?_
      refine lv_iand hx hb dL_law_38 ?_
      have h1 : cells + 1 ≤ room_1.cells := by
        show cells + 1 ≤ 601024
        omega
      have h2 : slots + 6 ≤ room_1.slots := by
        show slots + 6 ≤ 7293034
        omega
      have i1 : vp_in (o32 (5 * k) + 1) L := by rw [show o32 (5 * k) + 1 = o32 (5 * k + 1) from o_add _ 1]; exact vpi (by omega) hL
      have i2 : vp_in (o32 (5 * k) + 2) L := by rw [show o32 (5 * k) + 2 = o32 (5 * k + 2) from o_add _ 2]; exact vpi (by omega) hL
      have i3 : vp_in (o32 (5 * k) + 3) L := by rw [show o32 (5 * k) + 3 = o32 (5 * k + 3) from o_add _ 3]; exact vpi (by omega) hL
      have i4 : vp_in (o32 (5 * k) + 4) L := by rw [show o32 (5 * k) + 4 = o32 (5 * k + 4) from o_add _ 4]; exact vpi (by omega) hL
      have kk : ∀ (H : Heap) (locs : List Loc) (ls : Array Slot), Iv D (fun q => s.heap.size ≤ q) s.heap cy qx ν qm μ qo (k + 1) H locs → lv_has ls 8 [(0, .ref b), (1, .ref qx), (2, .ref qm), (3, .ref qo), (4, .int (o32 (5 * k)))] → W p l e room_1 s m #[Value.ref b] below meth c H locs (cells + 1) (slots + 6) (lw_Z below #[Value.ref b] s) (F0 m 1462 ls []) := by
        intro H locs ls hI hl
        refine lv_iinc (v := o32 (5 * (k + 1))) (lv' := [(4, .int (o32 (5 * (k + 1)))), (0, .ref b), (1, .ref qx), (2, .ref qm), (3, .ref qo)]) hx hb dL_law_1462 hl (k := 4) rfl (by rw [show 5 * (k + 1) = 5 * k + 5 by omega, show Int32.ofInt 5 = o32 5 by decide]; exact o_add _ 5) (by decide) rfl (fun ls hl => ?_)
        refine lv_goto (tgt := 23) hx hb dL_law_1465 (by decide) ?_
        exact ih (k + 1) (cells + 1) (slots + 6) H locs ls (by omega) (by omega) (by omega) (by omega) hI (lv_sub hl [1, 2, 3, 4, 0] rfl)
      have hK : k < 99999 := by omega
      have et : (xs (o32 (5 * k)).toNatClampNeg) &&& 63 = o32 ((xs (o32 (5 * k)).toNatClampNeg).toBitVec.toNat % 64) := pk_and _ 6 (by decide)
      generalize hv : (xs (o32 (5 * k)).toNatClampNeg) &&& 63 = v
      have et : v = o32 ((xs (o32 (5 * k)).toNatClampNeg).toBitVec.toNat % 64) := hv.symm.trans et
      have htl : (xs (o32 (5 * k)).toNatClampNeg).toBitVec.toNat % 64 < 64 := Nat.mod_lt _ (by decide)
      generalize (xs (o32 (5 * k)).toNatClampNeg).toBitVec.toNat % 64 = t at et htl
      subst et
      clear hv
      rcases (show t = 0 ∨ t = 1 ∨ t = 2 ∨ t = 3 ∨ t = 4 ∨ t = 5 ∨ t = 6 ∨ t = 7 ∨ t = 8 ∨ t = 9 ∨ t = 10 ∨ t = 11 ∨ t = 12 ∨ t = 13 ∨ t = 14 ∨ t = 15 ∨ t = 16 ∨ t = 17 ∨ t = 18 ∨ t = 19 ∨ t = 20 ∨ t = 21 ∨ t = 22 ∨ t = 23 ∨ t = 24 ∨ t = 25 ∨ t = 26 ∨ t = 27 ∨ t = 28 ∨ t = 29 ∨ t = 30 ∨ t = 31 ∨ t = 32 ∨ t = 33 ∨ t = 34 ∨ t = 35 ∨ t = 36 ∨ t = 37 ∨ t = 38 ∨ t = 39 ∨ t = 40 ∨ t = 41 ∨ t = 42 ∨ t = 43 ∨ t = 44 ∨ t = 45 ∨ t = 46 ∨ t = 47 ∨ t = 48 ∨ 49 ≤ t by omega) with rfl | rfl | rfl | rfl | rfl | rfl | rfl | rfl | rfl | rfl | rfl | rfl | rfl | rfl | rfl | rfl | rfl | rfl | rfl | rfl | rfl | rfl | rfl | rfl | rfl | rfl | rfl | rfl | rfl | rfl | rfl | rfl | rfl | rfl | rfl | rfl | rfl | rfl | rfl | rfl | rfl | rfl | rfl | rfl | rfl | rfl | rfl | rfl | rfl | ht
      · refine lv_tableIn (off := 209) (tgt := 248) hx hb dL_law_39 (by decide) (by decide) (by rfl) (by decide) ?_
        exact case_0 E hG hT hfl hX hbl hbA hK h1 h2 i1 i2 i3 i4 hI hl kk
      · refine lv_tableIn (off := 234) (tgt := 273) hx hb dL_law_39 (by decide) (by decide) (by rfl) (by decide) ?_
        exact case_1 E hG hT hfl hX hbl hbA hK h1 h2 i1 i2 i3 i4 hI hl kk
      · refine lv_tableIn (off := 259) (tgt := 298) hx hb dL_law_39 (by decide) (by decide) (by rfl) (by decide) ?_
        exact case_2 E hG hT hfl hX hbl hbA hK h1 h2 i1 i2 i3 i4 hI hl kk
      · refine lv_tableIn (off := 272) (tgt := 311) hx hb dL_law_39 (by decide) (by decide) (by rfl) (by decide) ?_
        exact case_3 E hG hT hfl hX hbl hbA hK h1 h2 i1 i2 i3 i4 hI hl kk
      · refine lv_tableIn (off := 285) (tgt := 324) hx hb dL_law_39 (by decide) (by decide) (by rfl) (by decide) ?_
        exact case_4 E hG hT hfl hX hbl hbA hK h1 h2 i1 i2 i3 i4 hI hl kk
      · refine lv_tableIn (off := 298) (tgt := 337) hx hb dL_law_39 (by decide) (by decide) (by rfl) (by decide) ?_
        exact case_5 E hG hT hfl hX hbl hbA hK h1 h2 i1 i2 i3 i4 hI hl kk
      · refine lv_tableIn (off := 366) (tgt := 405) hx hb dL_law_39 (by decide) (by decide) (by rfl) (by decide) ?_
        exact case_6 E hG hT hfl hX hbl hbA hK h1 h2 i1 i2 i3 i4 hI hl kk
      · refine lv_tableIn (off := 427) (tgt := 466) hx hb dL_law_39 (by decide) (by decide) (by rfl) (by decide) ?_
        exact case_7 E hG hT hfl hX hbl hbA hK h1 h2 i1 i2 i3 i4 hI hl kk
      · refine lv_tableIn (off := 452) (tgt := 491) hx hb dL_law_39 (by decide) (by decide) (by rfl) (by decide) ?_
        exact case_8 E hG hT hfl hX hbl hbA hK h1 h2 i1 i2 i3 i4 hI hl kk
      · refine lv_tableIn (off := 489) (tgt := 528) hx hb dL_law_39 (by decide) (by decide) (by rfl) (by decide) ?_
        exact case_9 E hG hT hfl hX hbl hbA hK h1 h2 i1 i2 i3 i4 hI hl kk
      · refine lv_tableIn (off := 526) (tgt := 565) hx hb dL_law_39 (by decide) (by decide) (by rfl) (by decide) ?_
        exact case_10 E hG hT hfl hX hbl hbA hK h1 h2 i1 i2 i3 i4 hI hl kk
      · refine lv_tableIn (off := 563) (tgt := 602) hx hb dL_law_39 (by decide) (by decide) (by rfl) (by decide) ?_
        exact case_11 E hG hT hfl hX hbl hbA hK h1 h2 i1 i2 i3 i4 hI hl kk
      · refine lv_tableIn (off := 588) (tgt := 627) hx hb dL_law_39 (by decide) (by decide) (by rfl) (by decide) ?_
        exact case_12 E hG hT hfl hX hbl hbA hK h1 h2 i1 i2 i3 i4 hI hl kk
      · refine lv_tableIn (off := 601) (tgt := 640) hx hb dL_law_39 (by decide) (by decide) (by rfl) (by decide) ?_
        exact case_13 E hG hT hfl hX hbl hbA hK h1 h2 i1 i2 i3 i4 hI hl kk
      · refine lv_tableIn (off := 614) (tgt := 653) hx hb dL_law_39 (by decide) (by decide) (by rfl) (by decide) ?_
        exact case_14 E hG hT hfl hX hbl hbA hK h1 h2 i1 i2 i3 i4 hI hl kk
      · refine lv_tableIn (off := 627) (tgt := 666) hx hb dL_law_39 (by decide) (by decide) (by rfl) (by decide) ?_
        exact case_15 E hG hT hfl hX hbl hbA hK h1 h2 i1 i2 i3 i4 hI hl kk
      · refine lv_tableIn (off := 664) (tgt := 703) hx hb dL_law_39 (by decide) (by decide) (by rfl) (by decide) ?_
        exact case_16 E hG hT hfl hX hbl hbA hK h1 h2 i1 i2 i3 i4 hI hl kk
      · refine lv_tableIn (off := 689) (tgt := 728) hx hb dL_law_39 (by decide) (by decide) (by rfl) (by decide) ?_
        exact case_17 E hG hT hfl hX hbl hbA hK h1 h2 i1 i2 i3 i4 hI hl kk
      · refine lv_tableIn (off := 702) (tgt := 741) hx hb dL_law_39 (by decide) (by decide) (by rfl) (by decide) ?_
        exact case_18 E hG hT hfl hX hbl hbA hK h1 h2 i1 i2 i3 i4 hI hl kk
      · refine lv_tableIn (off := 739) (tgt := 778) hx hb dL_law_39 (by decide) (by decide) (by rfl) (by decide) ?_
        exact case_19 E hG hT hfl hX hbl hbA hK h1 h2 i1 i2 i3 i4 hI hl kk
      · refine lv_tableIn (off := 752) (tgt := 791) hx hb dL_law_39 (by decide) (by decide) (by rfl) (by decide) ?_
        exact case_20 E hG hT hfl hX hbl hbA hK h1 h2 i1 i2 i3 i4 hI hl kk
      · refine lv_tableIn (off := 777) (tgt := 816) hx hb dL_law_39 (by decide) (by decide) (by rfl) (by decide) ?_
        exact case_21 E hG hT hfl hX hbl hbA hK h1 h2 i1 i2 i3 i4 hI hl kk
      · refine lv_tableIn (off := 790) (tgt := 829) hx hb dL_law_39 (by decide) (by decide) (by rfl) (by decide) ?_
        exact case_22 E hG hT hfl hX hbl hbA hK h1 h2 i1 i2 i3 i4 hI hl kk
      · refine lv_tableIn (off := 803) (tgt := 842) hx hb dL_law_39 (by decide) (by decide) (by rfl) (by decide) ?_
        exact case_23 E hG hT hfl hX hbl hbA hK h1 h2 i1 i2 i3 i4 hI hl kk
      · refine lv_tableIn (off := 816) (tgt := 855) hx hb dL_law_39 (by decide) (by decide) (by rfl) (by decide) ?_
        exact case_24 E hG hT hfl hX hbl hbA hK h1 h2 i1 i2 i3 i4 hI hl kk
      · refine lv_tableIn (off := 841) (tgt := 880) hx hb dL_law_39 (by decide) (by decide) (by rfl) (by decide) ?_
        exact case_25 E hG hT hfl hX hbl hbA hK h1 h2 i1 i2 i3 i4 hI hl kk
      · refine lv_tableIn (off := 866) (tgt := 905) hx hb dL_law_39 (by decide) (by decide) (by rfl) (by decide) ?_
        exact case_26 E hG hT hfl hX hbl hbA hK h1 h2 i1 i2 i3 i4 hI hl kk
      · refine lv_tableIn (off := 891) (tgt := 930) hx hb dL_law_39 (by decide) (by decide) (by rfl) (by decide) ?_
        exact case_27 E hG hT hfl hX hbl hbA hK h1 h2 i1 i2 i3 i4 hI hl kk
      · refine lv_tableIn (off := 904) (tgt := 943) hx hb dL_law_39 (by decide) (by decide) (by rfl) (by decide) ?_
        exact case_28 E hG hT hfl hX hbl hbA hK h1 h2 i1 i2 i3 i4 hI hl kk
      · refine lv_tableIn (off := 929) (tgt := 968) hx hb dL_law_39 (by decide) (by decide) (by rfl) (by decide) ?_
        exact case_29 E hG hT hfl hX hbl hbA hK h1 h2 i1 i2 i3 i4 hI hl kk
      · refine lv_tableIn (off := 942) (tgt := 981) hx hb dL_law_39 (by decide) (by decide) (by rfl) (by decide) ?_
        exact case_30 E hG hT hfl hX hbl hbA hK h1 h2 i1 i2 i3 i4 hI hl kk
      · refine lv_tableIn (off := 955) (tgt := 994) hx hb dL_law_39 (by decide) (by decide) (by rfl) (by decide) ?_
        exact case_31 E hG hT hfl hX hbl hbA hK h1 h2 i1 i2 i3 i4 hI hl kk
      · refine lv_tableIn (off := 992) (tgt := 1031) hx hb dL_law_39 (by decide) (by decide) (by rfl) (by decide) ?_
        exact case_32 E hG hT hfl hX hbl hbA hK h1 h2 i1 i2 i3 i4 hI hl kk
      · refine lv_tableIn (off := 1029) (tgt := 1068) hx hb dL_law_39 (by decide) (by decide) (by rfl) (by decide) ?_
        exact case_33 E hG hT hfl hX hbl hbA hK h1 h2 i1 i2 i3 i4 hI hl kk
      · refine lv_tableIn (off := 1042) (tgt := 1081) hx hb dL_law_39 (by decide) (by decide) (by rfl) (by decide) ?_
        exact case_34 E hG hT hfl hX hbl hbA hK h1 h2 i1 i2 i3 i4 hI hl kk
      · refine lv_tableIn (off := 1055) (tgt := 1094) hx hb dL_law_39 (by decide) (by decide) (by rfl) (by decide) ?_
        exact case_35 E hG hT hfl hX hbl hbA hK h1 h2 i1 i2 i3 i4 hI hl kk
      · refine lv_tableIn (off := 1068) (tgt := 1107) hx hb dL_law_39 (by decide) (by decide) (by rfl) (by decide) ?_
        exact case_36 E hG hT hfl hX hbl hbA hK h1 h2 i1 i2 i3 i4 hI hl kk
      · refine lv_tableIn (off := 1117) (tgt := 1156) hx hb dL_law_39 (by decide) (by decide) (by rfl) (by decide) ?_
        exact case_37 E hG hT hfl hX hbl hbA hK h1 h2 i1 i2 i3 i4 hI hl kk
      · refine lv_tableIn (off := 1130) (tgt := 1169) hx hb dL_law_39 (by decide) (by decide) (by rfl) (by decide) ?_
        exact case_38 E hG hT hfl hX hbl hbA hK h1 h2 i1 i2 i3 i4 hI hl kk
      · refine lv_tableIn (off := 1143) (tgt := 1182) hx hb dL_law_39 (by decide) (by decide) (by rfl) (by decide) ?_
        exact case_39 E hG hT hfl hX hbl hbA hK h1 h2 i1 i2 i3 i4 hI hl kk
      · refine lv_tableIn (off := 1156) (tgt := 1195) hx hb dL_law_39 (by decide) (by decide) (by rfl) (by decide) ?_
        exact case_40 E hG hT hfl hX hbl hbA hK h1 h2 i1 i2 i3 i4 hI hl kk
      · refine lv_tableIn (off := 1193) (tgt := 1232) hx hb dL_law_39 (by decide) (by decide) (by rfl) (by decide) ?_
        exact case_41 E hG hT hfl hX hbl hbA hK h1 h2 i1 i2 i3 i4 hI hl kk
      · refine lv_tableIn (off := 1218) (tgt := 1257) hx hb dL_law_39 (by decide) (by decide) (by rfl) (by decide) ?_
        exact case_42 E hG hT hfl hX hbl hbA hK h1 h2 i1 i2 i3 i4 hI hl kk
      · refine lv_tableIn (off := 1243) (tgt := 1282) hx hb dL_law_39 (by decide) (by decide) (by rfl) (by decide) ?_
        exact case_43 E hG hT hfl hX hbl hbA hK h1 h2 i1 i2 i3 i4 hI hl kk
      · refine lv_tableIn (off := 1256) (tgt := 1295) hx hb dL_law_39 (by decide) (by decide) (by rfl) (by decide) ?_
        exact case_44 E hG hT hfl hX hbl hbA hK h1 h2 i1 i2 i3 i4 hI hl kk
      · refine lv_tableIn (off := 1293) (tgt := 1332) hx hb dL_law_39 (by decide) (by decide) (by rfl) (by decide) ?_
        exact case_45 E hG hT hfl hX hbl hbA hK h1 h2 i1 i2 i3 i4 hI hl kk
      · refine lv_tableIn (off := 1318) (tgt := 1357) hx hb dL_law_39 (by decide) (by decide) (by rfl) (by decide) ?_
        exact case_46 E hG hT hfl hX hbl hbA hK h1 h2 i1 i2 i3 i4 hI hl kk
      · refine lv_tableIn (off := 1343) (tgt := 1382) hx hb dL_law_39 (by decide) (by decide) (by rfl) (by decide) ?_
        exact case_47 E hG hT hfl hX hbl hbA hK h1 h2 i1 i2 i3 i4 hI hl kk
      · refine lv_tableIn (off := 1368) (tgt := 1407) hx hb dL_law_39 (by decide) (by decide) (by rfl) (by decide) ?_
        exact case_48 E hG hT hfl hX hbl hbA hK h1 h2 i1 i2 i3 i4 hI hl kk
      · refine lv_tableOut (tgt := 1462) hx hb dL_law_39 (Or.inr (by rw [o_toInt (by omega)]; omega)) (by decide) ?_
        refine W.widen (Nat.le_succ cells) (Nat.le_add_right slots 6) ?_
        exact kk H locs ls hI.up hl
