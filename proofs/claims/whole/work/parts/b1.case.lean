section LCS0
variable {p : Program} {l : Launch} {e : Env} {s : State} {m : MethodId} {args : Array Value} {below : List Frame} {meth : Method} {c : Code} {H : Heap} {locs : List Loc} {cells slots : Nat} {Q : State → Prop} {D : va_G} {cy : Nat → ClassId} {A : Nat → Prop} {ls : Array Slot} {g : Gt} {b L : Nat} {xs : Nat → Int32} {i : Int32} {qx qm qo K : Nat} {ν μ : Nat → Nat}
set_option maxHeartbeats 4000000 in
set_option maxRecDepth 100000 in
theorem case_0 (E : Ev p s m args meth c cL_law 8 RL (some .boolean) D cy A) (hG : Gx g A s s.heap) (hT : Tx A s s.heap) (hfl : l.stackTraces = false) (hX : va_X b L xs s s.heap) (hbl : b < s.heap.size) (hbA : ¬ A b) (hK : K < 99999) (h1 : cells + 1 ≤ room_1.cells) (h2 : slots + 6 ≤ room_1.slots) (i1 : vp_in (i + 1) L) (i2 : vp_in (i + 2) L) (i3 : vp_in (i + 3) L) (i4 : vp_in (i + 4) L) (hI : Iv D A s.heap cy qx ν qm μ qo K H locs) (hl : lv_has ls 8 [(0, .ref b), (1, .ref qx), (2, .ref qm), (3, .ref qo), (4, .int i)])
    (kk : ∀ (H : Heap) (locs : List Loc) (ls : Array Slot), Iv D A s.heap cy qx ν qm μ qo (K + 1) H locs → lv_has ls 8 [(0, .ref b), (1, .ref qx), (2, .ref qm), (3, .ref qo), (4, .int i)] → W p l e room_1 s m args below meth c H locs (cells + 1) (slots + 6) Q (F0 m 1462 ls [])) : W p l e room_1 s m args below meth c H locs cells slots Q (F0 m 248 ls []) := by
  have hx := E.x
  have hb := E.b
  have hcs : cells ≤ room_1.cells ∧ slots ≤ room_1.slots := ⟨Nat.le_trans (Nat.le_succ _) h1, Nat.le_trans (Nat.le_add_right _ 6) h2⟩
  obtain ⟨ι, ζ, n, vs, out, u_read, bn, mr, bi, ba, bg, mi, ma, hRF, hRV, hRM, hVC, hTO, hTX, hPA, hKP, hHE, hSI, hS⟩ := hI
  sorry
end LCS0
