-- the law's switch
theorem lwd_0 : decode code 0 = .ok (.new 7, 3) := by decide +kernel
theorem lwd_3 : decode code 3 = .ok (.dup, 1) := by decide +kernel
theorem lwd_4 : decode code 4 = .ok (.invokespecial 9, 3) := by decide +kernel
theorem lwd_7 : decode code 7 = .ok (.astore_n 1, 1) := by decide +kernel
theorem lwd_8 : decode code 8 = .ok (.new 10, 3) := by decide +kernel
theorem lwd_11 : decode code 11 = .ok (.dup, 1) := by decide +kernel
theorem lwd_12 : decode code 12 = .ok (.invokespecial 12, 3) := by decide +kernel
theorem lwd_15 : decode code 15 = .ok (.astore_n 2, 1) := by decide +kernel
theorem lwd_16 : decode code 16 = .ok (.iconst 0, 1) := by decide +kernel
theorem lwd_17 : decode code 17 = .ok (.istore_n 3, 1) := by decide +kernel
theorem lwd_18 : decode code 18 = .ok (.iload_n 3, 1) := by decide +kernel
theorem lwd_19 : decode code 19 = .ok (.aload_n 0, 1) := by decide +kernel
theorem lwd_20 : decode code 20 = .ok (.arraylength, 1) := by decide +kernel
theorem lwd_21 : decode code 21 = .ok (.bipush 6, 2) := by decide +kernel
theorem lwd_23 : decode code 23 = .ok (.isub, 1) := by decide +kernel
theorem lwd_24 : decode code 24 = .ok (.if_icmp .gt 1345, 3) := by decide +kernel
theorem lwd_27 : decode code 27 = .ok (.aload_n 0, 1) := by decide +kernel
theorem lwd_28 : decode code 28 = .ok (.iload_n 3, 1) := by decide +kernel
theorem lwd_29 : decode code 29 = .ok (.iaload, 1) := by decide +kernel
theorem lwd_30 : decode code 30 = .ok (.bipush 31, 2) := by decide +kernel
theorem lwd_32 : decode code 32 = .ok (.iand, 1) := by decide +kernel
theorem lwd_33 : decode code 33 = .ok (.tableswitch 1330 0 29 #[135, 178, 231, 274, 317, 340, 403, 416, 439, 492, 535, 579, 612, 676, 720, 764, 807, 840, 873, 906, 949, 982, 1046, 1059, 1072, 1095, 1138, 1181, 1244, 1297], 135) := by decide +kernel
theorem lwd_1363 : decode code 1363 = .ok (.iinc 3 6, 3) := by decide +kernel
theorem lwd_1366 : decode code 1366 = .ok (.goto (-1348), 3) := by decide +kernel
theorem lwd_1369 : decode code 1369 = .ok (.iconst 1, 1) := by decide +kernel
theorem lwd_1370 : decode code 1370 = .ok (.ireturn, 1) := by decide +kernel
section LS
variable {E : gEnv} {p : Program} {e : Env} {s : State} {m : MethodId} {below : List Frame} {meth : Method} {c : Code} {b L : Nat} {xs : Nat → Int32} {H : Heap} {locs : List Loc} {kc ks : Nat} {ls : Array Slot} {Q : State → Prop}
theorem lw_y : ∀ y, y < 32 → (y = 0 ∨ y = 1 ∨ y = 2 ∨ y = 3 ∨ y = 4 ∨ y = 5 ∨ y = 6 ∨ y = 7 ∨ y = 8 ∨ y = 9 ∨ y = 10 ∨ y = 11 ∨ y = 12 ∨ y = 13 ∨ y = 14 ∨ y = 15 ∨ y = 16 ∨ y = 17 ∨ y = 18 ∨ y = 19 ∨ y = 20 ∨ y = 21 ∨ y = 22 ∨ y = 23 ∨ y = 24 ∨ y = 25 ∨ y = 26 ∨ y = 27 ∨ y = 28 ∨ y = 29 ∨ y = 30 ∨ y = 31) := by omega
theorem lw_31 (x : Int32) : ∃ y, y < 32 ∧ x &&& 31 = nI y := by
  have hb : (x &&& 31).toBitVec.toNat < 32 := by
    rw [Int32.toBitVec_and, BitVec.toNat_and]
    exact Nat.lt_succ_of_le Nat.and_le_right
  refine ⟨(x &&& 31).toBitVec.toNat, hb, ?_⟩
  apply Int32.toBitVec_inj.mp
  apply BitVec.eq_of_toNat_eq
  show _ = (BitVec.ofNat 32 (x &&& 31).toBitVec.toNat).toNat
  rw [BitVec.toNat_ofNat, Nat.mod_eq_of_lt (by omega)]
theorem lw_sw (hC : lwC E p s m meth c b L xs) (hL : L ≤ 3072) {i q1 q2 : Nat} (hi : i + 6 ≤ L)
    (hl : lv_has ls 4 [(0, .ref b), (1, .ref q1), (2, .ref q2), (3, .int (nI i))]) (hroom : kc + 2 ≤ 600000 ∧ ks + 163 ≤ 7302250) (hI : lwI E s.heap.size q1 q2 H) (hS : va_S (fun q => s.heap.size ≤ q) s.heap H locs)
    (kk : ∀ (H' : Heap) (locs' : List Loc), lwI E s.heap.size q1 q2 H' → va_S (fun q => s.heap.size ≤ q) s.heap H' locs' → W p E.1 e room_1 s m #[Value.ref b] below meth c H' locs' (kc + 2) (ks + 163) Q (F0 m 1363 ls [])) (x : Int32) : W p E.1 e room_1 s m #[Value.ref b] below meth c H locs kc ks Q (F0 m 33 ls [.int (x &&& 31)]) := by
  obtain ⟨hx, hb, hr, hml, hown, hts0, hXs, hbl, hlocks, hgv⟩ := id hC.1
  obtain ⟨y, hy, ey⟩ := lw_31 x
  rw [ey]
  rcases lw_y y hy with rfl | rfl | rfl | rfl | rfl | rfl | rfl | rfl | rfl | rfl | rfl | rfl | rfl | rfl | rfl | rfl | rfl | rfl | rfl | rfl | rfl | rfl | rfl | rfl | rfl | rfl | rfl | rfl | rfl | rfl | rfl | rfl
  · exact lv_tableIn (off := 135) (tgt := 168) hx hb lwd_33 (by decide) (by decide) rfl (by decide) (lw_case_0 hC hL hi hl hroom hI hS kk)
  · exact lv_tableIn (off := 178) (tgt := 211) hx hb lwd_33 (by decide) (by decide) rfl (by decide) (lw_case_1 hC hL hi hl hroom hI hS kk)
  · exact lv_tableIn (off := 231) (tgt := 264) hx hb lwd_33 (by decide) (by decide) rfl (by decide) (lw_case_2 hC hL hi hl hroom hI hS kk)
  · exact lv_tableIn (off := 274) (tgt := 307) hx hb lwd_33 (by decide) (by decide) rfl (by decide) (lw_case_3 hC hL hi hl hroom hI hS kk)
  · exact lv_tableIn (off := 317) (tgt := 350) hx hb lwd_33 (by decide) (by decide) rfl (by decide) (lw_case_4 hC hL hi hl hroom hI hS kk)
  · exact lv_tableIn (off := 340) (tgt := 373) hx hb lwd_33 (by decide) (by decide) rfl (by decide) (lw_case_5 hC hL hi hl hroom hI hS kk)
  · exact lv_tableIn (off := 403) (tgt := 436) hx hb lwd_33 (by decide) (by decide) rfl (by decide) (lw_case_6 hC hL hi hl hroom hI hS kk)
  · exact lv_tableIn (off := 416) (tgt := 449) hx hb lwd_33 (by decide) (by decide) rfl (by decide) (lw_case_7 hC hL hi hl hroom hI hS kk)
  · exact lv_tableIn (off := 439) (tgt := 472) hx hb lwd_33 (by decide) (by decide) rfl (by decide) (lw_case_8 hC hL hi hl hroom hI hS kk)
  · exact lv_tableIn (off := 492) (tgt := 525) hx hb lwd_33 (by decide) (by decide) rfl (by decide) (lw_case_9 hC hL hi hl hroom hI hS kk)
  · exact lv_tableIn (off := 535) (tgt := 568) hx hb lwd_33 (by decide) (by decide) rfl (by decide) (lw_case_10 hC hL hi hl hroom hI hS kk)
  · exact lv_tableIn (off := 579) (tgt := 612) hx hb lwd_33 (by decide) (by decide) rfl (by decide) (lw_case_11 hC hL hi hl hroom hI hS kk)
  · exact lv_tableIn (off := 612) (tgt := 645) hx hb lwd_33 (by decide) (by decide) rfl (by decide) (lw_case_12 hC hL hi hl hroom hI hS kk)
  · exact lv_tableIn (off := 676) (tgt := 709) hx hb lwd_33 (by decide) (by decide) rfl (by decide) (lw_case_13 hC hL hi hl hroom hI hS kk)
  · exact lv_tableIn (off := 720) (tgt := 753) hx hb lwd_33 (by decide) (by decide) rfl (by decide) (lw_case_14 hC hL hi hl hroom hI hS kk)
  · exact lv_tableIn (off := 764) (tgt := 797) hx hb lwd_33 (by decide) (by decide) rfl (by decide) (lw_case_15 hC hL hi hl hroom hI hS kk)
  · exact lv_tableIn (off := 807) (tgt := 840) hx hb lwd_33 (by decide) (by decide) rfl (by decide) (lw_case_16 hC hL hi hl hroom hI hS kk)
  · exact lv_tableIn (off := 840) (tgt := 873) hx hb lwd_33 (by decide) (by decide) rfl (by decide) (lw_case_17 hC hL hi hl hroom hI hS kk)
  · exact lv_tableIn (off := 873) (tgt := 906) hx hb lwd_33 (by decide) (by decide) rfl (by decide) (lw_case_18 hC hL hi hl hroom hI hS kk)
  · exact lv_tableIn (off := 906) (tgt := 939) hx hb lwd_33 (by decide) (by decide) rfl (by decide) (lw_case_19 hC hL hi hl hroom hI hS kk)
  · exact lv_tableIn (off := 949) (tgt := 982) hx hb lwd_33 (by decide) (by decide) rfl (by decide) (lw_case_20 hC hL hi hl hroom hI hS kk)
  · exact lv_tableIn (off := 982) (tgt := 1015) hx hb lwd_33 (by decide) (by decide) rfl (by decide) (lw_case_21 hC hL hi hl hroom hI hS kk)
  · exact lv_tableIn (off := 1046) (tgt := 1079) hx hb lwd_33 (by decide) (by decide) rfl (by decide) (lw_case_22 hC hL hi hl hroom hI hS kk)
  · exact lv_tableIn (off := 1059) (tgt := 1092) hx hb lwd_33 (by decide) (by decide) rfl (by decide) (lw_case_23 hC hL hi hl hroom hI hS kk)
  · exact lv_tableIn (off := 1072) (tgt := 1105) hx hb lwd_33 (by decide) (by decide) rfl (by decide) (lw_case_24 hC hL hi hl hroom hI hS kk)
  · exact lv_tableIn (off := 1095) (tgt := 1128) hx hb lwd_33 (by decide) (by decide) rfl (by decide) (lw_case_25 hC hL hi hl hroom hI hS kk)
  · exact lv_tableIn (off := 1138) (tgt := 1171) hx hb lwd_33 (by decide) (by decide) rfl (by decide) (lw_case_26 hC hL hi hl hroom hI hS kk)
  · exact lv_tableIn (off := 1181) (tgt := 1214) hx hb lwd_33 (by decide) (by decide) rfl (by decide) (lw_case_27 hC hL hi hl hroom hI hS kk)
  · exact lv_tableIn (off := 1244) (tgt := 1277) hx hb lwd_33 (by decide) (by decide) rfl (by decide) (lw_case_28 hC hL hi hl hroom hI hS kk)
  · exact lv_tableIn (off := 1297) (tgt := 1330) hx hb lwd_33 (by decide) (by decide) rfl (by decide) (lw_case_29 hC hL hi hl hroom hI hS kk)
  · exact lv_tableOut (tgt := 1363) hx hb lwd_33 (by decide) (by decide) (W.widen (k := kc + 2) (n := ks + 163) (by omega) (by omega) (kk H locs hI hS))
  · exact lv_tableOut (tgt := 1363) hx hb lwd_33 (by decide) (by decide) (W.widen (k := kc + 2) (n := ks + 163) (by omega) (by omega) (kk H locs hI hS))
/-- the law's loop, from its head -/
theorem lw_loop (hC : lwC E p s m meth c b L xs) (hL : L ≤ 3072) {q1 q2 : Nat} (hend : ∀ (H : Heap) (locs : List Loc) (ls : Array Slot), va_S (fun q => s.heap.size ≤ q) s.heap H locs → W p E.1 e room_1 s m #[Value.ref b] below meth c H locs 600000 7302250 Q (F0 m 1369 ls [])) :
    ∀ (n i kc ks : Nat) (H : Heap) (locs : List Loc) (ls : Array Slot), L ≤ i + n → i ≤ 4000 → kc + 2 * n ≤ 600000 → ks + 163 * n ≤ 7302250 → lv_has ls 4 [(0, .ref b), (1, .ref q1), (2, .ref q2), (3, .int (nI i))] → lwI E s.heap.size q1 q2 H → va_S (fun q => s.heap.size ≤ q) s.heap H locs →
    W p E.1 e room_1 s m #[Value.ref b] below meth c H locs kc ks Q (F0 m 18 ls []) := by
  obtain ⟨hx, hb, hr, hml, hown, hts0, hXs, hbl, hlocks, hgv⟩ := id hC.1
  intro n
  induction n with
  | zero =>
    intro i kc ks H locs ls hn hi hkc hks hl hI hS
    refine lv_iload_n hx hb lwd_18 rfl (lv_at hl 3 rfl) ?_
    refine lv_aload_n hx hb lwd_19 rfl (lv_at hl 0 rfl) ?_
    refine va_slen hx hb hXs hbl (Nat.not_le.mpr hbl) hS lwd_20 ?_
    refine lv_bipush (v := 6) hx hb lwd_21 (by decide) ?_
    refine lv_isub hx hb lwd_23 ?_
    refine lv_icmp_gt (tgt := 1369) hx hb lwd_24 (by decide) (fun _ => ?_) (fun z => ?_)
    · exact W.widen (by omega) (by omega) (hend H locs ls hS)
    · exfalso
      apply z
      show nI L - nI 6 < nI i
      rw [Int32.lt_iff_toInt_lt, pk_sub_toInt (by omega) (by decide), nI_toInt (by omega)]
      omega
  | succ n ih =>
    intro i kc ks H locs ls hn hi hkc hks hl hI hS
    refine lv_iload_n hx hb lwd_18 rfl (lv_at hl 3 rfl) ?_
    refine lv_aload_n hx hb lwd_19 rfl (lv_at hl 0 rfl) ?_
    refine va_slen hx hb hXs hbl (Nat.not_le.mpr hbl) hS lwd_20 ?_
    refine lv_bipush (v := 6) hx hb lwd_21 (by decide) ?_
    refine lv_isub hx hb lwd_23 ?_
    refine lv_icmp_gt (tgt := 1369) hx hb lwd_24 (by decide) (fun _ => ?_) (fun z => ?_)
    · exact W.widen (by omega) (by omega) (hend H locs ls hS)
    · have hi6 : i + 6 ≤ L := by
        have z' : ¬ (nI L - nI 6 < nI i) := z
        rw [Int32.lt_iff_toInt_lt, pk_sub_toInt (by omega) (by decide), nI_toInt (by omega)] at z'
        omega
      refine lv_aload_n hx hb lwd_27 rfl (lv_at hl 0 rfl) ?_
      refine lv_iload_n hx hb lwd_28 rfl (lv_at hl 3 rfl) ?_
      refine va_sld hx hb hXs hbl (Nat.not_le.mpr hbl) hS (vp_in_nI (by omega) (by omega)) lwd_29 ?_
      refine lv_bipush (v := 31) hx hb lwd_30 (by decide) ?_
      refine lv_iand hx hb lwd_32 ?_
      refine lw_sw hC hL hi6 hl ⟨by omega, by omega⟩ hI hS (fun H' locs' hI' hS' => ?_) _
      refine lv_iinc (v := nI (i + 6)) (lv' := [(3, .int (nI (i + 6))), (0, .ref b), (1, .ref q1), (2, .ref q2)]) hx hb lwd_1363 hl (k := 3) rfl (by rw [← nI_add]; rfl) (by decide) rfl (fun ls' hl' => ?_)
      refine lv_goto (tgt := 18) hx hb lwd_1366 (by decide) ?_
      exact ih (i + 6) (kc + 2) (ks + 163) H' locs' ls' (by omega) (by omega) (by omega) (by omega) (lv_sub hl' [1, 2, 3, 0] rfl) hI' hS'
end LS
