-- the law's cases: each from its first row to the step to the next six numbers (row 1363)
def lwLk : List Cond := [.methodLink R_law 13 yX9_tenth, .methodLink R_law 17 yX10_tenth, .methodLink R_law 18 yX9_rider, .methodLink R_law 22 yX10_rider, .methodLink R_law 23 yX9_set, .methodLink R_law 26 yX10_set, .methodLink R_law 27 yX9_told, .methodLink R_law 30 yX10_told, .methodLink R_law 31 yX9_house, .methodLink R_law 35 yX10_house, .methodLink R_law 38 yX9_feed, .methodLink R_law 42 yX10_feed, .methodLink R_law 43 yX9_text, .methodLink R_law 47 yX10_text, .methodLink R_law 48 yX9_force, .methodLink R_law 51 yX10_force, .methodLink R_law 52 yX9_says, .methodLink R_law 55 yX10_says, .methodLink R_law 56 yX9_ride, .methodLink R_law 59 yX10_ride, .methodLink R_law 60 yX9_spent, .methodLink R_law 64 yX10_spent, .methodLink R_law 65 yX9_ridden, .methodLink R_law 69 yX10_ridden, .methodLink R_law 70 yX9_caught, .methodLink R_law 74 yX10_caught, .methodLink R_law 75 yX9_worth, .methodLink R_law 78 yX10_worth, .methodLink R_law 79 yX9_turns, .methodLink R_law 82 yX10_turns, .methodLink R_law 83 yX9_game, .methodLink R_law 86 yX10_game, .methodLink R_law 87 yX9_goes, .methodLink R_law 90 yX10_goes, .methodLink R_law 91 yX9_train, .methodLink R_law 94 yX10_train, .methodLink R_law 95 yX9_split, .methodLink R_law 98 yX10_split, .methodLink R_law 99 yX9_film, .methodLink R_law 102 yX10_film, .methodLink R_law 103 yX9_wrong, .methodLink R_law 106 yX10_wrong, .methodLink R_law 107 yX9_clock, .methodLink R_law 110 yX10_clock, .methodLink R_law 111 yX9_image, .methodLink R_law 114 yX10_image, .methodLink R_law 115 yX9_back, .methodLink R_law 118 yX10_back, .methodLink R_law 119 yX9_count, .methodLink R_law 122 yX10_count, .methodLink R_law 123 yX9_sheet, .methodLink R_law 126 yX10_sheet, .methodLink R_law 127 yX9_cell, .methodLink R_law 130 yX10_cell, .methodLink R_law 131 yX9_copy, .methodLink R_law 135 yX10_copy, .methodLink R_law 136 yX9_tenths, .methodLink R_law 139 yX10_tenths, .methodLink R_law 140 yX9_taken, .methodLink R_law 143 yX10_taken, .methodLink R_law 9 yX9_init, .methodLink R_law 12 yX10_init, .classLink R_law 7 RX9, .classLink R_law 10 RX10, .instantiable RX9 9, .instantiable RX10 55, .initialized RX9, .initialized RX10, .constantLong R_law 36 4294967295]
set_option maxRecDepth 100000 in
theorem lwLk_ok : ∀ w ∈ lwLk, w ∈ gT := gall (by decide +kernel)
def lwCk (pc : Nat) (js : List Nat) (ix im : Nat) : Bool := decide (decode code pc = .ok (.aload_n 1, 1)) && (lwLds (pc + 1) js && (decide (decode code (pc + 1 + 5 * js.length) = .ok (.invokevirtual ix, 3)) && (decide (decode code (pc + 4 + 5 * js.length) = .ok (.aload_n 2, 1)) && (lwLds (pc + 5 + 5 * js.length) js && decide (decode code (pc + 5 + 2 * (5 * js.length)) = .ok (.invokevirtual im, 3))))))
section LV
variable {E : gEnv} {p : Program} {e : Env} {s : State} {m : MethodId} {below : List Frame} {meth : Method} {c : Code} {b L : Nat} {xs : Nat → Int32} {H : Heap} {locs : List Loc} {kc ks : Nat} {ls : Array Slot} {Q : State → Prop}
theorem lw_one {α : Type} {mk : α → Value} (hmk : ∀ (f : Nat → Nat) (r : α), gcv f (mk r) = mk r) (hC : lwC E p s m meth c b L xs) (hL : L ≤ 3072) {pc yx ym ix im i q1 q2 : Nat} {js : List Nat} {qx qm : gM} (hi : i + 6 ≤ L) (hB : gB mk E yx ym (js.map fun j => .int (xs (i + j)))) (hk : lwCk pc js ix im = true)
    (hx1 : gMt[yx]? = some qx) (hx2 : qx.2.2.2.2.1 = 1) (hx3 : RX9 = qx.1.cls) (hx4 : Cond.methodLink R_law ix qx.1 ∈ gT) (hx5 : js.length = qx.2.2.2.2.2.1)
    (hm1 : gMt[ym]? = some qm) (hm2 : qm.2.2.2.2.1 = 1) (hm3 : RX10 = qm.1.cls) (hm4 : Cond.methodLink R_law im qm.1 ∈ gT) (hm5 : js.length = qm.2.2.2.2.2.1)
    (hl : lv_has ls 4 [(0, .ref b), (1, .ref q1), (2, .ref q2), (3, .int (nI i))]) (hroom : kc + 2 ≤ 600000 ∧ ks + 163 ≤ 7302250) (hI : lwI E s.heap.size q1 q2 H) (hS : va_S (fun q => s.heap.size ≤ q) s.heap H locs)
    (kk : ∀ (r : α) (H' : Heap) (locs' : List Loc), lwI E s.heap.size q1 q2 H' → va_S (fun q => s.heap.size ≤ q) s.heap H' locs' → W p E.1 e room_1 s m #[Value.ref b] below meth c H' locs' (kc + 2) (ks + 163) Q (F0 m (pc + 8 + 2 * (5 * js.length)) ls [mk r, mk r])) :
    W p E.1 e room_1 s m #[Value.ref b] below meth c H locs kc ks Q (F0 m pc ls []) := by
  unfold lwCk at hk
  simp only [Bool.and_eq_true, decide_eq_true_eq] at hk
  obtain ⟨k1, k2, k3, k4, k5, k6⟩ := hk
  refine lw_both (len := 5 * js.length) hmk hC hB hx1 hx2 hx3 hx4 (by rw [List.length_map]; exact hx5) hm1 hm2 hm3 hm4 (by rw [List.length_map]; exact hm5) (fun f => ?_) k1 k3 k4 k6 hl hroom (fun H locs kc ks t st ht hS kk => ?_) hI hS kk
  · rw [List.map_map]; rfl
  · rcases ht with rfl | rfl
    · exact lw_lds hC hi hL hl hS js _ _ k2 kk
    · exact lw_lds hC hi hL hl hS js _ _ k5 kk
theorem lw_int (hC : lwC E p s m meth c b L xs) (hL : L ≤ 3072) {pc yx ym ix im i q1 q2 : Nat} {js : List Nat} {qx qm : gM} {off : Int} (hi : i + 6 ≤ L) (hB : gB Value.int E yx ym (js.map fun j => .int (xs (i + j)))) (hk : lwCk pc js ix im = true)
    (hx1 : gMt[yx]? = some qx) (hx2 : qx.2.2.2.2.1 = 1) (hx3 : RX9 = qx.1.cls) (hx4 : Cond.methodLink R_law ix qx.1 ∈ gT) (hx5 : js.length = qx.2.2.2.2.2.1)
    (hm1 : gMt[ym]? = some qm) (hm2 : qm.2.2.2.2.1 = 1) (hm3 : RX10 = qm.1.cls) (hm4 : Cond.methodLink R_law im qm.1 ∈ gT) (hm5 : js.length = qm.2.2.2.2.2.1)
    (d : decode code (pc + 8 + 2 * (5 * js.length)) = .ok (.if_icmp .eq off, 3)) (ho : ((pc + 8 + 2 * (5 * js.length) : Nat) : Int) + off = ((1363 : Nat) : Int))
    (hl : lv_has ls 4 [(0, .ref b), (1, .ref q1), (2, .ref q2), (3, .int (nI i))]) (hroom : kc + 2 ≤ 600000 ∧ ks + 163 ≤ 7302250) (hI : lwI E s.heap.size q1 q2 H) (hS : va_S (fun q => s.heap.size ≤ q) s.heap H locs)
    (kk : ∀ (H' : Heap) (locs' : List Loc), lwI E s.heap.size q1 q2 H' → va_S (fun q => s.heap.size ≤ q) s.heap H' locs' → W p E.1 e room_1 s m #[Value.ref b] below meth c H' locs' (kc + 2) (ks + 163) Q (F0 m 1363 ls [])) :
    W p E.1 e room_1 s m #[Value.ref b] below meth c H locs kc ks Q (F0 m pc ls []) := by
  refine lw_one (fun _ _ => rfl) hC hL hi hB hk hx1 hx2 hx3 hx4 hx5 hm1 hm2 hm3 hm4 hm5 hl hroom hI hS (fun r H' locs' hI' hS' => ?_)
  exact lv_icmp_eq hC.1.1 hC.1.2.1 d ho (fun _ => kk H' locs' hI' hS') (fun z => absurd rfl z)
theorem lw_cmp0 (x : Int64) : lg_cmp x x = 0 := by
  unfold lg_cmp
  rw [if_neg (fun h : x > x => Int64.lt_irrefl h), if_pos rfl]
theorem lw_long (hC : lwC E p s m meth c b L xs) (hL : L ≤ 3072) {pc yx ym ix im i q1 q2 : Nat} {js : List Nat} {qx qm : gM} {off : Int} (hi : i + 6 ≤ L) (hB : gB Value.long E yx ym (js.map fun j => .int (xs (i + j)))) (hk : lwCk pc js ix im = true)
    (hx1 : gMt[yx]? = some qx) (hx2 : qx.2.2.2.2.1 = 1) (hx3 : RX9 = qx.1.cls) (hx4 : Cond.methodLink R_law ix qx.1 ∈ gT) (hx5 : js.length = qx.2.2.2.2.2.1)
    (hm1 : gMt[ym]? = some qm) (hm2 : qm.2.2.2.2.1 = 1) (hm3 : RX10 = qm.1.cls) (hm4 : Cond.methodLink R_law im qm.1 ∈ gT) (hm5 : js.length = qm.2.2.2.2.2.1)
    (d : decode code (pc + 8 + 2 * (5 * js.length)) = .ok (.lcmp, 1)) (d' : decode code (pc + 8 + 2 * (5 * js.length) + 1) = .ok (.ifCond .eq off, 3)) (ho : ((pc + 8 + 2 * (5 * js.length) + 1 : Nat) : Int) + off = ((1363 : Nat) : Int))
    (hl : lv_has ls 4 [(0, .ref b), (1, .ref q1), (2, .ref q2), (3, .int (nI i))]) (hroom : kc + 2 ≤ 600000 ∧ ks + 163 ≤ 7302250) (hI : lwI E s.heap.size q1 q2 H) (hS : va_S (fun q => s.heap.size ≤ q) s.heap H locs)
    (kk : ∀ (H' : Heap) (locs' : List Loc), lwI E s.heap.size q1 q2 H' → va_S (fun q => s.heap.size ≤ q) s.heap H' locs' → W p E.1 e room_1 s m #[Value.ref b] below meth c H' locs' (kc + 2) (ks + 163) Q (F0 m 1363 ls [])) :
    W p E.1 e room_1 s m #[Value.ref b] below meth c H locs kc ks Q (F0 m pc ls []) := by
  refine lw_one (fun _ _ => rfl) hC hL hi hB hk hx1 hx2 hx3 hx4 hx5 hm1 hm2 hm3 hm4 hm5 hl hroom hI hS (fun r H' locs' hI' hS' => ?_)
  refine W.lcmp hC.1.1 hC.1.2.1 d ?_
  exact lv_if_eq hC.1.1 hC.1.2.1 d' ho (fun _ => kk H' locs' hI' hS') (fun z => absurd (lw_cmp0 r) z)
theorem lwk_0 : lwCk 168 [1, 2, 3] 13 17 = true := by decide +kernel
theorem lwd_206 : decode code 206 = .ok (.if_icmp .eq 1157, 3) := by decide +kernel
theorem lw_case_0 (hC : lwC E p s m meth c b L xs) (hL : L ≤ 3072) {i q1 q2 : Nat} (hi : i + 6 ≤ L)
    (hl : lv_has ls 4 [(0, .ref b), (1, .ref q1), (2, .ref q2), (3, .int (nI i))]) (hroom : kc + 2 ≤ 600000 ∧ ks + 163 ≤ 7302250) (hI : lwI E s.heap.size q1 q2 H) (hS : va_S (fun q => s.heap.size ≤ q) s.heap H locs)
    (kk : ∀ (H' : Heap) (locs' : List Loc), lwI E s.heap.size q1 q2 H' → va_S (fun q => s.heap.size ≤ q) s.heap H' locs' → W p E.1 e room_1 s m #[Value.ref b] below meth c H' locs' (kc + 2) (ks + 163) Q (F0 m 1363 ls [])) : W p E.1 e room_1 s m #[Value.ref b] below meth c H locs kc ks Q (F0 m 168 ls []) :=
  lw_int (pc := 168) (js := [1, 2, 3]) hC hL hi (b_tenth E (xs (i + 1)) (xs (i + 2)) (xs (i + 3))) lwk_0 iX9_tenth rfl rfl (lwLk_ok _ (List.mem_of_getElem? (i := 0) rfl)) rfl iX10_tenth rfl rfl (lwLk_ok _ (List.mem_of_getElem? (i := 1) rfl)) rfl lwd_206 (by decide) hl hroom hI hS kk
theorem lwk_1 : lwCk 211 [1, 2, 3, 4] 18 22 = true := by decide +kernel
theorem lwd_259 : decode code 259 = .ok (.if_icmp .eq 1104, 3) := by decide +kernel
theorem lw_case_1 (hC : lwC E p s m meth c b L xs) (hL : L ≤ 3072) {i q1 q2 : Nat} (hi : i + 6 ≤ L)
    (hl : lv_has ls 4 [(0, .ref b), (1, .ref q1), (2, .ref q2), (3, .int (nI i))]) (hroom : kc + 2 ≤ 600000 ∧ ks + 163 ≤ 7302250) (hI : lwI E s.heap.size q1 q2 H) (hS : va_S (fun q => s.heap.size ≤ q) s.heap H locs)
    (kk : ∀ (H' : Heap) (locs' : List Loc), lwI E s.heap.size q1 q2 H' → va_S (fun q => s.heap.size ≤ q) s.heap H' locs' → W p E.1 e room_1 s m #[Value.ref b] below meth c H' locs' (kc + 2) (ks + 163) Q (F0 m 1363 ls [])) : W p E.1 e room_1 s m #[Value.ref b] below meth c H locs kc ks Q (F0 m 211 ls []) :=
  lw_int (pc := 211) (js := [1, 2, 3, 4]) hC hL hi (b_rider E (xs (i + 1)) (xs (i + 2)) (xs (i + 3)) (xs (i + 4))) lwk_1 iX9_rider rfl rfl (lwLk_ok _ (List.mem_of_getElem? (i := 2) rfl)) rfl iX10_rider rfl rfl (lwLk_ok _ (List.mem_of_getElem? (i := 3) rfl)) rfl lwd_259 (by decide) hl hroom hI hS kk
theorem lwk_2 : lwCk 264 [1, 2, 3] 23 26 = true := by decide +kernel
theorem lwd_302 : decode code 302 = .ok (.if_icmp .eq 1061, 3) := by decide +kernel
theorem lw_case_2 (hC : lwC E p s m meth c b L xs) (hL : L ≤ 3072) {i q1 q2 : Nat} (hi : i + 6 ≤ L)
    (hl : lv_has ls 4 [(0, .ref b), (1, .ref q1), (2, .ref q2), (3, .int (nI i))]) (hroom : kc + 2 ≤ 600000 ∧ ks + 163 ≤ 7302250) (hI : lwI E s.heap.size q1 q2 H) (hS : va_S (fun q => s.heap.size ≤ q) s.heap H locs)
    (kk : ∀ (H' : Heap) (locs' : List Loc), lwI E s.heap.size q1 q2 H' → va_S (fun q => s.heap.size ≤ q) s.heap H' locs' → W p E.1 e room_1 s m #[Value.ref b] below meth c H' locs' (kc + 2) (ks + 163) Q (F0 m 1363 ls [])) : W p E.1 e room_1 s m #[Value.ref b] below meth c H locs kc ks Q (F0 m 264 ls []) :=
  lw_int (pc := 264) (js := [1, 2, 3]) hC hL hi (b_set E (xs (i + 1)) (xs (i + 2)) (xs (i + 3))) lwk_2 iX9_set rfl rfl (lwLk_ok _ (List.mem_of_getElem? (i := 4) rfl)) rfl iX10_set rfl rfl (lwLk_ok _ (List.mem_of_getElem? (i := 5) rfl)) rfl lwd_302 (by decide) hl hroom hI hS kk
theorem lwk_3 : lwCk 307 [1, 2, 3] 27 30 = true := by decide +kernel
theorem lwd_345 : decode code 345 = .ok (.if_icmp .eq 1018, 3) := by decide +kernel
theorem lw_case_3 (hC : lwC E p s m meth c b L xs) (hL : L ≤ 3072) {i q1 q2 : Nat} (hi : i + 6 ≤ L)
    (hl : lv_has ls 4 [(0, .ref b), (1, .ref q1), (2, .ref q2), (3, .int (nI i))]) (hroom : kc + 2 ≤ 600000 ∧ ks + 163 ≤ 7302250) (hI : lwI E s.heap.size q1 q2 H) (hS : va_S (fun q => s.heap.size ≤ q) s.heap H locs)
    (kk : ∀ (H' : Heap) (locs' : List Loc), lwI E s.heap.size q1 q2 H' → va_S (fun q => s.heap.size ≤ q) s.heap H' locs' → W p E.1 e room_1 s m #[Value.ref b] below meth c H' locs' (kc + 2) (ks + 163) Q (F0 m 1363 ls [])) : W p E.1 e room_1 s m #[Value.ref b] below meth c H locs kc ks Q (F0 m 307 ls []) :=
  lw_int (pc := 307) (js := [1, 2, 3]) hC hL hi (b_told E (xs (i + 1)) (xs (i + 2)) (xs (i + 3))) lwk_3 iX9_told rfl rfl (lwLk_ok _ (List.mem_of_getElem? (i := 6) rfl)) rfl iX10_told rfl rfl (lwLk_ok _ (List.mem_of_getElem? (i := 7) rfl)) rfl lwd_345 (by decide) hl hroom hI hS kk
theorem lwk_4 : lwCk 350 [1] 31 35 = true := by decide +kernel
theorem lwd_368 : decode code 368 = .ok (.if_icmp .eq 995, 3) := by decide +kernel
theorem lw_case_4 (hC : lwC E p s m meth c b L xs) (hL : L ≤ 3072) {i q1 q2 : Nat} (hi : i + 6 ≤ L)
    (hl : lv_has ls 4 [(0, .ref b), (1, .ref q1), (2, .ref q2), (3, .int (nI i))]) (hroom : kc + 2 ≤ 600000 ∧ ks + 163 ≤ 7302250) (hI : lwI E s.heap.size q1 q2 H) (hS : va_S (fun q => s.heap.size ≤ q) s.heap H locs)
    (kk : ∀ (H' : Heap) (locs' : List Loc), lwI E s.heap.size q1 q2 H' → va_S (fun q => s.heap.size ≤ q) s.heap H' locs' → W p E.1 e room_1 s m #[Value.ref b] below meth c H' locs' (kc + 2) (ks + 163) Q (F0 m 1363 ls [])) : W p E.1 e room_1 s m #[Value.ref b] below meth c H locs kc ks Q (F0 m 350 ls []) :=
  lw_int (pc := 350) (js := [1]) hC hL hi (b_house E (xs (i + 1))) lwk_4 iX9_house rfl rfl (lwLk_ok _ (List.mem_of_getElem? (i := 8) rfl)) rfl iX10_house rfl rfl (lwLk_ok _ (List.mem_of_getElem? (i := 9) rfl)) rfl lwd_368 (by decide) hl hroom hI hS kk
def lwFv (xs : Nat → Int32) (i : Nat) : Int64 := ((xs (i + 2)).toInt64 <<< ((32 : Int32).toInt64 &&& 63)) ||| ((xs (i + 3)).toInt64 &&& 4294967295)
theorem lwd_384 : decode code 384 = .ok (.i2l, 1) := by decide +kernel
theorem lwd_385 : decode code 385 = .ok (.bipush 32, 2) := by decide +kernel
theorem lwd_387 : decode code 387 = .ok (.lshl, 1) := by decide +kernel
theorem lwd_393 : decode code 393 = .ok (.i2l, 1) := by decide +kernel
theorem lwd_394 : decode code 394 = .ok (.ldc2_w 36, 3) := by decide +kernel
theorem lwd_397 : decode code 397 = .ok (.land, 1) := by decide +kernel
theorem lwd_398 : decode code 398 = .ok (.lor, 1) := by decide +kernel
theorem lwl_374 : lwLds 374 [1, 2] = true ∧ lwLds 388 [3] = true := by decide +kernel
theorem lw_fl_374 (hC : lwC E p s m meth c b L xs) (hL : L ≤ 3072) {i q1 q2 : Nat} (hi : i + 6 ≤ L)
    (hl : lv_has ls 4 [(0, .ref b), (1, .ref q1), (2, .ref q2), (3, .int (nI i))]) (hS : va_S (fun q => s.heap.size ≤ q) s.heap H locs) {st : List Value} (kk : W p E.1 e room_1 s m #[Value.ref b] below meth c H locs kc ks Q (F0 m 399 ls ([Value.int (xs (i + 1)), .long (lwFv xs i)].reverse ++ st))) :
    W p E.1 e room_1 s m #[Value.ref b] below meth c H locs kc ks Q (F0 m 374 ls st) := by
  obtain ⟨hx, hb, hr, hml, hown, hts0, hXs, hbl, hlocks, hgv⟩ := id hC.1
  refine lw_lds hC hi hL hl hS [1, 2] 374 st lwl_374.1 ?_
  refine lv_i2l (v := (xs (i + 2)).toInt64) hx hb lwd_384 rfl ?_
  refine lv_bipush (v := 32) hx hb lwd_385 (by decide) ?_
  refine lv_lshl (v := (xs (i + 2)).toInt64 <<< ((32 : Int32).toInt64 &&& 63)) hx hb lwd_387 rfl ?_
  refine lw_lds hC hi hL hl hS [3] 388 _ lwl_374.2 ?_
  refine lv_i2l (v := (xs (i + 3)).toInt64) hx hb lwd_393 rfl ?_
  refine lv_ldc2 hx hb hown (lwC.ts hC _ (lwLk_ok _ (List.mem_of_getElem? (i := 68) rfl))) lwd_394 ?_
  refine lv_land hx hb lwd_397 ?_
  refine lv_lor hx hb lwd_398 ?_
  exact kk
theorem lwd_413 : decode code 413 = .ok (.i2l, 1) := by decide +kernel
theorem lwd_414 : decode code 414 = .ok (.bipush 32, 2) := by decide +kernel
theorem lwd_416 : decode code 416 = .ok (.lshl, 1) := by decide +kernel
theorem lwd_422 : decode code 422 = .ok (.i2l, 1) := by decide +kernel
theorem lwd_423 : decode code 423 = .ok (.ldc2_w 36, 3) := by decide +kernel
theorem lwd_426 : decode code 426 = .ok (.land, 1) := by decide +kernel
theorem lwd_427 : decode code 427 = .ok (.lor, 1) := by decide +kernel
theorem lwl_403 : lwLds 403 [1, 2] = true ∧ lwLds 417 [3] = true := by decide +kernel
theorem lw_fl_403 (hC : lwC E p s m meth c b L xs) (hL : L ≤ 3072) {i q1 q2 : Nat} (hi : i + 6 ≤ L)
    (hl : lv_has ls 4 [(0, .ref b), (1, .ref q1), (2, .ref q2), (3, .int (nI i))]) (hS : va_S (fun q => s.heap.size ≤ q) s.heap H locs) {st : List Value} (kk : W p E.1 e room_1 s m #[Value.ref b] below meth c H locs kc ks Q (F0 m 428 ls ([Value.int (xs (i + 1)), .long (lwFv xs i)].reverse ++ st))) :
    W p E.1 e room_1 s m #[Value.ref b] below meth c H locs kc ks Q (F0 m 403 ls st) := by
  obtain ⟨hx, hb, hr, hml, hown, hts0, hXs, hbl, hlocks, hgv⟩ := id hC.1
  refine lw_lds hC hi hL hl hS [1, 2] 403 st lwl_403.1 ?_
  refine lv_i2l (v := (xs (i + 2)).toInt64) hx hb lwd_413 rfl ?_
  refine lv_bipush (v := 32) hx hb lwd_414 (by decide) ?_
  refine lv_lshl (v := (xs (i + 2)).toInt64 <<< ((32 : Int32).toInt64 &&& 63)) hx hb lwd_416 rfl ?_
  refine lw_lds hC hi hL hl hS [3] 417 _ lwl_403.2 ?_
  refine lv_i2l (v := (xs (i + 3)).toInt64) hx hb lwd_422 rfl ?_
  refine lv_ldc2 hx hb hown (lwC.ts hC _ (lwLk_ok _ (List.mem_of_getElem? (i := 68) rfl))) lwd_423 ?_
  refine lv_land hx hb lwd_426 ?_
  refine lv_lor hx hb lwd_427 ?_
  exact kk
theorem lwd_373 : decode code 373 = .ok (.aload_n 1, 1) := by decide +kernel
theorem lwd_399 : decode code 399 = .ok (.invokevirtual 38, 3) := by decide +kernel
theorem lwd_402 : decode code 402 = .ok (.aload_n 2, 1) := by decide +kernel
theorem lwd_428 : decode code 428 = .ok (.invokevirtual 42, 3) := by decide +kernel
theorem lwd_431 : decode code 431 = .ok (.if_icmp .eq 932, 3) := by decide +kernel
theorem lw_case_5 (hC : lwC E p s m meth c b L xs) (hL : L ≤ 3072) {i q1 q2 : Nat} (hi : i + 6 ≤ L)
    (hl : lv_has ls 4 [(0, .ref b), (1, .ref q1), (2, .ref q2), (3, .int (nI i))]) (hroom : kc + 2 ≤ 600000 ∧ ks + 163 ≤ 7302250) (hI : lwI E s.heap.size q1 q2 H) (hS : va_S (fun q => s.heap.size ≤ q) s.heap H locs)
    (kk : ∀ (H' : Heap) (locs' : List Loc), lwI E s.heap.size q1 q2 H' → va_S (fun q => s.heap.size ≤ q) s.heap H' locs' → W p E.1 e room_1 s m #[Value.ref b] below meth c H' locs' (kc + 2) (ks + 163) Q (F0 m 1363 ls [])) : W p E.1 e room_1 s m #[Value.ref b] below meth c H locs kc ks Q (F0 m 373 ls []) := by
  refine lw_both (len := 25) (pc := 373) (fun _ _ => rfl) hC (b_feed E (xs (i + 1)) (lwFv xs i)) iX9_feed rfl rfl (lwLk_ok _ (List.mem_of_getElem? (i := 10) rfl)) rfl iX10_feed rfl rfl (lwLk_ok _ (List.mem_of_getElem? (i := 11) rfl)) rfl (fun _ => rfl) lwd_373 lwd_399 lwd_402 lwd_428 hl hroom (fun H locs kc ks t st ht hS kk => ?_) hI hS (fun r H' locs' hI' hS' => ?_)
  · rcases ht with rfl | rfl
    · exact lw_fl_374 hC hL hi hl hS kk
    · exact lw_fl_403 hC hL hi hl hS kk
  · exact lv_icmp_eq hC.1.1 hC.1.2.1 lwd_431 (by decide) (fun _ => kk H' locs' hI' hS') (fun z => absurd rfl z)
theorem lwk_6 : lwCk 436 [] 43 47 = true := by decide +kernel
theorem lwd_444 : decode code 444 = .ok (.if_icmp .eq 919, 3) := by decide +kernel
theorem lw_case_6 (hC : lwC E p s m meth c b L xs) (hL : L ≤ 3072) {i q1 q2 : Nat} (hi : i + 6 ≤ L)
    (hl : lv_has ls 4 [(0, .ref b), (1, .ref q1), (2, .ref q2), (3, .int (nI i))]) (hroom : kc + 2 ≤ 600000 ∧ ks + 163 ≤ 7302250) (hI : lwI E s.heap.size q1 q2 H) (hS : va_S (fun q => s.heap.size ≤ q) s.heap H locs)
    (kk : ∀ (H' : Heap) (locs' : List Loc), lwI E s.heap.size q1 q2 H' → va_S (fun q => s.heap.size ≤ q) s.heap H' locs' → W p E.1 e room_1 s m #[Value.ref b] below meth c H' locs' (kc + 2) (ks + 163) Q (F0 m 1363 ls [])) : W p E.1 e room_1 s m #[Value.ref b] below meth c H locs kc ks Q (F0 m 436 ls []) :=
  lw_int (pc := 436) (js := []) hC hL hi (b_text E) lwk_6 iX9_text rfl rfl (lwLk_ok _ (List.mem_of_getElem? (i := 12) rfl)) rfl iX10_text rfl rfl (lwLk_ok _ (List.mem_of_getElem? (i := 13) rfl)) rfl lwd_444 (by decide) hl hroom hI hS kk
theorem lwk_7 : lwCk 449 [1] 48 51 = true := by decide +kernel
theorem lwd_467 : decode code 467 = .ok (.if_icmp .eq 896, 3) := by decide +kernel
theorem lw_case_7 (hC : lwC E p s m meth c b L xs) (hL : L ≤ 3072) {i q1 q2 : Nat} (hi : i + 6 ≤ L)
    (hl : lv_has ls 4 [(0, .ref b), (1, .ref q1), (2, .ref q2), (3, .int (nI i))]) (hroom : kc + 2 ≤ 600000 ∧ ks + 163 ≤ 7302250) (hI : lwI E s.heap.size q1 q2 H) (hS : va_S (fun q => s.heap.size ≤ q) s.heap H locs)
    (kk : ∀ (H' : Heap) (locs' : List Loc), lwI E s.heap.size q1 q2 H' → va_S (fun q => s.heap.size ≤ q) s.heap H' locs' → W p E.1 e room_1 s m #[Value.ref b] below meth c H' locs' (kc + 2) (ks + 163) Q (F0 m 1363 ls [])) : W p E.1 e room_1 s m #[Value.ref b] below meth c H locs kc ks Q (F0 m 449 ls []) :=
  lw_int (pc := 449) (js := [1]) hC hL hi (b_force E (xs (i + 1))) lwk_7 iX9_force rfl rfl (lwLk_ok _ (List.mem_of_getElem? (i := 14) rfl)) rfl iX10_force rfl rfl (lwLk_ok _ (List.mem_of_getElem? (i := 15) rfl)) rfl lwd_467 (by decide) hl hroom hI hS kk
theorem lwk_8 : lwCk 472 [1, 2, 3, 4] 52 55 = true := by decide +kernel
theorem lwd_520 : decode code 520 = .ok (.if_icmp .eq 843, 3) := by decide +kernel
theorem lw_case_8 (hC : lwC E p s m meth c b L xs) (hL : L ≤ 3072) {i q1 q2 : Nat} (hi : i + 6 ≤ L)
    (hl : lv_has ls 4 [(0, .ref b), (1, .ref q1), (2, .ref q2), (3, .int (nI i))]) (hroom : kc + 2 ≤ 600000 ∧ ks + 163 ≤ 7302250) (hI : lwI E s.heap.size q1 q2 H) (hS : va_S (fun q => s.heap.size ≤ q) s.heap H locs)
    (kk : ∀ (H' : Heap) (locs' : List Loc), lwI E s.heap.size q1 q2 H' → va_S (fun q => s.heap.size ≤ q) s.heap H' locs' → W p E.1 e room_1 s m #[Value.ref b] below meth c H' locs' (kc + 2) (ks + 163) Q (F0 m 1363 ls [])) : W p E.1 e room_1 s m #[Value.ref b] below meth c H locs kc ks Q (F0 m 472 ls []) :=
  lw_int (pc := 472) (js := [1, 2, 3, 4]) hC hL hi (b_says E (xs (i + 1)) (xs (i + 2)) (xs (i + 3)) (xs (i + 4))) lwk_8 iX9_says rfl rfl (lwLk_ok _ (List.mem_of_getElem? (i := 16) rfl)) rfl iX10_says rfl rfl (lwLk_ok _ (List.mem_of_getElem? (i := 17) rfl)) rfl lwd_520 (by decide) hl hroom hI hS kk
theorem lwk_9 : lwCk 525 [1, 2, 3] 56 59 = true := by decide +kernel
theorem lwd_563 : decode code 563 = .ok (.if_icmp .eq 800, 3) := by decide +kernel
theorem lw_case_9 (hC : lwC E p s m meth c b L xs) (hL : L ≤ 3072) {i q1 q2 : Nat} (hi : i + 6 ≤ L)
    (hl : lv_has ls 4 [(0, .ref b), (1, .ref q1), (2, .ref q2), (3, .int (nI i))]) (hroom : kc + 2 ≤ 600000 ∧ ks + 163 ≤ 7302250) (hI : lwI E s.heap.size q1 q2 H) (hS : va_S (fun q => s.heap.size ≤ q) s.heap H locs)
    (kk : ∀ (H' : Heap) (locs' : List Loc), lwI E s.heap.size q1 q2 H' → va_S (fun q => s.heap.size ≤ q) s.heap H' locs' → W p E.1 e room_1 s m #[Value.ref b] below meth c H' locs' (kc + 2) (ks + 163) Q (F0 m 1363 ls [])) : W p E.1 e room_1 s m #[Value.ref b] below meth c H locs kc ks Q (F0 m 525 ls []) :=
  lw_int (pc := 525) (js := [1, 2, 3]) hC hL hi (b_ride E (xs (i + 1)) (xs (i + 2)) (xs (i + 3))) lwk_9 iX9_ride rfl rfl (lwLk_ok _ (List.mem_of_getElem? (i := 18) rfl)) rfl iX10_ride rfl rfl (lwLk_ok _ (List.mem_of_getElem? (i := 19) rfl)) rfl lwd_563 (by decide) hl hroom hI hS kk
theorem lwk_10 : lwCk 568 [1, 2, 3] 60 64 = true := by decide +kernel
theorem lwd_606 : decode code 606 = .ok (.lcmp, 1) := by decide +kernel
theorem lwd_607 : decode code 607 = .ok (.ifCond .eq 756, 3) := by decide +kernel
theorem lw_case_10 (hC : lwC E p s m meth c b L xs) (hL : L ≤ 3072) {i q1 q2 : Nat} (hi : i + 6 ≤ L)
    (hl : lv_has ls 4 [(0, .ref b), (1, .ref q1), (2, .ref q2), (3, .int (nI i))]) (hroom : kc + 2 ≤ 600000 ∧ ks + 163 ≤ 7302250) (hI : lwI E s.heap.size q1 q2 H) (hS : va_S (fun q => s.heap.size ≤ q) s.heap H locs)
    (kk : ∀ (H' : Heap) (locs' : List Loc), lwI E s.heap.size q1 q2 H' → va_S (fun q => s.heap.size ≤ q) s.heap H' locs' → W p E.1 e room_1 s m #[Value.ref b] below meth c H' locs' (kc + 2) (ks + 163) Q (F0 m 1363 ls [])) : W p E.1 e room_1 s m #[Value.ref b] below meth c H locs kc ks Q (F0 m 568 ls []) :=
  lw_long (pc := 568) (js := [1, 2, 3]) hC hL hi (b_spent E (xs (i + 1)) (xs (i + 2)) (xs (i + 3))) lwk_10 iX9_spent rfl rfl (lwLk_ok _ (List.mem_of_getElem? (i := 20) rfl)) rfl iX10_spent rfl rfl (lwLk_ok _ (List.mem_of_getElem? (i := 21) rfl)) rfl lwd_606 lwd_607 (by decide) hl hroom hI hS kk
theorem lwk_11 : lwCk 612 [1, 2] 65 69 = true := by decide +kernel
theorem lwd_640 : decode code 640 = .ok (.if_icmp .eq 723, 3) := by decide +kernel
theorem lw_case_11 (hC : lwC E p s m meth c b L xs) (hL : L ≤ 3072) {i q1 q2 : Nat} (hi : i + 6 ≤ L)
    (hl : lv_has ls 4 [(0, .ref b), (1, .ref q1), (2, .ref q2), (3, .int (nI i))]) (hroom : kc + 2 ≤ 600000 ∧ ks + 163 ≤ 7302250) (hI : lwI E s.heap.size q1 q2 H) (hS : va_S (fun q => s.heap.size ≤ q) s.heap H locs)
    (kk : ∀ (H' : Heap) (locs' : List Loc), lwI E s.heap.size q1 q2 H' → va_S (fun q => s.heap.size ≤ q) s.heap H' locs' → W p E.1 e room_1 s m #[Value.ref b] below meth c H' locs' (kc + 2) (ks + 163) Q (F0 m 1363 ls [])) : W p E.1 e room_1 s m #[Value.ref b] below meth c H locs kc ks Q (F0 m 612 ls []) :=
  lw_int (pc := 612) (js := [1, 2]) hC hL hi (b_ridden E (xs (i + 1)) (xs (i + 2))) lwk_11 iX9_ridden rfl rfl (lwLk_ok _ (List.mem_of_getElem? (i := 22) rfl)) rfl iX10_ridden rfl rfl (lwLk_ok _ (List.mem_of_getElem? (i := 23) rfl)) rfl lwd_640 (by decide) hl hroom hI hS kk
theorem lwk_12 : lwCk 645 [1, 2, 3, 4, 5] 70 74 = true := by decide +kernel
theorem lwd_703 : decode code 703 = .ok (.lcmp, 1) := by decide +kernel
theorem lwd_704 : decode code 704 = .ok (.ifCond .eq 659, 3) := by decide +kernel
theorem lw_case_12 (hC : lwC E p s m meth c b L xs) (hL : L ≤ 3072) {i q1 q2 : Nat} (hi : i + 6 ≤ L)
    (hl : lv_has ls 4 [(0, .ref b), (1, .ref q1), (2, .ref q2), (3, .int (nI i))]) (hroom : kc + 2 ≤ 600000 ∧ ks + 163 ≤ 7302250) (hI : lwI E s.heap.size q1 q2 H) (hS : va_S (fun q => s.heap.size ≤ q) s.heap H locs)
    (kk : ∀ (H' : Heap) (locs' : List Loc), lwI E s.heap.size q1 q2 H' → va_S (fun q => s.heap.size ≤ q) s.heap H' locs' → W p E.1 e room_1 s m #[Value.ref b] below meth c H' locs' (kc + 2) (ks + 163) Q (F0 m 1363 ls [])) : W p E.1 e room_1 s m #[Value.ref b] below meth c H locs kc ks Q (F0 m 645 ls []) :=
  lw_long (pc := 645) (js := [1, 2, 3, 4, 5]) hC hL hi (b_caught E (xs (i + 1)) (xs (i + 2)) (xs (i + 3)) (xs (i + 4)) (xs (i + 5))) lwk_12 iX9_caught rfl rfl (lwLk_ok _ (List.mem_of_getElem? (i := 24) rfl)) rfl iX10_caught rfl rfl (lwLk_ok _ (List.mem_of_getElem? (i := 25) rfl)) rfl lwd_703 lwd_704 (by decide) hl hroom hI hS kk
theorem lwk_13 : lwCk 709 [1, 2, 3] 75 78 = true := by decide +kernel
theorem lwd_747 : decode code 747 = .ok (.lcmp, 1) := by decide +kernel
theorem lwd_748 : decode code 748 = .ok (.ifCond .eq 615, 3) := by decide +kernel
theorem lw_case_13 (hC : lwC E p s m meth c b L xs) (hL : L ≤ 3072) {i q1 q2 : Nat} (hi : i + 6 ≤ L)
    (hl : lv_has ls 4 [(0, .ref b), (1, .ref q1), (2, .ref q2), (3, .int (nI i))]) (hroom : kc + 2 ≤ 600000 ∧ ks + 163 ≤ 7302250) (hI : lwI E s.heap.size q1 q2 H) (hS : va_S (fun q => s.heap.size ≤ q) s.heap H locs)
    (kk : ∀ (H' : Heap) (locs' : List Loc), lwI E s.heap.size q1 q2 H' → va_S (fun q => s.heap.size ≤ q) s.heap H' locs' → W p E.1 e room_1 s m #[Value.ref b] below meth c H' locs' (kc + 2) (ks + 163) Q (F0 m 1363 ls [])) : W p E.1 e room_1 s m #[Value.ref b] below meth c H locs kc ks Q (F0 m 709 ls []) :=
  lw_long (pc := 709) (js := [1, 2, 3]) hC hL hi (b_worth E (xs (i + 1)) (xs (i + 2)) (xs (i + 3))) lwk_13 iX9_worth rfl rfl (lwLk_ok _ (List.mem_of_getElem? (i := 26) rfl)) rfl iX10_worth rfl rfl (lwLk_ok _ (List.mem_of_getElem? (i := 27) rfl)) rfl lwd_747 lwd_748 (by decide) hl hroom hI hS kk
theorem lwk_14 : lwCk 753 [1, 2, 3] 79 82 = true := by decide +kernel
theorem lwd_791 : decode code 791 = .ok (.lcmp, 1) := by decide +kernel
theorem lwd_792 : decode code 792 = .ok (.ifCond .eq 571, 3) := by decide +kernel
theorem lw_case_14 (hC : lwC E p s m meth c b L xs) (hL : L ≤ 3072) {i q1 q2 : Nat} (hi : i + 6 ≤ L)
    (hl : lv_has ls 4 [(0, .ref b), (1, .ref q1), (2, .ref q2), (3, .int (nI i))]) (hroom : kc + 2 ≤ 600000 ∧ ks + 163 ≤ 7302250) (hI : lwI E s.heap.size q1 q2 H) (hS : va_S (fun q => s.heap.size ≤ q) s.heap H locs)
    (kk : ∀ (H' : Heap) (locs' : List Loc), lwI E s.heap.size q1 q2 H' → va_S (fun q => s.heap.size ≤ q) s.heap H' locs' → W p E.1 e room_1 s m #[Value.ref b] below meth c H' locs' (kc + 2) (ks + 163) Q (F0 m 1363 ls [])) : W p E.1 e room_1 s m #[Value.ref b] below meth c H locs kc ks Q (F0 m 753 ls []) :=
  lw_long (pc := 753) (js := [1, 2, 3]) hC hL hi (b_turns E (xs (i + 1)) (xs (i + 2)) (xs (i + 3))) lwk_14 iX9_turns rfl rfl (lwLk_ok _ (List.mem_of_getElem? (i := 28) rfl)) rfl iX10_turns rfl rfl (lwLk_ok _ (List.mem_of_getElem? (i := 29) rfl)) rfl lwd_791 lwd_792 (by decide) hl hroom hI hS kk
theorem lwk_15 : lwCk 797 [1, 2, 3] 83 86 = true := by decide +kernel
theorem lwd_835 : decode code 835 = .ok (.if_icmp .eq 528, 3) := by decide +kernel
theorem lw_case_15 (hC : lwC E p s m meth c b L xs) (hL : L ≤ 3072) {i q1 q2 : Nat} (hi : i + 6 ≤ L)
    (hl : lv_has ls 4 [(0, .ref b), (1, .ref q1), (2, .ref q2), (3, .int (nI i))]) (hroom : kc + 2 ≤ 600000 ∧ ks + 163 ≤ 7302250) (hI : lwI E s.heap.size q1 q2 H) (hS : va_S (fun q => s.heap.size ≤ q) s.heap H locs)
    (kk : ∀ (H' : Heap) (locs' : List Loc), lwI E s.heap.size q1 q2 H' → va_S (fun q => s.heap.size ≤ q) s.heap H' locs' → W p E.1 e room_1 s m #[Value.ref b] below meth c H' locs' (kc + 2) (ks + 163) Q (F0 m 1363 ls [])) : W p E.1 e room_1 s m #[Value.ref b] below meth c H locs kc ks Q (F0 m 797 ls []) :=
  lw_int (pc := 797) (js := [1, 2, 3]) hC hL hi (b_game E (xs (i + 1)) (xs (i + 2)) (xs (i + 3))) lwk_15 iX9_game rfl rfl (lwLk_ok _ (List.mem_of_getElem? (i := 30) rfl)) rfl iX10_game rfl rfl (lwLk_ok _ (List.mem_of_getElem? (i := 31) rfl)) rfl lwd_835 (by decide) hl hroom hI hS kk
theorem lwk_16 : lwCk 840 [1, 2] 87 90 = true := by decide +kernel
theorem lwd_868 : decode code 868 = .ok (.if_icmp .eq 495, 3) := by decide +kernel
theorem lw_case_16 (hC : lwC E p s m meth c b L xs) (hL : L ≤ 3072) {i q1 q2 : Nat} (hi : i + 6 ≤ L)
    (hl : lv_has ls 4 [(0, .ref b), (1, .ref q1), (2, .ref q2), (3, .int (nI i))]) (hroom : kc + 2 ≤ 600000 ∧ ks + 163 ≤ 7302250) (hI : lwI E s.heap.size q1 q2 H) (hS : va_S (fun q => s.heap.size ≤ q) s.heap H locs)
    (kk : ∀ (H' : Heap) (locs' : List Loc), lwI E s.heap.size q1 q2 H' → va_S (fun q => s.heap.size ≤ q) s.heap H' locs' → W p E.1 e room_1 s m #[Value.ref b] below meth c H' locs' (kc + 2) (ks + 163) Q (F0 m 1363 ls [])) : W p E.1 e room_1 s m #[Value.ref b] below meth c H locs kc ks Q (F0 m 840 ls []) :=
  lw_int (pc := 840) (js := [1, 2]) hC hL hi (b_goes E (xs (i + 1)) (xs (i + 2))) lwk_16 iX9_goes rfl rfl (lwLk_ok _ (List.mem_of_getElem? (i := 32) rfl)) rfl iX10_goes rfl rfl (lwLk_ok _ (List.mem_of_getElem? (i := 33) rfl)) rfl lwd_868 (by decide) hl hroom hI hS kk
theorem lwk_17 : lwCk 873 [1, 2] 91 94 = true := by decide +kernel
theorem lwd_901 : decode code 901 = .ok (.if_icmp .eq 462, 3) := by decide +kernel
theorem lw_case_17 (hC : lwC E p s m meth c b L xs) (hL : L ≤ 3072) {i q1 q2 : Nat} (hi : i + 6 ≤ L)
    (hl : lv_has ls 4 [(0, .ref b), (1, .ref q1), (2, .ref q2), (3, .int (nI i))]) (hroom : kc + 2 ≤ 600000 ∧ ks + 163 ≤ 7302250) (hI : lwI E s.heap.size q1 q2 H) (hS : va_S (fun q => s.heap.size ≤ q) s.heap H locs)
    (kk : ∀ (H' : Heap) (locs' : List Loc), lwI E s.heap.size q1 q2 H' → va_S (fun q => s.heap.size ≤ q) s.heap H' locs' → W p E.1 e room_1 s m #[Value.ref b] below meth c H' locs' (kc + 2) (ks + 163) Q (F0 m 1363 ls [])) : W p E.1 e room_1 s m #[Value.ref b] below meth c H locs kc ks Q (F0 m 873 ls []) :=
  lw_int (pc := 873) (js := [1, 2]) hC hL hi (b_train E (xs (i + 1)) (xs (i + 2))) lwk_17 iX9_train rfl rfl (lwLk_ok _ (List.mem_of_getElem? (i := 34) rfl)) rfl iX10_train rfl rfl (lwLk_ok _ (List.mem_of_getElem? (i := 35) rfl)) rfl lwd_901 (by decide) hl hroom hI hS kk
theorem lwk_18 : lwCk 906 [1, 2] 95 98 = true := by decide +kernel
theorem lwd_934 : decode code 934 = .ok (.if_icmp .eq 429, 3) := by decide +kernel
theorem lw_case_18 (hC : lwC E p s m meth c b L xs) (hL : L ≤ 3072) {i q1 q2 : Nat} (hi : i + 6 ≤ L)
    (hl : lv_has ls 4 [(0, .ref b), (1, .ref q1), (2, .ref q2), (3, .int (nI i))]) (hroom : kc + 2 ≤ 600000 ∧ ks + 163 ≤ 7302250) (hI : lwI E s.heap.size q1 q2 H) (hS : va_S (fun q => s.heap.size ≤ q) s.heap H locs)
    (kk : ∀ (H' : Heap) (locs' : List Loc), lwI E s.heap.size q1 q2 H' → va_S (fun q => s.heap.size ≤ q) s.heap H' locs' → W p E.1 e room_1 s m #[Value.ref b] below meth c H' locs' (kc + 2) (ks + 163) Q (F0 m 1363 ls [])) : W p E.1 e room_1 s m #[Value.ref b] below meth c H locs kc ks Q (F0 m 906 ls []) :=
  lw_int (pc := 906) (js := [1, 2]) hC hL hi (b_split E (xs (i + 1)) (xs (i + 2))) lwk_18 iX9_split rfl rfl (lwLk_ok _ (List.mem_of_getElem? (i := 36) rfl)) rfl iX10_split rfl rfl (lwLk_ok _ (List.mem_of_getElem? (i := 37) rfl)) rfl lwd_934 (by decide) hl hroom hI hS kk
theorem lwk_19 : lwCk 939 [1, 2, 3] 99 102 = true := by decide +kernel
theorem lwd_977 : decode code 977 = .ok (.if_icmp .eq 386, 3) := by decide +kernel
theorem lw_case_19 (hC : lwC E p s m meth c b L xs) (hL : L ≤ 3072) {i q1 q2 : Nat} (hi : i + 6 ≤ L)
    (hl : lv_has ls 4 [(0, .ref b), (1, .ref q1), (2, .ref q2), (3, .int (nI i))]) (hroom : kc + 2 ≤ 600000 ∧ ks + 163 ≤ 7302250) (hI : lwI E s.heap.size q1 q2 H) (hS : va_S (fun q => s.heap.size ≤ q) s.heap H locs)
    (kk : ∀ (H' : Heap) (locs' : List Loc), lwI E s.heap.size q1 q2 H' → va_S (fun q => s.heap.size ≤ q) s.heap H' locs' → W p E.1 e room_1 s m #[Value.ref b] below meth c H' locs' (kc + 2) (ks + 163) Q (F0 m 1363 ls [])) : W p E.1 e room_1 s m #[Value.ref b] below meth c H locs kc ks Q (F0 m 939 ls []) :=
  lw_int (pc := 939) (js := [1, 2, 3]) hC hL hi (b_film E (xs (i + 1)) (xs (i + 2)) (xs (i + 3))) lwk_19 iX9_film rfl rfl (lwLk_ok _ (List.mem_of_getElem? (i := 38) rfl)) rfl iX10_film rfl rfl (lwLk_ok _ (List.mem_of_getElem? (i := 39) rfl)) rfl lwd_977 (by decide) hl hroom hI hS kk
theorem lwk_20 : lwCk 982 [1, 2] 103 106 = true := by decide +kernel
theorem lwd_1010 : decode code 1010 = .ok (.if_icmp .eq 353, 3) := by decide +kernel
theorem lw_case_20 (hC : lwC E p s m meth c b L xs) (hL : L ≤ 3072) {i q1 q2 : Nat} (hi : i + 6 ≤ L)
    (hl : lv_has ls 4 [(0, .ref b), (1, .ref q1), (2, .ref q2), (3, .int (nI i))]) (hroom : kc + 2 ≤ 600000 ∧ ks + 163 ≤ 7302250) (hI : lwI E s.heap.size q1 q2 H) (hS : va_S (fun q => s.heap.size ≤ q) s.heap H locs)
    (kk : ∀ (H' : Heap) (locs' : List Loc), lwI E s.heap.size q1 q2 H' → va_S (fun q => s.heap.size ≤ q) s.heap H' locs' → W p E.1 e room_1 s m #[Value.ref b] below meth c H' locs' (kc + 2) (ks + 163) Q (F0 m 1363 ls [])) : W p E.1 e room_1 s m #[Value.ref b] below meth c H locs kc ks Q (F0 m 982 ls []) :=
  lw_int (pc := 982) (js := [1, 2]) hC hL hi (b_wrong E (xs (i + 1)) (xs (i + 2))) lwk_20 iX9_wrong rfl rfl (lwLk_ok _ (List.mem_of_getElem? (i := 40) rfl)) rfl iX10_wrong rfl rfl (lwLk_ok _ (List.mem_of_getElem? (i := 41) rfl)) rfl lwd_1010 (by decide) hl hroom hI hS kk
theorem lwk_21 : lwCk 1015 [1, 2, 3, 4, 5] 107 110 = true := by decide +kernel
theorem lwd_1073 : decode code 1073 = .ok (.lcmp, 1) := by decide +kernel
theorem lwd_1074 : decode code 1074 = .ok (.ifCond .eq 289, 3) := by decide +kernel
theorem lw_case_21 (hC : lwC E p s m meth c b L xs) (hL : L ≤ 3072) {i q1 q2 : Nat} (hi : i + 6 ≤ L)
    (hl : lv_has ls 4 [(0, .ref b), (1, .ref q1), (2, .ref q2), (3, .int (nI i))]) (hroom : kc + 2 ≤ 600000 ∧ ks + 163 ≤ 7302250) (hI : lwI E s.heap.size q1 q2 H) (hS : va_S (fun q => s.heap.size ≤ q) s.heap H locs)
    (kk : ∀ (H' : Heap) (locs' : List Loc), lwI E s.heap.size q1 q2 H' → va_S (fun q => s.heap.size ≤ q) s.heap H' locs' → W p E.1 e room_1 s m #[Value.ref b] below meth c H' locs' (kc + 2) (ks + 163) Q (F0 m 1363 ls [])) : W p E.1 e room_1 s m #[Value.ref b] below meth c H locs kc ks Q (F0 m 1015 ls []) :=
  lw_long (pc := 1015) (js := [1, 2, 3, 4, 5]) hC hL hi (b_clock E (xs (i + 1)) (xs (i + 2)) (xs (i + 3)) (xs (i + 4)) (xs (i + 5))) lwk_21 iX9_clock rfl rfl (lwLk_ok _ (List.mem_of_getElem? (i := 42) rfl)) rfl iX10_clock rfl rfl (lwLk_ok _ (List.mem_of_getElem? (i := 43) rfl)) rfl lwd_1073 lwd_1074 (by decide) hl hroom hI hS kk
theorem lwk_22 : lwCk 1079 [] 111 114 = true := by decide +kernel
theorem lwd_1087 : decode code 1087 = .ok (.if_icmp .eq 276, 3) := by decide +kernel
theorem lw_case_22 (hC : lwC E p s m meth c b L xs) (hL : L ≤ 3072) {i q1 q2 : Nat} (hi : i + 6 ≤ L)
    (hl : lv_has ls 4 [(0, .ref b), (1, .ref q1), (2, .ref q2), (3, .int (nI i))]) (hroom : kc + 2 ≤ 600000 ∧ ks + 163 ≤ 7302250) (hI : lwI E s.heap.size q1 q2 H) (hS : va_S (fun q => s.heap.size ≤ q) s.heap H locs)
    (kk : ∀ (H' : Heap) (locs' : List Loc), lwI E s.heap.size q1 q2 H' → va_S (fun q => s.heap.size ≤ q) s.heap H' locs' → W p E.1 e room_1 s m #[Value.ref b] below meth c H' locs' (kc + 2) (ks + 163) Q (F0 m 1363 ls [])) : W p E.1 e room_1 s m #[Value.ref b] below meth c H locs kc ks Q (F0 m 1079 ls []) :=
  lw_int (pc := 1079) (js := []) hC hL hi (b_image E) lwk_22 iX9_image rfl rfl (lwLk_ok _ (List.mem_of_getElem? (i := 44) rfl)) rfl iX10_image rfl rfl (lwLk_ok _ (List.mem_of_getElem? (i := 45) rfl)) rfl lwd_1087 (by decide) hl hroom hI hS kk
theorem lwk_23 : lwCk 1092 [] 115 118 = true := by decide +kernel
theorem lwd_1100 : decode code 1100 = .ok (.if_icmp .eq 263, 3) := by decide +kernel
theorem lw_case_23 (hC : lwC E p s m meth c b L xs) (hL : L ≤ 3072) {i q1 q2 : Nat} (hi : i + 6 ≤ L)
    (hl : lv_has ls 4 [(0, .ref b), (1, .ref q1), (2, .ref q2), (3, .int (nI i))]) (hroom : kc + 2 ≤ 600000 ∧ ks + 163 ≤ 7302250) (hI : lwI E s.heap.size q1 q2 H) (hS : va_S (fun q => s.heap.size ≤ q) s.heap H locs)
    (kk : ∀ (H' : Heap) (locs' : List Loc), lwI E s.heap.size q1 q2 H' → va_S (fun q => s.heap.size ≤ q) s.heap H' locs' → W p E.1 e room_1 s m #[Value.ref b] below meth c H' locs' (kc + 2) (ks + 163) Q (F0 m 1363 ls [])) : W p E.1 e room_1 s m #[Value.ref b] below meth c H locs kc ks Q (F0 m 1092 ls []) :=
  lw_int (pc := 1092) (js := []) hC hL hi (b_back E) lwk_23 iX9_back rfl rfl (lwLk_ok _ (List.mem_of_getElem? (i := 46) rfl)) rfl iX10_back rfl rfl (lwLk_ok _ (List.mem_of_getElem? (i := 47) rfl)) rfl lwd_1100 (by decide) hl hroom hI hS kk
theorem lwk_24 : lwCk 1105 [1] 119 122 = true := by decide +kernel
theorem lwd_1123 : decode code 1123 = .ok (.if_icmp .eq 240, 3) := by decide +kernel
theorem lw_case_24 (hC : lwC E p s m meth c b L xs) (hL : L ≤ 3072) {i q1 q2 : Nat} (hi : i + 6 ≤ L)
    (hl : lv_has ls 4 [(0, .ref b), (1, .ref q1), (2, .ref q2), (3, .int (nI i))]) (hroom : kc + 2 ≤ 600000 ∧ ks + 163 ≤ 7302250) (hI : lwI E s.heap.size q1 q2 H) (hS : va_S (fun q => s.heap.size ≤ q) s.heap H locs)
    (kk : ∀ (H' : Heap) (locs' : List Loc), lwI E s.heap.size q1 q2 H' → va_S (fun q => s.heap.size ≤ q) s.heap H' locs' → W p E.1 e room_1 s m #[Value.ref b] below meth c H' locs' (kc + 2) (ks + 163) Q (F0 m 1363 ls [])) : W p E.1 e room_1 s m #[Value.ref b] below meth c H locs kc ks Q (F0 m 1105 ls []) :=
  lw_int (pc := 1105) (js := [1]) hC hL hi (b_count E (xs (i + 1))) lwk_24 iX9_count rfl rfl (lwLk_ok _ (List.mem_of_getElem? (i := 48) rfl)) rfl iX10_count rfl rfl (lwLk_ok _ (List.mem_of_getElem? (i := 49) rfl)) rfl lwd_1123 (by decide) hl hroom hI hS kk
theorem lwk_25 : lwCk 1128 [1, 2, 3] 123 126 = true := by decide +kernel
theorem lwd_1166 : decode code 1166 = .ok (.if_icmp .eq 197, 3) := by decide +kernel
theorem lw_case_25 (hC : lwC E p s m meth c b L xs) (hL : L ≤ 3072) {i q1 q2 : Nat} (hi : i + 6 ≤ L)
    (hl : lv_has ls 4 [(0, .ref b), (1, .ref q1), (2, .ref q2), (3, .int (nI i))]) (hroom : kc + 2 ≤ 600000 ∧ ks + 163 ≤ 7302250) (hI : lwI E s.heap.size q1 q2 H) (hS : va_S (fun q => s.heap.size ≤ q) s.heap H locs)
    (kk : ∀ (H' : Heap) (locs' : List Loc), lwI E s.heap.size q1 q2 H' → va_S (fun q => s.heap.size ≤ q) s.heap H' locs' → W p E.1 e room_1 s m #[Value.ref b] below meth c H' locs' (kc + 2) (ks + 163) Q (F0 m 1363 ls [])) : W p E.1 e room_1 s m #[Value.ref b] below meth c H locs kc ks Q (F0 m 1128 ls []) :=
  lw_int (pc := 1128) (js := [1, 2, 3]) hC hL hi (b_sheet E (xs (i + 1)) (xs (i + 2)) (xs (i + 3))) lwk_25 iX9_sheet rfl rfl (lwLk_ok _ (List.mem_of_getElem? (i := 50) rfl)) rfl iX10_sheet rfl rfl (lwLk_ok _ (List.mem_of_getElem? (i := 51) rfl)) rfl lwd_1166 (by decide) hl hroom hI hS kk
theorem lwk_26 : lwCk 1171 [1, 2, 3] 127 130 = true := by decide +kernel
theorem lwd_1209 : decode code 1209 = .ok (.if_icmp .eq 154, 3) := by decide +kernel
theorem lw_case_26 (hC : lwC E p s m meth c b L xs) (hL : L ≤ 3072) {i q1 q2 : Nat} (hi : i + 6 ≤ L)
    (hl : lv_has ls 4 [(0, .ref b), (1, .ref q1), (2, .ref q2), (3, .int (nI i))]) (hroom : kc + 2 ≤ 600000 ∧ ks + 163 ≤ 7302250) (hI : lwI E s.heap.size q1 q2 H) (hS : va_S (fun q => s.heap.size ≤ q) s.heap H locs)
    (kk : ∀ (H' : Heap) (locs' : List Loc), lwI E s.heap.size q1 q2 H' → va_S (fun q => s.heap.size ≤ q) s.heap H' locs' → W p E.1 e room_1 s m #[Value.ref b] below meth c H' locs' (kc + 2) (ks + 163) Q (F0 m 1363 ls [])) : W p E.1 e room_1 s m #[Value.ref b] below meth c H locs kc ks Q (F0 m 1171 ls []) :=
  lw_int (pc := 1171) (js := [1, 2, 3]) hC hL hi (b_cell E (xs (i + 1)) (xs (i + 2)) (xs (i + 3))) lwk_26 iX9_cell rfl rfl (lwLk_ok _ (List.mem_of_getElem? (i := 52) rfl)) rfl iX10_cell rfl rfl (lwLk_ok _ (List.mem_of_getElem? (i := 53) rfl)) rfl lwd_1209 (by decide) hl hroom hI hS kk
theorem lwk_27 : lwCk 1214 [1, 2, 3, 4, 5] 131 135 = true := by decide +kernel
theorem lwd_1272 : decode code 1272 = .ok (.if_icmp .eq 91, 3) := by decide +kernel
theorem lw_case_27 (hC : lwC E p s m meth c b L xs) (hL : L ≤ 3072) {i q1 q2 : Nat} (hi : i + 6 ≤ L)
    (hl : lv_has ls 4 [(0, .ref b), (1, .ref q1), (2, .ref q2), (3, .int (nI i))]) (hroom : kc + 2 ≤ 600000 ∧ ks + 163 ≤ 7302250) (hI : lwI E s.heap.size q1 q2 H) (hS : va_S (fun q => s.heap.size ≤ q) s.heap H locs)
    (kk : ∀ (H' : Heap) (locs' : List Loc), lwI E s.heap.size q1 q2 H' → va_S (fun q => s.heap.size ≤ q) s.heap H' locs' → W p E.1 e room_1 s m #[Value.ref b] below meth c H' locs' (kc + 2) (ks + 163) Q (F0 m 1363 ls [])) : W p E.1 e room_1 s m #[Value.ref b] below meth c H locs kc ks Q (F0 m 1214 ls []) :=
  lw_int (pc := 1214) (js := [1, 2, 3, 4, 5]) hC hL hi (b_copy E (xs (i + 1)) (xs (i + 2)) (xs (i + 3)) (xs (i + 4)) (xs (i + 5))) lwk_27 iX9_copy rfl rfl (lwLk_ok _ (List.mem_of_getElem? (i := 54) rfl)) rfl iX10_copy rfl rfl (lwLk_ok _ (List.mem_of_getElem? (i := 55) rfl)) rfl lwd_1272 (by decide) hl hroom hI hS kk
theorem lwk_28 : lwCk 1277 [1, 2, 3, 4] 136 139 = true := by decide +kernel
theorem lwd_1325 : decode code 1325 = .ok (.if_icmp .eq 38, 3) := by decide +kernel
theorem lw_case_28 (hC : lwC E p s m meth c b L xs) (hL : L ≤ 3072) {i q1 q2 : Nat} (hi : i + 6 ≤ L)
    (hl : lv_has ls 4 [(0, .ref b), (1, .ref q1), (2, .ref q2), (3, .int (nI i))]) (hroom : kc + 2 ≤ 600000 ∧ ks + 163 ≤ 7302250) (hI : lwI E s.heap.size q1 q2 H) (hS : va_S (fun q => s.heap.size ≤ q) s.heap H locs)
    (kk : ∀ (H' : Heap) (locs' : List Loc), lwI E s.heap.size q1 q2 H' → va_S (fun q => s.heap.size ≤ q) s.heap H' locs' → W p E.1 e room_1 s m #[Value.ref b] below meth c H' locs' (kc + 2) (ks + 163) Q (F0 m 1363 ls [])) : W p E.1 e room_1 s m #[Value.ref b] below meth c H locs kc ks Q (F0 m 1277 ls []) :=
  lw_int (pc := 1277) (js := [1, 2, 3, 4]) hC hL hi (b_tenths E (xs (i + 1)) (xs (i + 2)) (xs (i + 3)) (xs (i + 4))) lwk_28 iX9_tenths rfl rfl (lwLk_ok _ (List.mem_of_getElem? (i := 56) rfl)) rfl iX10_tenths rfl rfl (lwLk_ok _ (List.mem_of_getElem? (i := 57) rfl)) rfl lwd_1325 (by decide) hl hroom hI hS kk
theorem lwk_29 : lwCk 1330 [1, 2] 140 143 = true := by decide +kernel
theorem lwd_1358 : decode code 1358 = .ok (.if_icmp .eq 5, 3) := by decide +kernel
theorem lw_case_29 (hC : lwC E p s m meth c b L xs) (hL : L ≤ 3072) {i q1 q2 : Nat} (hi : i + 6 ≤ L)
    (hl : lv_has ls 4 [(0, .ref b), (1, .ref q1), (2, .ref q2), (3, .int (nI i))]) (hroom : kc + 2 ≤ 600000 ∧ ks + 163 ≤ 7302250) (hI : lwI E s.heap.size q1 q2 H) (hS : va_S (fun q => s.heap.size ≤ q) s.heap H locs)
    (kk : ∀ (H' : Heap) (locs' : List Loc), lwI E s.heap.size q1 q2 H' → va_S (fun q => s.heap.size ≤ q) s.heap H' locs' → W p E.1 e room_1 s m #[Value.ref b] below meth c H' locs' (kc + 2) (ks + 163) Q (F0 m 1363 ls [])) : W p E.1 e room_1 s m #[Value.ref b] below meth c H locs kc ks Q (F0 m 1330 ls []) :=
  lw_int (pc := 1330) (js := [1, 2]) hC hL hi (b_taken E (xs (i + 1)) (xs (i + 2))) lwk_29 iX9_taken rfl rfl (lwLk_ok _ (List.mem_of_getElem? (i := 58) rfl)) rfl iX10_taken rfl rfl (lwLk_ok _ (List.mem_of_getElem? (i := 59) rfl)) rfl lwd_1358 (by decide) hl hroom hI hS kk
end LV
