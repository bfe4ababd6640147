-- THE LAW: the class's world and the model's lie apart in the heap; a call to one of them leaves the other as it was
def lw2 (E : gEnv) (sz : Nat) (u v : gS) (ad bd : Nat → Nat) (H : Heap) : Prop :=
  (va_P E.2.1 vwCl (gW E.2.2.1 ad u) H ∧ va_D (fun q => sz ≤ q) (gW E.2.2.1 ad u) ∧ gok u ∧ ∀ k, 1000 ≤ k → ad k = E.2.2.2 k) ∧
  (va_P E.2.1 vwCl (gW E.2.2.1 bd v) H ∧ va_D (fun q => sz ≤ q) (gW E.2.2.1 bd v) ∧ gok v ∧ ∀ k, 1000 ≤ k → bd k = E.2.2.2 k) ∧
  ∀ i j, i < u.1 → j < v.1 → ad i ≠ bd j
theorem lw2.swap {E : gEnv} {sz : Nat} {u v : gS} {ad bd : Nat → Nat} {H : Heap} (h : lw2 E sz u v ad bd H) : lw2 E sz v u bd ad H := ⟨h.2.1, h.1, fun i j hi hj e => h.2.2 j i hj hi e.symm⟩
/-- what stays the same on the law's walk -/
def lwC (E : gEnv) (p : Program) (s : State) (m : MethodId) (meth : Method) (c : Code) (b L : Nat) (xs : Nat → Int32) : Prop :=
  lw_At p s m meth c b L xs ∧ va_K E.2.1 vwCl (gty E.2.2.1) s ∧ gX E (fun q => s.heap.size ≤ q) s
section LW
variable {E : gEnv} {p : Program} {e : Env} {s : State} {m : MethodId} {below : List Frame} {meth : Method} {c : Code} {b L : Nat} {xs : Nat → Int32} {H : Heap} {locs : List Loc} {kc ks pc : Nat} {ls : Array Slot} {Q : State → Prop}
theorem lwC.ts (hC : lwC E p s m meth c b L xs) : ∀ w ∈ gT, w.before #[Value.ref b] s = true := fun w hw => hC.1.2.2.2.2.2.1 w (List.mem_filter.mp hw).1
theorem lw_sub {ad : Nat → Nat} {u : gS} (hD : va_D (fun q => s.heap.size ≤ q) (gW E.2.2.1 ad u)) (hS : va_S (fun q => s.heap.size ≤ q) s.heap H locs) : ∀ q, gA ad u.1 H.size q → s.heap.size ≤ q := by
  intro q hq
  rcases hq with ⟨k, hk, rfl⟩ | hq
  · exact hD.2 k _ (gW_at hk)
  · exact Nat.le_trans hS.1 hq
theorem lw_pre {ad : Nat → Nat} {u : gS} {av : List Value} (hC : lwC E p s m meth c b L xs) (h1 : va_P E.2.1 vwCl (gW E.2.2.1 ad u) H ∧ va_D (fun q => s.heap.size ≤ q) (gW E.2.2.1 ad u) ∧ gok u ∧ ∀ k, 1000 ≤ k → ad k = E.2.2.2 k) (hS : va_S (fun q => s.heap.size ≤ q) s.heap H locs) : PreS s H (gPc E ad H.size av u) (av.map (gcv ad)) := by
  obtain ⟨-, hK, hX⟩ := hC
  obtain ⟨a2, a3, a5, -⟩ := h1
  refine ⟨fun a U g mk q => ?_, fun U hU hW => ?_⟩
  · obtain ⟨q1, q2, q3, q4, q5, q6, q7⟩ := q
    exact ⟨q1, q2, q3, q4, q5, va_K.moved (u := U) (U := U.calling g mk a) (Vm.Alike.refl U.vm) q6, gX.same (u := U) (U := U.calling g mk a) rfl rfl q7⟩
  · exact ⟨rfl, by rw [hU], by rw [hU]; exact a2, a3.weaken (fun _ _ _ _ => trivial), a5, va_K.moved hW.alike hK, hX.go hW hU hS (lw_sub a3 hS)⟩
/-- behind a call -/
theorem lw_go {ad bd : Nat → Nat} {u v : gS} {mc1 ms1 : Nat} {st0 r : List Value} {post1 : Option Value → gS → Prop} {a : Array Value}
    (hr : va_Run p E.1 e room_1 s m #[Value.ref b] below meth c H locs kc ks mc1 ms1 (F0 m pc ls st0) r (gQc E ad u.1 H.size mc1 post1 a) (gA ad u.1 H.size))
    (h2 : lw2 E s.heap.size u v ad bd H) (hS : va_S (fun q => s.heap.size ≤ q) s.heap H locs)
    (kk : ∀ w u' ad' H' locs', post1 w u' → (∀ k, k < u.1 → ad' k = ad k) → u.1 ≤ u'.1 → lw2 E s.heap.size u' v ad' bd H' → va_S (fun q => s.heap.size ≤ q) s.heap H' locs' →
      W p E.1 e room_1 s m #[Value.ref b] below meth c H' locs' (kc + mc1) (ks + ms1) Q (F0 m (pc + 3) ls ((w.map (gcv ad')).toList ++ r))) :
    W p E.1 e room_1 s m #[Value.ref b] below meth c H locs kc ks Q (F0 m pc ls st0) := by
  obtain ⟨⟨a2, a3, a5, a0⟩, ⟨b2, b3, b5, b0⟩, hap⟩ := h2
  intro T hT X
  obtain ⟨v0, st₀, t, T', Lc, h0, X', hL, e1, e2, ⟨⟨w, u', ad', hv, ⟨hag, hag0⟩, hn, hp, hP', hD', hok'⟩, hz, hkp⟩, st⟩ := hr T hT X
  cases hv
  rw [h0] at hz hkp
  have hsub := lw_sub (E := E) a3 hS
  have hS' : va_S (fun q => s.heap.size ≤ q) s.heap T'.heap (locs ++ Lc) := ⟨Nat.le_trans hS.1 (by rw [e1]; exact hz), fun q h1 h2 => by rw [e1, hkp q (Nat.lt_of_lt_of_le h1 hS.1) (fun z => h2 (hsub q z))]; exact hS.2.1 q h1 h2, fun q hq => by
      rcases List.mem_append.mp hq with h | h
      · exact hS.2.2 q h
      · exact hsub _ (hL q h)⟩
  have hlt : ∀ j, j < v.1 → bd j < H.size ∧ ¬ gA ad u.1 H.size (bd j) := fun j hj => by
    have hl : bd j < H.size := (b2 j _ (gW_at hj)).lt
    refine ⟨hl, ?_⟩
    rintro (⟨k, hk, ek⟩ | h)
    · exact hap k j hk hj ek.symm
    · exact absurd hl (Nat.not_lt.mpr h)
  have hP2 : va_P E.2.1 vwCl (gW E.2.2.1 bd v) T'.heap := fun k q hq => by
    obtain ⟨hk, rfl⟩ := gW_lt hq
    exact (b2 k _ hq).kept (by rw [e1]; exact hkp _ (hlt k hk).1 (hlt k hk).2)
  have hap' : ∀ i j, i < u'.1 → j < v.1 → ad' i ≠ bd j := fun i j hi hj ee => by
    have h3 := hD'.2 i _ (gW_at hi)
    dsimp only at h3
    rw [ee] at h3
    exact (hlt j hj).2 h3
  have K := kk w u' ad' T'.heap (locs ++ Lc) hp (fun k hk => hag k (Or.inl hk)) hn ⟨⟨by rw [e1]; exact hP', hD'.weaken (fun _ _ _ z => hsub _ z), hok', fun k hk => by rw [hag k (Or.inr hk)]; exact a0 k hk⟩, ⟨hP2, b3, b5, b0⟩, hap'⟩ hS'
  obtain ⟨t2, s1, b1⟩ := K T' rfl X'
  refine ⟨t2, st t2 ?_, b1⟩
  cases w <;> exact s1
theorem cat_o (w : Option Value) (f : Value → Value) : ((w.map f).toList.map fun v => v.category).sum ≤ 8 := by
  cases w with
  | none => exact Nat.zero_le _
  | some v =>
    show (f v).category + 0 ≤ 8
    cases f v <;> first | exact (by decide : (1 : Nat) + 0 ≤ 8) | exact (by decide : (2 : Nat) + 0 ≤ 8)
/-- a call of a method of an object -/
theorem lw_callV (hC : lwC E p s m meth c b L xs) {y index d1 mc1 ms1 ci : Nat} {q : gM} {cq : vw_C} {u v : gS} {ad bd : Nat → Nat} {post : Option Value → gS → Prop} {As rest : List Value}
    (hy : gMt[y]? = some q) (hkd : q.2.2.2.2.1 = 1) (hcq : vwCl[ci]? = some cq) (hce : cq.1 = q.1.cls) (hsh : u.2.1 0 = .inl ci) (hlink : Cond.methodLink R_law index q.1 ∈ gT) (hd : decode code pc = .ok (.invokevirtual index, 3))
    (hctr : gCtr E d1 mc1 ms1 y (.ref 0 :: As) u post) (hd1 : d1 ≤ 100) (hn : As.length = q.2.2.2.2.2.1) (hAs : ∀ f : Nat → Nat, As.map (gcv f) = As) (hls : ls.size = 4) (hrs : (rest.map fun v => v.category).sum ≤ 8) (hroom : kc + mc1 ≤ 600000 ∧ ks + ms1 ≤ 7302250)
    (h2 : lw2 E s.heap.size u v ad bd H) (hS : va_S (fun q => s.heap.size ≤ q) s.heap H locs)
    (kk : ∀ w u' ad' H' locs', post w u' → (∀ k, k < u.1 → ad' k = ad k) → u.1 ≤ u'.1 → lw2 E s.heap.size u' v ad' bd H' → va_S (fun q => s.heap.size ≤ q) s.heap H' locs' →
      W p E.1 e room_1 s m #[Value.ref b] below meth c H' locs' (kc + mc1) (ks + ms1) Q (F0 m (pc + 3) ls ((w.map (gcv ad')).toList ++ rest))) :
    W p E.1 e room_1 s m #[Value.ref b] below meth c H locs kc ks Q (F0 m pc ls (As.reverse ++ .ref (ad 0) :: rest)) := by
  obtain ⟨hx, hb, hr, hml, hown, hts0, hXs, hbl, hlocks, hgv⟩ := id hC.1
  have hts := lwC.ts hC
  obtain ⟨m1, m2, m3, m4, m5, m6, m7, m8⟩ := gMf hy
  have hPre := lw_pre (av := .ref 0 :: As) hC h2.1 hS
  have hl0 : 0 < u.1 := h2.1.2.2.1.lt (by have := gci hcq; omega) hsh
  have hcell : ∃ cellB : Cell, H[ad 0]? = some cellB ∧ cellB.vm.isStatics = false ∧ s.vm.findClass q.1.cls = some cellB.cls := by
    rw [← hce]
    exact va_recv hC.2.1 h2.1.1 hcq (q0 := 0) (fs := gF ad u ci 0) (by rw [gW_at hl0, gE1_obj hsh])
  have hp2 : (Value.ref 0 :: As).map (gcv ad) = .ref (ad 0) :: As := by rw [List.map_cons, hAs]; rfl
  rw [hp2] at hPre
  have hrun := va_runV (rest := rest) (As := As) (b := ad 0) (g := F0 m pc ls (As.reverse ++ .ref (ad 0) :: rest)) (locs := locs) (cells := kc) (slots := ks) (R := room_1) (e := e) (below := below) (meth := meth) ⟨hx, hb, hml, hown, hts⟩ (hctr q hy ad H.size h2.1.2.2.2) (cwV (C := q.1.cls) q.2.2.2.2.2.1 hts (gGood (fun w hw => by
      unfold wsV at hw
      rcases List.mem_append.mp hw with hw | hw
      · simp only [List.mem_cons, List.not_mem_nil, or_false] at hw
        rcases hw with rfl | rfl | rfl | rfl
        · exact hlink
        · exact (m4 hkd).1
        · exact (m4 hkd).2
        · exact m2
      · exact gGoodq hy w hw)) rfl rfl rfl ⟨rfl, m7.1, m7.2.1, m7.2.2⟩ ⟨by show d1 + 1 ≤ 2048; omega, by show 8 + (q.2.2.1 + 11) + 40 * d1 ≤ 84000; omega⟩) ⟨hPre.1, hcell, hPre.2⟩ rfl hn hls rfl (lv_room hrs) hd hroom
  exact lw_go hrun h2 hS kk
/-- the receiver and the script's numbers on the stack -/
def lwLd (pc j : Nat) : Bool := decide (decode code pc = .ok (.aload_n 0, 1)) && (decide (decode code (pc + 1) = .ok (.iload_n 3, 1)) && (decide (decode code (pc + 2) = .ok (.iconst (j : Int), 1)) && (decide (decode code (pc + 3) = .ok (.iadd, 1)) && (decide (decode code (pc + 4) = .ok (.iaload, 1)) && Nat.blt j 6))))
def lwLds : Nat → List Nat → Bool
  | _, [] => true
  | pc, j :: js => lwLd pc j && lwLds (pc + 5) js
theorem lw_j : ∀ j : Nat, j < 6 → Int32.ofInt (j : Int) = nI j := by
  have : ∀ j : Fin 6, Int32.ofInt ((j.val : Nat) : Int) = nI j.val := by decide
  exact fun j hj => this ⟨j, hj⟩
theorem lw_ld (hC : lwC E p s m meth c b L xs) {j i q1 q2 : Nat} {st : List Value} (hk : lwLd pc j = true) (hi : i + 6 ≤ L) (hL : L ≤ 3072) (hl : lv_has ls 4 [(0, .ref b), (1, .ref q1), (2, .ref q2), (3, .int (nI i))]) (hS : va_S (fun q => s.heap.size ≤ q) s.heap H locs)
    (kk : W p E.1 e room_1 s m #[Value.ref b] below meth c H locs kc ks Q (F0 m (pc + 5) ls (.int (xs (i + j)) :: st))) : W p E.1 e room_1 s m #[Value.ref b] below meth c H locs kc ks Q (F0 m pc ls st) := by
  obtain ⟨hx, hb, hr, hml, hown, hts0, hXs, hbl, hlocks, hgv⟩ := id hC.1
  unfold lwLd at hk
  simp only [Bool.and_eq_true, decide_eq_true_eq] at hk
  obtain ⟨k0, k1, k2, k3, k4, k5⟩ := hk
  have hj : j < 6 := Nat.le_of_ble_eq_true k5
  refine lv_aload_n hx hb k0 rfl (lv_at hl 0 rfl) ?_
  refine lv_iload_n hx hb k1 rfl (lv_at hl 3 rfl) ?_
  refine lv_iconst (v := nI j) hx hb k2 (lw_j j hj) ?_
  refine lv_iadd hx hb k3 ?_
  rw [nI_add]
  refine va_sld hx hb hXs hbl (Nat.not_le.mpr hbl) hS (vp_in_nI (by omega) (by omega)) k4 ?_
  rw [nI_clamp (by omega)]
  exact kk
theorem lw_lds (hC : lwC E p s m meth c b L xs) {i q1 q2 : Nat} (hi : i + 6 ≤ L) (hL : L ≤ 3072) (hl : lv_has ls 4 [(0, .ref b), (1, .ref q1), (2, .ref q2), (3, .int (nI i))]) (hS : va_S (fun q => s.heap.size ≤ q) s.heap H locs) :
    ∀ (js : List Nat) (pc : Nat) (st : List Value), lwLds pc js = true → W p E.1 e room_1 s m #[Value.ref b] below meth c H locs kc ks Q (F0 m (pc + 5 * js.length) ls ((js.map (fun j => Value.int (xs (i + j)))).reverse ++ st)) → W p E.1 e room_1 s m #[Value.ref b] below meth c H locs kc ks Q (F0 m pc ls st) := by
  intro js
  induction js with
  | nil => intro pc st _ kk; exact kk
  | cons j js ih =>
    intro pc st hk kk
    unfold lwLds at hk
    rw [Bool.and_eq_true] at hk
    refine lw_ld hC hk.1 hi hL hl hS ?_
    refine ih (pc + 5) _ hk.2 ?_
    rw [List.map_cons, List.reverse_cons, List.append_assoc] at kk
    have e1 : pc + 5 * (j :: js).length = pc + 5 + 5 * js.length := by rw [List.length_cons]; omega
    rw [e1] at kk
    exact kk
/-- both sides as the law keeps them -/
def lwI (E : gEnv) (sz q1 q2 : Nat) (H : Heap) : Prop := ∃ (c : Nat) (ln : Nat → Nat) (I : Nat → Nat → Int32) (L : Nat → Nat → Int64) (J : Nat → Nat → Int32) (M : Nat → Nat → Int64) (ad bd : Nat → Nat), (ad 0 = q1 ∧ bd 0 = q2) ∧ lw2 E sz (wX c ln I L) (wM J M) ad bd H ∧ Rel c ln I L J ∧ relZ I L
/-- a method called on both sides -/
theorem lw_both {α : Type} {mk : α → Value} (hmk : ∀ (f : Nat → Nat) (r : α), gcv f (mk r) = mk r) (hC : lwC E p s m meth c b L xs) {yx ym ix im i q1 q2 len : Nat} {qx qm : gM} {As : List Value} (hB : gB mk E yx ym As)
    (hx1 : gMt[yx]? = some qx) (hx2 : qx.2.2.2.2.1 = 1) (hx3 : RX9 = qx.1.cls) (hx4 : Cond.methodLink R_law ix qx.1 ∈ gT) (hx5 : As.length = qx.2.2.2.2.2.1)
    (hm1 : gMt[ym]? = some qm) (hm2 : qm.2.2.2.2.1 = 1) (hm3 : RX10 = qm.1.cls) (hm4 : Cond.methodLink R_law im qm.1 ∈ gT) (hm5 : As.length = qm.2.2.2.2.2.1) (hAs : ∀ f : Nat → Nat, As.map (gcv f) = As)
    (d1 : decode code pc = .ok (.aload_n 1, 1)) (d2 : decode code (pc + 1 + len) = .ok (.invokevirtual ix, 3)) (d3 : decode code (pc + 4 + len) = .ok (.aload_n 2, 1)) (d4 : decode code (pc + 5 + 2 * len) = .ok (.invokevirtual im, 3))
    (hl : lv_has ls 4 [(0, .ref b), (1, .ref q1), (2, .ref q2), (3, .int (nI i))]) (hroom : kc + 2 ≤ 600000 ∧ ks + 163 ≤ 7302250)
    (ld : ∀ (H : Heap) (locs : List Loc) (kc ks t : Nat) (st : List Value), t = pc + 1 ∨ t = pc + 5 + len → va_S (fun q => s.heap.size ≤ q) s.heap H locs → W p E.1 e room_1 s m #[Value.ref b] below meth c H locs kc ks Q (F0 m (t + len) ls (As.reverse ++ st)) → W p E.1 e room_1 s m #[Value.ref b] below meth c H locs kc ks Q (F0 m t ls st))
    (hI : lwI E s.heap.size q1 q2 H) (hS : va_S (fun q => s.heap.size ≤ q) s.heap H locs)
    (kk : ∀ (r : α) (H' : Heap) (locs' : List Loc), lwI E s.heap.size q1 q2 H' → va_S (fun q => s.heap.size ≤ q) s.heap H' locs' → W p E.1 e room_1 s m #[Value.ref b] below meth c H' locs' (kc + 2) (ks + 163) Q (F0 m (pc + 8 + 2 * len) ls [mk r, mk r])) :
    W p E.1 e room_1 s m #[Value.ref b] below meth c H locs kc ks Q (F0 m pc ls []) := by
  obtain ⟨hx, hb, hr, hml, hown, hts0, hXs, hbl, hlocks, hgv⟩ := id hC.1
  obtain ⟨c0, ln, I, Lx, J, M, ad, bd, ⟨rfl, rfl⟩, h2, hR, hZ⟩ := hI
  obtain ⟨e1, e2, mc, ms, px, pm, ⟨g1, g2, g3, g4⟩, cx, cm, hpost⟩ := hB c0 ln I Lx J M hR hZ
  refine lv_aload_n hx hb d1 rfl (lv_at hl 1 rfl) ?_
  refine ld H locs kc ks (pc + 1) _ (Or.inl rfl) hS ?_
  refine lw_callV (ci := 9) (cq := (RX9, TX9, 9)) hC hx1 hx2 rfl hx3 rfl hx4 d2 cx g1 hx5 hAs hl.1 (rest := []) (Nat.zero_le _) ⟨by omega, by omega⟩ h2 hS ?_
  intro w u' ad' H' locs' hpx hag hun h2' hS'
  refine lv_aload_n hx hb (show decode code (pc + 1 + len + 3) = _ by rw [show pc + 1 + len + 3 = pc + 4 + len by omega]; exact d3) rfl (lv_at hl 2 rfl) ?_
  rw [show pc + 1 + len + 3 + 1 = pc + 5 + len by omega]
  refine ld H' locs' _ _ (pc + 5 + len) _ (Or.inr rfl) hS' ?_
  rw [show pc + 5 + len + len = pc + 5 + 2 * len by omega]
  refine lw_callV (ci := 10) (cq := (RX10, TX10, 55)) hC hm1 hm2 rfl hm3 rfl hm4 d4 cm g2 hm5 hAs hl.1 (rest := (w.map (gcv ad')).toList ++ []) (by rw [List.append_nil]; exact cat_o w _) ⟨by omega, by omega⟩ h2'.swap hS' ?_
  intro w' v' bd' H'' locs'' hpm hag' hvn h2'' hS''
  obtain ⟨r, c', ln', I', L', J', M', ⟨rfl, rfl⟩, ⟨rfl, rfl⟩, hR', hZ'⟩ := hpost w u' w' v' hpx hpm
  refine W.widen (k := kc + 2) (n := ks + 163) (by omega) (by omega) ?_
  have K := kk r H'' locs'' ⟨c', ln', I', L', J', M', ad', bd', ⟨hag 0 (show 0 < 41 + 2 * c0 by omega), hag' 0 (show 0 < 25 by omega)⟩, h2''.swap, hR', hZ'⟩ hS''
  rw [show pc + 5 + 2 * len + 3 = pc + 8 + 2 * len by omega]
  show W p E.1 e room_1 s m #[Value.ref b] below meth c H'' locs'' (kc + 2) (ks + 163) Q (F0 m (pc + 8 + 2 * len) ls [gcv bd' (mk r), gcv ad' (mk r)])
  rw [hmk, hmk]
  exact K
end LW
