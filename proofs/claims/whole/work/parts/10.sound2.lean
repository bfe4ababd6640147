/-- what the list of methods says of one -/
theorem gMf {y : Nat} {q : gM} (h : gMt[y]? = some q) : Cond.code q.1 q.2.1 q.2.2.1 q.2.2.2.1 ∈ gT ∧ Cond.initialized q.1.cls ∈ gT ∧ (q.2.2.2.2.1 = 0 → Cond.static q.1 ∈ gT) ∧ (q.2.2.2.2.1 = 1 → Cond.instanceMethod q.1 ∈ gT ∧ Cond.selects q.1.cls q.1 q.1 ∈ gT) ∧ (q.2.2.2.2.1 = 2 → Cond.instanceMethod q.1 ∈ gT ∧ q.1.name = "<init>" ∧ q.2.2.2.1 = none) ∧ plainName q.1.cls = true ∧ (q.1.cls ≠ "java/lang/invoke/MethodHandle" ∧ q.1.cls ≠ "java/lang/invoke/VarHandle" ∧ (parseMethodDescriptor q.1.desc).map (fun d => d.parameters.length) = some q.2.2.2.2.2.1) ∧ q.2.2.1 ≤ 21 := by
  obtain ⟨h1, h2⟩ := gMt_ok q (List.mem_of_getElem? h)
  obtain ⟨y, b, ml, rt, kd, np, ps⟩ := q
  unfold gMok at h2
  dsimp only at h1 h2 ⊢
  split at h2
  · rename_i p0 p2 p3 p4
    simp only [Bool.and_eq_true, decide_eq_true_eq] at h2
    obtain ⟨⟨⟨e1, e2⟩, e3⟩, e4⟩ := h2
    refine ⟨h1, gat_mem e1, fun hk => ?_, fun hk => ?_, fun hk => ?_, e3.1, e3.2, Nat.le_of_ble_eq_true e4⟩
    · subst hk; exact gat_mem e2
    · subst hk
      simp only [Bool.and_eq_true] at e2
      exact ⟨gat_mem e2.1, gat_mem e2.2⟩
    · subst hk
      simp only [Bool.and_eq_true, decide_eq_true_eq] at e2
      exact ⟨gat_mem e2.1.1, e2.1.2, e2.2⟩
  · cases h2
theorem gGood {ws : List Cond} (h : ∀ w ∈ ws, w ∈ gT) : GoodIn gT ws := fun w hw => ⟨h w hw, good_of_word (List.mem_filter.mp (h w hw)).2⟩
theorem gGoodq {y : Nat} {q : gM} (h : gMt[y]? = some q) : ∀ w ∈ gws q, w ∈ gT := fun w hw => by
  rcases List.mem_cons.mp hw with e | e
  · rw [e]; exact (gMf h).1
  · exact e
theorem gRoom {d d1 mc ms mc1 ms1 ml : Nat} (h : d1 < d) (hm : ml ≤ 21) : (gRm d1 mc1 ms1).frames + 1 ≤ (gRm d mc ms).frames ∧ 8 + (ml + 11) + (gRm d1 mc1 ms1).locals ≤ (gRm d mc ms).locals := by
  refine ⟨h, ?_⟩
  show 8 + (ml + 11) + 40 * d1 ≤ 40 * d
  omega
section GC
variable {E : gEnv} {p : Program} {e : Env} {s : State} {m : MethodId} {args : Array Value} {below : List Frame} {meth : Method} {c : Code} {own : String} {cc : ByteArray} {nL d mc ms : Nat} {ret : Option FieldType} {ini : Bool} {ad0 : Nat → Nat} {n0 : Nat} {Q : State → Prop}
theorem gA_sub {ad : Nat → Nat} {u : gS} {H : Heap} {locs : List Loc} {A : Nat → Prop} (hA : ∀ q, s.heap.size ≤ q → A q) (a3 : va_D A (gW E.2.2.1 ad u)) (a4 : va_S A s.heap H locs) : ∀ q, gA ad u.1 H.size q → A q := by
  intro q hq
  rcases hq with ⟨k, hk, rfl⟩ | hq
  · exact a3.2 k _ (gW_at hk)
  · exact hA q (Nat.le_trans a4.1 hq)
/-- a contract's start holds at a call -/
theorem gPre {ad : Nat → Nat} {av : List Value} {u : gS} {H : Heap} {locs : List Loc} (hC : gCx E p s m args meth c own cc nL ret ini (gA ad0 n0 s.heap.size)) (a2 : va_P E.2.1 vwCl (gW E.2.2.1 ad u) H) (a3 : va_D (gA ad0 n0 s.heap.size) (gW E.2.2.1 ad u)) (a4 : va_S (gA ad0 n0 s.heap.size) s.heap H locs) (a5 : gok u) : PreS s H (gPc E ad H.size av u) (av.map (gcv ad)) := by
  obtain ⟨hx, hb, hml, hown, hts, hK, hlk, hrt, hini, hX, hA⟩ := hC
  refine ⟨fun a U g mk q => ?_, fun U hU hW => ?_⟩
  · obtain ⟨q1, q2, q3, q4, q5, q6, q7⟩ := q
    exact ⟨q1, q2, q3, q4, q5, va_K.moved (u := U) (U := U.calling g mk a) (Vm.Alike.refl U.vm) q6, gX.same (u := U) (U := U.calling g mk a) rfl rfl q7⟩
  · exact ⟨rfl, by rw [hU], by rw [hU]; exact a2, a3.weaken (fun _ _ _ _ => trivial), a5, va_K.moved hW.alike hK, hX.go hW hU a4 (gA_sub hA a3 a4)⟩
/-- behind a call -/
theorem gcall_go {ad : Nat → Nat} {u : gS} {H : Heap} {locs : List Loc} {ls : Array Slot} {kc ks mc1 ms1 pc : Nat} {lv : gLv} {st0 : List Value} {r : List Value} {post1 : Option Value → gS → Prop} {a : Array Value} (hC : gCx E p s m args meth c own cc nL ret ini (gA ad0 n0 s.heap.size))
    (hr : va_Run p E.1 e (gRm d mc ms) s m args below meth c H locs kc ks mc1 ms1 (F0 m pc ls st0) (r.map (gcv ad)) (gQc E ad u.1 H.size mc1 post1 a) (gA ad u.1 H.size))
    (a1 : (∀ k, k < n0 ∨ 1000 ≤ k → ad k = ad0 k) ∧ (mc = 0 → ad = ad0)) (a3 : va_D (gA ad0 n0 s.heap.size) (gW E.2.2.1 ad u)) (a4 : va_S (gA ad0 n0 s.heap.size) s.heap H locs) (a6 : n0 ≤ u.1) (a7 : gL ad ls nL lv) (a8 : gnd lv)
    (hmc : kc + mc1 ≤ mc) (hrs : mc1 = 0 ∨ ∀ x ∈ grefs lv r, x < u.1 ∨ 1000 ≤ x)
    (kk : ∀ w u', u.1 ≤ u'.1 → post1 w u' → gG E p e (gRm d mc ms) s m args below meth c nL mc (gA ad0 n0 s.heap.size) ad0 n0 Q (kc + mc1) (ks + ms1) (pc + 3) lv (w.toList ++ r) u') :
    W p E.1 e (gRm d mc ms) s m args below meth c H locs kc ks Q (F0 m pc ls st0) := by
  obtain ⟨hx, hb, hml, hown, hts, hK, hlk, hrt, hini, hX, hA⟩ := hC
  intro T hT X
  obtain ⟨v, st₀, t, T', L, h0, X', hL, e1, e2, ⟨⟨w, u', ad', hv, ⟨hag, hag0⟩, hn, hp, hP', hD', hok'⟩, hz, hkp⟩, st⟩ := hr T hT X
  cases hv
  rw [h0] at hz hkp
  have hsub := gA_sub (E := E) hA a3 a4
  have hsame : ∀ x ∈ grefs lv r, ad' x = ad x := fun x hxm => by
    rcases hrs with h | h
    · rw [hag0 h]
    · exact hag x (h x hxm)
  have hS' : va_S (gA ad0 n0 s.heap.size) s.heap T'.heap (locs ++ L) := ⟨Nat.le_trans a4.1 (by rw [e1]; exact hz), fun q h1 h2 => by rw [e1, hkp q (Nat.lt_of_lt_of_le h1 a4.1) (fun z => h2 (hsub q z))]; exact a4.2.1 q h1 h2, fun q hq => by
      rcases List.mem_append.mp hq with h | h
      · exact a4.2.2 q h
      · exact hsub _ (hL q h)⟩
  have K := kk w u' hn hp ad' T'.heap (locs ++ L) ls ⟨fun k hk => by rw [hag k (by omega)]; exact a1.1 k hk, fun h => by rw [hag0 (by omega)]; exact a1.2 h⟩ (by rw [e1]; exact hP') (hD'.weaken (fun _ _ _ z => hsub _ z)) hS' hok' (Nat.le_trans a6 hn) (a7.agree hsame) a8
  obtain ⟨t2, s1, b1⟩ := K T' rfl X'
  refine ⟨t2, st t2 ?_, b1⟩
  rw [List.map_append, gst_agree hsame] at s1
  cases w <;> exact s1
end GC
