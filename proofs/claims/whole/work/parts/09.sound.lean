/-- what stays the same on a method's walk -/
def gCx (E : gEnv) (p : Program) (s : State) (m : MethodId) (args : Array Value) (meth : Method) (c : Code) (own : String) (cc : ByteArray) (nL : Nat) (ret : Option FieldType) (ini : Bool) (A : Nat → Prop) : Prop :=
  p.tables.exec = Jvm.exec ∧ c.code = cc ∧ c.maxLocals = nL ∧ s.vm.findClass own = some m.cls ∧ (∀ w ∈ gT, w.before args s = true) ∧ va_K E.2.1 vwCl (gty E.2.2.1) s ∧ meth.locks = false ∧ meth.sig.returnType = ret ∧ (ini = true → meth.name = "<init>") ∧ gX E A s ∧ (∀ q, s.heap.size ≤ q → A q)
/-- the machine, at a point of the walk, comes to Q -/
def gG (E : gEnv) (p : Program) (e : Env) (R : Room) (s : State) (m : MethodId) (args : Array Value) (below : List Frame) (meth : Method) (c : Code) (nL mc : Nat) (A : Nat → Prop) (ad0 : Nat → Nat) (n0 : Nat) (Q : State → Prop) (kc ks pc : Nat) (lv : gLv) (st : List Value) (u : gS) : Prop :=
  ∀ (ad : Nat → Nat) (H : Heap) (locs : List Loc) (ls : Array Slot), ((∀ k, k < n0 ∨ 1000 ≤ k → ad k = ad0 k) ∧ (mc = 0 → ad = ad0)) → va_P E.2.1 vwCl (gW E.2.2.1 ad u) H → va_D A (gW E.2.2.1 ad u) → va_S A s.heap H locs → gok u → n0 ≤ u.1 → gL ad ls nL lv → gnd lv →
    W p E.1 e R s m args below meth c H locs kc ks Q (F0 m pc ls (st.map (gcv ad)))
theorem g1000 {o : Nat} (h1 : 1000 ≤ o) (h2 : o < 1013) : o - 1000 < 13 ∧ 1000 + (o - 1000) = o := by omega
theorem g1100 {o : Nat} (h1 : 1000 ≤ o) : True ∧ o + 100 = 1100 + (o - 1000) := ⟨trivial, by omega⟩
theorem g1100b {o : Nat} (h1 : 1100 ≤ o) (h2 : o < 1113) : o - 1100 < 13 ∧ 1100 + (o - 1100) = o := by omega
theorem gty_at {cy : Nat → ClassId} {t : Nat} (h : t < 6) : (gty cy)[t]? = some (cy t, gtc t) := by
  unfold gty
  rw [List.getElem?_map, List.getElem?_range h]
  rfl
section GS
variable {E : gEnv} {p : Program} {e : Env} {s : State} {m : MethodId} {args : Array Value} {below : List Frame} {meth : Method} {c : Code} {own : String} {cc : ByteArray} {nL d mc ms : Nat} {ret : Option FieldType} {ini : Bool} {ad0 : Nat → Nat} {n0 : Nat} {post : Option Value → gS → Prop} {k : Nat → Nat → Nat → gLv → List Value → gS → Prop}
theorem gz_getfield {Q : State → Prop} {kc ks pc o a b cw idx : Nat} {lv : gLv} {r : List Value} {u : gS} (hC : gCx E p s m args meth c own cc nL ret ini (gA ad0 n0 s.heap.size))
    (hok : (match vwCl[a]? with
      | some q => Nat.blt b q.2.2 && (decide ((q.2.1 b).1 = q.1) && gat cw (.fieldLink own idx q.1 (q.2.1 b).2.1 (q.2.1 b).2.2.1))
      | none => false) = true) (hd : decode cc pc = .ok (.getfield idx, 3)) (ho : u.2.1 o = .inl a)
    (hg : gG E p e (gRm d mc ms) s m args below meth c nL mc (gA ad0 n0 s.heap.size) ad0 n0 Q kc ks (pc + 3) lv (gv u (gkd (gTy a b)) o b :: r) u) :
    gG E p e (gRm d mc ms) s m args below meth c nL mc (gA ad0 n0 s.heap.size) ad0 n0 Q kc ks pc lv (.ref o :: r) u := by
  obtain ⟨hx, hb, hml, hown, hts, hK, hlk, hrt, hini, hX, hA⟩ := hC
  cases hq : vwCl[a]? with
  | none => rw [hq] at hok; cases hok
  | some q =>
    rw [hq] at hok
    simp only [Bool.and_eq_true, decide_eq_true_eq] at hok
    obtain ⟨h1, h2, h3⟩ := hok
    obtain ⟨g1, g2, g3, g4⟩ := gcl hq
    obtain ⟨C, T, N⟩ := q
    dsimp only at h1 h2 h3 g1 g2 g3 g4
    have hbN : b < N := Nat.le_of_ble_eq_true h1
    intro ad H locs ls a1 a2 a3 a4 a5 a6 a7 a8
    exact va_get (C := C) (T := T) (N := N) (ci := a) hx hb hts g4 hown hK a2 o (by rw [gW_at (a5.lt (by have := gci hq; omega) ho), gE1_obj ho]) hq b hbN (hts _ (gat_mem h3)) (fun z hz => by rw [← h2]; exact hz) (gF_at (by rw [← g1]; exact hbN)) hd (hg ad H locs ls a1 a2 a3 a4 a5 a6 a7 a8)
/-- a store into a field: its rows -/
theorem gz_putfield {Q : State → Prop} {kc ks pc o a b cw idx : Nat} {lv : gLv} {r : List Value} {v : Value} {u u' : gS} (hC : gCx E p s m args meth c own cc nL ret ini (gA ad0 n0 s.heap.size))
    (hok : (match vwCl[a]? with
      | some q => Nat.blt b q.2.2 && (decide ((q.2.1 b).1 = q.1) && (gat cw (.fieldLink own idx q.1 (q.2.1 b).2.1 (q.2.1 b).2.2.1) && (!(q.2.1 b).2.2.2 || (ini && decide (q.1 = own)))))
      | none => false) = true) (hd : decode cc pc = .ok (.putfield idx, 3)) (ho : u.2.1 o = .inl a)
    (hn : ∀ ad : Nat → Nat, narrow (gTy a b) (gcv ad v) = gcv ad v) (hf : ∀ ad : Nat → Nat, fits (gTy a b) (gcv ad v) = true)
    (hu : b < gN a → ∀ ad : Nat → Nat, (gW E.2.2.1 ad u).set o (ad o, .inr (a, (gF ad u a o).set b (gcv ad v))) = gW E.2.2.1 ad u') (hok' : gok u → gok u') (hn1 : u'.1 = u.1)
    (hg : gG E p e (gRm d mc ms) s m args below meth c nL mc (gA ad0 n0 s.heap.size) ad0 n0 Q kc ks (pc + 3) lv r u') :
    gG E p e (gRm d mc ms) s m args below meth c nL mc (gA ad0 n0 s.heap.size) ad0 n0 Q kc ks pc lv (v :: .ref o :: r) u := by
  obtain ⟨hx, hb, hml, hown, hts, hK, hlk, hrt, hini, hX, hA⟩ := hC
  cases hq : vwCl[a]? with
  | none => rw [hq] at hok; cases hok
  | some q =>
    rw [hq] at hok
    simp only [Bool.and_eq_true, decide_eq_true_eq] at hok
    obtain ⟨h1, h2, h3, h4⟩ := hok
    obtain ⟨g1, g2, g3, g4⟩ := gcl hq
    obtain ⟨C, T, N⟩ := q
    dsimp only at h1 h2 h3 h4 g1 g2 g3 g4
    have hbN : b < N := Nat.le_of_ble_eq_true h1
    have hbG : b < gN a := by rw [← g1]; exact hbN
    intro ad H locs ls a1 a2 a3 a4 a5 a6 a7 a8
    have he : (gW E.2.2.1 ad u)[o]? = some (ad o, .inr (a, gF ad u a o)) := by rw [gW_at (a5.lt (by have := gci hq; omega) ho), gE1_obj ho]
    have hkk : ∀ (H1 : Heap) (locs1 : List Loc), va_P E.2.1 vwCl ((gW E.2.2.1 ad u).set o (ad o, .inr (a, (gF ad u a o).set b (gcv ad v)))) H1 → va_D (gA ad0 n0 s.heap.size) ((gW E.2.2.1 ad u).set o (ad o, .inr (a, (gF ad u a o).set b (gcv ad v)))) → va_S (gA ad0 n0 s.heap.size) s.heap H1 locs1 → W p E.1 e (gRm d mc ms) s m args below meth c H1 locs1 kc ks Q (F0 m (pc + 3) ls (r.map (gcv ad))) := by
      intro H1 locs1 b1 b2 b3
      rw [hu hbG ad] at b1 b2
      exact hg ad H1 locs1 ls a1 b1 b2 b3 (hok' a5) (by rw [hn1]; exact a6) a7 a8
    cases hfin : (T b).2.2.2 with
    | false => exact va_put (C := C) (T := T) (N := N) (ci := a) (ty := gTy a b) hx hb hts g4 (gTy a) g2 g3 hown hK a2 a3 a4 o he hq b hbN (hts _ (gat_mem h3)) (fun z hz => by rw [← h2]; exact hz) hfin (g2 b hbN) (hn ad) (hf ad) (by rw [gF_len]; exact hbG) hd hkk
    | true =>
      rw [hfin] at h4
      simp only [Bool.not_true, Bool.false_or, Bool.and_eq_true, decide_eq_true_eq] at h4
      exact va_putF (C := C) (T := T) (N := N) (ci := a) (ty := gTy a b) hx hb hts g4 (gTy a) g2 g3 hown hK a2 a3 a4 o he hq b hbN (hts _ (gat_mem h3)) (fun z hz => by rw [← h2]; exact hz) hfin (hini h4.1) (by rw [h2, h4.2]) (g2 b hbN) (hn ad) (hf ad) (by rw [gF_len]; exact hbG) hd hkk
theorem gnz {ad : Nat → Nat} {x : Int32} (h : x = 0 ∨ x = 1) : narrow .boolean (gcv ad (.int x)) = gcv ad (.int x) := by
  rcases h with h | h <;> (rw [h]; show narrow .boolean (.int _) = Value.int _; decide)
theorem gfz {ad : Nat → Nat} {x : Int32} (h : x = 0 ∨ x = 1) : fits .boolean (gcv ad (.int x)) = true := by
  rcases h with h | h <;> (rw [h]; show fits .boolean (.int _) = true; decide)
theorem gz_I (a b : Nat) (h : gfk (gTy a b) = 0) : gTy a b = .int := by
  unfold gfk at h
  split at h <;> first | assumption | cases h
theorem gz_L (a b : Nat) (h : gfk (gTy a b) = 1) : gTy a b = .long := by
  unfold gfk at h
  split at h <;> first | assumption | cases h
theorem gz_Z (a b : Nat) (h : gfk (gTy a b) = 3) : gTy a b = .boolean := by
  unfold gfk at h
  split at h <;> first | assumption | cases h
theorem gz_R (a b : Nat) (h : gfk (gTy a b) = 2) : (∃ n, gTy a b = .object n) ∨ ∃ t, gTy a b = .array t := by
  unfold gfk at h
  split at h <;> first | exact Or.inl ⟨_, by assumption⟩ | exact Or.inr ⟨_, by assumption⟩ | cases h
theorem gok_I {n : Nat} {sh : Nat → gSh} {I I' : Nat → Nat → Int32} {L L' : Nat → Nat → Int64} {R : Nat → Nat → Option Nat} (h : gok (n, sh, I, L, R)) : gok (n, sh, I', L', R) := h
theorem gok_R {n : Nat} {sh : Nat → gSh} {I : Nat → Nat → Int32} {L : Nat → Nat → Int64} {R : Nat → Nat → Option Nat} {o b x : Nat} (h : gok (n, sh, I, L, R)) (hx : x < n ∨ 1000 ≤ x) : gok (n, sh, I, L, gset R o (gupd (R o) b (some x))) := by
  refine ⟨h.1, fun k j r hr => ?_, h.2.2⟩
  dsimp only at hr ⊢
  by_cases hk : k = o
  · subst hk
    rw [gset_s] at hr
    by_cases hj : j = b
    · subst hj; rw [gupd_s] at hr; cases hr; exact hx
    · rw [gupd_n hj] at hr; exact h.2.1 k j r hr
  · rw [gset_n hk] at hr; exact h.2.1 k j r hr
/-- the instructions that are walked apart: news, returns, calls, texts -/
def gIvI (ins : Instr) : Bool := match ins with
  | .new _ => true
  | .newarray _ => true
  | .anewarray _ => true
  | .ireturn => true
  | .lreturn => true
  | .areturn => true
  | .return_ => true
  | .invokevirtual _ => true
  | .invokestatic _ => true
  | .invokespecial _ => true
  | .ldc _ => true
  | _ => false
def gIv (C : List gI) (ca : Nat → List Value → List Nat → gS → Nat → Nat → (Nat → Nat → Option Value → gS → Prop) → Prop) (d : Nat) (ret : Option FieldType) (post : Option Value → gS → Prop) (mc ms : Nat) (k : Nat → Nat → Nat → gLv → List Value → gS → Prop) (kc ks pc : Nat) (lv : gLv) (st : List Value) (u : gS) : Prop :=
  ∃ q : Nat × Instr × (Nat × Nat × Nat) × Value × List (Int32 × Nat), gfind C pc = some q ∧ gIvI q.2.1 = true ∧ gstp C ca d ret post mc ms k kc ks pc lv st u
set_option maxHeartbeats 4000000 in
/-- every instruction does what gstp says: pure ones, fields, arrays -/
theorem gstp_one {C : List gI} {ca : Nat → List Value → List Nat → gS → Nat → Nat → (Nat → Nat → Option Value → gS → Prop) → Prop} (h00 : ∀ k, 1000 ≤ k → ad0 k = E.2.2.2 k) (hC : gCx E p s m args meth c own cc nL ret ini (gA ad0 n0 s.heap.size)) (hT : ∀ r ∈ C, gchk own cc nL ret ini r = true)
    (hk : ∀ kc ks pc lv st u, k kc ks pc lv st u → gG E p e (gRm d mc ms) s m args below meth c nL mc (gA ad0 n0 s.heap.size) ad0 n0 (MQ below (gQc E ad0 n0 s.heap.size mc post) args s mc ms (gA ad0 n0 s.heap.size)) kc ks pc lv st u)
    (hI : ∀ kc ks pc lv st u, gIv C ca d ret post mc ms k kc ks pc lv st u → gG E p e (gRm d mc ms) s m args below meth c nL mc (gA ad0 n0 s.heap.size) ad0 n0 (MQ below (gQc E ad0 n0 s.heap.size mc post) args s mc ms (gA ad0 n0 s.heap.size)) kc ks pc lv st u)
    {kc ks pc : Nat} {lv : gLv} {st : List Value} {u : gS} (h : gstp C ca d ret post mc ms k kc ks pc lv st u) :
    gG E p e (gRm d mc ms) s m args below meth c nL mc (gA ad0 n0 s.heap.size) ad0 n0 (MQ below (gQc E ad0 n0 s.heap.size mc post) args s mc ms (gA ad0 n0 s.heap.size)) kc ks pc lv st u := by
  have hs := h
  obtain ⟨hx, hb, hml, hown, hts, hK, hlk, hrt, hini, hX, hA⟩ := id hC
  unfold gstp at h
  cases hf : gfind C pc with
  | none => rw [hf] at h; exact h.elim
  | some q =>
    obtain ⟨nx, ins, ⟨a, b, cw⟩, v, sw⟩ := q
    rw [hf] at h
    dsimp only at h
    have hok := hT _ (gfind_mem hf)
    unfold gchk at hok
    dsimp only at hok
    have hd : decode cc pc = .ok (ins, nx - pc) := by
      rw [Bool.and_eq_true] at hok
      exact of_decide_eq_true hok.1
    cases ins with
    | iconst n =>
      obtain ⟨rfl, hv⟩ := gk2 hok
      subst hv
      intro ad H locs ls a1 a2 a3 a4 a5 a6 a7 a8
      exact lv_iconst hx hb (by simpa using hd) rfl (hk _ _ _ _ _ _ h ad H locs ls a1 a2 a3 a4 a5 a6 a7 a8)
    | bipush n =>
      obtain ⟨rfl, hv⟩ := gk2 hok
      subst hv
      intro ad H locs ls a1 a2 a3 a4 a5 a6 a7 a8
      exact lv_bipush hx hb (by simpa using hd) rfl (hk _ _ _ _ _ _ h ad H locs ls a1 a2 a3 a4 a5 a6 a7 a8)
    | sipush n =>
      obtain ⟨rfl, hv⟩ := gk2 hok
      subst hv
      intro ad H locs ls a1 a2 a3 a4 a5 a6 a7 a8
      exact lv_sipush hx hb (by simpa using hd) rfl (hk _ _ _ _ _ _ h ad H locs ls a1 a2 a3 a4 a5 a6 a7 a8)
    | lconst n =>
      obtain ⟨rfl, hv⟩ := gk2 hok
      subst hv
      intro ad H locs ls a1 a2 a3 a4 a5 a6 a7 a8
      exact lv_lconst hx hb (by simpa using hd) rfl (hk _ _ _ _ _ _ h ad H locs ls a1 a2 a3 a4 a5 a6 a7 a8)
    | ldc_w i =>
      obtain ⟨rfl, hv⟩ := gk2b hok
      intro ad H locs ls a1 a2 a3 a4 a5 a6 a7 a8
      cases v with
      | int x => exact lv_ldcw hx hb hown (hts _ (gat_mem hv)) (by simpa using hd) (hk _ _ _ _ _ _ h ad H locs ls a1 a2 a3 a4 a5 a6 a7 a8)
      | _ => simp at hv
    | ldc2_w i =>
      obtain ⟨rfl, hv⟩ := gk2b hok
      intro ad H locs ls a1 a2 a3 a4 a5 a6 a7 a8
      cases v with
      | long x => exact lv_ldc2 hx hb hown (hts _ (gat_mem hv)) (by simpa using hd) (hk _ _ _ _ _ _ h ad H locs ls a1 a2 a3 a4 a5 a6 a7 a8)
      | _ => simp at hv
    | iload_n i =>
      have hn := gk1 hok
      subst hn
      obtain ⟨x, hx1, h⟩ := gldi_e h
      intro ad H locs ls a1 a2 a3 a4 a5 a6 a7 a8
      exact lv_iload_n hx hb (by simpa using hd) rfl (a7.at hx1) (hk _ _ _ _ _ _ h ad H locs ls a1 a2 a3 a4 a5 a6 a7 a8)
    | iload i =>
      have hn := gk1 hok
      subst hn
      obtain ⟨x, hx1, h⟩ := gldi_e h
      intro ad H locs ls a1 a2 a3 a4 a5 a6 a7 a8
      exact lv_iload hx hb (by simpa using hd) (a7.at hx1) (hk _ _ _ _ _ _ h ad H locs ls a1 a2 a3 a4 a5 a6 a7 a8)
    | istore_n i =>
      obtain ⟨rfl, hn⟩ := gk2b hok
      obtain ⟨x, r, rfl, h⟩ := g1i_e h
      intro ad H locs ls a1 a2 a3 a4 a5 a6 a7 a8
      exact lv_istore_n hx hb (by simpa using hd) rfl a7.has (Nat.le_of_ble_eq_true hn) rfl (fun ls2 hl2 => hk _ _ _ _ _ _ h ad H locs ls2 a1 a2 a3 a4 a5 a6 (gL.sto1 a8 hl2 rfl) (a8.sto1 (fun z hz => by cases hz)))
    | istore i =>
      obtain ⟨rfl, hn⟩ := gk2b hok
      obtain ⟨x, r, rfl, h⟩ := g1i_e h
      intro ad H locs ls a1 a2 a3 a4 a5 a6 a7 a8
      exact lv_istore hx hb (by simpa using hd) a7.has (Nat.le_of_ble_eq_true hn) rfl (fun ls2 hl2 => hk _ _ _ _ _ _ h ad H locs ls2 a1 a2 a3 a4 a5 a6 (gL.sto1 a8 hl2 rfl) (a8.sto1 (fun z hz => by cases hz)))
    | lload_n i =>
      have hn := gk1 hok
      subst hn
      obtain ⟨x, hx1, h⟩ := gldl_e h
      intro ad H locs ls a1 a2 a3 a4 a5 a6 a7 a8
      exact lv_lload_n hx hb (by simpa using hd) rfl (a7.at hx1) (hk _ _ _ _ _ _ h ad H locs ls a1 a2 a3 a4 a5 a6 a7 a8)
    | lload i =>
      have hn := gk1 hok
      subst hn
      obtain ⟨x, hx1, h⟩ := gldl_e h
      intro ad H locs ls a1 a2 a3 a4 a5 a6 a7 a8
      exact lv_lload hx hb (by simpa using hd) (a7.at hx1) (hk _ _ _ _ _ _ h ad H locs ls a1 a2 a3 a4 a5 a6 a7 a8)
    | lstore_n i =>
      obtain ⟨rfl, hn⟩ := gk2b hok
      obtain ⟨x, r, rfl, h⟩ := g1l_e h
      intro ad H locs ls a1 a2 a3 a4 a5 a6 a7 a8
      exact lv_lstore_n hx hb (by simpa using hd) rfl a7.has (Nat.le_of_ble_eq_true hn) rfl (fun ls2 hl2 => hk _ _ _ _ _ _ h ad H locs ls2 a1 a2 a3 a4 a5 a6 (gL.sto2 a8 hl2 rfl) (a8.sto2 (fun z hz => by cases hz)))
    | lstore i =>
      obtain ⟨rfl, hn⟩ := gk2b hok
      obtain ⟨x, r, rfl, h⟩ := g1l_e h
      intro ad H locs ls a1 a2 a3 a4 a5 a6 a7 a8
      exact lv_lstore hx hb (by simpa using hd) a7.has (Nat.le_of_ble_eq_true hn) rfl (fun ls2 hl2 => hk _ _ _ _ _ _ h ad H locs ls2 a1 a2 a3 a4 a5 a6 (gL.sto2 a8 hl2 rfl) (a8.sto2 (fun z hz => by cases hz)))
    | aload_n i =>
      have hn := gk1 hok
      subst hn
      obtain ⟨x, hx1, h⟩ := gldr_e h
      intro ad H locs ls a1 a2 a3 a4 a5 a6 a7 a8
      exact lv_aload_n hx hb (by simpa using hd) rfl (a7.at hx1) (hk _ _ _ _ _ _ h ad H locs ls a1 a2 a3 a4 a5 a6 a7 a8)
    | aload i =>
      have hn := gk1 hok
      subst hn
      obtain ⟨x, hx1, h⟩ := gldr_e h
      intro ad H locs ls a1 a2 a3 a4 a5 a6 a7 a8
      exact lv_aload hx hb (by simpa using hd) (a7.at hx1) (hk _ _ _ _ _ _ h ad H locs ls a1 a2 a3 a4 a5 a6 a7 a8)
    | astore_n i =>
      obtain ⟨rfl, hn⟩ := gk2b hok
      obtain ⟨x, r, rfl, h⟩ := g1r_e h
      intro ad H locs ls a1 a2 a3 a4 a5 a6 a7 a8
      exact lv_astore_n hx hb (by simpa using hd) rfl a7.has (Nat.le_of_ble_eq_true hn) rfl (fun ls2 hl2 => hk _ _ _ _ _ _ h ad H locs ls2 a1 a2 a3 a4 a5 a6 (gL.sto1 a8 hl2 rfl) (a8.sto1 (fun z hz => by cases hz)))
    | astore i =>
      obtain ⟨rfl, hn⟩ := gk2b hok
      obtain ⟨x, r, rfl, h⟩ := g1r_e h
      intro ad H locs ls a1 a2 a3 a4 a5 a6 a7 a8
      exact lv_astore hx hb (by simpa using hd) a7.has (Nat.le_of_ble_eq_true hn) rfl (fun ls2 hl2 => hk _ _ _ _ _ _ h ad H locs ls2 a1 a2 a3 a4 a5 a6 (gL.sto1 a8 hl2 rfl) (a8.sto1 (fun z hz => by cases hz)))
    | iinc i n =>
      obtain ⟨rfl, hn, hv⟩ := gk3 hok
      subst hv
      obtain ⟨x, hx1, h⟩ := gldi_e h
      obtain ⟨y, r, he, h⟩ := g1i_e h
      cases he
      intro ad H locs ls a1 a2 a3 a4 a5 a6 a7 a8
      obtain ⟨kk, hkk⟩ := List.mem_iff_getElem?.mp (show (i, gcv ad (.int x)) ∈ gas ad 0 lv by have := gas_of (ad := ad) (b := 0) hx1; rwa [Nat.zero_add] at this)
      exact lv_iinc hx hb (by simpa using hd) a7.has hkk rfl (Nat.le_of_ble_eq_true hn) rfl (fun ls2 hl2 => hk _ _ _ _ _ _ h ad H locs ls2 a1 a2 a3 a4 a5 a6 (gL.sto1 a8 hl2 rfl) (a8.sto1 (fun z hz => by cases hz)))
    | iadd =>
      have hn := gk1 hok
      subst hn
      obtain ⟨y, x, r, rfl, h⟩ := g2i_e h
      intro ad H locs ls a1 a2 a3 a4 a5 a6 a7 a8
      exact lv_iadd hx hb (by simpa using hd) (hk _ _ _ _ _ _ h ad H locs ls a1 a2 a3 a4 a5 a6 a7 a8)
    | isub =>
      have hn := gk1 hok
      subst hn
      obtain ⟨y, x, r, rfl, h⟩ := g2i_e h
      intro ad H locs ls a1 a2 a3 a4 a5 a6 a7 a8
      exact lv_isub hx hb (by simpa using hd) (hk _ _ _ _ _ _ h ad H locs ls a1 a2 a3 a4 a5 a6 a7 a8)
    | imul =>
      have hn := gk1 hok
      subst hn
      obtain ⟨y, x, r, rfl, h⟩ := g2i_e h
      intro ad H locs ls a1 a2 a3 a4 a5 a6 a7 a8
      exact lv_imul hx hb (by simpa using hd) (hk _ _ _ _ _ _ h ad H locs ls a1 a2 a3 a4 a5 a6 a7 a8)
    | iand =>
      have hn := gk1 hok
      subst hn
      obtain ⟨y, x, r, rfl, h⟩ := g2i_e h
      intro ad H locs ls a1 a2 a3 a4 a5 a6 a7 a8
      exact lv_iand hx hb (by simpa using hd) (hk _ _ _ _ _ _ h ad H locs ls a1 a2 a3 a4 a5 a6 a7 a8)
    | ior =>
      have hn := gk1 hok
      subst hn
      obtain ⟨y, x, r, rfl, h⟩ := g2i_e h
      intro ad H locs ls a1 a2 a3 a4 a5 a6 a7 a8
      exact lv_ior hx hb (by simpa using hd) (hk _ _ _ _ _ _ h ad H locs ls a1 a2 a3 a4 a5 a6 a7 a8)
    | ixor =>
      have hn := gk1 hok
      subst hn
      obtain ⟨y, x, r, rfl, h⟩ := g2i_e h
      intro ad H locs ls a1 a2 a3 a4 a5 a6 a7 a8
      exact lv_ixor hx hb (by simpa using hd) (hk _ _ _ _ _ _ h ad H locs ls a1 a2 a3 a4 a5 a6 a7 a8)
    | ishl =>
      have hn := gk1 hok
      subst hn
      obtain ⟨y, x, r, rfl, h⟩ := g2i_e h
      intro ad H locs ls a1 a2 a3 a4 a5 a6 a7 a8
      exact lv_ishl hx hb (by simpa using hd) (hk _ _ _ _ _ _ h ad H locs ls a1 a2 a3 a4 a5 a6 a7 a8)
    | ishr =>
      have hn := gk1 hok
      subst hn
      obtain ⟨y, x, r, rfl, h⟩ := g2i_e h
      intro ad H locs ls a1 a2 a3 a4 a5 a6 a7 a8
      exact lv_ishr hx hb (by simpa using hd) (hk _ _ _ _ _ _ h ad H locs ls a1 a2 a3 a4 a5 a6 a7 a8)
    | iushr =>
      have hn := gk1 hok
      subst hn
      obtain ⟨y, x, r, rfl, h⟩ := g2i_e h
      intro ad H locs ls a1 a2 a3 a4 a5 a6 a7 a8
      exact lv_iushr hx hb (by simpa using hd) rfl (hk _ _ _ _ _ _ h ad H locs ls a1 a2 a3 a4 a5 a6 a7 a8)
    | ladd =>
      have hn := gk1 hok
      subst hn
      obtain ⟨y, x, r, rfl, h⟩ := g2l_e h
      intro ad H locs ls a1 a2 a3 a4 a5 a6 a7 a8
      exact lv_ladd hx hb (by simpa using hd) (hk _ _ _ _ _ _ h ad H locs ls a1 a2 a3 a4 a5 a6 a7 a8)
    | lsub =>
      have hn := gk1 hok
      subst hn
      obtain ⟨y, x, r, rfl, h⟩ := g2l_e h
      intro ad H locs ls a1 a2 a3 a4 a5 a6 a7 a8
      exact lv_lsub hx hb (by simpa using hd) (hk _ _ _ _ _ _ h ad H locs ls a1 a2 a3 a4 a5 a6 a7 a8)
    | lmul =>
      have hn := gk1 hok
      subst hn
      obtain ⟨y, x, r, rfl, h⟩ := g2l_e h
      intro ad H locs ls a1 a2 a3 a4 a5 a6 a7 a8
      exact lv_lmul hx hb (by simpa using hd) (hk _ _ _ _ _ _ h ad H locs ls a1 a2 a3 a4 a5 a6 a7 a8)
    | land =>
      have hn := gk1 hok
      subst hn
      obtain ⟨y, x, r, rfl, h⟩ := g2l_e h
      intro ad H locs ls a1 a2 a3 a4 a5 a6 a7 a8
      exact lv_land hx hb (by simpa using hd) (hk _ _ _ _ _ _ h ad H locs ls a1 a2 a3 a4 a5 a6 a7 a8)
    | lor =>
      have hn := gk1 hok
      subst hn
      obtain ⟨y, x, r, rfl, h⟩ := g2l_e h
      intro ad H locs ls a1 a2 a3 a4 a5 a6 a7 a8
      exact lv_lor hx hb (by simpa using hd) (hk _ _ _ _ _ _ h ad H locs ls a1 a2 a3 a4 a5 a6 a7 a8)
    | lxor =>
      have hn := gk1 hok
      subst hn
      obtain ⟨y, x, r, rfl, h⟩ := g2l_e h
      intro ad H locs ls a1 a2 a3 a4 a5 a6 a7 a8
      exact lv_lxor hx hb (by simpa using hd) (hk _ _ _ _ _ _ h ad H locs ls a1 a2 a3 a4 a5 a6 a7 a8)
    | lshl =>
      have hn := gk1 hok
      subst hn
      obtain ⟨y, r1, rfl, h1⟩ := g1i_e h
      obtain ⟨x, r, rfl, h2⟩ := g1l_e h1
      intro ad H locs ls a1 a2 a3 a4 a5 a6 a7 a8
      exact lv_lshl hx hb (by simpa using hd) rfl (hk _ _ _ _ _ _ h2 ad H locs ls a1 a2 a3 a4 a5 a6 a7 a8)
    | lshr =>
      have hn := gk1 hok
      subst hn
      obtain ⟨y, r1, rfl, h1⟩ := g1i_e h
      obtain ⟨x, r, rfl, h2⟩ := g1l_e h1
      intro ad H locs ls a1 a2 a3 a4 a5 a6 a7 a8
      exact lv_lshr hx hb (by simpa using hd) rfl (hk _ _ _ _ _ _ h2 ad H locs ls a1 a2 a3 a4 a5 a6 a7 a8)
    | lushr =>
      have hn := gk1 hok
      subst hn
      obtain ⟨y, r1, rfl, h1⟩ := g1i_e h
      obtain ⟨x, r, rfl, h2⟩ := g1l_e h1
      intro ad H locs ls a1 a2 a3 a4 a5 a6 a7 a8
      exact lv_lushr hx hb (by simpa using hd) rfl (hk _ _ _ _ _ _ h2 ad H locs ls a1 a2 a3 a4 a5 a6 a7 a8)
    | idiv =>
      have hn := gk1 hok
      subst hn
      obtain ⟨y, x, r, rfl, h1⟩ := g2i_e h
      obtain ⟨h0, h2⟩ := gsd_e h1
      intro ad H locs ls a1 a2 a3 a4 a5 a6 a7 a8
      exact lv_idiv hx hb (by simpa using hd) h0 (hk _ _ _ _ _ _ h2 ad H locs ls a1 a2 a3 a4 a5 a6 a7 a8)
    | irem =>
      have hn := gk1 hok
      subst hn
      obtain ⟨y, x, r, rfl, h1⟩ := g2i_e h
      obtain ⟨h0, h2⟩ := gsd_e h1
      intro ad H locs ls a1 a2 a3 a4 a5 a6 a7 a8
      exact lv_irem hx hb (by simpa using hd) h0 (hk _ _ _ _ _ _ h2 ad H locs ls a1 a2 a3 a4 a5 a6 a7 a8)
    | ineg =>
      have hn := gk1 hok
      subst hn
      obtain ⟨x, r, rfl, h⟩ := g1i_e h
      intro ad H locs ls a1 a2 a3 a4 a5 a6 a7 a8
      exact lv_ineg hx hb (by simpa using hd) (hk _ _ _ _ _ _ h ad H locs ls a1 a2 a3 a4 a5 a6 a7 a8)
    | i2l =>
      have hn := gk1 hok
      subst hn
      obtain ⟨x, r, rfl, h⟩ := g1i_e h
      intro ad H locs ls a1 a2 a3 a4 a5 a6 a7 a8
      exact lv_i2l hx hb (by simpa using hd) rfl (hk _ _ _ _ _ _ h ad H locs ls a1 a2 a3 a4 a5 a6 a7 a8)
    | l2i =>
      have hn := gk1 hok
      subst hn
      obtain ⟨x, r, rfl, h⟩ := g1l_e h
      intro ad H locs ls a1 a2 a3 a4 a5 a6 a7 a8
      exact lv_l2i hx hb (by simpa using hd) rfl (hk _ _ _ _ _ _ h ad H locs ls a1 a2 a3 a4 a5 a6 a7 a8)
    | i2b =>
      have hn := gk1 hok
      subst hn
      obtain ⟨x, r, rfl, h⟩ := g1i_e h
      intro ad H locs ls a1 a2 a3 a4 a5 a6 a7 a8
      exact lv_i2b hx hb (by simpa using hd) rfl (hk _ _ _ _ _ _ h ad H locs ls a1 a2 a3 a4 a5 a6 a7 a8)
    | i2s =>
      have hn := gk1 hok
      subst hn
      obtain ⟨x, r, rfl, h⟩ := g1i_e h
      intro ad H locs ls a1 a2 a3 a4 a5 a6 a7 a8
      exact lv_i2s hx hb (by simpa using hd) rfl (hk _ _ _ _ _ _ h ad H locs ls a1 a2 a3 a4 a5 a6 a7 a8)
    | i2c =>
      have hn := gk1 hok
      subst hn
      obtain ⟨x, r, rfl, h⟩ := g1i_e h
      intro ad H locs ls a1 a2 a3 a4 a5 a6 a7 a8
      exact lv_i2c hx hb (by simpa using hd) rfl (hk _ _ _ _ _ _ h ad H locs ls a1 a2 a3 a4 a5 a6 a7 a8)
    | lcmp =>
      have hn := gk1 hok
      subst hn
      obtain ⟨y, x, r, rfl, h⟩ := g2l_e h
      intro ad H locs ls a1 a2 a3 a4 a5 a6 a7 a8
      exact W.lcmp hx hb (by simpa using hd) (hk _ _ _ _ _ _ h ad H locs ls a1 a2 a3 a4 a5 a6 a7 a8)
    | dup =>
      have hn := gk1 hok
      subst hn
      obtain ⟨w, r, rfl, hc, hc2, h⟩ := g1v_e h
      intro ad H locs ls a1 a2 a3 a4 a5 a6 a7 a8
      exact lv_dup hx hb (by simpa using hd) (hc2 ad) (hk _ _ _ _ _ _ h ad H locs ls a1 a2 a3 a4 a5 a6 a7 a8)
    | pop =>
      have hn := gk1 hok
      subst hn
      obtain ⟨w, r, rfl, hc, hc2, h⟩ := g1v_e h
      intro ad H locs ls a1 a2 a3 a4 a5 a6 a7 a8
      exact lv_pop hx hb (by simpa using hd) (hc2 ad) (hk _ _ _ _ _ _ h ad H locs ls a1 a2 a3 a4 a5 a6 a7 a8)
    | dup_x1 =>
      have hn := gk1 hok
      subst hn
      obtain ⟨w, r1, rfl, hc, hc2, h1⟩ := g1v_e h
      obtain ⟨z, r, rfl, hc3, hc4, h2⟩ := g1v_e h1
      intro ad H locs ls a1 a2 a3 a4 a5 a6 a7 a8
      exact lv_dup_x1 hx hb (by simpa using hd) (hc2 ad) (hc4 ad) (hk _ _ _ _ _ _ h2 ad H locs ls a1 a2 a3 a4 a5 a6 a7 a8)
    | dup2 =>
      have hn := gk1 hok
      subst hn
      obtain ⟨w, r1, rfl, hc, hc2, h1⟩ := g1v_e h
      obtain ⟨z, r, rfl, hc3, hc4, h2⟩ := g1v_e h1
      intro ad H locs ls a1 a2 a3 a4 a5 a6 a7 a8
      exact lv_dup2_11 hx hb (by simpa using hd) (hc2 ad) (hc4 ad) (hk _ _ _ _ _ _ h2 ad H locs ls a1 a2 a3 a4 a5 a6 a7 a8)
    | ifCond cn off =>
      obtain ⟨rfl, ht⟩ := gk2 hok
      cases cn with
      | eq =>
        obtain ⟨x, r, rfl, h1⟩ := g1i_e h
        have h2 := gbr_e h1
        intro ad H locs ls a1 a2 a3 a4 a5 a6 a7 a8
        exact lv_if_eq hx hb (by simpa using hd) ht (fun z => hk _ _ _ _ _ _ (h2.1 z) ad H locs ls a1 a2 a3 a4 a5 a6 a7 a8) (fun z => hk _ _ _ _ _ _ (h2.2 z) ad H locs ls a1 a2 a3 a4 a5 a6 a7 a8)
      | ne =>
        obtain ⟨x, r, rfl, h1⟩ := g1i_e h
        have h2 := gbr_e h1
        intro ad H locs ls a1 a2 a3 a4 a5 a6 a7 a8
        exact lv_if_ne hx hb (by simpa using hd) ht (fun z => hk _ _ _ _ _ _ (h2.2 z) ad H locs ls a1 a2 a3 a4 a5 a6 a7 a8) (fun z => hk _ _ _ _ _ _ (h2.1 z) ad H locs ls a1 a2 a3 a4 a5 a6 a7 a8)
      | lt =>
        obtain ⟨x, r, rfl, h1⟩ := g1i_e h
        have h2 := gbr_e h1
        intro ad H locs ls a1 a2 a3 a4 a5 a6 a7 a8
        exact lv_if_lt hx hb (by simpa using hd) ht (fun z => hk _ _ _ _ _ _ (h2.1 z) ad H locs ls a1 a2 a3 a4 a5 a6 a7 a8) (fun z => hk _ _ _ _ _ _ (h2.2 z) ad H locs ls a1 a2 a3 a4 a5 a6 a7 a8)
      | ge =>
        obtain ⟨x, r, rfl, h1⟩ := g1i_e h
        have h2 := gbr_e h1
        intro ad H locs ls a1 a2 a3 a4 a5 a6 a7 a8
        exact lv_if_ge hx hb (by simpa using hd) ht (fun z => hk _ _ _ _ _ _ (h2.1 z) ad H locs ls a1 a2 a3 a4 a5 a6 a7 a8) (fun z => hk _ _ _ _ _ _ (h2.2 z) ad H locs ls a1 a2 a3 a4 a5 a6 a7 a8)
      | gt =>
        obtain ⟨x, r, rfl, h1⟩ := g1i_e h
        have h2 := gbr_e h1
        intro ad H locs ls a1 a2 a3 a4 a5 a6 a7 a8
        exact lv_if_gt hx hb (by simpa using hd) ht (fun z => hk _ _ _ _ _ _ (h2.1 z) ad H locs ls a1 a2 a3 a4 a5 a6 a7 a8) (fun z => hk _ _ _ _ _ _ (h2.2 z) ad H locs ls a1 a2 a3 a4 a5 a6 a7 a8)
      | le =>
        obtain ⟨x, r, rfl, h1⟩ := g1i_e h
        have h2 := gbr_e h1
        intro ad H locs ls a1 a2 a3 a4 a5 a6 a7 a8
        exact lv_if_le hx hb (by simpa using hd) ht (fun z => hk _ _ _ _ _ _ (h2.1 z) ad H locs ls a1 a2 a3 a4 a5 a6 a7 a8) (fun z => hk _ _ _ _ _ _ (h2.2 z) ad H locs ls a1 a2 a3 a4 a5 a6 a7 a8)
    | if_icmp cn off =>
      obtain ⟨rfl, ht⟩ := gk2 hok
      cases cn with
      | eq =>
        obtain ⟨y, x, r, rfl, h1⟩ := g2i_e h
        have h2 := gbr_e h1
        intro ad H locs ls a1 a2 a3 a4 a5 a6 a7 a8
        exact lv_icmp_eq hx hb (by simpa using hd) ht (fun z => hk _ _ _ _ _ _ (h2.1 z) ad H locs ls a1 a2 a3 a4 a5 a6 a7 a8) (fun z => hk _ _ _ _ _ _ (h2.2 z) ad H locs ls a1 a2 a3 a4 a5 a6 a7 a8)
      | ne =>
        obtain ⟨y, x, r, rfl, h1⟩ := g2i_e h
        have h2 := gbr_e h1
        intro ad H locs ls a1 a2 a3 a4 a5 a6 a7 a8
        exact lv_icmp_ne hx hb (by simpa using hd) ht (fun z => hk _ _ _ _ _ _ (h2.2 z) ad H locs ls a1 a2 a3 a4 a5 a6 a7 a8) (fun z => hk _ _ _ _ _ _ (h2.1 z) ad H locs ls a1 a2 a3 a4 a5 a6 a7 a8)
      | lt =>
        obtain ⟨y, x, r, rfl, h1⟩ := g2i_e h
        have h2 := gbr_e h1
        intro ad H locs ls a1 a2 a3 a4 a5 a6 a7 a8
        exact lv_icmp_lt hx hb (by simpa using hd) ht (fun z => hk _ _ _ _ _ _ (h2.1 z) ad H locs ls a1 a2 a3 a4 a5 a6 a7 a8) (fun z => hk _ _ _ _ _ _ (h2.2 z) ad H locs ls a1 a2 a3 a4 a5 a6 a7 a8)
      | ge =>
        obtain ⟨y, x, r, rfl, h1⟩ := g2i_e h
        have h2 := gbr_e h1
        intro ad H locs ls a1 a2 a3 a4 a5 a6 a7 a8
        exact lv_icmp_ge hx hb (by simpa using hd) ht (fun z => hk _ _ _ _ _ _ (h2.1 z) ad H locs ls a1 a2 a3 a4 a5 a6 a7 a8) (fun z => hk _ _ _ _ _ _ (h2.2 z) ad H locs ls a1 a2 a3 a4 a5 a6 a7 a8)
      | gt =>
        obtain ⟨y, x, r, rfl, h1⟩ := g2i_e h
        have h2 := gbr_e h1
        intro ad H locs ls a1 a2 a3 a4 a5 a6 a7 a8
        exact lv_icmp_gt hx hb (by simpa using hd) ht (fun z => hk _ _ _ _ _ _ (h2.1 z) ad H locs ls a1 a2 a3 a4 a5 a6 a7 a8) (fun z => hk _ _ _ _ _ _ (h2.2 z) ad H locs ls a1 a2 a3 a4 a5 a6 a7 a8)
      | le =>
        obtain ⟨y, x, r, rfl, h1⟩ := g2i_e h
        have h2 := gbr_e h1
        intro ad H locs ls a1 a2 a3 a4 a5 a6 a7 a8
        exact lv_icmp_le hx hb (by simpa using hd) ht (fun z => hk _ _ _ _ _ _ (h2.1 z) ad H locs ls a1 a2 a3 a4 a5 a6 a7 a8) (fun z => hk _ _ _ _ _ _ (h2.2 z) ad H locs ls a1 a2 a3 a4 a5 a6 a7 a8)
    | goto off =>
      obtain ⟨rfl, ht⟩ := gk2 hok
      intro ad H locs ls a1 a2 a3 a4 a5 a6 a7 a8
      exact lv_goto hx hb (by simpa using hd) ht (hk _ _ _ _ _ _ h ad H locs ls a1 a2 a3 a4 a5 a6 a7 a8)
    | ifnonnull off =>
      obtain ⟨rfl, ht⟩ := gk2 hok
      dsimp only at h
      split at h
      · intro ad H locs ls a1 a2 a3 a4 a5 a6 a7 a8
        exact lv_ifnonnull hx hb (by simpa using hd) ht (hk _ _ _ _ _ _ h ad H locs ls a1 a2 a3 a4 a5 a6 a7 a8)
      · intro ad H locs ls a1 a2 a3 a4 a5 a6 a7 a8
        exact lv_ifnonnullN hx hb (by simpa using hd) (hk _ _ _ _ _ _ h ad H locs ls a1 a2 a3 a4 a5 a6 a7 a8)
      · exact h.elim
    | tableswitch df lo hi offs =>
      obtain ⟨x, r, rfl, h⟩ := g1i_e h
      intro ad H locs ls a1 a2 a3 a4 a5 a6 a7 a8
      exact gsw_table hx hb hd (gk2i hok) h (fun t ht => hk _ _ _ _ _ _ ht ad H locs ls a1 a2 a3 a4 a5 a6 a7 a8)
    | lookupswitch df ps =>
      obtain ⟨x, r, rfl, h⟩ := g1i_e h
      intro ad H locs ls a1 a2 a3 a4 a5 a6 a7 a8
      exact gsw_lookup hx hb hd (gk2i hok) h (fun t ht => hk _ _ _ _ _ _ ht ad H locs ls a1 a2 a3 a4 a5 a6 a7 a8)
    | getstatic idx =>
      obtain ⟨rfl, hv⟩ := gk2b hok
      have hd3 : decode cc pc = .ok (.getstatic idx, 3) := by simpa using hd
      intro ad H locs ls a1 a2 a3 a4 a5 a6 a7 a8
      split at hv
      · have K := hk _ _ _ _ _ _ h ad H locs ls a1 a2 a3 a4 a5 a6 a7 a8
        have e1 : gcv ad (.ref 1200) = .ref (E.2.2.2 1200) := by show Value.ref _ = _; rw [a1.1 _ (Or.inr (by omega)), h00 _ (by omega)]
        rw [List.map_cons, e1] at K
        exact va_gets hx hb hX.2.2.2.2.1 a4 hown (hts _ (gat_mem hv)) (fun z hz => hz) hd3 K
      · exact va_gets hx hb hX.2.2.2.1.1 a4 hown (hts _ (gat_mem hv)) (fun z hz => hz) hd3 (hk _ _ _ _ _ _ h ad H locs ls a1 a2 a3 a4 a5 a6 a7 a8)
      · have hh : k kc ks (pc + 3) lv (.null :: st) u ∧ k kc ks (pc + 3) lv (.ref 1300 :: st) u := by assumption
        have K2 := hk _ _ _ _ _ _ (hh.2) ad H locs ls a1 a2 a3 a4 a5 a6 a7 a8
        have e1 : gcv ad (.ref 1300) = .ref (E.2.2.2 1300) := by show Value.ref _ = _; rw [a1.1 _ (Or.inr (by omega)), h00 _ (by omega)]
        rw [List.map_cons, e1] at K2
        rcases hX.2.2.2.1.2 with hz | hz
        · exact va_gets hx hb hz a4 hown (hts _ (gat_mem hv)) (fun z hz => hz) hd3 (hk _ _ _ _ _ _ (hh.1) ad H locs ls a1 a2 a3 a4 a5 a6 a7 a8)
        · exact va_gets hx hb hz a4 hown (hts _ (gat_mem hv)) (fun z hz => hz) hd3 K2
      · cases hv
    | getfield idx =>
      obtain ⟨rfl, hf2⟩ := gk2b hok
      obtain ⟨o, r, rfl, h1⟩ := g1r_e h
      obtain ⟨ho, h2⟩ := gobj_e h1
      have hd3 : decode cc pc = .ok (.getfield idx, 3) := by simpa using hd
      cases ha : Nat.beq a 20 with
      | false =>
        rw [ha] at hf2
        have hne : a ≠ 20 := fun z => by subst z; cases ha
        have hgg : ggf u a b o = gv u (gkd (gTy a b)) o b := by unfold ggf; split <;> first | exact absurd rfl hne | rfl
        rw [hgg] at h2
        exact gz_getfield hC hf2 hd3 ho (hk _ _ _ _ _ _ h2)
      | true =>
        rw [ha] at hf2
        have ha2 := Nat.eq_of_beq_eq_true ha
        subst ha2
        intro ad H locs ls a1 a2 a3 a4 a5 a6 a7 a8
        obtain ⟨o1, o2⟩ := a5.str ho
        have hS := hX.2.2.1.1.1 (o - 1000) (g1000 o1 o2).1
        dsimp only at hS
        rw [(g1000 o1 o2).2] at hS
        have hao : ad o = E.2.2.2 o := by rw [a1.1 o (Or.inr o1), h00 o o1]
        have K := hk _ _ _ _ _ _ h2 ad H locs ls a1 a2 a3 a4 a5 a6 a7 a8
        cases b with
        | zero =>
          have hg : W p E.1 e (gRm d mc ms) s m args below meth c H locs kc ks (MQ below (gQc E ad0 n0 s.heap.size mc post) args s mc ms (gA ad0 n0 s.heap.size)) (F0 m pc ls (.ref (E.2.2.2 o) :: r.map (gcv ad))) := vk_getf hx hb hS.2.1 a4 hown (hts _ (gat_mem hf2)) (fun z hz => hz) hd3 K
          rw [← hao] at hg
          exact hg
        | succ b =>
          have e1 : gcv ad (.ref (o + 100)) = .ref (E.2.2.2 (1100 + (o - 1000))) := by show Value.ref _ = _; rw [a1.1 _ (Or.inr (by omega)), h00 _ (by omega), (g1100 o1).2]
          rw [List.map_cons, show ggf u 20 (b + 1) o = .ref (o + 100) from rfl, e1] at K
          have hg : W p E.1 e (gRm d mc ms) s m args below meth c H locs kc ks (MQ below (gQc E ad0 n0 s.heap.size mc post) args s mc ms (gA ad0 n0 s.heap.size)) (F0 m pc ls (.ref (E.2.2.2 o) :: r.map (gcv ad))) := vk_getf hx hb hS.2.2.1 a4 hown (hts _ (gat_mem hf2)) (fun z hz => hz) hd3 K
          rw [← hao] at hg
          exact hg
    | putfield idx =>
      obtain ⟨rfl, hf2⟩ := gk2b hok
      have hd3 : decode cc pc = .ok (.putfield idx, 3) := by simpa using hd
      obtain ⟨n, sh, I, L, R⟩ := u
      have h0 : gputf a b (fun u st => k kc ks (pc + 3) lv st u) st (n, sh, I, L, R) := h
      unfold gputf at h0
      split at h0
      · rename_i hk0
        have ht := gz_I a b hk0
        obtain ⟨x, r, rfl, h1⟩ := g1i_e h0
        obtain ⟨o, r, rfl, h2⟩ := g1r_e h1
        obtain ⟨ho, h3⟩ := gobj_e h2
        exact gz_putfield (v := .int x) hC hf2 hd3 ho (fun _ => by rw [ht]; rfl) (fun _ => by rw [ht]; rfl) (fun hb ad => gWf_I ho hb (by rw [ht]; rfl)) gok_I rfl (hk _ _ _ _ _ _ h3)
      · rename_i hk0
        have ht := gz_L a b hk0
        obtain ⟨x, r, rfl, h1⟩ := g1l_e h0
        obtain ⟨o, r, rfl, h2⟩ := g1r_e h1
        obtain ⟨ho, h3⟩ := gobj_e h2
        exact gz_putfield (v := .long x) hC hf2 hd3 ho (fun _ => by rw [ht]; rfl) (fun _ => by rw [ht]; rfl) (fun hb ad => gWf_L ho hb (by rw [ht]; rfl)) gok_I rfl (hk _ _ _ _ _ _ h3)
      · rename_i hk0
        have ht := gz_R a b hk0
        obtain ⟨x, r, rfl, h1⟩ := g1r_e h0
        obtain ⟨o, r, rfl, h2⟩ := g1r_e h1
        obtain ⟨ho, hlt, h3⟩ := gobj_e h2
        exact gz_putfield (v := .ref x) hC hf2 hd3 ho (fun _ => by rcases ht with ⟨_, ht⟩ | ⟨_, ht⟩ <;> (rw [ht]; rfl)) (fun _ => by rcases ht with ⟨_, ht⟩ | ⟨_, ht⟩ <;> (rw [ht]; rfl)) (fun hb ad => gWf_R ho hb (by rcases ht with ⟨_, ht⟩ | ⟨_, ht⟩ <;> (rw [ht]; rfl))) (fun hg => gok_R hg hlt) rfl (hk _ _ _ _ _ _ h3)
      · rename_i hk0
        have ht := gz_Z a b hk0
        obtain ⟨x, r, rfl, h1⟩ := g1i_e h0
        obtain ⟨o, r, rfl, h2⟩ := g1r_e h1
        obtain ⟨ho, hz, h3⟩ := gobj_e h2
        exact gz_putfield (v := .int x) hC hf2 hd3 ho (fun _ => by rw [ht]; exact gnz hz) (fun _ => by rw [ht]; exact gfz hz) (fun hb ad => gWf_I ho hb (by rw [ht]; rfl)) gok_I rfl (hk _ _ _ _ _ _ h3)
      · exact h0.elim
    | iaload =>
      have hn := gk1 hok
      subst hn
      obtain ⟨i, r, rfl, h1⟩ := g1i_e h
      obtain ⟨o, r, rfl, h2⟩ := g1r_e h1
      obtain ⟨len, h3⟩ := garri_e h2
      intro ad H locs ls a1 a2 a3 a4 a5 a6 a7 a8
      rcases h3 with ⟨ho, hin, hq⟩ | ⟨ho, hin, hq⟩
      · exact va_iald hx hb hK a2 o 0 (by rw [gW_at (a5.lta (by omega) ho), gE1_arr ho]; rfl) (gty_at (by omega)) hin (by simpa using hd) (hk _ _ _ _ _ _ hq ad H locs ls a1 a2 a3 a4 a5 a6 a7 a8)
      · have ho2 := a5.und ho
        subst ho2
        have hg := va_ti (f := fun j => .int (gUNDER j)) (i := i) hx hb hX.2.2.2.2.2 a4 hin rfl (by simpa using hd) (hk _ _ _ _ _ _ hq ad H locs ls a1 a2 a3 a4 a5 a6 a7 a8)
        have e1 : ad 1200 = E.2.2.2 1200 := by rw [a1.1 _ (Or.inr (by omega)), h00 _ (by omega)]
        rw [← e1] at hg
        exact hg
    | laload =>
      have hn := gk1 hok
      subst hn
      obtain ⟨i, r, rfl, h1⟩ := g1i_e h
      obtain ⟨o, r, rfl, h2⟩ := g1r_e h1
      obtain ⟨len, ho, hin, h3⟩ := garr_e h2
      intro ad H locs ls a1 a2 a3 a4 a5 a6 a7 a8
      exact va_lald hx hb hK a2 o 2 (by rw [gW_at (a5.lta (by omega) ho), gE1_arr ho]; rfl) (gty_at (by omega)) hin (by simpa using hd) (hk _ _ _ _ _ _ h3 ad H locs ls a1 a2 a3 a4 a5 a6 a7 a8)
    | baload =>
      have hn := gk1 hok
      subst hn
      obtain ⟨i, r, rfl, h1⟩ := g1i_e h
      obtain ⟨o, r, rfl, h2⟩ := g1r_e h1
      obtain ⟨len, h3⟩ := garrb_e h2
      intro ad H locs ls a1 a2 a3 a4 a5 a6 a7 a8
      rcases h3 with ⟨ho, hin, hq⟩ | ⟨ho, hin, hq⟩
      · rcases ho with ho | ho
        · exact va_bald hx hb hK a2 o 1 (by rw [gW_at (a5.lta (by omega) ho), gE1_arr ho]; rfl) (gty_at (by omega)) hin (by simpa using hd) (hk _ _ _ _ _ _ hq ad H locs ls a1 a2 a3 a4 a5 a6 a7 a8)
        · exact va_zald hx hb hK a2 o 3 (by rw [gW_at (a5.lta (by omega) ho), gE1_arr ho]; rfl) (gty_at (by omega)) hin (by simpa using hd) (hk _ _ _ _ _ _ hq ad H locs ls a1 a2 a3 a4 a5 a6 a7 a8)
      · obtain ⟨o1, o2, o3⟩ := a5.byt ho
        have hT2 := (hX.2.2.1.1.1 (o - 1100) (g1100b o1 o2).1).2.2.2
        dsimp only at hT2
        rw [(g1100b o1 o2).2, ← o3] at hT2
        have hg := va_tb (i := i) hx hb hT2 a4 hin rfl (by simpa using hd) (hk _ _ _ _ _ _ hq ad H locs ls a1 a2 a3 a4 a5 a6 a7 a8)
        have e1 : ad o = E.2.2.2 o := by rw [a1.1 _ (Or.inr (by omega)), h00 _ (by omega)]
        rw [← e1] at hg
        exact hg
    | aaload =>
      have hn := gk1 hok
      subst hn
      obtain ⟨i, r, rfl, h1⟩ := g1i_e h
      obtain ⟨o, r, rfl, h2⟩ := g1r_e h1
      obtain ⟨len, ho, hin, h3⟩ := garrq_e h2
      intro ad H locs ls a1 a2 a3 a4 a5 a6 a7 a8
      have hg := hk _ _ _ _ _ _ h3 ad H locs ls a1 a2 a3 a4 a5 a6 a7 a8
      have hv : gcv ad (va_rf (u.2.2.2.2 o i.toNatClampNeg)) = va_rf ((u.2.2.2.2 o i.toNatClampNeg).map ad) := by cases u.2.2.2.2 o i.toNatClampNeg <;> rfl
      rw [List.map_cons, hv] at hg
      rcases ho with ho | ho
      · exact va_aldq (C := RX4) (f := fun j => (u.2.2.2.2 o j).map ad) hx hb hK a2 o 4 (by rw [gW_at (a5.lta (by omega) ho), gE1_arr ho]; rfl) (gty_at (by omega)) hin (by simpa using hd) hg
      · exact va_aldq (C := RX7) (f := fun j => (u.2.2.2.2 o j).map ad) hx hb hK a2 o 5 (by rw [gW_at (a5.lta (by omega) ho), gE1_arr ho]; rfl) (gty_at (by omega)) hin (by simpa using hd) hg
    | iastore =>
      have hn := gk1 hok
      subst hn
      obtain ⟨x, i, r, rfl, h1⟩ := g2i_e h
      obtain ⟨o, r, rfl, h2⟩ := g1r_e h1
      obtain ⟨len, ho, hin, h3⟩ := garr_e h2
      obtain ⟨n, sh, I, L, R⟩ := u
      intro ad H locs ls a1 a2 a3 a4 a5 a6 a7 a8
      refine va_iast hx hb hK a2 a3 a4 o 0 (by rw [gW_at (a5.lta (by omega) ho), gE1_arr ho]; rfl) (gty_at (by omega)) hin (by simpa using hd) (fun H1 locs1 b1 b2 b3 => ?_)
      have hW := gWa_I (cy := E.2.2.1) (ad := ad) (n := n) (I := I) (L := L) (R := R) (i := i.toNatClampNeg) (x := x) ho (Or.inl rfl)
      exact hk _ _ _ _ _ _ h3 ad H1 locs1 ls a1 (hW ▸ b1) (hW ▸ b2) b3 (gok_I a5) a6 a7 a8
    | lastore =>
      have hn := gk1 hok
      subst hn
      obtain ⟨x, r, rfl, h1⟩ := g1l_e h
      obtain ⟨i, r, rfl, h2⟩ := g1i_e h1
      obtain ⟨o, r, rfl, h3⟩ := g1r_e h2
      obtain ⟨len, ho, hin, h4⟩ := garr_e h3
      obtain ⟨n, sh, I, L, R⟩ := u
      intro ad H locs ls a1 a2 a3 a4 a5 a6 a7 a8
      refine va_last hx hb hK a2 a3 a4 o 2 (by rw [gW_at (a5.lta (by omega) ho), gE1_arr ho]; rfl) (gty_at (by omega)) hin (by simpa using hd) (fun H1 locs1 b1 b2 b3 => ?_)
      have hW := gWa_L (cy := E.2.2.1) (ad := ad) (n := n) (I := I) (L := L) (R := R) (i := i.toNatClampNeg) (x := x) ho
      exact hk _ _ _ _ _ _ h4 ad H1 locs1 ls a1 (hW ▸ b1) (hW ▸ b2) b3 (gok_I a5) a6 a7 a8
    | bastore =>
      have hn := gk1 hok
      subst hn
      obtain ⟨x, i, r, rfl, h1⟩ := g2i_e h
      obtain ⟨o, r, rfl, h2⟩ := g1r_e h1
      obtain ⟨len, h3⟩ := gbst_e h2
      obtain ⟨n, sh, I, L, R⟩ := u
      intro ad H locs ls a1 a2 a3 a4 a5 a6 a7 a8
      rcases h3 with ⟨ho, hin, hq⟩ | ⟨ho, hin, hq⟩
      · refine va_bast hx hb hK a2 a3 a4 o 1 (by rw [gW_at (a5.lta (by omega) ho), gE1_arr ho]; rfl) (gty_at (by omega)) hin (by simpa using hd) (fun H1 locs1 b1 b2 b3 => ?_)
        have hW := gWa_I (cy := E.2.2.1) (ad := ad) (n := n) (I := I) (L := L) (R := R) (i := i.toNatClampNeg) (x := vp_nar .byte x) ho (Or.inr (Or.inl rfl))
        exact hk _ _ _ _ _ _ hq ad H1 locs1 ls a1 (hW ▸ b1) (hW ▸ b2) b3 (gok_I a5) a6 a7 a8
      · refine va_zast hx hb hK a2 a3 a4 o 3 (by rw [gW_at (a5.lta (by omega) ho), gE1_arr ho]; rfl) (gty_at (by omega)) hin (by simpa using hd) (fun H1 locs1 b1 b2 b3 => ?_)
        have hW := gWa_I (cy := E.2.2.1) (ad := ad) (n := n) (I := I) (L := L) (R := R) (i := i.toNatClampNeg) (x := vp_nar .boolean x) ho (Or.inr (Or.inr rfl))
        exact hk _ _ _ _ _ _ hq ad H1 locs1 ls a1 (hW ▸ b1) (hW ▸ b2) b3 (gok_I a5) a6 a7 a8
    | aastore =>
      have hn := gk1 hok
      subst hn
      obtain ⟨x, r, rfl, h1⟩ := g1r_e h
      obtain ⟨i, r, rfl, h2⟩ := g1i_e h1
      obtain ⟨o, r, rfl, h3⟩ := g1r_e h2
      obtain ⟨len, ho, hin, h4⟩ := gqst_e h3
      obtain ⟨n, sh, I, L, R⟩ := u
      intro ad H locs ls a1 a2 a3 a4 a5 a6 a7 a8
      rcases ho with ⟨ho, hxx⟩ | ⟨ho, hxx⟩
      · refine va_astq (r := (RX4, TX4, 3)) (ci := 4) (f := fun j => (R o j).map ad) hx hb hK a2 a3 a4 o 4 x (by rw [gW_at (a5.lta (by omega) ho), gE1_arr ho]; rfl) (gty_at (by omega)) (by rw [gW_at (a5.lt (by omega) hxx), gE1_obj hxx]) rfl hin (by simpa using hd) (fun H1 locs1 b1 b2 b3 => ?_)
        have hW := gWa_R (cy := E.2.2.1) (ad := ad) (n := n) (I := I) (L := L) (R := R) (i := i.toNatClampNeg) (x := x) ho (Or.inl rfl)
        exact hk _ _ _ _ _ _ h4 ad H1 locs1 ls a1 (hW ▸ b1) (hW ▸ b2) b3 (gok_R a5 (Or.inl (a5.lt (by omega) hxx))) a6 a7 a8
      · refine va_astq (r := (RX7, TX7, 3)) (ci := 7) (f := fun j => (R o j).map ad) hx hb hK a2 a3 a4 o 5 x (by rw [gW_at (a5.lta (by omega) ho), gE1_arr ho]; rfl) (gty_at (by omega)) (by rw [gW_at (a5.lt (by omega) hxx), gE1_obj hxx]) rfl hin (by simpa using hd) (fun H1 locs1 b1 b2 b3 => ?_)
        have hW := gWa_R (cy := E.2.2.1) (ad := ad) (n := n) (I := I) (L := L) (R := R) (i := i.toNatClampNeg) (x := x) ho (Or.inr rfl)
        exact hk _ _ _ _ _ _ h4 ad H1 locs1 ls a1 (hW ▸ b1) (hW ▸ b2) b3 (gok_R a5 (Or.inl (a5.lt (by omega) hxx))) a6 a7 a8
    | arraylength =>
      have hn := gk1 hok
      subst hn
      obtain ⟨o, r, rfl, hz1⟩ := g1r_e (h : g1r st _)
      obtain ⟨t, len, hz2⟩ := garrl_e hz1
      intro ad H locs ls a1 a2 a3 a4 a5 a6 a7 a8
      rcases hz2 with ⟨ht, ho, hz3⟩ | ⟨ht, ho, hz3⟩
      · have K := hk _ _ _ _ _ _ (hz3) ad H locs ls a1 a2 a3 a4 a5 a6 a7 a8
        rcases ht with ht | ht
        · exact va_alen (x := gAr ad u t len o) (v := nI len) hx hb hK a2 o t (by rw [gW_at (a5.lta ht ho), gE1_arr ho]) (gty_at ht) rfl (by simpa using hd) K
        · subst ht
          obtain ⟨o1, o2, o3⟩ := a5.byt ho
          have hT2 := (hX.2.2.1.1.1 (o - 1100) (g1100b o1 o2).1).2.2.2
          dsimp only at hT2
          rw [(g1100b o1 o2).2, ← o3] at hT2
          have hg := va_tlen (v := nI len) hx hb hT2 a4 rfl (by simpa using hd) K
          have e1 : ad o = E.2.2.2 o := by rw [a1.1 _ (Or.inr (by omega)), h00 _ (by omega)]
          rw [← e1] at hg
          exact hg
      · have K := hk _ _ _ _ _ _ (hz3) ad H locs ls a1 a2 a3 a4 a5 a6 a7 a8
        have ho2 := a5.und ho
        subst ho2
        have hg := va_tlen (v := nI 6) hx hb hX.2.2.2.2.2 a4 rfl (by simpa using hd) K
        have e1 : ad 1200 = E.2.2.2 1200 := by rw [a1.1 _ (Or.inr (by omega)), h00 _ (by omega)]
        rw [← e1] at hg
        exact hg
    | _ => first | exact absurd h id | exact hI _ _ _ _ _ _ ⟨_, hf, rfl, hs⟩
end GS
