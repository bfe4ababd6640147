/-- the walk up to the places of S, at most f instructions far -/
def gwp (C : List gI) (ca : Nat → List Value → List Nat → gS → Nat → Nat → (Nat → Nat → Option Value → gS → Prop) → Prop) (d : Nat) (ret : Option FieldType) (post : Option Value → gS → Prop) (mc ms : Nat) (S : List Nat) (K : Nat → Nat → Nat → gLv → List Value → gS → Prop) : Nat → Nat → Nat → Nat → gLv → List Value → gS → Prop
  | 0, kc, ks, pc, lv, st, u => K kc ks pc lv st u
  | f + 1, kc, ks, pc, lv, st, u => gstp C ca d ret post mc ms (fun kc ks pc lv st u => cond (S.elem pc) (K kc ks pc lv st u) (gwp C ca d ret post mc ms S K f kc ks pc lv st u)) kc ks pc lv st u
def gargl : List Value → gLv
  | [] => []
  | .long x :: l => some (.long x) :: none :: gargl l
  | v :: l => some v :: gargl l
/-- the locals at a method's start -/
def gpad : Nat → gLv → gLv
  | 0, _ => []
  | n + 1, [] => none :: gpad n []
  | n + 1, v :: l => v :: gpad n l
/-- WHAT A WALK OF A METHOD MAY USE: K is 'the method, from there, keeps its contract'; from the walk's end to its begin -/
def gWalk (E : gEnv) (C : List gI) (d : Nat) (ret : Option FieldType) (post : Option Value → gS → Prop) (mc ms : Nat) (K : Nat → Nat → Nat → gLv → List Value → gS → Prop) (ca : Nat → List Value → List Nat → gS → Nat → Nat → (Nat → Nat → Option Value → gS → Prop) → Prop) : Prop :=
  ∀ (S : List Nat) (f kc ks pc : Nat) (lv : gLv) (st : List Value) (u : gS), gwp C ca d ret post mc ms S K f kc ks pc lv st u → K kc ks pc lv st u
/-- what it may use of calls -/
def gCalls (E : gEnv) (d mc ms : Nat) (ca : Nat → List Value → List Nat → gS → Nat → Nat → (Nat → Nat → Option Value → gS → Prop) → Prop) : Prop := ∀ y av rs u kc ks k, gCall E d mc ms y av rs u kc ks k → ca y av rs u kc ks k
/-- a method's table: its rows are as its code says -/
def gTab (y : Nat) (C : List gI) : Prop := ∀ q : gM, gMt[y]? = some q → ∀ r ∈ C, gchk q.1.cls q.2.1 q.2.2.1 q.2.2.2.1 (q.2.2.2.2.1 == 2) r = true
theorem gnth_pad : ∀ {n : Nat} {l : gLv} {i : Nat} {v : Value}, gnth (gpad n l) i = some v → gnth l i = some v := by
  intro n
  induction n with
  | zero => intro l i v h; cases h
  | succ n ih =>
    intro l i v h
    cases l with
    | nil =>
      cases i with
      | zero => cases h
      | succ i => have h2 := ih (l := []) (i := i) (v := v) h; cases h2
    | cons w l =>
      cases i with
      | zero => exact h
      | succ i => exact ih (l := l) (i := i) (v := v) h
theorem gargl_nth {ad : Nat → Nat} : ∀ {av : List Value} {i : Nat} {v : Value}, (∀ w ∈ av, ∀ x, w ≠ .double x) → gnth (gargl av) i = some v → (i, gcv ad v) ∈ lv_args 0 (av.map (gcv ad)) ∧ v ∈ av := by
  have key : ∀ (av : List Value) (b i : Nat) (v : Value), (∀ w ∈ av, ∀ x, w ≠ .double x) → gnth (gargl av) i = some v → (b + i, gcv ad v) ∈ lv_args b (av.map (gcv ad)) ∧ v ∈ av := by
    intro av
    induction av with
    | nil => intro b i v _ h; cases h
    | cons w l ih =>
      intro b i v hnd h
      have hl : ∀ w ∈ l, ∀ x, w ≠ .double x := fun w hw => hnd w (List.mem_cons_of_mem _ hw)
      have one : gargl (w :: l) = some w :: gargl l → w.category = 1 → (b + i, gcv ad v) ∈ lv_args b ((w :: l).map (gcv ad)) ∧ v ∈ w :: l := by
        intro e hc
        rw [e] at h
        cases i with
        | zero =>
          cases h
          exact ⟨by simp [lv_args], List.mem_cons_self⟩
        | succ i =>
          obtain ⟨h1, h2⟩ := ih (b + 1) i v hl h
          refine ⟨?_, List.mem_cons_of_mem _ h2⟩
          rw [List.map_cons]
          unfold lv_args
          refine List.mem_cons_of_mem _ ?_
          rw [gcat, hc, show b + (i + 1) = b + 1 + i by omega]
          exact h1
      cases w with
      | long x =>
        cases i with
        | zero =>
          cases h
          exact ⟨by simp [lv_args], List.mem_cons_self⟩
        | succ i =>
          cases i with
          | zero => cases h
          | succ i =>
            obtain ⟨h1, h2⟩ := ih (b + 2) i v hl h
            refine ⟨?_, List.mem_cons_of_mem _ h2⟩
            rw [List.map_cons]
            unfold lv_args
            refine List.mem_cons_of_mem _ ?_
            rw [show b + (i + 1 + 1) = b + 2 + i by omega]
            exact h1
      | double x => exact absurd rfl (hnd _ List.mem_cons_self x)
      | int x => exact one rfl rfl
      | float x => exact one rfl rfl
      | null => exact one rfl rfl
      | ref x => exact one rfl rfl
      | retAddr x => exact one rfl rfl
  intro av i v hnd h
  have := key av 0 i v hnd h
  rwa [Nat.zero_add] at this
def gndb : List Value → Bool
  | [] => true
  | .double _ :: _ => false
  | _ :: l => gndb l
theorem gndb_e : ∀ {av : List Value}, gndb av = true → ∀ w ∈ av, ∀ x, w ≠ .double x := by
  intro av
  induction av with
  | nil => intro _ w h; cases h
  | cons a l ih =>
    intro h w hw x
    cases a with
    | double y => cases h
    | _ =>
      rcases List.mem_cons.mp hw with e | e
      · rw [e]; exact fun z => by cases z
      · exact ih h w e x
def gcatl : List Value → Nat
  | [] => 0
  | v :: l => v.category + gcatl l
theorem gcatl_len (ad : Nat → Nat) : ∀ (av : List Value), (lg_sl (av.map (gcv ad))).length = gcatl av := by
  intro av
  induction av with
  | nil => rfl
  | cons v l ih =>
    cases v <;> simp [lg_sl, gcv, gcatl, Value.category, ← ih] <;> omega
theorem gwalk_of {E : gEnv} {p : Program} {e : Env} {s : State} {m : MethodId} {args : Array Value} {below : List Frame} {meth : Method} {c : Code} {own : String} {cc : ByteArray} {nL d mc ms : Nat} {ret : Option FieldType} {ini : Bool} {ad0 : Nat → Nat} {n0 : Nat} {post : Option Value → gS → Prop} {C : List gI} (h00 : ∀ k, 1000 ≤ k → ad0 k = E.2.2.2 k) (hC : gCx E p s m args meth c own cc nL ret ini (gA ad0 n0 s.heap.size)) (hT : ∀ r ∈ C, gchk own cc nL ret ini r = true) :
    gWalk E C d ret post mc ms (gG E p e (gRm d mc ms) s m args below meth c nL mc (gA ad0 n0 s.heap.size) ad0 n0 (MQ below (gQc E ad0 n0 s.heap.size mc post) args s mc ms (gA ad0 n0 s.heap.size))) (gCall E d mc ms) := by
  intro S f
  induction f with
  | zero => intro kc ks pc lv st u h; exact h
  | succ f ih =>
    intro kc ks pc lv st u h
    have hk : ∀ kc ks pc lv st u, cond (S.elem pc) (gG E p e (gRm d mc ms) s m args below meth c nL mc (gA ad0 n0 s.heap.size) ad0 n0 (MQ below (gQc E ad0 n0 s.heap.size mc post) args s mc ms (gA ad0 n0 s.heap.size)) kc ks pc lv st u) (gwp C (gCall E d mc ms) d ret post mc ms S (gG E p e (gRm d mc ms) s m args below meth c nL mc (gA ad0 n0 s.heap.size) ad0 n0 (MQ below (gQc E ad0 n0 s.heap.size mc post) args s mc ms (gA ad0 n0 s.heap.size))) f kc ks pc lv st u) → gG E p e (gRm d mc ms) s m args below meth c nL mc (gA ad0 n0 s.heap.size) ad0 n0 (MQ below (gQc E ad0 n0 s.heap.size mc post) args s mc ms (gA ad0 n0 s.heap.size)) kc ks pc lv st u := by
      intro kc ks pc lv st u h
      cases hS : S.elem pc with
      | true => rw [hS] at h; exact h
      | false => rw [hS] at h; exact ih kc ks pc lv st u h
    exact gstp_one h00 hC hT hk (fun kc ks pc lv st u h => gstp_iv h00 hC hT hk h) h
set_option maxHeartbeats 1000000 in
/-- A CONTRACT OUT OF ITS WALK -/
theorem gstart {E : gEnv} {d mc ms y : Nat} {av : List Value} {u : gS} {post : Option Value → gS → Prop} {C : List gI} {q : gM} (hy : gMt[y]? = some q) (hT : gTab y C) (hnd : gndb av = true) (hlen : Nat.ble (gcatl av) q.2.2.1 = true)
    (hw : ∀ K ca, gWalk E C d q.2.2.2.1 post mc ms K ca → gCalls E d mc ms ca → K 0 0 0 (gpad q.2.2.1 (gargl av)) [] u) : gCtr E d mc ms y av u post := by
  intro q' hq' ad0 sz h00
  rw [hy] at hq'
  cases hq'
  obtain ⟨m1, m2, m3, m4, m5, m6, m7, m8⟩ := gMf hy
  refine Met.ofW (cc := q.2.1) (maxL := q.2.2.1) (ret := q.2.2.2.1) m6 rfl ?_
  intro p e s m args below meth c s₁ B hml hv
  obtain ⟨rfl, hsz, hP, hD, hok, hK, hX⟩ := hv
  subst hsz
  have hts := atoms_spec (ws := gws q) B.pre
  have hown : s.vm.findClass q.1.cls = some m.cls := findClass_of_methodNamed B.named
  have hA : ∀ z : Nat, s.heap.size ≤ z → gA ad0 u.1 s.heap.size z := fun z hz => Or.inr hz
  have hC : gCx E p s m (av.map (gcv ad0)).toArray meth c q.1.cls q.2.1 q.2.2.1 q.2.2.2.1 (q.2.2.2.2.1 == 2) (gA ad0 u.1 s.heap.size) :=
    ⟨B.exec, B.bytes, hml, hown, fun w hw => hts w (List.mem_cons_of_mem _ hw), hK, B.notSynchronized, B.returns, fun hi => by
      rw [(name_of_methodNamed B.named B.method).1]
      exact (m5 (by simpa using hi)).2.1, hX, hA⟩
  have hone := hw _ _ (gwalk_of (below := below) (e := e) (d := d) (ms := ms) (mc := mc) (post := post) h00 hC (hT q hy)) (fun _ _ _ _ _ _ _ h => h)
  have hl := lv_entry (av.map (gcv ad0)) (n := q.2.2.1) (by rw [gcatl_len]; exact Nat.le_of_ble_eq_true hlen)
  rw [lg_entry_eq]
  generalize (lg_sl (av.map (gcv ad0)) ++ List.replicate (q.2.2.1 - (lg_sl (av.map (gcv ad0))).length) Slot.unset).toArray = ls at hl ⊢
  exact hone ad0 s.heap [] ls ⟨fun _ _ => rfl, fun _ => rfl⟩ hP ⟨hD.1, fun k z hz => by
      obtain ⟨h1, h2⟩ := gW_lt hz
      rw [h2]
      exact Or.inl ⟨k, h1, rfl⟩⟩ va_S.rf hok (Nat.le_refl _) ⟨hl.1, hl.2.1, fun i v hv => hl.2.2 _ (gargl_nth (gndb_e hnd) (gnth_pad hv)).1⟩ (fun i v x hv => gndb_e hnd _ (gargl_nth (ad := ad0) (gndb_e hnd) (gnth_pad hv)).2 x)
