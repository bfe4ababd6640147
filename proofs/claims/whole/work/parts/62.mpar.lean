-- the model's readers
def rsl (nm : Nat → Int32) (st : List Int32) (ops : List Int32) : List Int32 := ops.foldl (rstep nm) st
theorem rsl_app {nm : Nat → Int32} {st a b : List Int32} : rsl nm st (a ++ b) = rsl nm (rsl nm st a) b := List.foldl_append
/-- steps that put w -/
def VS (nm : Nat → Int32) (ops : List Int32) (w : Int32) : Prop := ∀ st, rsl nm st ops = w :: st
theorem VS_push {nm : Nat → Int32} {s : Int32} (h : -6 ≤ s) : VS nm [s] (if s < 0 then nm (-1 - s).toNatClampNeg else s) := fun st => by
  show rstep nm st s = _
  unfold rstep; rw [if_pos h]
theorem VS_neg {nm : Nat → Int32} {ops : List Int32} {w : Int32} (h : VS nm ops w) : VS nm (ops ++ [-7]) (-w) := fun st => by
  rw [rsl_app, h st]; rfl
theorem VS_den {nm : Nat → Int32} {ops : List Int32} {w : Int32} (h : VS nm ops w) : VS nm (ops ++ [-8]) (if w = 0 then 1 else 0) := fun st => by
  rw [rsl_app, h st]; rfl
theorem VS_bin {nm : Nat → Int32} {o1 o2 : List Int32} {a b op : Int32} (h1 : VS nm o1 a) (h2 : VS nm o2 b) (hb : ¬ -6 ≤ op ∧ ¬ -8 ≤ op) : VS nm (o1 ++ o2 ++ [op]) (jn op a b) := fun st => by
  rw [rsl_app, rsl_app, h1 st, h2]
  show rstep nm (b :: a :: st) op = _
  unfold rstep; rw [if_neg hb.1, if_neg hb.2]
/-- nothing but the reading has changed -/
def mpf (I I' : Nat → Nat → Int32) (L L' : Nat → Nat → Int64) : Prop := (∀ k, k ≠ 0 → I' k = I k) ∧ (∀ j, j ≠ 20 → j ≠ 21 → j ≠ 23 → j ≠ 24 → j ≠ 25 → j ≠ 26 → I' 0 j = I 0 j) ∧ (∀ k, k ≠ 0 → L' k = L k) ∧ ∀ j, j ≠ 22 → L' 0 j = L 0 j
theorem mpf_refl (I : Nat → Nat → Int32) (L : Nat → Nat → Int64) : mpf I I L L := ⟨fun _ _ => rfl, fun _ _ _ _ _ _ _ => rfl, fun _ _ => rfl, fun _ _ => rfl⟩
theorem mpf_trans {I J H : Nat → Nat → Int32} {L M N : Nat → Nat → Int64} (h1 : mpf I J L M) (h2 : mpf J H M N) : mpf I H L N :=
  ⟨fun k a => (h2.1 k a).trans (h1.1 k a), fun j a b d e f g => (h2.2.1 j a b d e f g).trans (h1.2.1 j a b d e f g), fun k a => (h2.2.2.1 k a).trans (h1.2.2.1 k a), fun j a => (h2.2.2.2 j a).trans (h1.2.2.2 j a)⟩
theorem mpf_mkf {I J : Nat → Nat → Int32} {L M : Nat → Nat → Int64} (h : mkf I J L M) : mpf I J L M := ⟨h.1, fun j a b d _ _ _ => h.2.1 j a b d, h.2.2.1, h.2.2.2⟩
theorem mpf_I {I : Nat → Nat → Int32} {L : Nat → Nat → Int64} {j : Nat} (hj : j = 24 ∨ j = 25 ∨ j = 26) (x : Int32) : mpf I (gset I 0 (gupd (I 0) j x)) L L :=
  ⟨fun k a => gset_n a, fun i a b d e f g => by rw [gset_s, gupd_n (by omega)], fun _ _ => rfl, fun _ _ => rfl⟩
/-- what is read and by what names -/
def mcx (I : Nat → Nat → Int32) (b : Nat → Int32) (x n : Nat) (nm : Nat → Int32) : Prop := mtx I b x n ∧ ∀ j, j < 6 → I 0 (27 + j) = nm j
theorem mcx_mpf {I J : Nat → Nat → Int32} {L M : Nat → Nat → Int64} {b : Nat → Int32} {x n : Nat} {nm : Nat → Int32} (h : mcx I b x n nm) (hf : mpf I J L M) : mcx J b x n nm :=
  ⟨⟨(hf.2.1 18 (by decide) (by decide) (by decide) (by decide) (by decide) (by decide)).trans h.1.1, (hf.2.1 19 (by decide) (by decide) (by decide) (by decide) (by decide) (by decide)).trans h.1.2.1, h.1.2.2.1, h.1.2.2.2.1, fun j hj => by rw [hf.1 1 (by decide)]; exact h.1.2.2.2.2 j hj⟩, fun j hj => (hf.2.1 (27 + j) (by omega) (by omega) (by omega) (by omega) (by omega) (by omega)).trans (h.2 j hj)⟩
/-- a reader's end: good: its token, its value; else bad, the fault's place -/
def mPR (I : Nat → Nat → Int32) (L : Nat → Nat → Int64) (nm : Nat → Int32) (o : Nat) (r : Rs) (v : Option Value) (u' : gS) : Prop :=
  ∃ w I' L', v = some (.int w) ∧ u' = wM I' L' ∧ mpf I I' L L' ∧ (r.1 = true → mtS I' L' r.2.2 ∧ I' 0 25 = 0 ∧ I' 0 24 = nI o ∧ VS nm r.2.1 w) ∧ (¬ r.1 = true → I' 0 25 = 1 ∧ I' 0 26 = nI r.2.2.at_)
def mcR (E : gEnv) (b : Nat → Int32) (x n : Nat) (nm : Nat → Int32) (o d y : Nat) (R : Rdr) : Prop :=
  ∀ (I : Nat → Nat → Int32) (L : Nat → Nat → Int64) (t : Lx), mcx I b x n nm → mtS I L t → vL n t → I 0 25 = 0 → I 0 24 = nI o → gCtr E d 0 0 y [.ref 0] (wM I L) (mPR I L nm o (R t))
theorem lgc_0 (x y : Int64) : lg_cmp x y = 0 ↔ x = y := by
  unfold lg_cmp
  by_cases h1 : x > y
  · rw [if_pos h1]
    exact ⟨fun z => absurd z (by decide), fun z => by subst z; exact absurd h1 Int64.lt_irrefl⟩
  · rw [if_neg h1]
    by_cases h2 : x = y
    · rw [if_pos h2]; exact ⟨fun _ => h2, fun _ => rfl⟩
    · rw [if_neg h2]; exact ⟨fun z => absurd z (by decide), fun z => absurd z h2⟩
section
variable (E : gEnv) (I : Nat → Nat → Int32) (L : Nat → Nat → Int64)
theorem m_fail : gCtr E 1 0 0 nX10_fail [.ref 0] (wM I L) (fun v u' => v = none ∧ u' = wM (if I 0 25 = 0 then gset (gset I 0 (gupd (I 0) 25 1)) 0 (gupd (gset I 0 (gupd (I 0) 25 1) 0) 26 (I 0 21)) else I) L) := by
  refine gstart iX10_fail tX10_fail rfl rfl (fun K ca hK hca => ?_)
  refine hK [] 80 _ _ _ _ _ _ ?_
  clear hK
  refine gbr_i (fun h => ?_) (fun h => ?_)
  · rw [if_pos h]; exact gsd_i (Or.inr rfl) ⟨rfl, rfl⟩
  · rw [if_neg h]; exact ⟨rfl, rfl⟩
theorem m_isWord (k : Int64) : gCtr E 1 0 0 nX10_isWord [.ref 0, .long k] (wM I L) (fun v u' => u' = (wM I L) ∧ v = some (.int (if I 0 25 = 0 ∧ I 0 20 = 1 ∧ L 0 22 = k then 1 else 0))) := by
  refine gstart iX10_isWord tX10_isWord rfl rfl (fun K ca hK hca => ?_)
  refine hK [] 80 _ _ _ _ _ _ ?_
  clear hK
  clear hca
  refine gbr_i (fun h1 => ?_) (fun h1 => gsd_i (Or.inl rfl) (gz0 (fun z => h1 z.1)))
  refine gbr_i (fun h2 => ?_) (fun h2 => gsd_i (Or.inl rfl) (gz0 (fun z => h2 z.2.1)))
  refine gbr_i (fun h3 => ?_) (fun h3 => gsd_i (Or.inl rfl) (gz0 (fun z => h3 ((lgc_0 _ _).mpr z.2.2))))
  exact gsd_i (Or.inr rfl) (gz1 ⟨h1, h2, (lgc_0 _ _).mp h3⟩)
theorem m_isSign (s : Int32) : gCtr E 1 0 0 nX10_isSign [.ref 0, .int s] (wM I L) (fun v u' => u' = (wM I L) ∧ v = some (.int (if I 0 25 = 0 ∧ I 0 20 = 3 ∧ L 0 22 = s.toInt64 then 1 else 0))) := by
  refine gstart iX10_isSign tX10_isSign rfl rfl (fun K ca hK hca => ?_)
  refine hK [] 80 _ _ _ _ _ _ ?_
  clear hK
  clear hca
  refine gbr_i (fun h1 => ?_) (fun h1 => gsd_i (Or.inl rfl) (gz0 (fun z => h1 z.1)))
  refine gbr_i (fun h2 => ?_) (fun h2 => gsd_i (Or.inl rfl) (gz0 (fun z => h2 z.2.1)))
  refine gbr_i (fun h3 => ?_) (fun h3 => gsd_i (Or.inl rfl) (gz0 (fun z => h3 ((lgc_0 _ _).mpr z.2.2))))
  exact gsd_i (Or.inr rfl) (gz1 ⟨h1, h2, (lgc_0 _ _).mp h3⟩)
end
section
variable {E : gEnv} {I : Nat → Nat → Int32} {L : Nat → Nat → Int64} {d mc ms : Nat} {ca : Nat → List Value → List Nat → gS → Nat → Nat → (Nat → Nat → Option Value → gS → Prop) → Prop} (hca : gCalls E d mc ms ca) {rs : List Nat} {k : Nat → Nat → Option Value → gS → Prop}
theorem gfail (hca : gCalls E d mc ms ca) (hd : 1 < d) (h0 : I 0 25 = 0) {a : Nat} (ha : I 0 21 = nI a) (hk : ∀ I', mpf I I' L L → I' 0 25 = 1 → I' 0 26 = nI a → k 0 0 none (wM I' L)) : ca nX10_fail [.ref 0] rs (wM I L) 0 0 k := by
  refine gcall0 hca (m_fail E I L) (blt_t hd) ?_
  rintro w u' - ⟨rfl, rfl⟩
  rw [if_pos h0]
  exact hk _ (mpf_trans (mpf_I (j := 25) (by decide) 1) (mpf_I (j := 26) (by decide) (I 0 21))) rfl ha
theorem gfailB (hca : gCalls E d mc ms ca) (hd : 1 < d) (h0 : I 0 25 = 1) (hk : k 0 0 none (wM I L)) : ca nX10_fail [.ref 0] rs (wM I L) 0 0 k := by
  refine gcall0 hca (m_fail E I L) (blt_t hd) ?_
  rintro w u' - ⟨rfl, rfl⟩
  rw [if_neg (fun z => by rw [h0] at z; exact absurd z (by decide))]
  exact hk
theorem gsign (hca : gCalls E d mc ms ca) (hd : 1 < d) (h0 : I 0 25 = 0) {t : Lx} (hS : mtS I L t) {s : Int32} (hs : isSg s = true) (h1 : t.tk = s → k 0 0 (some (.int 1)) (wM I L)) (h2 : ¬ t.tk = s → k 0 0 (some (.int 0)) (wM I L)) : ca nX10_isSign [.ref 0, .int s] rs (wM I L) 0 0 k := by
  refine gcall0 hca (m_isSign E I L s) (blt_t hd) ?_
  rintro w u' - ⟨rfl, rfl⟩
  have hi := hS.2.2.2.1 s hs
  by_cases h : t.tk = s
  · rw [if_pos ⟨h0, hi.mpr h⟩]; exact h1 h
  · rw [if_neg (fun z => h (hi.mp z.2))]; exact h2 h
theorem gsignB (hca : gCalls E d mc ms ca) (hd : 1 < d) (h0 : I 0 25 = 1) {s : Int32} (h2 : k 0 0 (some (.int 0)) (wM I L)) : ca nX10_isSign [.ref 0, .int s] rs (wM I L) 0 0 k := by
  refine gcall0 hca (m_isSign E I L s) (blt_t hd) ?_
  rintro w u' - ⟨rfl, rfl⟩
  rw [if_neg (fun z => by rw [h0] at z; exact absurd z.1 (by decide))]; exact h2
theorem gword (hca : gCalls E d mc ms ca) (hd : 1 < d) (h0 : I 0 25 = 0) {t : Lx} (hS : mtS I L t) {q : Nat} (hq : q < 12) (h1 : t.tk = 128 + nI q → k 0 0 (some (.int 1)) (wM I L)) (h2 : ¬ t.tk = 128 + nI q → k 0 0 (some (.int 0)) (wM I L)) : ca nX10_isWord [.ref 0, .long (wcd q)] rs (wM I L) 0 0 k := by
  refine gcall0 hca (m_isWord E I L (wcd q)) (blt_t hd) ?_
  rintro w u' - ⟨rfl, rfl⟩
  have hi := hS.2.2.1 q hq
  by_cases h : t.tk = 128 + nI q
  · rw [if_pos ⟨h0, hi.mpr h⟩]; exact h1 h
  · rw [if_neg (fun z => h (hi.mp z.2))]; exact h2 h
theorem gwordB (hca : gCalls E d mc ms ca) (hd : 1 < d) (h0 : I 0 25 = 1) {x : Int64} (h2 : k 0 0 (some (.int 0)) (wM I L)) : ca nX10_isWord [.ref 0, .long x] rs (wM I L) 0 0 k := by
  refine gcall0 hca (m_isWord E I L x) (blt_t hd) ?_
  rintro w u' - ⟨rfl, rfl⟩
  rw [if_neg (fun z => by rw [h0] at z; exact absurd z.1 (by decide))]; exact h2
theorem gnext (hca : gCalls E d mc ms ca) (hd : 2 < d) {b : Nat → Int32} {x n : Nat} {nm : Nat → Int32} (hc : mcx I b x n nm) {t : Lx} (hS : mtS I L t) (hv : vL n t) (h1 : t.tk ≠ 1) (hk : ∀ I' L', mpf I I' L L' → I' 0 25 = I 0 25 → I' 0 24 = I 0 24 → I' 0 26 = I 0 26 → mtS I' L' (nxt (lex b n) t) → k 0 0 none (wM I' L')) : ca nX10_next [.ref 0] rs (wM I L) 0 0 k := by
  refine gcall0 hca (m_next E I L b x n t.nx hc.1 hv.2.1 (hS.2.1 h1)) (blt_t hd) ?_
  rintro w u' - ⟨rfl, I', L', rfl, hf, hS'⟩
  exact hk I' L' (mpf_mkf hf) (hf.2.1 25 (by decide) (by decide) (by decide)) (hf.2.1 24 (by decide) (by decide) (by decide)) (hf.2.1 26 (by decide) (by decide) (by decide)) hS'
end
section
variable (E : gEnv) (I : Nat → Nat → Int32) (L : Nat → Nat → Int64)
/-- one more is open -/
theorem m_opens (b : Nat → Int32) (x n : Nat) (nm : Nat → Int32) (o : Nat) (ho : o ≤ 5) (t : Lx) (hc : mcx I b x n nm) (hS : mtS I L t) (hv : vL n t) (h1 : t.tk ≠ 1) (h0 : I 0 25 = 0) (ho2 : I 0 24 = nI o) : gCtr E 3 0 0 nX10_opens [.ref 0] (wM I L) (fun v u' => ∃ I' L', u' = wM I' L' ∧ mpf I I' L L' ∧ (o = 5 → v = some (.int 0) ∧ I' 0 25 = 1 ∧ I' 0 26 = nI t.at_) ∧ (o < 5 → v = some (.int 1) ∧ I' 0 25 = 0 ∧ I' 0 24 = nI (o + 1) ∧ mtS I' L' (nxt (lex b n) t))) := by
  refine gstart iX10_opens tX10_opens rfl rfl (fun K ca hK hca => ?_)
  refine hK [] 80 _ _ _ _ _ _ ?_
  clear hK
  refine gbr_eq (x := I 0 24) (y := 5) ho2 (fun h => ?_) (fun h => ?_)
  · have h5 : o = 5 := (nI_eq (b := 5) (by omega) (by omega)).mp h
    refine gfail hca (by decide) h0 hS.1 (fun I' f1 f2 f3 => ?_)
    exact gsd_i (Or.inl rfl) ⟨I', L, rfl, f1, fun _ => ⟨rfl, f2, f3⟩, fun z => by omega⟩
  · have h5 : o ≠ 5 := fun z => h (by rw [z]; rfl)
    have hm := mpf_I (I := I) (L := L) (j := 24) (by decide) (I 0 24 + 1)
    have hS' : mtS (gset I 0 (gupd (I 0) 24 (I 0 24 + 1))) L t := hS
    refine gnext hca (by decide) (mcx_mpf hc hm) hS' hv h1 (fun I' L' f1 f2 f3 f4 f5 => ?_)
    refine gsd_i (Or.inr rfl) ⟨I', L', rfl, mpf_trans hm f1, fun z => absurd z h5, fun _ => ⟨rfl, f2.trans h0, ?_, f5⟩⟩
    rw [f3]
    show I 0 24 + 1 = _
    rw [ho2, nI_1]
/-- a name's value -/
theorem m_name (b : Nat → Int32) (x n : Nat) (nm : Nat → Int32) (t : Lx) (hc : mcx I b x n nm) (hS : mtS I L t) (h0 : I 0 25 = 0) : gCtr E 2 0 0 nX10_name [.ref 0] (wM I L) (fun v u' => (∀ q, q < 6 → t.tk = 128 + nI (6 + q) → v = some (.int (nm q)) ∧ u' = (wM I L)) ∧ ((∀ q, q < 6 → ¬ t.tk = 128 + nI (6 + q)) → v = some (.int 0) ∧ ∃ I', u' = wM I' L ∧ mpf I I' L L ∧ I' 0 25 = 1 ∧ I' 0 26 = nI t.at_)) := by
  refine gstart iX10_name tX10_name rfl rfl (fun K ca hK hca => ?_)
  refine hK [] 80 _ _ _ _ _ _ ?_
  clear hK
  have uniq : ∀ q r, q < 6 → r < 6 → t.tk = 128 + nI (6 + q) → t.tk = 128 + nI (6 + r) → q = r := fun q r hq hr h1 h2 => by
    rw [h1, show (128 : Int32) = nI 128 from rfl, nI_add, nI_add, nI_eq (by omega) (by omega)] at h2
    omega
  have got : ∀ q, q < 6 → t.tk = 128 + nI (6 + q) → ∀ y : Int32, y = I 0 (27 + q) → (∀ q, q < 6 → t.tk = 128 + nI (6 + q) → some (Value.int y) = some (.int (nm q)) ∧ (wM I L) = (wM I L)) ∧ ((∀ q, q < 6 → ¬ t.tk = 128 + nI (6 + q)) → some (Value.int y) = some (.int 0) ∧ ∃ I', (wM I L) = wM I' L ∧ mpf I I' L L ∧ I' 0 25 = 1 ∧ I' 0 26 = nI t.at_) := fun q hq h y hy =>
    ⟨fun r hr h2 => ⟨by rw [← uniq q r hq hr h h2, hy, hc.2 q hq], rfl⟩, fun z => absurd h (z q hq)⟩
  refine gword hca (by decide) h0 hS (q := 6) (by decide) (fun h => ?_) (fun n0 => ?_)
  · exact gbr_i (fun z => absurd z (by decide)) (fun _ => got 0 (by decide) h _ rfl)
  refine gbr_i (fun _ => ?_) (fun z => absurd rfl z)
  refine gword hca (by decide) h0 hS (q := 7) (by decide) (fun h => ?_) (fun n1 => ?_)
  · exact gbr_i (fun z => absurd z (by decide)) (fun _ => got 1 (by decide) h _ rfl)
  refine gbr_i (fun _ => ?_) (fun z => absurd rfl z)
  refine gword hca (by decide) h0 hS (q := 8) (by decide) (fun h => ?_) (fun n2 => ?_)
  · exact gbr_i (fun z => absurd z (by decide)) (fun _ => got 2 (by decide) h _ rfl)
  refine gbr_i (fun _ => ?_) (fun z => absurd rfl z)
  refine gword hca (by decide) h0 hS (q := 9) (by decide) (fun h => ?_) (fun n3 => ?_)
  · exact gbr_i (fun z => absurd z (by decide)) (fun _ => got 3 (by decide) h _ rfl)
  refine gbr_i (fun _ => ?_) (fun z => absurd rfl z)
  refine gword hca (by decide) h0 hS (q := 10) (by decide) (fun h => ?_) (fun n4 => ?_)
  · exact gbr_i (fun z => absurd z (by decide)) (fun _ => got 4 (by decide) h _ rfl)
  refine gbr_i (fun _ => ?_) (fun z => absurd rfl z)
  refine gword hca (by decide) h0 hS (q := 11) (by decide) (fun h => ?_) (fun n5 => ?_)
  · exact gbr_i (fun z => absurd z (by decide)) (fun _ => got 5 (by decide) h _ rfl)
  refine gbr_i (fun _ => ?_) (fun z => absurd rfl z)
  refine gfail hca (by decide) h0 hS.1 (fun I' f1 f2 f3 => ?_)
  refine ⟨fun q hq h => ?_, fun _ => ⟨rfl, I', rfl, f1, f2, f3⟩⟩
  exfalso
  match q, hq, h with
  | 0, _, h => exact n0 h
  | 1, _, h => exact n1 h
  | 2, _, h => exact n2 h
  | 3, _, h => exact n3 h
  | 4, _, h => exact n4 h
  | 5, _, h => exact n5 h
end
