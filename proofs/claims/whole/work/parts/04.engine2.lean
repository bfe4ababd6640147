-- classes, fields, words
def gkd (ty : FieldType) : Nat := match ty with
  | .long => 1
  | .object _ => 2
  | .array _ => 2
  | _ => 0
def gTy (ci : Nat) : Nat → FieldType := match ci with
  | 0 => tyX0
  | 1 => tyX1
  | 2 => tyX2
  | 3 => tyX3
  | 4 => tyX4
  | 5 => tyX5
  | 6 => tyX6
  | 7 => tyX7
  | 8 => tyX8
  | 9 => tyX9
  | _ => tyX10
def gN (ci : Nat) : Nat := match ci with
  | 0 => 6
  | 1 => 9
  | 2 => 5
  | 3 => 7
  | 4 => 3
  | 5 => 9
  | 6 => 7
  | 7 => 3
  | 8 => 3
  | 9 => 9
  | _ => 55
def gT : List Cond := lw_tbl.filter goodWord
def gat (c : Nat) (w : Cond) : Bool := decide (lw_tbl[c]? = some w) && goodWord w
theorem gat_mem {c : Nat} {w : Cond} (h : gat c w = true) : w ∈ gT := by
  unfold gat at h
  rw [Bool.and_eq_true] at h
  exact List.mem_filter.mpr ⟨List.mem_of_getElem? (of_decide_eq_true h.1), h.2⟩
theorem gall {ws : List Cond} (h : ws.all (fun w => decide (w ∈ lw_tbl) && goodWord w) = true) : ∀ w ∈ ws, w ∈ gT := fun w hw => by
  have h1 := List.all_eq_true.mp h w hw
  rw [Bool.and_eq_true] at h1
  exact List.mem_filter.mpr ⟨of_decide_eq_true h1.1, h1.2⟩
theorem gin0 : ∀ w ∈ u_ws RX0 TX0 6, w ∈ gT := gall (by decide +kernel)
theorem gin1 : ∀ w ∈ u_ws RX1 TX1 9, w ∈ gT := gall (by decide +kernel)
theorem gin2 : ∀ w ∈ u_ws RX2 TX2 5, w ∈ gT := gall (by decide +kernel)
theorem gin3 : ∀ w ∈ u_ws RX3 TX3 7, w ∈ gT := gall (by decide +kernel)
theorem gin4 : ∀ w ∈ u_ws RX4 TX4 3, w ∈ gT := gall (by decide +kernel)
theorem gin5 : ∀ w ∈ u_ws RX5 TX5 9, w ∈ gT := gall (by decide +kernel)
theorem gin6 : ∀ w ∈ u_ws RX6 TX6 7, w ∈ gT := gall (by decide +kernel)
theorem gin7 : ∀ w ∈ u_ws RX7 TX7 3, w ∈ gT := gall (by decide +kernel)
theorem gin8 : ∀ w ∈ u_ws RX8 TX8 3, w ∈ gT := gall (by decide +kernel)
theorem gin9 : ∀ w ∈ u_ws RX9 TX9 9, w ∈ gT := gall (by decide +kernel)
theorem gin10 : ∀ w ∈ u_ws RX10 TX10 55, w ∈ gT := gall (by decide +kernel)
/-- what is said of a class of the list by its number -/
def gClOk (ci : Nat) (q : vw_C) : Prop := q.2.2 = gN ci ∧ (∀ k, k < q.2.2 → parseFieldDescriptor (q.2.1 k).2.2.1 = some (gTy ci k)) ∧ (∀ a, a < q.2.2 → ∀ b, b < q.2.2 → a ≠ b → (q.2.1 a).2.1 ≠ (q.2.1 b).2.1) ∧ ∀ w ∈ u_ws q.1 q.2.1 q.2.2, w ∈ gT
theorem gcl : ∀ {ci : Nat} {q : vw_C}, vwCl[ci]? = some q → gClOk ci q := by
  intro ci q h
  match ci, h with
  | 0, h => cases h; exact ⟨rfl, tyX0_ok, nmX0, gin0⟩
  | 1, h => cases h; exact ⟨rfl, tyX1_ok, nmX1, gin1⟩
  | 2, h => cases h; exact ⟨rfl, tyX2_ok, nmX2, gin2⟩
  | 3, h => cases h; exact ⟨rfl, tyX3_ok, nmX3, gin3⟩
  | 4, h => cases h; exact ⟨rfl, tyX4_ok, nmX4, gin4⟩
  | 5, h => cases h; exact ⟨rfl, tyX5_ok, nmX5, gin5⟩
  | 6, h => cases h; exact ⟨rfl, tyX6_ok, nmX6, gin6⟩
  | 7, h => cases h; exact ⟨rfl, tyX7_ok, nmX7, gin7⟩
  | 8, h => cases h; exact ⟨rfl, tyX8_ok, nmX8, gin8⟩
  | 9, h => cases h; exact ⟨rfl, tyX9_ok, nmX9, gin9⟩
  | 10, h => cases h; exact ⟨rfl, tyX10_ok, nmX10, gin10⟩
  | ci + 11, h => simp [vwCl] at h
-- the world's cells
def gv (u : gS) (kd k j : Nat) : Value := match kd with
  | 0 => .int (u.2.2.1 k j)
  | 1 => .long (u.2.2.2.1 k j)
  | _ => va_rf (u.2.2.2.2 k j)
def gF (ad : Nat → Nat) (u : gS) (ci k : Nat) : List Value := (List.range (gN ci)).map (fun j => gcv ad (gv u (gkd (gTy ci j)) k j))
def gAr (ad : Nat → Nat) (u : gS) (tc len k : Nat) : vp_A := (len, match tc with
  | 2 => .inr (.inl (u.2.2.2.1 k))
  | 4 => .inr (.inr (.inr (.inr (fun j => (u.2.2.2.2 k j).map ad))))
  | 5 => .inr (.inr (.inr (.inr (fun j => (u.2.2.2.2 k j).map ad))))
  | _ => .inl (u.2.2.1 k))
def gE1 (cy : Nat → ClassId) (ad : Nat → Nat) (u : gS) (k : Nat) : va_E := match u.2.1 k with
  | .inl ci => .inr (ci, gF ad u ci k)
  | .inr (tc, len) => .inl (cy tc, gAr ad u tc len k)
def gW (cy : Nat → ClassId) (ad : Nat → Nat) (u : gS) : va_W := (List.range u.1).map (fun k => (ad k, gE1 cy ad u k))
theorem gW_at {cy : Nat → ClassId} {ad : Nat → Nat} {u : gS} {k : Nat} (h : k < u.1) : (gW cy ad u)[k]? = some (ad k, gE1 cy ad u k) := by
  unfold gW
  rw [List.getElem?_map, List.getElem?_range h]
  rfl
theorem gW_lt {cy : Nat → ClassId} {ad : Nat → Nat} {u : gS} {k : Nat} {q : Nat × va_E} (h : (gW cy ad u)[k]? = some q) : k < u.1 ∧ q = (ad k, gE1 cy ad u k) := by
  have hl : k < u.1 := by
    have := (List.getElem?_eq_some_iff.mp h).1
    simpa [gW] using this
  rw [gW_at hl] at h
  exact ⟨hl, (Option.some.inj h).symm⟩
theorem gF_at {ad : Nat → Nat} {u : gS} {ci k j : Nat} (h : j < gN ci) : (gF ad u ci k)[j]? = some (gcv ad (gv u (gkd (gTy ci j)) k j)) := by
  unfold gF
  rw [List.getElem?_map, List.getElem?_range h]
  rfl
theorem gF_len {ad : Nat → Nat} {u : gS} {ci k : Nat} : (gF ad u ci k).length = gN ci := by simp [gF]
theorem gset_s {α : Type} {I : Nat → Nat → α} {k : Nat} {f : Nat → α} : gset I k f k = f := by simp [gset]
theorem gset_n {α : Type} {I : Nat → Nat → α} {k a : Nat} {f : Nat → α} (h : a ≠ k) : gset I k f a = I a := by
  unfold gset
  cases hb : Nat.beq a k with
  | true => exact absurd (Nat.eq_of_beq_eq_true hb) h
  | false => rfl
theorem gupd_s {α : Type} {f : Nat → α} {j : Nat} {v : α} : gupd f j v j = v := by simp [gupd]
theorem gupd_n {α : Type} {f : Nat → α} {j q : Nat} {v : α} (h : q ≠ j) : gupd f j v q = f q := by
  unfold gupd
  cases hb : Nat.beq q j with
  | true => exact absurd (Nat.eq_of_beq_eq_true hb) h
  | false => rfl
theorem gupd_upd (f : Nat → Int32) (k : Nat) (x : Int32) : upd f k x = gupd f k x := by
  funext q
  by_cases h : q = k
  · subst h; simp [upd, gupd_s]
  · simp [upd, h, gupd_n h]
theorem gupd_updL (f : Nat → Int64) (k : Nat) (x : Int64) : vp_updL f k x = gupd f k x := by
  funext q
  by_cases h : q = k
  · subst h; simp [vp_updL, gupd_s]
  · simp [vp_updL, h, gupd_n h]
theorem gset_gset {α : Type} (I : Nat → Nat → α) (k : Nat) (f g : Nat → α) : gset (gset I k f) k g = gset I k g := by
  funext a
  by_cases h : a = k
  · subst h; rw [gset_s, gset_s]
  · rw [gset_n h, gset_n h, gset_n h]
theorem gset_self {α : Type} (I : Nat → Nat → α) (k : Nat) : gset I k (I k) = I := by
  funext a
  by_cases h : a = k
  · subst h; rw [gset_s]
  · rw [gset_n h]
theorem gset_comm {α : Type} (I : Nat → Nat → α) {k j : Nat} (h : k ≠ j) (f g : Nat → α) : gset (gset I k f) j g = gset (gset I j g) k f := by
  funext a
  by_cases h1 : a = k
  · subst h1; rw [gset_n h, gset_s, gset_s]
  · by_cases h2 : a = j
    · subst h2; rw [gset_s, gset_n h1, gset_s]
    · rw [gset_n h2, gset_n h1, gset_n h1, gset_n h2]
/-- one cell of the world is another: the list with that place set -/
theorem gW_set {cy : Nat → ClassId} {ad : Nat → Nat} {u u' : gS} {k : Nat} {e : va_E} (h1 : u'.1 = u.1) (hk : gE1 cy ad u' k = e) (ho : ∀ a, a < u.1 → a ≠ k → gE1 cy ad u' a = gE1 cy ad u a) : (gW cy ad u).set k (ad k, e) = gW cy ad u' := by
  apply List.ext_getElem?
  intro a
  rw [List.getElem?_set]
  by_cases h : a < u.1
  · rw [gW_at (u := u') (by rw [h1]; exact h)]
    by_cases ha : k = a
    · subst ha
      rw [if_pos rfl, if_pos (by simpa [gW] using h), hk]
    · rw [if_neg ha, gW_at h, ho a h (fun e => ha e.symm)]
  · have h2 : (gW cy ad u')[a]? = none := by
      rw [List.getElem?_eq_none_iff]; simp [gW]; omega
    have h3 : (gW cy ad u)[a]? = none := by
      rw [List.getElem?_eq_none_iff]; simp [gW]; omega
    rw [h2, h3]
    by_cases ha : k = a
    · subst ha; rw [if_pos rfl, if_neg (by simp [gW]; omega)]
    · rw [if_neg ha]
/-- an int place of a cell is another -/
theorem gE1_I {cy : Nat → ClassId} {ad : Nat → Nat} {n : Nat} {sh : Nat → gSh} {I I' : Nat → Nat → Int32} {L : Nat → Nat → Int64} {R : Nat → Nat → Option Nat} {a : Nat} (h : I' a = I a) : gE1 cy ad (n, sh, I', L, R) a = gE1 cy ad (n, sh, I, L, R) a := by
  unfold gE1
  show (match sh a with | .inl ci => _ | .inr (tc, len) => _) = (match sh a with | .inl ci => _ | .inr (tc, len) => _)
  split
  · congr 2
    unfold gF
    apply List.map_congr_left
    intro j _
    congr 1
    unfold gv
    split <;> simp only [h]
  · congr 2
    unfold gAr
    congr 1
    split <;> simp only [h]
theorem gE1_L {cy : Nat → ClassId} {ad : Nat → Nat} {n : Nat} {sh : Nat → gSh} {I : Nat → Nat → Int32} {L L' : Nat → Nat → Int64} {R : Nat → Nat → Option Nat} {a : Nat} (h : L' a = L a) : gE1 cy ad (n, sh, I, L', R) a = gE1 cy ad (n, sh, I, L, R) a := by
  unfold gE1
  show (match sh a with | .inl ci => _ | .inr (tc, len) => _) = (match sh a with | .inl ci => _ | .inr (tc, len) => _)
  split
  · congr 2
    unfold gF
    apply List.map_congr_left
    intro j _
    congr 1
    unfold gv
    split <;> simp only [h]
  · congr 2
    unfold gAr
    congr 1
    split <;> simp only [h]
theorem gE1_R {cy : Nat → ClassId} {ad : Nat → Nat} {n : Nat} {sh : Nat → gSh} {I : Nat → Nat → Int32} {L : Nat → Nat → Int64} {R R' : Nat → Nat → Option Nat} {a : Nat} (h : R' a = R a) : gE1 cy ad (n, sh, I, L, R') a = gE1 cy ad (n, sh, I, L, R) a := by
  unfold gE1
  show (match sh a with | .inl ci => _ | .inr (tc, len) => _) = (match sh a with | .inl ci => _ | .inr (tc, len) => _)
  split
  · congr 2
    unfold gF
    apply List.map_congr_left
    intro j _
    congr 1
    unfold gv
    split <;> simp only [h]
  · congr 2
    unfold gAr
    congr 1
    split <;> simp only [h]
/-- the fields of an object with one of them set -/
theorem gF_set {ad : Nat → Nat} {u u' : gS} {ci k j : Nat} {v : Value} (hj : j < gN ci) (hv : gcv ad (gv u' (gkd (gTy ci j)) k j) = v) (ho : ∀ i, i < gN ci → i ≠ j → gv u' (gkd (gTy ci i)) k i = gv u (gkd (gTy ci i)) k i) : (gF ad u ci k).set j v = gF ad u' ci k := by
  apply List.ext_getElem?
  intro i
  rw [List.getElem?_set]
  by_cases h : i < gN ci
  · rw [gF_at (u := u') h]
    by_cases hi : j = i
    · subst hi; rw [if_pos rfl, if_pos (by rw [gF_len]; exact h), hv]
    · rw [if_neg hi, gF_at h, ho i h (fun e => hi e.symm)]
  · have h2 : (gF ad u' ci k)[i]? = none := by rw [List.getElem?_eq_none_iff, gF_len]; omega
    have h3 : (gF ad u ci k)[i]? = none := by rw [List.getElem?_eq_none_iff, gF_len]; omega
    rw [h2, h3]
    by_cases hi : j = i
    · subst hi; rw [if_pos rfl, if_neg (by rw [gF_len]; omega)]
    · rw [if_neg hi]
theorem gv_I {n : Nat} {sh : Nat → gSh} {I I' : Nat → Nat → Int32} {L : Nat → Nat → Int64} {R : Nat → Nat → Option Nat} {kd k j : Nat} (h : I' k j = I k j) : gv (n, sh, I', L, R) kd k j = gv (n, sh, I, L, R) kd k j := by unfold gv; split <;> simp only [h]
theorem gv_L {n : Nat} {sh : Nat → gSh} {I : Nat → Nat → Int32} {L L' : Nat → Nat → Int64} {R : Nat → Nat → Option Nat} {kd k j : Nat} (h : L' k j = L k j) : gv (n, sh, I, L', R) kd k j = gv (n, sh, I, L, R) kd k j := by unfold gv; split <;> simp only [h]
theorem gv_R {n : Nat} {sh : Nat → gSh} {I : Nat → Nat → Int32} {L : Nat → Nat → Int64} {R R' : Nat → Nat → Option Nat} {kd k j : Nat} (h : R' k j = R k j) : gv (n, sh, I, L, R') kd k j = gv (n, sh, I, L, R) kd k j := by unfold gv; split <;> simp only [h]
