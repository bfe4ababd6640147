/-! THE WALKER. A point of a method's walk is told by numbers of cells, not by addresses: the world u = (n, sh, I, L, R) has n cells; cell k is an object of class ci (sh k = .inl ci) or an array (sh k = .inr (kind of its items, length)); I, L, R hold ints, longs, references by cell and place. 'ad' says where a cell lies. gstp: what one instruction does, as a condition on what comes behind it. -/
abbrev gSh : Type := Nat ⊕ (Nat × Nat)
abbrev gS : Type := Nat × (Nat → gSh) × (Nat → Nat → Int32) × (Nat → Nat → Int64) × (Nat → Nat → Option Nat)
abbrev gLv : Type := List (Option Value)
/-- a row of a method: its place, length, instruction, three numbers, a constant, a switch's rows -/
abbrev gI : Type := Nat × Nat × Instr × (Nat × Nat × Nat) × Value × List (Int32 × Nat)
def gset {α : Type} (I : Nat → Nat → α) (k : Nat) (f : Nat → α) : Nat → Nat → α := fun a => cond (Nat.beq a k) f (I a)
def gupd {α : Type} (f : Nat → α) (j : Nat) (v : α) : Nat → α := fun q => cond (Nat.beq q j) v (f q)
def gcv (ad : Nat → Nat) (v : Value) : Value := match v with
  | .ref k => .ref (ad k)
  | .int x => .int x
  | .long x => .long x
  | .null => .null
  | .float x => .float x
  | .double x => .double x
  | .retAddr x => .retAddr x
def gnth : gLv → Nat → Option Value
  | [], _ => none
  | v :: _, 0 => v
  | _ :: l, i + 1 => gnth l i
def gputl : gLv → Nat → Option Value → gLv
  | [], _, _ => []
  | _ :: l, 0, v => v :: l
  | w :: l, i + 1, v => w :: gputl l i v
/-- a store to place i: a long that lies just ahead of it is broken -/
def gbrk (w : Option Value) : Option Value := match w with
  | some (.long _) => none
  | w => w
def gsto1 : gLv → Nat → Value → gLv
  | [], _, _ => []
  | _ :: l, 0, v => some v :: l
  | w :: l, 1, v => gbrk w :: gsto1 l 0 v
  | w :: l, i + 2, v => w :: gsto1 l (i + 1) v
def gsto2h : gLv → Value → gLv
  | [], _ => []
  | _ :: l, v => some v :: none :: l
def gsto2 : gLv → Nat → Value → gLv
  | [], _, _ => []
  | _ :: l, 0, v => gsto2h l v
  | w :: l, 1, v => gbrk w :: gsto2 l 0 v
  | w :: l, i + 2, v => w :: gsto2 l (i + 1) v
def gfind : List gI → Nat → Option (Nat × Instr × (Nat × Nat × Nat) × Value × List (Int32 × Nat))
  | [], _ => none
  | e :: l, pc => cond (Nat.beq e.1 pc) (some e.2) (gfind l pc)
theorem gfind_mem : ∀ {C : List gI} {pc : Nat} {r : Nat × Instr × (Nat × Nat × Nat) × Value × List (Int32 × Nat)}, gfind C pc = some r → (pc, r) ∈ C := by
  intro C
  induction C with
  | nil => intro pc r h; cases h
  | cons e l ih =>
    intro pc r h
    unfold gfind at h
    cases hb : Nat.beq e.1 pc with
    | true =>
      rw [hb] at h
      have h1 : e.1 = pc := Nat.eq_of_beq_eq_true hb
      have h2 : e.2 = r := Option.some.inj h
      subst h1; subst h2
      exact List.mem_cons_self
    | false =>
      rw [hb] at h
      exact List.mem_cons_of_mem _ (ih h)
-- shapes of the operand stack
def g1i (st : List Value) (k : Int32 → List Value → Prop) : Prop := match st with
  | .int x :: r => k x r
  | _ => False
def g1l (st : List Value) (k : Int64 → List Value → Prop) : Prop := match st with
  | .long x :: r => k x r
  | _ => False
def g1r (st : List Value) (k : Nat → List Value → Prop) : Prop := match st with
  | .ref x :: r => k x r
  | _ => False
def g2i (st : List Value) (k : Int32 → Int32 → List Value → Prop) : Prop := g1i st (fun y r => g1i r (fun x r => k y x r))
def g2l (st : List Value) (k : Int64 → Int64 → List Value → Prop) : Prop := g1l st (fun y r => g1l r (fun x r => k y x r))
/-- any value of one unit -/
def g1v (st : List Value) (k : Value → List Value → Prop) : Prop := match st with
  | .int x :: r => k (.int x) r
  | .ref x :: r => k (.ref x) r
  | _ => False
theorem g1i_e {st : List Value} {k : Int32 → List Value → Prop} (h : g1i st k) : ∃ x r, st = .int x :: r ∧ k x r := by
  unfold g1i at h
  split at h
  · exact ⟨_, _, rfl, h⟩
  · exact h.elim
theorem g1l_e {st : List Value} {k : Int64 → List Value → Prop} (h : g1l st k) : ∃ x r, st = .long x :: r ∧ k x r := by
  unfold g1l at h
  split at h
  · exact ⟨_, _, rfl, h⟩
  · exact h.elim
theorem g1r_e {st : List Value} {k : Nat → List Value → Prop} (h : g1r st k) : ∃ x r, st = .ref x :: r ∧ k x r := by
  unfold g1r at h
  split at h
  · exact ⟨_, _, rfl, h⟩
  · exact h.elim
theorem g2i_e {st : List Value} {k : Int32 → Int32 → List Value → Prop} (h : g2i st k) : ∃ y x r, st = .int y :: .int x :: r ∧ k y x r := by
  obtain ⟨y, r1, e1, h1⟩ := g1i_e h
  obtain ⟨x, r, e2, h2⟩ := g1i_e h1
  exact ⟨y, x, r, by rw [e1, e2], h2⟩
theorem g2l_e {st : List Value} {k : Int64 → Int64 → List Value → Prop} (h : g2l st k) : ∃ y x r, st = .long y :: .long x :: r ∧ k y x r := by
  obtain ⟨y, r1, e1, h1⟩ := g1l_e h
  obtain ⟨x, r, e2, h2⟩ := g1l_e h1
  exact ⟨y, x, r, by rw [e1, e2], h2⟩
theorem g1v_e {st : List Value} {k : Value → List Value → Prop} (h : g1v st k) : ∃ v r, st = v :: r ∧ v.category = 1 ∧ (∀ ad, (gcv ad v).category = 1) ∧ k v r := by
  unfold g1v at h
  split at h
  · exact ⟨_, _, rfl, rfl, fun _ => rfl, h⟩
  · exact ⟨_, _, rfl, rfl, fun _ => rfl, h⟩
  · exact h.elim
def gldi (lv : gLv) (i : Nat) (k : Int32 → Prop) : Prop := match gnth lv i with
  | some (.int x) => k x
  | _ => False
def gldl (lv : gLv) (i : Nat) (k : Int64 → Prop) : Prop := match gnth lv i with
  | some (.long x) => k x
  | _ => False
def gldr (lv : gLv) (i : Nat) (k : Nat → Prop) : Prop := match gnth lv i with
  | some (.ref x) => k x
  | _ => False
theorem gldi_e {lv : gLv} {i : Nat} {k : Int32 → Prop} (h : gldi lv i k) : ∃ x, gnth lv i = some (.int x) ∧ k x := by
  unfold gldi at h
  split at h
  · exact ⟨_, by assumption, h⟩
  · exact h.elim
theorem gldl_e {lv : gLv} {i : Nat} {k : Int64 → Prop} (h : gldl lv i k) : ∃ x, gnth lv i = some (.long x) ∧ k x := by
  unfold gldl at h
  split at h
  · exact ⟨_, by assumption, h⟩
  · exact h.elim
theorem gldr_e {lv : gLv} {i : Nat} {k : Nat → Prop} (h : gldr lv i k) : ∃ x, gnth lv i = some (.ref x) ∧ k x := by
  unfold gldr at h
  split at h
  · exact ⟨_, by assumption, h⟩
  · exact h.elim
-- locals
def gL (ad : Nat → Nat) (ls : Array Slot) (nL : Nat) (lv : gLv) : Prop := ls.size = nL ∧ lv_wf ls ∧ ∀ (i : Nat) (v : Value), gnth lv i = some v → ls[i]? = some (.val (gcv ad v))
/-- the same, as the kit has it -/
def gas (ad : Nat → Nat) : Nat → gLv → List (Nat × Value)
  | _, [] => []
  | b, none :: l => gas ad (b + 1) l
  | b, some v :: l => (b, gcv ad v) :: gas ad (b + 1) l
theorem gas_mem {ad : Nat → Nat} : ∀ {l : gLv} {b : Nat} {q : Nat × Value}, q ∈ gas ad b l → ∃ i v, q = (b + i, gcv ad v) ∧ gnth l i = some v := by
  intro l
  induction l with
  | nil => intro b q h; cases h
  | cons w l ih =>
    intro b q h
    cases w with
    | none =>
      obtain ⟨i, v, h1, h2⟩ := ih h
      exact ⟨i + 1, v, by rw [h1]; congr 1; omega, h2⟩
    | some w =>
      rcases List.mem_cons.mp h with h | h
      · exact ⟨0, w, h, rfl⟩
      · obtain ⟨i, v, h1, h2⟩ := ih h
        exact ⟨i + 1, v, by rw [h1]; congr 1; omega, h2⟩
theorem gas_of {ad : Nat → Nat} : ∀ {l : gLv} {b i : Nat} {v : Value}, gnth l i = some v → (b + i, gcv ad v) ∈ gas ad b l := by
  intro l
  induction l with
  | nil => intro b i v h; cases h
  | cons w l ih =>
    intro b i v h
    cases i with
    | zero =>
      have hw : w = some v := h
      subst hw
      exact List.mem_cons_self
    | succ i =>
      have h2 := ih (b := b + 1) (i := i) (v := v) h
      rw [show b + (i + 1) = b + 1 + i by omega]
      cases w with
      | none => exact h2
      | some w => exact List.mem_cons_of_mem _ h2
theorem gL.has {ad : Nat → Nat} {ls : Array Slot} {nL : Nat} {lv : gLv} (h : gL ad ls nL lv) : lv_has ls nL (gas ad 0 lv) := ⟨h.1, h.2.1, fun q hq => by
  obtain ⟨i, v, h1, h2⟩ := gas_mem hq
  rw [h1, Nat.zero_add]
  exact h.2.2 i v h2⟩
theorem gL.at {ad : Nat → Nat} {ls : Array Slot} {nL : Nat} {lv : gLv} (h : gL ad ls nL lv) {i : Nat} {v : Value} (hv : gnth lv i = some v) : ls[i]? = some (.val (gcv ad v)) := h.2.2 i v hv
theorem gcat (ad : Nat → Nat) (v : Value) : (gcv ad v).category = v.category := by cases v <;> rfl
theorem gbrk_s {w : Option Value} {v : Value} (h : gbrk w = some v) : w = some v ∧ v.category = 1 ∨ w = some v ∧ ∃ x, v = .double x := by
  unfold gbrk at h
  split at h
  · cases h
  · subst h
    rename_i hw
    cases v <;> first | exact Or.inl ⟨rfl, rfl⟩ | exact Or.inr ⟨rfl, _, rfl⟩ | exact absurd rfl (hw _)
/-- what a store to place i leaves: the value there; elsewhere what was, but no long just ahead -/
theorem gsto1_nth : ∀ (l : gLv) (i : Nat) (w : Value) (j : Nat) (v : Value), gnth (gsto1 l i w) j = some v → (j = i ∧ v = w) ∨ (j ≠ i ∧ gnth l j = some v ∧ (j + 1 = i → ∀ x, v ≠ .long x)) := by
  intro l
  induction l with
  | nil => intro i w j v h; cases h
  | cons a l ih =>
    intro i w j v h
    match i, j, h with
    | 0, 0, h => exact Or.inl ⟨rfl, (Option.some.inj h).symm⟩
    | 0, j + 1, h => exact Or.inr ⟨by omega, h, by omega⟩
    | 1, 0, h =>
      have h1 : gbrk a = some v := h
      refine Or.inr ⟨by omega, ?_, fun _ x hx => ?_⟩
      · rcases gbrk_s h1 with q | q <;> exact q.1
      · subst hx
        rcases gbrk_s h1 with q | ⟨_, _, q⟩
        · cases q.2
        · cases q
    | 1, j + 1, h =>
      rcases ih 0 w j v h with ⟨h1, h2⟩ | ⟨h1, h2, h3⟩
      · exact Or.inl ⟨by omega, h2⟩
      · exact Or.inr ⟨by omega, h2, by omega⟩
    | i + 2, 0, h => exact Or.inr ⟨by omega, h, by omega⟩
    | i + 2, j + 1, h =>
      rcases ih (i + 1) w j v h with ⟨h1, h2⟩ | ⟨h1, h2, h3⟩
      · exact Or.inl ⟨by omega, h2⟩
      · exact Or.inr ⟨by omega, h2, fun e => h3 (by omega)⟩
theorem gsto2_nth : ∀ (l : gLv) (i : Nat) (w : Value) (j : Nat) (v : Value), gnth (gsto2 l i w) j = some v → (j = i ∧ v = w) ∨ (j ≠ i ∧ j ≠ i + 1 ∧ gnth l j = some v ∧ (j + 1 = i → ∀ x, v ≠ .long x)) := by
  intro l
  induction l with
  | nil => intro i w j v h; match i, h with
    | 0, h => cases h
    | 1, h => cases h
    | i + 2, h => cases h
  | cons a l ih =>
    intro i w j v h
    match i, j, h with
    | 0, j, h =>
      cases l with
      | nil => cases h
      | cons b l =>
        match j, h with
        | 0, h => exact Or.inl ⟨rfl, (Option.some.inj h).symm⟩
        | 1, h => cases h
        | j + 2, h => exact Or.inr ⟨by omega, by omega, h, by omega⟩
    | 1, 0, h =>
      have h1 : gbrk a = some v := h
      refine Or.inr ⟨by omega, by omega, ?_, fun _ x hx => ?_⟩
      · rcases gbrk_s h1 with q | q <;> exact q.1
      · subst hx
        rcases gbrk_s h1 with q | ⟨_, _, q⟩
        · cases q.2
        · cases q
    | 1, j + 1, h =>
      rcases ih 0 w j v h with ⟨h1, h2⟩ | ⟨h1, h2, h3, h4⟩
      · exact Or.inl ⟨by omega, h2⟩
      · exact Or.inr ⟨by omega, by omega, h3, by omega⟩
    | i + 2, 0, h => exact Or.inr ⟨by omega, by omega, h, by omega⟩
    | i + 2, j + 1, h =>
      rcases ih (i + 1) w j v h with ⟨h1, h2⟩ | ⟨h1, h2, h3, h4⟩
      · exact Or.inl ⟨by omega, h2⟩
      · exact Or.inr ⟨by omega, by omega, h3, fun e => h4 (by omega)⟩
/-- no value of the walk is a double -/
def gnd (lv : gLv) : Prop := ∀ (i : Nat) (v : Value) (x : UInt64), gnth lv i = some v → v ≠ .double x
theorem gL.sto1 {ad : Nat → Nat} {ls : Array Slot} {nL : Nat} {lv : gLv} {i : Nat} {w : Value} (hn : gnd lv) {P : List (Nat × Value)} (h : lv_has ls nL P) (hP : (i, gcv ad w) :: (gas ad 0 lv).filter (fun q => !(q.1 == i) && !(q.1 + 1 == i && q.2.category == 2)) = P) : gL ad ls nL (gsto1 lv i w) := by
  refine ⟨h.1, h.2.1, fun j v hv => ?_⟩
  have hm : (j, gcv ad v) ∈ P := by
    rw [← hP]
    rcases gsto1_nth lv i w j v hv with ⟨h1, h2⟩ | ⟨h1, h2, h3⟩
    · subst h1; subst h2; exact List.mem_cons_self
    · refine List.mem_cons_of_mem _ (List.mem_filter.mpr ⟨by have := gas_of (ad := ad) (b := 0) h2; rwa [Nat.zero_add] at this, ?_⟩)
      have hc : j + 1 = i → (gcv ad v).category = 1 := fun e => by
        rw [gcat]
        cases v <;> first | rfl | exact absurd rfl (h3 e _) | exact absurd rfl (hn j _ _ h2)
      by_cases e : j + 1 = i
      · simp [h1, e, hc e]
      · simp [h1, e]
  exact h.2.2 _ hm
theorem gL.sto2 {ad : Nat → Nat} {ls : Array Slot} {nL : Nat} {lv : gLv} {i : Nat} {w : Value} (hn : gnd lv) {P : List (Nat × Value)} (h : lv_has ls nL P) (hP : (i, gcv ad w) :: (gas ad 0 lv).filter (fun q => !(q.1 == i) && (!(q.1 == i + 1) && !(q.1 + 1 == i && q.2.category == 2))) = P) : gL ad ls nL (gsto2 lv i w) := by
  refine ⟨h.1, h.2.1, fun j v hv => ?_⟩
  have hm : (j, gcv ad v) ∈ P := by
    rw [← hP]
    rcases gsto2_nth lv i w j v hv with ⟨h1, h2⟩ | ⟨h1, h0, h2, h3⟩
    · subst h1; subst h2; exact List.mem_cons_self
    · refine List.mem_cons_of_mem _ (List.mem_filter.mpr ⟨by have := gas_of (ad := ad) (b := 0) h2; rwa [Nat.zero_add] at this, ?_⟩)
      have hc : j + 1 = i → (gcv ad v).category = 1 := fun e => by
        rw [gcat]
        cases v <;> first | rfl | exact absurd rfl (h3 e _) | exact absurd rfl (hn j _ _ h2)
      by_cases e : j + 1 = i
      · simp [h1, h0, e, hc e]
      · simp [h1, h0, e]
  exact h.2.2 _ hm
theorem gnd.sto1 {lv : gLv} {i : Nat} {w : Value} (h : gnd lv) (hw : ∀ x, w ≠ .double x) : gnd (gsto1 lv i w) := fun j v x hv => by
  rcases gsto1_nth lv i w j v hv with ⟨_, h2⟩ | ⟨_, h2, _⟩
  · subst h2; exact hw x
  · exact h j v x h2
theorem gnd.sto2 {lv : gLv} {i : Nat} {w : Value} (h : gnd lv) (hw : ∀ x, w ≠ .double x) : gnd (gsto2 lv i w) := fun j v x hv => by
  rcases gsto2_nth lv i w j v hv with ⟨_, h2⟩ | ⟨_, _, h2, _⟩
  · subst h2; exact hw x
  · exact h j v x h2
