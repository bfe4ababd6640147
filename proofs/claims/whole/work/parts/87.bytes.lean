-- bytes that are alike for a reader
def oth (x : Int32) : Bool := !isBl x && !isLt x && !isDg x && !isSg x
def bys (b b' : Nat → Int32) (n : Nat) : Prop := ∀ j, j < n → b j = b' j ∨ (oth (b j) = true ∧ oth (b' j) = true)
theorem oth_e {x : Int32} (h : oth x = true) : isBl x = false ∧ isLt x = false ∧ isDg x = false ∧ isSg x = false := by
  unfold oth at h
  cases h1 : isBl x <;> cases h2 : isLt x <;> cases h3 : isDg x <;> cases h4 : isSg x <;> simp_all
theorem eat_by {q : Int32 → Bool} {b b' : Nat → Int32} {n : Nat} (h : ∀ j, j < n → q (b j) = q (b' j)) : ∀ (m p : Nat), n - p = m → eat q b n p = eat q b' n p := by
  intro m
  induction m with
  | zero =>
    intro p hp
    rw [eat_n (fun z => by have := z.1; omega), eat_n (fun z => by have := z.1; omega)]
  | succ m ih =>
    intro p hp
    by_cases c : q (b p) = true
    · rw [eat_y (b := b) (p := p) ⟨by omega, c⟩, eat_y (b := b') (p := p) ⟨by omega, by rw [← h p (by omega)]; exact c⟩]
      exact ih (p + 1) (by omega)
    · rw [eat_n (fun z => c z.2), eat_n (fun z => c (by rw [h p (by omega)]; exact z.2))]
theorem nvl_by {b b' : Nat → Int32} {a : Nat} : ∀ k, (∀ j, j < k → b (a + j) = b' (a + j)) → nvl b a k = nvl b' a k := by
  intro k
  induction k with
  | zero => intro _; rfl
  | succ k ih =>
    intro h
    show nvl b a k * 10 + b (a + k) - 48 = nvl b' a k * 10 + b' (a + k) - 48
    rw [ih (fun j hj => h j (by omega)), h k (by omega)]
theorem lex_by {b b' : Nat → Int32} {n : Nat} (h : bys b b' n) : ∀ p, p ≤ n → lex b n p = lex b' n p := by
  intro p hp
  have q1 : ∀ j, j < n → isBl (b j) = isBl (b' j) := fun j hj => (h j hj).elim (fun e => by rw [e]) (fun e => by rw [(oth_e e.1).1, (oth_e e.2).1])
  have q2 : ∀ j, j < n → isLt (b j) = isLt (b' j) := fun j hj => (h j hj).elim (fun e => by rw [e]) (fun e => by rw [(oth_e e.1).2.1, (oth_e e.2).2.1])
  have q3 : ∀ j, j < n → isDg (b j) = isDg (b' j) := fun j hj => (h j hj).elim (fun e => by rw [e]) (fun e => by rw [(oth_e e.1).2.2.1, (oth_e e.2).2.2.1])
  have q4 : ∀ j, j < n → isSg (b j) = isSg (b' j) := fun j hj => (h j hj).elim (fun e => by rw [e]) (fun e => by rw [(oth_e e.1).2.2.2, (oth_e e.2).2.2.2])
  have e1 := eat_by q1 (n - p) p rfl
  obtain ⟨-, a2, -, -⟩ := eat_spec (q := isBl) (b := b) (n := n) (n - p) p rfl
  have a2 := a2 hp
  unfold lex
  rw [← e1]
  generalize eat isBl b n p = a at a2 ⊢
  by_cases c1 : n ≤ a
  · rw [if_pos c1, if_pos c1]
  rw [if_neg c1, if_neg c1, ← q2 a (by omega), ← q3 a (by omega), ← q4 a (by omega)]
  rw [← eat_by q2 (n - a) a rfl, ← eat_by q3 (n - a) a rfl]
  by_cases c2 : isLt (b a) = true
  · rw [if_pos c2, if_pos c2]
    obtain ⟨-, z2, z3, -⟩ := eat_spec (q := isLt) (b := b) (n := n) (n - a) a rfl
    have z2 := z2 (by omega)
    have es : sbl b a (eat isLt b n a) = sbl b' a (eat isLt b n a) := by
      unfold sbl
      refine List.map_congr_left (fun i hi => ?_)
      have hi' := List.mem_range.mp hi
      rcases h (a + i) (by omega) with e | e
      · exact e
      · have := z3 (a + i) (by omega) (by omega)
        rw [(oth_e e.1).2.1] at this
        exact absurd this (by decide)
    rw [es]
  rw [if_neg c2, if_neg c2]
  by_cases c3 : isDg (b a) = true
  · rw [if_pos c3, if_pos c3]
    obtain ⟨z1, z2, z3, -⟩ := eat_spec (q := isDg) (b := b) (n := n) (n - a) a rfl
    have z2 := z2 (by omega)
    rw [nvl_by (b := b) (b' := b') (eat isDg b n a - a) (fun j hj => ?_)]
    rcases h (a + j) (by omega) with e | e
    · exact e
    · have := z3 (a + j) (by omega) (by omega)
      rw [(oth_e e.1).2.2.1] at this
      exact absurd this (by decide)
  rw [if_neg c3, if_neg c3]
  by_cases c4 : isSg (b a) = true
  · rw [if_pos c4, if_pos c4]
    rcases h a (by omega) with e | e
    · rw [e]
    · rw [(oth_e e.1).2.2.2] at c4; exact absurd c4 (by decide)
  · rw [if_neg c4, if_neg c4]
theorem lex_same {b b' : Nat → Int32} {n : Nat} (h : bys b b' n) : lex b n = lex b' n := by
  funext p
  rcases Nat.lt_or_ge n p with c | c
  · unfold lex
    rw [eat_n (q := isBl) (b := b) (n := n) (p := p) (fun z => by have := z.1; omega), eat_n (q := isBl) (b := b') (n := n) (p := p) (fun z => by have := z.1; omega), if_pos (by omega), if_pos (by omega)]
  · exact lex_by h p c
theorem byte_oth : ∀ m, m < 256 → (nI m).toInt8.toInt32 = nI m ∨ (oth ((nI m).toInt8.toInt32) = true ∧ oth (nI m) = true) := by
  have : ∀ m : Fin 256, (nI m.val).toInt8.toInt32 = nI m.val ∨ (oth ((nI m.val).toInt8.toInt32) = true ∧ oth (nI m.val) = true) := by decide +kernel
  exact fun m hm => this ⟨m, hm⟩
/-- signed bytes on the one tape, 0 to 255 on the other -/
theorem bys_of {f g : Nat → Int32} {n : Nat} (h : ∀ j, j < n → f j = (g j).toInt8.toInt32 ∧ 0 ≤ g j ∧ g j ≤ 255) : bys f g n := by
  intro j hj
  obtain ⟨h1, h2, h3⟩ := h j hj
  obtain ⟨m, hm, he⟩ := nI_of2 (M := 255) (n := 255) rfl (x := g j) (Int32.not_lt.mpr h2) h3
  rw [h1, he]
  exact byte_oth m (by omega)
