-- TEXTS, as numbers: tokens (0 end, 1 broken, 2 a number, 128 .. words, else signs), what is read, what it comes to
abbrev Lx := Int32 × Nat × Nat × Int32
abbrev Lx.tk (t : Lx) : Int32 := t.1
abbrev Lx.at_ (t : Lx) : Nat := t.2.1
abbrev Lx.nx (t : Lx) : Nat := t.2.2.1
abbrev Lx.nm (t : Lx) : Int32 := t.2.2.2
def isBl (x : Int32) : Bool := decide (x = 32 ∨ x = 10)
def isLt (x : Int32) : Bool := decide (97 ≤ x ∧ x ≤ 122)
def isDg (x : Int32) : Bool := decide (48 ≤ x ∧ x ≤ 57)
def isSg (x : Int32) : Bool := decide (x = 40 ∨ x = 41 ∨ x = 42 ∨ x = 43 ∨ x = 45 ∨ x = 59 ∨ x = 60 ∨ x = 61)
def spw (q : Int32 → Bool) (b : Nat → Int32) (n : Nat) : Nat → Nat → Nat
  | 0, p => p
  | f + 1, p => if p < n ∧ q (b p) = true then spw q b n f (p + 1) else p
/-- past all that q takes -/
def eat (q : Int32 → Bool) (b : Nat → Int32) (n p : Nat) : Nat := spw q b n (n - p) p
theorem eat_y {q : Int32 → Bool} {b : Nat → Int32} {n p : Nat} (h : p < n ∧ q (b p) = true) : eat q b n p = eat q b n (p + 1) := by
  unfold eat
  obtain ⟨m, hm⟩ : ∃ m, n - p = m + 1 := ⟨n - p - 1, by omega⟩
  rw [hm, show n - (p + 1) = m by omega]
  exact if_pos h
theorem eat_n {q : Int32 → Bool} {b : Nat → Int32} {n p : Nat} (h : ¬ (p < n ∧ q (b p) = true)) : eat q b n p = p := by
  unfold eat
  rcases Nat.eq_zero_or_pos (n - p) with h0 | h0
  · rw [h0]; rfl
  · obtain ⟨m, hm⟩ : ∃ m, n - p = m + 1 := ⟨n - p - 1, by omega⟩
    rw [hm]
    exact if_neg h
theorem eat_spec {q : Int32 → Bool} {b : Nat → Int32} {n : Nat} : ∀ (m p : Nat), n - p = m → p ≤ eat q b n p ∧ (p ≤ n → eat q b n p ≤ n) ∧ (∀ j, p ≤ j → j < eat q b n p → q (b j) = true) ∧ ¬ (eat q b n p < n ∧ q (b (eat q b n p)) = true) := by
  intro m
  induction m with
  | zero =>
    intro p hp
    have hn : ¬ (p < n ∧ q (b p) = true) := fun z => by have := z.1; omega
    rw [eat_n hn]
    exact ⟨Nat.le_refl _, fun h => h, fun j h1 h2 => by omega, hn⟩
  | succ m ih =>
    intro p hp
    by_cases h : p < n ∧ q (b p) = true
    · rw [eat_y h]
      obtain ⟨h1, h2, h3, h4⟩ := ih (p + 1) (by omega)
      refine ⟨by omega, fun _ => h2 (by omega), fun j hj1 hj2 => ?_, h4⟩
      rcases Nat.lt_or_ge p j with z | z
      · exact h3 j (by omega) hj2
      · have : j = p := by omega
        subst this; exact h.2
    · rw [eat_n h]
      exact ⟨Nat.le_refl _, fun h => h, fun j h1 h2 => by omega, h⟩
/-- the bytes from a to e -/
def sbl (b : Nat → Int32) (a e : Nat) : List Int32 := (List.range (e - a)).map (fun i => b (a + i))
/-- the word: 128 and its number; 1: none -/
def wtk (l : List Int32) : Nat → Int32
  | 0 => 1
  | k + 1 => if gStrB.getD (k + 1) [] = l then 128 + nI k else wtk l k
def nvl (b : Nat → Int32) (a : Nat) : Nat → Int32
  | 0 => 0
  | k + 1 => nvl b a k * 10 + b (a + k) - 48
def lex (b : Nat → Int32) (n p : Nat) : Lx :=
  if n ≤ eat isBl b n p then (0, eat isBl b n p, eat isBl b n p, 0)
  else if isLt (b (eat isBl b n p)) = true then (wtk (sbl b (eat isBl b n p) (eat isLt b n (eat isBl b n p))) 12, eat isBl b n p, eat isLt b n (eat isBl b n p), 0)
  else if isDg (b (eat isBl b n p)) = true then ((if eat isDg b n (eat isBl b n p) - eat isBl b n p ≤ 4 then 2 else 1), eat isBl b n p, eat isDg b n (eat isBl b n p), nvl b (eat isBl b n p) (eat isDg b n (eat isBl b n p) - eat isBl b n p))
  else ((if isSg (b (eat isBl b n p)) = true then b (eat isBl b n p) else 1), eat isBl b n p, eat isBl b n p + 1, 0)
/-- places of tokens -/
theorem lex_places {b : Nat → Int32} {n p : Nat} (hp : p ≤ n) : p ≤ (lex b n p).at_ ∧ (lex b n p).at_ ≤ (lex b n p).nx ∧ (lex b n p).nx ≤ n ∧ ((lex b n p).tk ≠ 0 → (lex b n p).at_ < (lex b n p).nx) ∧ ((lex b n p).tk = 0 → (lex b n p).at_ = n) := by
  obtain ⟨a1, a2, a3, a4⟩ := eat_spec (q := isBl) (b := b) (n := n) (n - p) p rfl
  have a2 := a2 hp
  unfold lex Lx.at_ Lx.nx Lx.tk
  generalize eat isBl b n p = a at a1 a2 a3 a4 ⊢
  by_cases h1 : n ≤ a
  · rw [if_pos h1]; exact ⟨a1, Nat.le_refl _, a2, fun z => absurd rfl z, fun _ => by show a = n; omega⟩
  rw [if_neg h1]
  by_cases h2 : isLt (b a) = true
  · rw [if_pos h2]
    obtain ⟨e1, e2, e3, e4⟩ := eat_spec (q := isLt) (b := b) (n := n) (n - (a + 1)) (a + 1) rfl
    rw [← eat_y (q := isLt) (b := b) (n := n) (p := a) ⟨by omega, h2⟩] at e1 e2
    refine ⟨a1, by show a ≤ eat isLt b n a; omega, e2 (by omega), fun _ => by show a < eat isLt b n a; omega, fun z => ?_⟩
    exfalso
    have key : ∀ (l : List Int32) (k : Nat), k ≤ 12 → wtk l k ≠ 0 := by
      intro l k
      induction k with
      | zero => intro _ z; exact absurd (show (1 : Int32) = 0 from z) (by decide)
      | succ k ih =>
        intro hk
        show (if gStrB.getD (k + 1) [] = l then 128 + nI k else wtk l k) ≠ 0
        by_cases h : gStrB.getD (k + 1) [] = l
        · rw [if_pos h]
          intro z
          rw [show (128 : Int32) = nI 128 from rfl, nI_add] at z
          exact nI_ne0 (by omega) (by omega) z
        · rw [if_neg h]; exact ih (by omega)
    exact key _ 12 (Nat.le_refl _) z
  rw [if_neg h2]
  by_cases h3 : isDg (b a) = true
  · rw [if_pos h3]
    obtain ⟨e1, e2, e3, e4⟩ := eat_spec (q := isDg) (b := b) (n := n) (n - (a + 1)) (a + 1) rfl
    rw [← eat_y (q := isDg) (b := b) (n := n) (p := a) ⟨by omega, h3⟩] at e1 e2
    refine ⟨a1, by show a ≤ eat isDg b n a; omega, e2 (by omega), fun _ => by show a < eat isDg b n a; omega, fun z => ?_⟩
    exfalso
    dsimp only at z
    split at z
    · exact absurd z (by decide)
    · exact absurd z (by decide)
  rw [if_neg h3]
  refine ⟨a1, Nat.le_succ _, by show a + 1 ≤ n; omega, fun _ => Nat.lt_succ_self _, fun z => ?_⟩
  exfalso
  dsimp only at z
  by_cases h4 : isSg (b a) = true
  · rw [if_pos h4] at z
    rw [z] at h4
    exact absurd h4 (by decide)
  · rw [if_neg h4] at z
    exact absurd z (by decide)
/-- what a reader answers: whether it stands, its steps, the token behind it -/
abbrev Rs := Bool × List Int32 × Lx
abbrev Rdr := Lx → Rs
def nxt (lx : Nat → Lx) (t : Lx) : Lx := lx t.nx
def pOne (lx : Nat → Lx) (deep : Option (Rdr × Rdr × Rdr)) : Rdr := fun t =>
  if t.tk = 45 then (match deep with
    | none => (false, [], t)
    | some q => ((q.1 (nxt lx t)).1, (q.1 (nxt lx t)).2.1 ++ [-7], (q.1 (nxt lx t)).2.2))
  else if t.tk = 40 then (match deep with
    | none => (false, [], t)
    | some q => if (q.2.2 (nxt lx t)).1 = true ∧ (q.2.2 (nxt lx t)).2.2.tk = 41 then (true, (q.2.2 (nxt lx t)).2.1, nxt lx (q.2.2 (nxt lx t)).2.2) else (false, [], (q.2.2 (nxt lx t)).2.2))
  else if t.tk = 2 then (true, [t.nm], nxt lx t)
  else if 134 ≤ t.tk then (true, [134 - t.tk - 1], nxt lx t)
  else (false, [], t)
def pChain (lx : Nat → Lx) (sub : Rdr) (jo : Int32 → Option Int32) : Nat → Rs → Rs
  | 0, r => r
  | f + 1, r => if r.1 = true then (match jo r.2.2.tk with
      | none => r
      | some op => pChain lx sub jo f ((sub (nxt lx r.2.2)).1, r.2.1 ++ (sub (nxt lx r.2.2)).2.1 ++ [op], (sub (nxt lx r.2.2)).2.2))
    else r
def jT (t : Int32) : Option Int32 := if t = 42 then some (-9) else none
def jS (t : Int32) : Option Int32 := if t = 43 then some (-10) else if t = 45 then some (-11) else none
def jB (t : Int32) : Option Int32 := if t = 132 then some (-14) else none
def jE (t : Int32) : Option Int32 := if t = 131 then some (-15) else none
def pTerm (lx : Nat → Lx) (one : Rdr) : Rdr := fun t => pChain lx one jT 160 (one t)
def pSum (lx : Nat → Lx) (one : Rdr) : Rdr := fun t => pChain lx (pTerm lx one) jS 160 (pTerm lx one t)
def pCmp (lx : Nat → Lx) (one : Rdr) : Rdr := fun t =>
  if (pSum lx one t).1 = true then
    (if (pSum lx one t).2.2.tk = 60 ∨ (pSum lx one t).2.2.tk = 61 then
      ((pSum lx one (nxt lx (pSum lx one t).2.2)).1, (pSum lx one t).2.1 ++ (pSum lx one (nxt lx (pSum lx one t).2.2)).2.1 ++ [if (pSum lx one t).2.2.tk = 60 then -12 else -13], (pSum lx one (nxt lx (pSum lx one t).2.2)).2.2)
    else pSum lx one t)
  else (false, [], (pSum lx one t).2.2)
def pDen (lx : Nat → Lx) (deep : Option (Rdr × Rdr × Rdr)) (one : Rdr) : Rdr := fun t =>
  if t.tk = 133 then (match deep with
    | none => (false, [], t)
    | some q => ((q.2.1 (nxt lx t)).1, (q.2.1 (nxt lx t)).2.1 ++ [-8], (q.2.1 (nxt lx t)).2.2))
  else pCmp lx one t
def pBoth (lx : Nat → Lx) (den : Rdr) : Rdr := fun t => pChain lx den jB 160 (den t)
def pEith (lx : Nat → Lx) (den : Rdr) : Rdr := fun t => pChain lx (pBoth lx den) jE 160 (pBoth lx den t)
def pMk (lx : Nat → Lx) (deep : Option (Rdr × Rdr × Rdr)) : Rdr × Rdr × Rdr := (pOne lx deep, pDen lx deep (pOne lx deep), pEith lx (pDen lx deep (pOne lx deep)))
/-- the readers where k more may be open -/
def lvl (lx : Nat → Lx) : Nat → Rdr × Rdr × Rdr
  | 0 => pMk lx none
  | k + 1 => pMk lx (some (lvl lx k))
def pPart (lx : Nat → Lx) (key : Int32) : Rdr := fun t =>
  if t.tk = 128 + key then
    (if ((lvl lx 5).2.2 (nxt lx t)).1 = true ∧ ((lvl lx 5).2.2 (nxt lx t)).2.2.tk = 59 then (true, ((lvl lx 5).2.2 (nxt lx t)).2.1, nxt lx ((lvl lx 5).2.2 (nxt lx t)).2.2) else (false, [], ((lvl lx 5).2.2 (nxt lx t)).2.2))
  else (false, [], t)
