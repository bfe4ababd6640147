-- what holds of readers: they go on; their steps are good on a stack
theorem wtk_le {l : List Int32} : ∀ k, k ≤ 12 → wtk l k ≤ 139 ∧ (wtk l k = 1 ∨ 128 ≤ wtk l k) := by
  intro k
  induction k with
  | zero => intro _; exact ⟨show (1 : Int32) ≤ 139 by decide, Or.inl rfl⟩
  | succ k ih =>
    intro hk
    show (if gStrB.getD (k + 1) [] = l then 128 + nI k else wtk l k) ≤ 139 ∧ ((if gStrB.getD (k + 1) [] = l then 128 + nI k else wtk l k) = 1 ∨ 128 ≤ (if gStrB.getD (k + 1) [] = l then 128 + nI k else wtk l k))
    by_cases h : gStrB.getD (k + 1) [] = l
    · rw [if_pos h]
      rw [show (128 : Int32) = nI 128 from rfl, nI_add, show (139 : Int32) = nI 139 from rfl]
      exact ⟨nI_le (by omega) (by omega), Or.inr (nI_le (by omega) (by omega))⟩
    · rw [if_neg h]; exact ih (by omega)
theorem nvl_dg {b : Nat → Int32} {a : Nat} : ∀ k, k ≤ 4 → (∀ j, a ≤ j → j < a + k → isDg (b j) = true) → ∃ v, v < 10 ^ k ∧ nvl b a k = nI v := by
  intro k
  induction k with
  | zero => intro _ _; exact ⟨0, by decide, rfl⟩
  | succ k ih =>
    intro hk h
    obtain ⟨v, hv, he⟩ := ih (by omega) (fun j h1 h2 => h j h1 (by omega))
    have hd := h (a + k) (by omega) (by omega)
    unfold isDg at hd
    have hd := of_decide_eq_true hd
    obtain ⟨m, hm, hb⟩ := nI_of2 (M := 57) (n := 57) rfl (x := b (a + k)) (by intro z; have := hd.1; clear he h ih; (simp only [Int32.lt_iff_toInt_lt, Int32.le_iff_toInt_le, ← Int32.toInt_inj, Int32.reduceToInt] at *; omega)) hd.2
    have hm48 : 48 ≤ m := by
      have := hd.1
      rw [hb, show (48 : Int32) = nI 48 from rfl, nI_leI (by omega) (by omega)] at this
      exact this
    refine ⟨v * 10 + (m - 48), ?_, ?_⟩
    · rw [Nat.pow_succ]; omega
    · show nvl b a k * 10 + b (a + k) - 48 = _
      rw [he, hb, show (10 : Int32) = nI 10 from rfl, show (48 : Int32) = nI 48 from rfl, pk_mul, nI_add, pk_sub (by omega)]
      congr 1
      omega
theorem ff {P : Prop} (h : false = true) : P := absurd h (by decide)
/-- a token as it may be -/
def vTk (t : Lx) : Prop := (t.tk = 2 → ∃ v, v < 10000 ∧ t.nm = nI v) ∧ t.tk ≤ 139
theorem lex_tk {b : Nat → Int32} {n p : Nat} : vTk (lex b n p) := by
  unfold vTk lex Lx.tk Lx.nm
  generalize eat isBl b n p = a
  by_cases h1 : n ≤ a
  · rw [if_pos h1]; exact ⟨fun z => absurd (show (0 : Int32) = 2 from z) (by decide), show (0 : Int32) ≤ 139 by decide⟩
  rw [if_neg h1]
  by_cases h2 : isLt (b a) = true
  · rw [if_pos h2]
    obtain ⟨g1, g2⟩ := wtk_le (l := sbl b a (eat isLt b n a)) 12 (Nat.le_refl _)
    refine ⟨fun z => ?_, g1⟩
    have z' : wtk (sbl b a (eat isLt b n a)) 12 = 2 := z
    rw [z'] at g2
    exact absurd g2 (by decide)
  rw [if_neg h2]
  by_cases h3 : isDg (b a) = true
  · rw [if_pos h3]
    obtain ⟨e1, e2, e3, e4⟩ := eat_spec (q := isDg) (b := b) (n := n) (n - a) a rfl
    generalize eat isDg b n a = e at e1 e2 e3 e4 ⊢
    dsimp only
    by_cases h5 : e - a ≤ 4
    · rw [if_pos h5]
      refine ⟨fun _ => ?_, by decide⟩
      obtain ⟨v, hv, he⟩ := nvl_dg (b := b) (a := a) (e - a) h5 (fun j h1 h2 => e3 j h1 (by omega))
      refine ⟨v, Nat.lt_of_lt_of_le hv (Nat.pow_le_pow_right (by decide) h5), he⟩
    · rw [if_neg h5]
      exact ⟨fun z => absurd z (by decide), by decide⟩
  rw [if_neg h3]
  dsimp only
  by_cases h4 : isSg (b a) = true
  · rw [if_pos h4]
    unfold isSg at h4
    have h4 := of_decide_eq_true h4
    rcases h4 with h | h | h | h | h | h | h | h
    all_goals rw [h]
    all_goals exact ⟨fun z => absurd z (by decide), by decide⟩
  · rw [if_neg h4]
    exact ⟨fun z => absurd z (by decide), by decide⟩
/-- a lexer of a text of n bytes -/
def okL (lx : Nat → Lx) (n : Nat) : Prop := ∀ p, p ≤ n → (p ≤ (lx p).at_ ∧ (lx p).at_ ≤ (lx p).nx ∧ (lx p).nx ≤ n ∧ ((lx p).tk ≠ 0 → (lx p).at_ < (lx p).nx)) ∧ vTk (lx p)
theorem lex_okL (b : Nat → Int32) (n : Nat) : okL (lex b n) n := fun p hp => ⟨⟨(lex_places hp).1, (lex_places hp).2.1, (lex_places hp).2.2.1, (lex_places hp).2.2.2.1⟩, lex_tk⟩
def vL (n : Nat) (t : Lx) : Prop := t.at_ ≤ t.nx ∧ t.nx ≤ n ∧ (t.tk ≠ 0 → t.at_ < t.nx) ∧ vTk t
section
variable {lx : Nat → Lx} {n : Nat}
theorem vL_nxt (hl : okL lx n) {t : Lx} (h : vL n t) : vL n (nxt lx t) ∧ t.nx ≤ (nxt lx t).at_ := by
  obtain ⟨⟨h1, h2, h3, h4⟩, h5⟩ := hl t.nx h.2.1
  exact ⟨⟨h2, h3, h4, h5⟩, h1⟩
theorem vL_nxt1 (hl : okL lx n) {t : Lx} (h : vL n t) (h0 : t.tk ≠ 0) : t.at_ + 1 ≤ (nxt lx t).at_ := by
  have h1 := (vL_nxt hl h).2
  have h2 := h.2.2.1 h0
  omega
/-- a reader goes on; it makes no more steps than bytes -/
def prg (n : Nat) (R : Rdr) : Prop := ∀ t, vL n t → vL n (R t).2.2 ∧ t.at_ ≤ (R t).2.2.at_ ∧ ((R t).1 = true → (R t).2.1.length + t.at_ ≤ (R t).2.2.at_ ∧ 1 ≤ (R t).2.1.length)
def prgD (n : Nat) (d : Option (Rdr × Rdr × Rdr)) : Prop := match d with
  | none => True
  | some q => prg n q.1 ∧ prg n q.2.1 ∧ prg n q.2.2
theorem prg_one (hl : okL lx n) {d : Option (Rdr × Rdr × Rdr)} (hd : prgD n d) : prg n (pOne lx d) := by
  intro t ht
  have hx := (vL_nxt hl ht).1
  unfold pOne
  by_cases h1 : t.tk = 45
  · rw [if_pos h1]
    match d, hd with
    | none, _ => exact ⟨ht, Nat.le_refl _, fun z => ff z⟩
    | some q, hd =>
      obtain ⟨g1, g2, g3⟩ := hd.1 (nxt lx t) hx
      have hs := vL_nxt1 hl ht (by rw [h1]; decide)
      refine ⟨g1, Nat.le_trans (Nat.le_of_succ_le hs) g2, fun z => ?_⟩
      obtain ⟨a, b⟩ := g3 z
      simp only [List.length_append, List.length_singleton]
      exact ⟨by omega, by omega⟩
  rw [if_neg h1]
  by_cases h2 : t.tk = 40
  · rw [if_pos h2]
    match d, hd with
    | none, _ => exact ⟨ht, Nat.le_refl _, fun z => ff z⟩
    | some q, hd =>
      obtain ⟨g1, g2, g3⟩ := hd.2.2 (nxt lx t) hx
      have hs := vL_nxt1 hl ht (by rw [h2]; decide)
      dsimp only
      by_cases h5 : (q.2.2 (nxt lx t)).1 = true ∧ (q.2.2 (nxt lx t)).2.2.tk = 41
      · rw [if_pos h5]
        obtain ⟨a, b⟩ := g3 h5.1
        have hs2 := vL_nxt1 hl g1 (by rw [h5.2]; decide)
        exact ⟨(vL_nxt hl g1).1, by show t.at_ ≤ (nxt lx _).at_; omega, fun _ => ⟨by show (q.2.2 (nxt lx t)).2.1.length + t.at_ ≤ (nxt lx _).at_; omega, b⟩⟩
      · rw [if_neg h5]
        exact ⟨g1, Nat.le_trans (Nat.le_of_succ_le hs) g2, fun z => ff z⟩
  rw [if_neg h2]
  by_cases h3 : t.tk = 2
  · rw [if_pos h3]
    have hs := vL_nxt1 hl ht (by rw [h3]; decide)
    exact ⟨hx, by show t.at_ ≤ (nxt lx t).at_; omega, fun _ => ⟨by show 1 + t.at_ ≤ (nxt lx t).at_; omega, Nat.le_refl _⟩⟩
  rw [if_neg h3]
  by_cases h4 : 134 ≤ t.tk
  · rw [if_pos h4]
    have hs := vL_nxt1 hl ht (fun z => by rw [z] at h4; exact absurd h4 (by decide))
    exact ⟨hx, by show t.at_ ≤ (nxt lx t).at_; omega, fun _ => ⟨by show 1 + t.at_ ≤ (nxt lx t).at_; omega, Nat.le_refl _⟩⟩
  · rw [if_neg h4]
    exact ⟨ht, Nat.le_refl _, fun z => ff z⟩
/-- a chain whose parts go on goes on -/
def jOk (jo : Int32 → Option Int32) : Prop := jo 0 = none
theorem prg_chain (hl : okL lx n) {R : Rdr} (hR : prg n R) {jo : Int32 → Option Int32} (hj : jOk jo) {a0 : Nat} : ∀ (f : Nat) (r : Rs), vL n r.2.2 → a0 ≤ r.2.2.at_ → (r.1 = true → r.2.1.length + a0 ≤ r.2.2.at_ ∧ 1 ≤ r.2.1.length) → vL n (pChain lx R jo f r).2.2 ∧ a0 ≤ (pChain lx R jo f r).2.2.at_ ∧ ((pChain lx R jo f r).1 = true → (pChain lx R jo f r).2.1.length + a0 ≤ (pChain lx R jo f r).2.2.at_ ∧ 1 ≤ (pChain lx R jo f r).2.1.length) := by
  intro f
  induction f with
  | zero => intro r h1 h2 h3; exact ⟨h1, h2, h3⟩
  | succ f ih =>
    intro r h1 h2 h3
    unfold pChain
    by_cases hg : r.1 = true
    · rw [if_pos hg]
      cases hjo : jo r.2.2.tk with
      | none => exact ⟨h1, h2, h3⟩
      | some op =>
        dsimp only
        have hx := (vL_nxt hl h1).1
        have hs := vL_nxt1 hl h1 (fun z => by rw [z, hj] at hjo; cases hjo)
        obtain ⟨g1, g2, g3⟩ := hR (nxt lx r.2.2) hx
        refine ih _ g1 (by show a0 ≤ (R (nxt lx r.2.2)).2.2.at_; omega) (fun z => ?_)
        obtain ⟨a, b⟩ := g3 z
        obtain ⟨a', b'⟩ := h3 hg
        simp only [List.length_append, List.length_singleton]
        exact ⟨by omega, by omega⟩
    · rw [if_neg hg]; exact ⟨h1, h2, h3⟩
theorem prg_ch (hl : okL lx n) {R : Rdr} (hR : prg n R) {jo : Int32 → Option Int32} (hj : jOk jo) : prg n (fun t => pChain lx R jo 160 (R t)) := fun t ht => by
  obtain ⟨g1, g2, g3⟩ := hR t ht
  exact prg_chain hl hR hj 160 (R t) g1 g2 g3
theorem prg_cmp (hl : okL lx n) {R : Rdr} (hR : prg n R) : prg n (pCmp lx R) := by
  have hS : prg n (pSum lx R) := prg_ch (jo := jS) hl (prg_ch (jo := jT) hl hR rfl) rfl
  intro t ht
  obtain ⟨g1, g2, g3⟩ := hS t ht
  unfold pCmp
  by_cases hg : (pSum lx R t).1 = true
  · rw [if_pos hg]
    by_cases hc : (pSum lx R t).2.2.tk = 60 ∨ (pSum lx R t).2.2.tk = 61
    · rw [if_pos hc]
      have hs := vL_nxt1 hl g1 (fun z => by rw [z] at hc; exact absurd hc (by decide))
      obtain ⟨k1, k2, k3⟩ := hS _ (vL_nxt hl g1).1
      refine ⟨k1, by show t.at_ ≤ (pSum lx R (nxt lx (pSum lx R t).2.2)).2.2.at_; omega, fun z => ?_⟩
      obtain ⟨a, b⟩ := k3 z
      obtain ⟨a', b'⟩ := g3 hg
      simp only [List.length_append, List.length_singleton]
      exact ⟨by omega, by omega⟩
    · rw [if_neg hc]; exact ⟨g1, g2, g3⟩
  · rw [if_neg hg]; exact ⟨g1, g2, fun z => ff z⟩
theorem prg_den (hl : okL lx n) {R : Rdr} (hR : prg n R) {d : Option (Rdr × Rdr × Rdr)} (hd : prgD n d) : prg n (pDen lx d R) := by
  intro t ht
  unfold pDen
  by_cases h1 : t.tk = 133
  · rw [if_pos h1]
    match d, hd with
    | none, _ => exact ⟨ht, Nat.le_refl _, fun z => ff z⟩
    | some q, hd =>
      obtain ⟨g1, g2, g3⟩ := hd.2.1 (nxt lx t) (vL_nxt hl ht).1
      have hs := vL_nxt1 hl ht (by rw [h1]; decide)
      refine ⟨g1, Nat.le_trans (Nat.le_of_succ_le hs) g2, fun z => ?_⟩
      obtain ⟨a, b⟩ := g3 z
      simp only [List.length_append, List.length_singleton]
      exact ⟨by omega, by omega⟩
  · rw [if_neg h1]; exact prg_cmp hl hR t ht
theorem prg_mk (hl : okL lx n) {d : Option (Rdr × Rdr × Rdr)} (hd : prgD n d) : prg n (pMk lx d).1 ∧ prg n (pMk lx d).2.1 ∧ prg n (pMk lx d).2.2 := by
  have h1 := prg_one hl hd
  have h2 := prg_den hl h1 hd
  exact ⟨h1, h2, prg_ch (jo := jE) hl (prg_ch (jo := jB) hl h2 rfl) rfl⟩
theorem prg_lvl (hl : okL lx n) : ∀ k, prg n (lvl lx k).1 ∧ prg n (lvl lx k).2.1 ∧ prg n (lvl lx k).2.2 := by
  intro k
  induction k with
  | zero => exact prg_mk hl trivial
  | succ k ih => exact prg_mk (d := some (lvl lx k)) hl ih
end
/-- how high a stack stands behind steps -/
def dep : List Int32 → Nat → Option Nat
  | [], d => some d
  | s :: l, d => if -6 ≤ s then (if d < 40 then dep l (d + 1) else none) else if -8 ≤ s then (if 0 < d then dep l d else none) else (if 1 < d then dep l (d - 1) else none)
theorem dep_app : ∀ (l m : List Int32) (d : Nat), dep (l ++ m) d = (dep l d).bind (dep m) := by
  intro l
  induction l with
  | nil => intro m d; rfl
  | cons s l ih =>
    intro m d
    show (if -6 ≤ s then (if d < 40 then dep (l ++ m) (d + 1) else none) else if -8 ≤ s then (if 0 < d then dep (l ++ m) d else none) else (if 1 < d then dep (l ++ m) (d - 1) else none)) = (if -6 ≤ s then (if d < 40 then dep l (d + 1) else none) else if -8 ≤ s then (if 0 < d then dep l d else none) else (if 1 < d then dep l (d - 1) else none)).bind (dep m)
    by_cases h1 : -6 ≤ s
    · rw [if_pos h1, if_pos h1]
      by_cases h2 : d < 40
      · rw [if_pos h2, if_pos h2, ih]
      · rw [if_neg h2, if_neg h2]; rfl
    · rw [if_neg h1, if_neg h1]
      by_cases h2 : -8 ≤ s
      · rw [if_pos h2, if_pos h2]
        by_cases h3 : 0 < d
        · rw [if_pos h3, if_pos h3, ih]
        · rw [if_neg h3, if_neg h3]; rfl
      · rw [if_neg h2, if_neg h2]
        by_cases h3 : 1 < d
        · rw [if_pos h3, if_pos h3, ih]
        · rw [if_neg h3, if_neg h3]; rfl
/-- a reader's steps lift a stack by one; they want h places more at most -/
def dpt (n h : Nat) (R : Rdr) : Prop := ∀ t, vL n t → (R t).1 = true → ∀ d, d + h ≤ 40 → dep (R t).2.1 d = some (d + 1)
def dptD (n h : Nat) (d : Option (Rdr × Rdr × Rdr)) : Prop := match d with
  | none => True
  | some q => dpt n h q.1 ∧ dpt n h q.2.1 ∧ dpt n h q.2.2
theorem dep_push {s : Int32} (h : -6 ≤ s) {d : Nat} (hd : d < 40) : dep [s] d = some (d + 1) := by
  unfold dep; rw [if_pos h, if_pos hd]; rfl
theorem dep_un {s : Int32} (h : ¬ -6 ≤ s) (h2 : -8 ≤ s) {d : Nat} (hd : 0 < d) : dep [s] d = some d := by
  unfold dep; rw [if_neg h, if_pos h2, if_pos hd]; rfl
theorem dep_bin {s : Int32} (h : ¬ -6 ≤ s) (h2 : ¬ -8 ≤ s) {d : Nat} (hd : 1 < d) : dep [s] d = some (d - 1) := by
  unfold dep; rw [if_neg h, if_neg h2, if_pos hd]; rfl
section
variable {lx : Nat → Lx} {n : Nat}
theorem dpt_one (hl : okL lx n) {h : Nat} (h1 : 1 ≤ h) {d : Option (Rdr × Rdr × Rdr)} (hd : dptD n h d) : dpt n h (pOne lx d) := by
  intro t ht hg dd hdd
  have hx := (vL_nxt hl ht).1
  unfold pOne at hg ⊢
  by_cases e1 : t.tk = 45
  · rw [if_pos e1] at hg ⊢
    match d, hd, hg with
    | none, _, hg => exact ff hg
    | some q, hd, hg =>
      show dep ((q.1 (nxt lx t)).2.1 ++ [-7]) dd = _
      rw [dep_app, hd.1 (nxt lx t) hx hg dd hdd]
      exact dep_un (by decide) (by decide) (by omega)
  rw [if_neg e1] at hg ⊢
  by_cases e2 : t.tk = 40
  · rw [if_pos e2] at hg ⊢
    match d, hd, hg with
    | none, _, hg => exact ff hg
    | some q, hd, hg =>
      dsimp only at hg ⊢
      by_cases h5 : (q.2.2 (nxt lx t)).1 = true ∧ (q.2.2 (nxt lx t)).2.2.tk = 41
      · rw [if_pos h5] at hg ⊢
        exact hd.2.2 (nxt lx t) hx h5.1 dd hdd
      · rw [if_neg h5] at hg
        exact ff hg
  rw [if_neg e2] at hg ⊢
  by_cases e3 : t.tk = 2
  · rw [if_pos e3] at hg ⊢
    obtain ⟨v, hv, hm⟩ := ht.2.2.2.1 e3
    refine dep_push ?_ (by omega)
    rw [hm]
    exact Int32.le_trans (show (-6 : Int32) ≤ nI 0 by decide) (nI_le (Nat.zero_le _) (by omega))
  rw [if_neg e3] at hg ⊢
  by_cases e4 : 134 ≤ t.tk
  · rw [if_pos e4] at hg ⊢
    have h139 := ht.2.2.2.2
    refine dep_push ?_ (by omega)
    generalize t.tk = k at e4 h139
    obtain ⟨m, hm, rfl⟩ := nI_of2 (M := 139) (n := 139) rfl (x := k) (by intro z; clear hg; (simp only [Int32.lt_iff_toInt_lt, Int32.le_iff_toInt_le, ← Int32.toInt_inj, Int32.reduceToInt] at *; omega)) h139
    have hm2 : 134 ≤ m := (nI_leI (a := 134) (by omega) (by omega)).mp e4
    have hm3 : m = 134 ∨ m = 135 ∨ m = 136 ∨ m = 137 ∨ m = 138 ∨ m = 139 := by omega
    rcases hm3 with rfl | rfl | rfl | rfl | rfl | rfl <;> decide
  · rw [if_neg e4] at hg
    exact ff hg
def jBin (jo : Int32 → Option Int32) : Prop := ∀ t op, jo t = some op → ¬ -6 ≤ op ∧ ¬ -8 ≤ op
theorem dpt_chain (hl : okL lx n) {R : Rdr} (hp : prg n R) {h : Nat} (hR : dpt n h R) {jo : Int32 → Option Int32} (hj : jOk jo) (hb : jBin jo) {dd : Nat} (hdd : dd + (h + 1) ≤ 40) : ∀ (f : Nat) (r : Rs), vL n r.2.2 → (r.1 = true → dep r.2.1 dd = some (dd + 1)) → (pChain lx R jo f r).1 = true → dep (pChain lx R jo f r).2.1 dd = some (dd + 1) := by
  intro f
  induction f with
  | zero => intro r h1 h2 h3; exact h2 h3
  | succ f ih =>
    intro r h1 h2 h3
    unfold pChain at h3 ⊢
    by_cases hg : r.1 = true
    · rw [if_pos hg] at h3 ⊢
      cases hjo : jo r.2.2.tk with
      | none => exact h2 hg
      | some op =>
        rw [hjo] at h3
        dsimp only at h3 ⊢
        have hx := (vL_nxt hl h1).1
        refine ih _ (hp (nxt lx r.2.2) hx).1 (fun z => ?_) h3
        obtain ⟨b1, b2⟩ := hb _ _ hjo
        show dep (r.2.1 ++ (R (nxt lx r.2.2)).2.1 ++ [op]) dd = _
        rw [dep_app, dep_app, h2 hg]
        show ((dep (R (nxt lx r.2.2)).2.1 (dd + 1)).bind (dep [op])) = _
        rw [hR (nxt lx r.2.2) hx z (dd + 1) (by omega)]
        exact dep_bin b1 b2 (by omega)
    · rw [if_neg hg] at h3
      exact absurd h3 hg
theorem dpt_ch (hl : okL lx n) {R : Rdr} (hp : prg n R) {h : Nat} (hR : dpt n h R) {jo : Int32 → Option Int32} (hj : jOk jo) (hb : jBin jo) : dpt n (h + 1) (fun t => pChain lx R jo 160 (R t)) := fun t ht hg dd hdd =>
  dpt_chain hl hp hR hj hb hdd 160 (R t) (hp t ht).1 (fun z => hR t ht z dd (by omega)) hg
theorem jT_b : jBin jT := fun t op h => by
  unfold jT at h
  split at h
  · cases h; decide
  · cases h
theorem jS_b : jBin jS := fun t op h => by
  unfold jS at h
  split at h
  · cases h; decide
  · split at h
    · cases h; decide
    · cases h
theorem jB_b : jBin jB := fun t op h => by
  unfold jB at h
  split at h
  · cases h; decide
  · cases h
theorem jE_b : jBin jE := fun t op h => by
  unfold jE at h
  split at h
  · cases h; decide
  · cases h
theorem dpt_cmp (hl : okL lx n) {R : Rdr} (hp : prg n R) {h : Nat} (hR : dpt n h R) : dpt n (h + 3) (pCmp lx R) := by
  have pS : prg n (pSum lx R) := prg_ch (jo := jS) hl (prg_ch (jo := jT) hl hp rfl) rfl
  have dS : dpt n (h + 2) (pSum lx R) := dpt_ch (jo := jS) hl (prg_ch (jo := jT) hl hp rfl) (dpt_ch (jo := jT) hl hp hR rfl jT_b) rfl jS_b
  intro t ht hg dd hdd
  have g1 := (pS t ht).1
  unfold pCmp at hg ⊢
  by_cases e : (pSum lx R t).1 = true
  · rw [if_pos e] at hg ⊢
    by_cases hc : (pSum lx R t).2.2.tk = 60 ∨ (pSum lx R t).2.2.tk = 61
    · rw [if_pos hc] at hg ⊢
      show dep ((pSum lx R t).2.1 ++ (pSum lx R (nxt lx (pSum lx R t).2.2)).2.1 ++ [if (pSum lx R t).2.2.tk = 60 then -12 else -13]) dd = _
      rw [dep_app, dep_app, dS t ht e dd (by omega)]
      show ((dep (pSum lx R (nxt lx (pSum lx R t).2.2)).2.1 (dd + 1)).bind (dep _)) = _
      rw [dS _ (vL_nxt hl g1).1 hg (dd + 1) (by omega)]
      show dep [if (pSum lx R t).2.2.tk = 60 then -12 else -13] (dd + 2) = _
      by_cases e60 : (pSum lx R t).2.2.tk = 60
      · rw [if_pos e60]; exact dep_bin (by decide) (by decide) (by omega)
      · rw [if_neg e60]; exact dep_bin (by decide) (by decide) (by omega)
    · rw [if_neg hc] at hg ⊢; exact dS t ht e dd (by omega)
  · rw [if_neg e] at hg; exact ff hg
theorem dpt_den (hl : okL lx n) {R : Rdr} (hp : prg n R) {h : Nat} (hR : dpt n h R) {d : Option (Rdr × Rdr × Rdr)} (hd : dptD n (h + 3) d) : dpt n (h + 3) (pDen lx d R) := by
  intro t ht hg dd hdd
  unfold pDen at hg ⊢
  by_cases e1 : t.tk = 133
  · rw [if_pos e1] at hg ⊢
    match d, hd, hg with
    | none, _, hg => exact ff hg
    | some q, hd, hg =>
      show dep ((q.2.1 (nxt lx t)).2.1 ++ [-8]) dd = _
      rw [dep_app, hd.2.1 (nxt lx t) (vL_nxt hl ht).1 hg dd hdd]
      exact dep_un (by decide) (by decide) (by omega)
  · rw [if_neg e1] at hg ⊢; exact dpt_cmp hl hp hR t ht hg dd hdd
theorem dpt_mono {h h' : Nat} (hh : h ≤ h') {R : Rdr} (hR : dpt n h R) : dpt n h' R := fun t ht hg d hd => hR t ht hg d (by omega)
theorem dpt_mk (hl : okL lx n) {h : Nat} (h1 : 1 ≤ h) {d : Option (Rdr × Rdr × Rdr)} (hpd : prgD n d) (hd : dptD n h d) : dpt n (h + 5) (pMk lx d).1 ∧ dpt n (h + 5) (pMk lx d).2.1 ∧ dpt n (h + 5) (pMk lx d).2.2 := by
  have p1 := prg_one hl hpd
  have p2 := prg_den hl p1 hpd
  have a1 := dpt_one hl h1 hd
  have a2 : dpt n (h + 3) (pDen lx d (pOne lx d)) := dpt_den hl p1 a1 (by
    match d, hd with
    | none, _ => trivial
    | some q, hd => exact ⟨dpt_mono (by omega) hd.1, dpt_mono (by omega) hd.2.1, dpt_mono (by omega) hd.2.2⟩)
  exact ⟨dpt_mono (by omega) a1, dpt_mono (by omega) a2, dpt_ch (jo := jE) hl (prg_ch (jo := jB) hl p2 rfl) (dpt_ch (jo := jB) hl p2 a2 rfl jB_b) rfl jE_b⟩
theorem dpt_lvl (hl : okL lx n) : ∀ k, dpt n (5 * k + 6) (lvl lx k).1 ∧ dpt n (5 * k + 6) (lvl lx k).2.1 ∧ dpt n (5 * k + 6) (lvl lx k).2.2 := by
  intro k
  induction k with
  | zero => exact dpt_mk (h := 1) hl (by omega) trivial trivial
  | succ k ih => exact dpt_mk (h := 5 * k + 6) (d := some (lvl lx k)) hl (by omega) (prg_lvl hl k) ih
end
