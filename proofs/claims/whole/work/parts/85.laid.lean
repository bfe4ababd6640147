-- a text of the class as it lies, and what it comes to
theorem pPart_dep {lx : Nat → Lx} {n : Nat} (hl : okL lx n) {key : Int32} {t : Lx} (ht : vL n t) (hg : (pPart lx key t).1 = true) : dep (pPart lx key t).2.1 0 = some 1 ∧ vL n (pPart lx key t).2.2 := by
  unfold pPart at hg ⊢
  by_cases h1 : t.tk = 128 + key
  · rw [if_pos h1] at hg ⊢
    by_cases h2 : ((lvl lx 5).2.2 (nxt lx t)).1 = true ∧ ((lvl lx 5).2.2 (nxt lx t)).2.2.tk = 59
    · rw [if_pos h2] at hg ⊢
      have hx := (vL_nxt hl ht).1
      exact ⟨(dpt_lvl hl 5).2.2 _ hx h2.1 0 (by omega), (vL_nxt hl ((prg_lvl hl 5).2.2 _ hx).1).1⟩
    · rw [if_neg h2] at hg
      exact ff hg
  · rw [if_neg h1] at hg
    exact ff hg
def deps (o : List Int32 × List Int32 × List Int32) : Prop := dep o.1 0 = some 1 ∧ dep o.2.1 0 = some 1 ∧ dep o.2.2 0 = some 1
theorem pTxt_dep {b : Nat → Int32} {n : Nat} (hg : (pTxt (lex b n)).1 = true) : deps (pTxt (lex b n)).2.1 := by
  have hl := lex_okL b n
  have h0 : vL n (lex b n 0) := by
    obtain ⟨⟨_, h2, h3, h4⟩, h5⟩ := hl 0 (Nat.zero_le _)
    exact ⟨h2, h3, h4, h5⟩
  unfold pTxt at hg ⊢
  by_cases g1 : (pPart (lex b n) 0 (lex b n 0)).1 = true
  · rw [if_pos g1] at hg ⊢
    have d1 := pPart_dep hl h0 g1
    by_cases g2 : (pPart (lex b n) 1 (pPart (lex b n) 0 (lex b n 0)).2.2).1 = true
    · rw [if_pos g2] at hg ⊢
      have d2 := pPart_dep hl d1.2 g2
      by_cases g3 : (pPart (lex b n) 2 (pPart (lex b n) 1 (pPart (lex b n) 0 (lex b n 0)).2.2).2.2).1 = true
      · rw [if_pos g3] at hg ⊢
        have d3 := pPart_dep hl d2.2 g3
        by_cases g4 : (pPart (lex b n) 2 (pPart (lex b n) 1 (pPart (lex b n) 0 (lex b n 0)).2.2).2.2).2.2.tk = 0
        · rw [if_pos g4]; exact ⟨d1.1, d2.1, d3.1⟩
        · rw [if_neg g4] at hg; exact ff hg
      · rw [if_neg g3] at hg; exact ff hg
    · rw [if_neg g2] at hg; exact ff hg
  · rw [if_neg g1] at hg; exact ff hg
theorem rsm_rsl {f nm : Nat → Int32} : ∀ (ops : List Int32) (a : Nat) (st : List Int32), (∀ j, j < ops.length → f (a + j) = ops.getD j 0) → rsm f nm a ops.length st = rsl nm st ops := by
  intro ops
  induction ops with
  | nil => intro a st _; rfl
  | cons s ops ih =>
    intro a st h
    show rsm f nm (a + 1) ops.length (rstep nm st (f a)) = rsl nm (rstep nm st s) ops
    rw [show f a = s from h 0 (Nat.succ_pos _)]
    refine ih (a + 1) _ (fun j hj => ?_)
    have := h (j + 1) (by simp; omega)
    rw [show a + 1 + j = a + (j + 1) by omega, this]
    rfl
theorem rok_dep {f : Nat → Int32} : ∀ (ops : List Int32) (a d : Nat), (∀ j, j < ops.length → f (a + j) = ops.getD j 0) → dep ops d = some 1 → rok f a ops.length d := by
  intro ops
  induction ops with
  | nil => intro a d _ h; exact Option.some.inj h
  | cons s ops ih =>
    intro a d h hd
    have h0 : f a = s := h 0 (Nat.succ_pos _)
    have ht : ∀ j, j < ops.length → f (a + 1 + j) = ops.getD j 0 := fun j hj => by
      have := h (j + 1) (by simp; omega)
      rw [show a + 1 + j = a + (j + 1) by omega, this]
      rfl
    show (if -6 ≤ f a then d < 40 ∧ rok f (a + 1) ops.length (d + 1) else if -8 ≤ f a then 0 < d ∧ rok f (a + 1) ops.length d else 1 < d ∧ rok f (a + 1) ops.length (d - 1))
    rw [h0]
    have hd' : (if -6 ≤ s then (if d < 40 then dep ops (d + 1) else none) else if -8 ≤ s then (if 0 < d then dep ops d else none) else (if 1 < d then dep ops (d - 1) else none)) = some 1 := hd
    by_cases c1 : -6 ≤ s
    · rw [if_pos c1] at hd' ⊢
      by_cases c2 : d < 40
      · rw [if_pos c2] at hd'; exact ⟨c2, ih _ _ ht hd'⟩
      · rw [if_neg c2] at hd'; exact absurd hd' (by simp)
    · rw [if_neg c1] at hd' ⊢
      by_cases c3 : -8 ≤ s
      · rw [if_pos c3] at hd' ⊢
        by_cases c2 : 0 < d
        · rw [if_pos c2] at hd'; exact ⟨c2, ih _ _ ht hd'⟩
        · rw [if_neg c2] at hd'; exact absurd hd' (by simp)
      · rw [if_neg c3] at hd' ⊢
        by_cases c2 : 1 < d
        · rw [if_pos c2] at hd'; exact ⟨c2, ih _ _ ht hd'⟩
        · rw [if_neg c2] at hd'; exact absurd hd' (by simp)
/-- text ru of the class lies so -/
def laid (I : Nat → Nat → Int32) (ln : Nat → Nat) (ru : Nat) (o : List Int32 × List Int32 × List Int32) : Prop :=
  ln ru = (o.1 ++ o.2.1 ++ o.2.2).length ∧ (o.1 ++ o.2.1 ++ o.2.2).length < 160 ∧ (∀ j, j < (o.1 ++ o.2.1 ++ o.2.2).length → I (42 + 2 * ru) j = (o.1 ++ o.2.1 ++ o.2.2).getD j 0) ∧ I (41 + 2 * ru) 1 = nI o.1.length ∧ I (41 + 2 * ru) 2 = nI (o.1 ++ o.2.1).length
/-- where a key's steps lie -/
theorem laid_at {I : Nat → Nat → Int32} {ln : Nat → Nat} {ru : Nat} {T : Tx} (h : laid I ln ru T.2.1) {key : Int32} (hk : key = 0 ∨ key = 1 ∨ key = 2) : ∃ a, kfrom I ru key = nI a ∧ kto I ln ru key = nI (a + (tops T key).length) ∧ a + (tops T key).length ≤ ln ru ∧ ∀ j, j < (tops T key).length → I (42 + 2 * ru) (a + j) = (tops T key).getD j 0 := by
  obtain ⟨h1, h2, h3, h4, h5⟩ := h
  obtain ⟨Tb, ⟨A, B, C⟩, Tf⟩ := T
  have h1 : ln ru = (A ++ B ++ C).length := h1
  have h3 : ∀ j, j < (A ++ B ++ C).length → I (42 + 2 * ru) j = (A ++ B ++ C).getD j 0 := h3
  have h4 : I (41 + 2 * ru) 1 = nI A.length := h4
  have h5 : I (41 + 2 * ru) 2 = nI (A ++ B).length := h5
  have hl : (A ++ B ++ C).length = A.length + B.length + C.length := by simp; omega
  have hl2 : (A ++ B).length = A.length + B.length := by simp
  have g : ∀ j, (A ++ B ++ C).getD j 0 = if j < A.length then A.getD j 0 else if j < A.length + B.length then B.getD (j - A.length) 0 else C.getD (j - A.length - B.length) 0 := by
    intro j
    simp only [List.getD_eq_getElem?_getD, List.getElem?_append, List.length_append]
    by_cases c1 : j < A.length
    · rw [if_pos (by omega), if_pos c1, if_pos c1]
    · by_cases c2 : j < A.length + B.length
      · rw [if_pos c2, if_neg c1, if_neg c1, if_pos c2]
      · rw [if_neg c2, if_neg c1, if_neg c2, Nat.sub_sub]
  rcases hk with rfl | rfl | rfl
  · refine ⟨0, rfl, ?_, ?_, fun j hj => ?_⟩
    · show I (41 + 2 * ru) 1 = nI (0 + A.length); rw [h4, Nat.zero_add]
    · show 0 + A.length ≤ _; omega
    · have hj : j < A.length := hj
      show I (42 + 2 * ru) (0 + j) = A.getD j 0
      rw [Nat.zero_add, h3 j (by omega), g, if_pos hj]
  · refine ⟨A.length, h4, ?_, ?_, fun j hj => ?_⟩
    · show I (41 + 2 * ru) 2 = nI (A.length + B.length); rw [h5, hl2]
    · show A.length + B.length ≤ _; omega
    · have hj : j < B.length := hj
      show I (42 + 2 * ru) (A.length + j) = B.getD j 0
      rw [h3 _ (by omega), g, if_neg (by omega), if_pos (by omega), show A.length + j - A.length = j by omega]
  · refine ⟨A.length + B.length, ?_, ?_, ?_, fun j hj => ?_⟩
    · show I (41 + 2 * ru) 2 = _; rw [h5, hl2]
    · show nI (ln ru) = nI (A.length + B.length + C.length); rw [h1, hl]
    · show A.length + B.length + C.length ≤ _; omega
    · have hj : j < C.length := hj
      show I (42 + 2 * ru) (A.length + B.length + j) = C.getD j 0
      rw [h3 _ (by omega), g, if_neg (by omega), if_neg (by omega), show A.length + B.length + j - A.length - B.length = j by omega]
theorem laid_ok {I : Nat → Nat → Int32} {ln : Nat → Nat} {ru : Nat} {T : Tx} (h : laid I ln ru T.2.1) (hd : deps T.2.1) : ruleOk I ln ru := by
  refine ⟨by rw [h.1]; have := h.2.1; omega, fun key hk => ?_⟩
  obtain ⟨a, h1, h2, h3, h4⟩ := laid_at h hk
  refine ⟨a, (tops T key).length, h1, h2, h3, rok_dep _ _ _ h4 ?_⟩
  rcases hk with rfl | rfl | rfl
  · exact hd.1
  · exact hd.2.1
  · exact hd.2.2
theorem laid_ev {I : Nat → Nat → Int32} {ln : Nat → Nat} {ru : Nat} {T : Tx} (h : laid I ln ru T.2.1) {key : Int32} (hk : key = 0 ∨ key = 1 ∨ key = 2) (nm : Nat → Int32) : evX I ln ru key nm = val nm (tops T key) := by
  obtain ⟨a, h1, h2, h3, h4⟩ := laid_at h hk
  have hb : ln ru < 160 := by rw [h.1]; exact h.2.1
  unfold evX val
  rw [h1, h2, nI_clamp (by omega), nI_clamp (by omega), show a + (tops T key).length - a = (tops T key).length by omega, rsm_rsl _ _ _ h4]
