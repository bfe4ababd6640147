-- THE RELATION of the two memories
def lbt (x : Int64) (i : Nat) : Bool := x.toBitVec.getLsbD i
/-- tenths and riders -/
def relA (I J : Nat → Nat → Int32) (nr nt : Nat) : Prop :=
  agX I (xv J) ∧ (I 1 4 = nI nt ∧ nt ≤ 40) ∧ (I 6 6 = nI nr ∧ nr ≤ 12) ∧ (∀ t, t < nt → 0 ≤ J 6 t) ∧
  ∀ r, r < nr → (0 ≤ J 8 r ∧ J 8 r ≤ 5) ∧ smalls (J 11 r) (J 10 r) ∧ ∃ s, s ≤ 999 ∧ J 12 r = nI s
/-- texts: each is good, lies so in the class, is that of the model -/
def relT (c : Nat) (ln : Nat → Nat) (I J : Nat → Nat → Int32) (ru : Nat) (TT : Nat → Tx) : Prop :=
  (1 ≤ c ∧ c ≤ 6 ∧ ru < c) ∧ (I 17 5 = nI c ∧ I 17 6 = nI ru) ∧ (J 0 3 = nI c ∧ J 0 4 = nI ru) ∧
  ∀ x, x < c → (TT x).1 = true ∧ laid I ln x (TT x).2.1 ∧ deps (TT x).2.1 ∧ ∃ b n, mtl J b x n ∧ pTxt (lex b n) = TT x
/-- the tape -/
def relP (I J : Nat → Nat → Int32) (n : Nat) : Prop := n ≤ 160 ∧ I 13 3 = nI n ∧ J 0 6 = nI n ∧ ∀ j, j < n → I 14 j = (J 3 j).toInt8.toInt32 ∧ 0 ≤ J 3 j ∧ J 3 j ≤ 255
/-- who was filmed: the class keeps a long for each rider, the model an int for each tenth -/
def relF (L : Nat → Nat → Int64) (J : Nat → Nat → Int32) (nt : Nat) : Prop :=
  (∀ t, t < nt → ∃ m, m < 4096 ∧ J 7 t = nI m) ∧ ∀ r, r < 12 → ∀ t, t < 64 → lbt (L 12 r) t = (decide (t < nt) && bt (J 7 t) r)
/-- the image -/
def relI (I : Nat → Nat → Int32) (L : Nat → Nat → Int64) (J : Nat → Nat → Int32) (c nr nt : Nat) : Prop :=
  (I 28 5 = 0 ↔ J 0 47 = 0) ∧ ∃ ic it iru, ic ≤ nr ∧ it ≤ nt ∧ iru < c ∧ (I 28 3 = nI ic ∧ J 0 48 = nI ic) ∧ J 0 49 = nI it ∧ (I 28 4 = nI iru ∧ J 0 50 = nI iru) ∧
    (∀ r, r < ic → I 29 r = J 18 r ∧ I 30 r = J 19 r ∧ (∃ p, p < 1000 ∧ J 18 r = nI p) ∧ ∃ s, s ≤ 999 ∧ J 19 r = nI s) ∧
    (∀ t, t < it → ∃ m, m < 4096 ∧ J 20 t = nI m) ∧ ∀ r, r < ic → ∀ t, t < 64 → lbt (L 31 r) t = (decide (t < it) && bt (J 20 t) r)
/-- the sheets -/
def relS (I J : Nat → Nat → Int32) : Prop := ∀ s, s < 4 → (I (33 + 2 * s) 1 = -1 ↔ J 21 s = 0) ∧ (¬ J 21 s = 0 → I (33 + 2 * s) 1 = J 22 s ∧ ∃ z, z ≤ 40 ∧ I (33 + 2 * s) 2 = nI z ∧ J 23 s = nI z ∧ ∀ j, j < z → I (34 + 2 * s) j = J 24 (40 * s + j))
def Rel (c : Nat) (ln : Nat → Nat) (I : Nat → Nat → Int32) (L : Nat → Nat → Int64) (J : Nat → Nat → Int32) : Prop :=
  ∃ nr nt ru n TT, relA I J nr nt ∧ relT c ln I J ru TT ∧ relP I J n ∧ relF L J nt ∧ relI I L J c nr nt ∧ relS I J
/-- what rides write is no part of it -/
theorem agX_fr {I I' V : Nat → Nat → Int32} (h : agX I V) (hf : ∀ k, 1 ≤ k → k ≤ 11 → I' k = I k) : agX I' V := by
  unfold agX
  rw [hf 1 (by omega) (by omega), hf 6 (by omega) (by omega), hf 2 (by omega) (by omega), hf 3 (by omega) (by omega), hf 4 (by omega) (by omega), hf 5 (by omega) (by omega), hf 7 (by omega) (by omega), hf 8 (by omega) (by omega), hf 9 (by omega) (by omega), hf 10 (by omega) (by omega), hf 11 (by omega) (by omega)]
  exact h
theorem Rel_fr {c : Nat} {ln : Nat → Nat} {I I' J J' : Nat → Nat → Int32} {L : Nat → Nat → Int64} (h : Rel c ln I L J) (hf : ∀ k, k ≠ 19 → k ≠ 20 → (k < 21 ∨ 27 < k) → I' k = I k) (hg : mgf J J') : Rel c ln I' L J' := by
  obtain ⟨nr, nt, ru, n, TT, hA, hT, hP, hF, hI, hS⟩ := h
  have hJ : ∀ k, k ≠ 0 → (k < 13 ∨ 17 < k) → J' k = J k := hg.1
  have hJ0 : ∀ j, (j < 18 ∨ 43 < j) → J' 0 j = J 0 j := hg.2
  refine ⟨nr, nt, ru, n, TT, ?_, ?_, ?_, ?_, ?_, ?_⟩
  · obtain ⟨a1, a2, a3, a4, a5⟩ := hA
    refine ⟨?_, ?_, ?_, ?_, ?_⟩
    · rw [xv_mgf hg]; exact agX_fr a1 (fun k h1 h2 => hf k (by omega) (by omega) (by omega))
    · rw [hf 1 (by decide) (by decide) (by decide)]; exact a2
    · rw [hf 6 (by decide) (by decide) (by decide)]; exact a3
    · rw [hJ 6 (by decide) (by decide)]; exact a4
    · rw [hJ 8 (by decide) (by decide), hJ 10 (by decide) (by decide), hJ 11 (by decide) (by decide), hJ 12 (by decide) (by decide)]; exact a5
  · obtain ⟨t1, t2, t3, t4⟩ := hT
    refine ⟨t1, ?_, ?_, fun x hx => ?_⟩
    · rw [hf 17 (by decide) (by decide) (by decide)]; exact t2
    · rw [hJ0 3 (by omega), hJ0 4 (by omega)]; exact t3
    · obtain ⟨y1, y2, y3, b, m, y4, y5⟩ := t4 x hx
      refine ⟨y1, ?_, y3, b, m, ?_, y5⟩
      · unfold laid
        rw [hf (42 + 2 * x) (by omega) (by omega) (by omega), hf (41 + 2 * x) (by omega) (by omega) (by omega)]
        exact y2
      · unfold mtl
        rw [hJ 1 (by decide) (by decide), hJ 2 (by decide) (by decide)]
        exact y4
  · unfold relP
    rw [hf 13 (by decide) (by decide) (by decide), hf 14 (by decide) (by decide) (by decide), hJ0 6 (by omega), hJ 3 (by decide) (by decide)]
    exact hP
  · unfold relF
    rw [hJ 7 (by decide) (by decide)]
    exact hF
  · unfold relI
    rw [hf 28 (by decide) (by decide) (by decide), hf 29 (by decide) (by decide) (by decide), hf 30 (by decide) (by decide) (by decide), hJ0 47 (by omega), hJ0 48 (by omega), hJ0 49 (by omega), hJ0 50 (by omega), hJ 18 (by decide) (by decide), hJ 19 (by decide) (by decide), hJ 20 (by decide) (by decide)]
    exact hI
  · intro s hs
    rw [hf (33 + 2 * s) (by omega) (by omega) (by omega), hf (34 + 2 * s) (by omega) (by omega) (by omega), hJ 21 (by decide) (by decide), hJ 22 (by decide) (by decide), hJ 23 (by decide) (by decide), hJ 24 (by decide) (by decide)]
    exact hS s hs
/-- the rule, on both sides -/
theorem relT_rule {c : Nat} {ln : Nat → Nat} {I J : Nat → Nat → Int32} {ru : Nat} {TT : Nat → Tx} (h : relT c ln I J ru TT) : ru < c ∧ c ≤ 6 ∧ I 17 6 = nI ru ∧ ruleOk I ln ru ∧ mR J (TT ru) ∧ laid I ln ru (TT ru).2.1 := by
  obtain ⟨t1, t2, t3, t4⟩ := h
  obtain ⟨y1, y2, y3, b, m, y4, y5⟩ := t4 ru t1.2.2
  exact ⟨t1.2.2, t1.2.1, t2.2, laid_ok y2 y3, ⟨ru, b, m, t3.2, y4, y5, y1⟩, y2⟩
