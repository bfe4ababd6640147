-- the model: caught, clock; getting away
theorem cht_keep {V : Nat → Nat → Int32} {sv : Say} : ∀ (m t : Nat) (s1 s2 : RdS) (f n : Int32), ¬ f = -1 → (cht V sv m t s1 s2 f n).1 = f := by
  intro m
  induction m with
  | zero => intro t s1 s2 f n _; rfl
  | succ m ih =>
    intro t s1 s2 f n h
    show (cht V sv m (t + 1) _ _ (if n + ((stpX V sv t s1).2.2.2.2 - (stpX V sv t s2).2.2.2.2) ≤ 0 ∧ f = -1 then nI t else f) _).1 = f
    rw [if_neg (fun z => h z.2)]
    exact ih _ _ _ _ _ h
/-- one step, seen from one rider -/
theorem stp_one {V : Nat → Nat → Int32} {sv : Say} {t r : Nat} {s : RdS} (h0 : 0 ≤ s.2.2.1 r) : 0 ≤ (stpX V sv t s).2.2.1 r ∧ (r ∈ (stpX V sv t s).1 → 0 < (stpX V sv t s).2.2.1 r) ∧ (¬ r ∈ s.1 → (stpX V sv t s).2.2.1 r = s.2.2.1 r) := by
  obtain ⟨row, since, st, f, p⟩ := s
  unfold stpX gon
  by_cases e : row = []
  · rw [if_pos e]
    exact ⟨h0, fun z => absurd (show r ∈ row from z) (by rw [e]; simp), fun _ => rfl⟩
  · rw [if_neg e]
    have hsame : ∀ q, q ∈ (goT V (V 1 4 - nI t) row since st).1 → q ∈ row := fun q hq => by
      have := goT_in (G := fun x => x ∈ row) (I := V) (lf := V 1 4 - nI t) (s := since) (st := st) (row := row) (fun _ z => z)
      exact this q hq
    refine ⟨?_, fun z => of_decide_eq_true (List.mem_filter.mp z).2, fun hno => tir_out _ _ _ (fun z => hno (hsame r z))⟩
    by_cases hm : r ∈ (goT V (V 1 4 - nI t) row since st).1
    · exact tir_pos _ _ _ hm
    · show 0 ≤ tir sv (nI t) 0 (goT V (V 1 4 - nI t) row since st).1 st r
      rw [tir_out _ _ _ hm]; exact h0
theorem ron_zero {V : Nat → Nat → Int32} {sv : Say} {r : Nat} : ∀ (m t : Nat) (s : RdS), s.2.2.1 r = 0 → ¬ r ∈ s.1 → (ron V sv m t s).2.2.1 r = 0 := by
  intro m
  induction m with
  | zero => intro t s h _; exact h
  | succ m ih =>
    intro t s h hn
    have hs := stp_one (V := V) (sv := sv) (t := t) (r := r) (s := s) (by rw [h]; exact Int32.le_refl 0)
    have hz : (stpX V sv t s).2.2.1 r = 0 := by rw [hs.2.2 hn, h]
    exact ih (t + 1) _ hz (fun z => absurd (hs.2.1 z) (by rw [hz]; decide))
theorem gaw_cht {V : Nat → Nat → Int32} {sv : Say} {r : Nat} : ∀ (m t : Nat) (s1 s2 : RdS) (n : Int32), t + m < 1000 → 0 ≤ s1.2.2.1 r → (0 < m ∨ 0 < s1.2.2.1 r) → gaw V sv r m t s1 s2 n = (if (cht V sv m t s1 s2 (-1) n).1 = -1 ∧ 0 < (ron V sv m t s1).2.2.1 r then 1 else 0) := by
  intro m
  induction m with
  | zero =>
    intro t s1 s2 n _ _ h
    rcases h with h | h
    · exact absurd h (Nat.lt_irrefl _)
    · exact (if_pos ⟨rfl, h⟩).symm
  | succ m ih =>
    intro t s1 s2 n ht h0 _
    have hs := stp_one (V := V) (sv := sv) (t := t) (r := r) (s := s1) h0
    obtain ⟨d, hd⟩ : ∃ d, d = n + ((stpX V sv t s1).2.2.2.2 - (stpX V sv t s2).2.2.2.2) := ⟨_, rfl⟩
    show (if n + ((stpX V sv t s1).2.2.2.2 - (stpX V sv t s2).2.2.2.2) ≤ 0 ∨ (stpX V sv t s1).2.2.1 r = 0 then (0 : Int32) else gaw V sv r m (t + 1) (stpX V sv t s1) (stpX V sv t s2) (n + ((stpX V sv t s1).2.2.2.2 - (stpX V sv t s2).2.2.2.2))) = (if (cht V sv m (t + 1) (stpX V sv t s1) (stpX V sv t s2) (if n + ((stpX V sv t s1).2.2.2.2 - (stpX V sv t s2).2.2.2.2) ≤ 0 ∧ (-1 : Int32) = -1 then nI t else -1) (n + ((stpX V sv t s1).2.2.2.2 - (stpX V sv t s2).2.2.2.2))).1 = -1 ∧ 0 < (ron V sv m (t + 1) (stpX V sv t s1)).2.2.1 r then 1 else 0)
    rw [← hd]
    by_cases h1 : d ≤ 0
    · have eL : (if d ≤ 0 ∧ (-1 : Int32) = -1 then nI t else -1) = nI t := if_pos ⟨h1, rfl⟩
      rw [eL]
      refine (if_pos (Or.inl h1)).trans (if_neg ?_).symm
      intro z
      have hne : ¬ nI t = -1 := fun q => by
        have := congrArg Int32.toInt q
        rw [nI_toInt (by omega)] at this
        simp only [Int32.reduceToInt] at this
        omega
      have z1 := z.1
      rw [cht_keep _ _ _ _ _ _ hne] at z1
      exact hne z1
    · have eL : (if d ≤ 0 ∧ (-1 : Int32) = -1 then nI t else -1) = -1 := if_neg (fun z => h1 z.1)
      rw [eL]
      by_cases h2 : (stpX V sv t s1).2.2.1 r = 0
      · refine (if_pos (Or.inr h2)).trans (if_neg ?_).symm
        intro z
        have := ron_zero (V := V) (sv := sv) m (t + 1) _ h2 (fun q => absurd (hs.2.1 q) (by rw [h2]; decide))
        rw [this] at z
        exact absurd z.2 (by decide)
      · refine (if_neg (fun z => z.elim h1 h2)).trans ?_
        exact ih (t + 1) _ _ _ (by omega) hs.1 (Or.inr ((pos_ne hs.1).mpr h2))
theorem cby (y : Int32) : ((100 ≤ y ∧ y ≤ 9999) ∧ 1 ≤ y - y / 100 * 100 ∧ y - y / 100 * 100 ≤ 20) ↔ ((1 ≤ y / 100 ∧ y / 100 ≤ 99) ∧ 1 ≤ y - y / 100 * 100 ∧ y - y / 100 * 100 ≤ 20) := by
  by_cases h : 0 ≤ y
  · obtain ⟨n, hn, rfl⟩ := nI_of (x := y) (by (simp only [Int32.lt_iff_toInt_lt, Int32.le_iff_toInt_le, ← Int32.toInt_inj, Int32.reduceToInt] at *; omega))
    have e1 : nI n / 100 = nI (n / 100) := pk_div (d := 100) hn (by decide) (by decide)
    rw [show (100 : Int32) ≤ nI n ↔ 100 ≤ n from by rw [show (100 : Int32) = nI 100 from rfl]; exact nI_leI (by omega) (by omega)]
    rw [show nI n ≤ (9999 : Int32) ↔ n ≤ 9999 from by rw [show (9999 : Int32) = nI 9999 from rfl]; exact nI_leI (by omega) (by omega)]
    have e2 : (1 : Int32) ≤ nI n / 100 ↔ 1 ≤ n / 100 := by rw [e1, show (1 : Int32) = nI 1 from rfl]; exact nI_leI (by omega) (by omega)
    have e3 : nI n / 100 ≤ (99 : Int32) ↔ n / 100 ≤ 99 := by rw [e1, show (99 : Int32) = nI 99 from rfl]; exact nI_leI (by omega) (by omega)
    rw [e2, e3]
    constructor
    · rintro ⟨⟨a, b⟩, q⟩; exact ⟨⟨by omega, by omega⟩, q⟩
    · rintro ⟨⟨a, b⟩, q⟩; exact ⟨⟨by omega, by omega⟩, q⟩
  · constructor
    · rintro ⟨⟨a, -⟩, -⟩
      exact absurd (Int32.le_trans (by decide) a) h
    · rintro ⟨⟨a, -⟩, -⟩
      exfalso
      have a' := Int32.le_iff_toInt_le.mp a
      rw [Int32.toInt_div] at a'
      have h' : y.toInt < 0 := by
        have : ¬ Int32.toInt 0 ≤ y.toInt := fun z => h (Int32.le_iff_toInt_le.mpr z)
        have e0 : Int32.toInt 0 = 0 := rfl
        omega
      have hlo := Int32.le_toInt y
      have e : y.toInt.tdiv (Int32.toInt 100) ≤ 0 := by
        have : Int32.toInt 100 = 100 := rfl
        rw [this]
        obtain ⟨k, hk⟩ : ∃ k : Int, k = - y.toInt := ⟨_, rfl⟩
        have hy : y.toInt = - k := by omega
        rw [hy, Int.neg_tdiv]
        have := Int.tdiv_nonneg (a := k) (b := 100) (by omega) (by decide)
        omega
      have elo : -(2 ^ 31) ≤ y.toInt.tdiv (Int32.toInt 100) := by
        have : Int32.toInt 100 = 100 := rfl
        rw [this]
        obtain ⟨k, hk⟩ : ∃ k : Int, k = - y.toInt := ⟨_, rfl⟩
        have hy : y.toInt = - k := by omega
        rw [hy, Int.neg_tdiv]
        have h1 := Int.tdiv_eq_ediv_of_nonneg (a := k) (b := 100) (by omega)
        omega
      rw [Int.bmod_eq_of_le (by omega) (by omega)] at a'
      have e1 : (Int32.toInt 1) = 1 := rfl
      omega
