theorem gloop {P : Nat → Prop} {n : Nat} (he : P n) (hs : ∀ i, i < n → P (i + 1) → P i) : ∀ i, i ≤ n → P i := by
  intro i hi
  obtain ⟨m, hm⟩ : ∃ m, i + m = n := ⟨n - i, by omega⟩
  induction m generalizing i with
  | zero => have : i = n := by omega
            subst this; exact he
  | succ m ih => exact hs i (by omega) (ih (i + 1) (by omega) (by omega))
/-- a loop's head: i against a bound -/
theorem gbr_lp {x : Int32} {i n : Nat} {A B : Prop} (hx : x = nI n) (hn : n < 2 ^ 31) (hi : i ≤ n) (h1 : i = n → A) (h2 : i < n → B) : gbr (x ≤ nI i) A B := by
  subst hx
  refine ⟨fun z => ?_, fun z => ?_⟩
  · rcases Nat.lt_or_ge i n with q | q
    · exact absurd z (nI_ge q hn)
    · exact h1 (by omega)
  · rcases Nat.lt_or_ge i n with q | q
    · exact h2 q
    · exact absurd (nI_le q (by omega)) z
def ss (f : Nat → Int32) : Nat → Int32
  | 0 => 0
  | n + 1 => ss f n + f n
theorem four {s : Int32} (h : 0 ≤ s ∧ s < 4) : s = 0 ∨ s = 1 ∨ s = 2 ∨ s = 3 := by
  (simp only [Int32.lt_iff_toInt_lt, Int32.le_iff_toInt_le, ← Int32.toInt_inj, Int32.reduceToInt] at *; omega)
section
variable (E : gEnv) (c : Nat) (ln : Nat → Nat) (I : Nat → Nat → Int32) (L : Nat → Nat → Int64)
theorem c_allStores (nr : Nat) (hnr : nr ≤ 12) (hc : I 6 6 = nI nr) : gCtr E 1 0 0 nX6_allStores [.ref 6] (wX c ln I L) (fun v u' => u' = (wX c ln I L) ∧ v = some (.int (ss (I 11) nr))) := by
  refine gstart iX6_allStores tX6_allStores rfl rfl (fun K ca hK hca => ?_)
  have loop := gloop (P := fun i => K 0 0 4 [some (.ref 6), some (.int (ss (I 11) i)), some (.int (nI i))] [] (wX c ln I L)) (n := nr) (by
    refine hK [4] 40 _ _ _ _ _ _ ?_
    exact gbr_lp hc (by omega) (Nat.le_refl _) (fun _ => ⟨rfl, rfl⟩) (fun z => absurd z (Nat.lt_irrefl _))) (by
    intro i hi ih
    refine hK [4] 40 _ _ _ _ _ _ ?_
    refine gbr_lp hc (by omega) (by omega) (fun e => by omega) (fun _ => ?_)
    refine gsd_i (vp_in_nI (by omega) (by omega)) ?_
    rw [← nI_1, show ss (I 11) (i + 1) = ss (I 11) i + I 11 (nI i).toNatClampNeg by rw [nI_clamp (by omega)]; rfl] at ih
    exact ih)
  exact hK [4] 40 _ _ _ _ _ _ (loop 0 (Nat.zero_le _))
theorem c_allFilmed (nr : Nat) (hnr : nr ≤ 12) (hc : I 6 6 = nI nr) : gCtr E 2 0 0 nX6_allFilmed [.ref 6] (wX c ln I L) (fun v u' => u' = (wX c ln I L) ∧ v = some (.int (ss (fun r => lbc (L 12 r)) nr))) := by
  refine gstart iX6_allFilmed tX6_allFilmed rfl rfl (fun K ca hK hca => ?_)
  have loop := gloop (P := fun i => K 0 0 4 [some (.ref 6), some (.int (ss (fun r => lbc (L 12 r)) i)), some (.int (nI i))] [] (wX c ln I L)) (n := nr) (by
    refine hK [4] 40 _ _ _ _ _ _ ?_
    exact gbr_lp hc (by omega) (Nat.le_refl _) (fun _ => ⟨rfl, rfl⟩) (fun z => absurd z (Nat.lt_irrefl _))) (by
    intro i hi ih
    refine hK [4] 40 _ _ _ _ _ _ ?_
    refine gbr_lp hc (by omega) (by omega) (fun e => by omega) (fun _ => ?_)
    refine gsd_i (vp_in_nI (by omega) (by omega)) (gcall0 hca (c_lbc E (wX c ln I L) (L 12 (nI i).toNatClampNeg)) rfl ?_)
    rintro w u' - ⟨rfl, rfl⟩
    rw [← nI_1, show ss (fun r => lbc (L 12 r)) (i + 1) = ss (fun r => lbc (L 12 r)) i + lbc (L 12 (nI i).toNatClampNeg) by rw [nI_clamp (by omega)]; rfl] at ih
    exact ih)
  exact hK [4] 40 _ _ _ _ _ _ (loop 0 (Nat.zero_le _))
/-- rider r is of the group g and was filmed in t -/
def flm (L : Nat → Nat → Int64) (g t : Int32) (r : Nat) : Prop := (g >>> (nI r &&& 31)) &&& 1 = 1 ∧ lg_cmp ((L 12 r >>> (t.toInt64 &&& 63)) &&& 1) 1 = 0
theorem c_someFilmed (g t : Int32) (nr : Nat) (hnr : nr ≤ 12) (hc : I 6 6 = nI nr) : gCtr E 1 0 0 nX6_someFilmed [.ref 6, .int g, .int t] (wX c ln I L) (fun v u' => u' = (wX c ln I L) ∧ ((v = some (.int 1) ∧ ∃ r, r < nr ∧ flm L g t r) ∨ (v = some (.int 0) ∧ ¬ ∃ r, r < nr ∧ flm L g t r))) := by
  refine gstart iX6_someFilmed tX6_someFilmed rfl rfl (fun K ca hK hca => ?_)
  have loop := gloop (P := fun i => (∀ r, r < i → ¬ flm L g t r) → K 0 0 2 [some (.ref 6), some (.int g), some (.int t), some (.int (nI i))] [] (wX c ln I L)) (n := nr) (by
    intro hno
    refine hK [2] 40 _ _ _ _ _ _ ?_
    exact gbr_lp hc (by omega) (Nat.le_refl _) (fun _ => gsd_i (Or.inl rfl) ⟨rfl, Or.inr ⟨rfl, fun ⟨r, h1, h2⟩ => hno r h1 h2⟩⟩) (fun z => absurd z (Nat.lt_irrefl _))) (by
    intro i hi ih hno
    have hcl : (nI i).toNatClampNeg = i := nI_clamp (by omega)
    refine hK [2] 40 _ _ _ _ _ _ ?_
    refine gbr_lp hc (by omega) (by omega) (fun e => by omega) (fun _ => ?_)
    have next : ¬ flm L g t i → K 0 0 2 [some (.ref 6), some (.int g), some (.int t), some (.int (nI i + 1))] [] (wX c ln I L) := fun hf => by
      have := ih (fun r hr => by rcases Nat.lt_or_ge r i with q | q
                                 · exact hno r q
                                 · have : r = i := by omega
                                   subst this; exact hf)
      rw [← nI_1] at this
      exact this
    refine gbr_i (fun h1 => ?_) (fun h1 => next (fun z => h1 z.1))
    refine gsd_i (vp_in_nI (by omega) (by omega)) ?_
    refine gbr_i (fun h2 => ?_) (fun h2 => next (fun z => h2 (by rw [hcl]; exact z.2)))
    exact gsd_i (Or.inr rfl) ⟨rfl, Or.inl ⟨rfl, i, hi, h1, by rw [hcl] at h2; exact h2⟩⟩)
  exact hK [2] 40 _ _ _ _ _ _ (loop 0 (Nat.zero_le _) (fun r hr => absurd hr (Nat.not_lt_zero r)))
theorem six {s : Int32} (h : 0 ≤ s ∧ s ≤ 5) : s = 0 ∨ s = 1 ∨ s = 2 ∨ s = 3 ∨ s = 4 ∨ s = 5 := by
  (simp only [Int32.lt_iff_toInt_lt, Int32.le_iff_toInt_le, ← Int32.toInt_inj, Int32.reduceToInt] at *; omega)
theorem c_isUnder (r a : Int32) (hr : vp_in r 12) (hk : 0 ≤ I 7 r.toNatClampNeg ∧ I 7 r.toNatClampNeg ≤ 5) : gCtr E 1 0 0 nX6_isUnder [.ref 6, .int r, .int a] (wX c ln I L) (fun v u' => u' = (wX c ln I L) ∧ v = some (.int (und (I 7 r.toNatClampNeg) a))) := by
  refine gstart iX6_isUnder tX6_isUnder rfl rfl (fun K ca hK hca => ?_)
  refine hK [10] 80 _ _ _ _ _ _ (gsd_i hr ?_)
  show K 0 0 10 [some (.ref 6), some (.int r), some (.int a), some (.int (I 7 r.toNatClampNeg)), some (.int 0)] [] (wX c ln I L)
  have h6 := six hk
  clear hk
  generalize I 7 r.toNatClampNeg = k at h6 hK ⊢
  rcases h6 with rfl | rfl | rfl | rfl | rfl | rfl
  · refine hK [10] 60 _ _ _ _ _ _ ?_
    refine gbr_i (fun z => absurd z (by decide)) (fun _ => ?_)
    refine gbr_i (fun e0 => ?_) (fun e0 => ?_)
    · subst e0
      refine gbr_i (fun _ => ?_) (fun z => absurd rfl z)
      exact gsd_i (Or.inr rfl) ⟨rfl, by decide⟩
    refine gbr_i (fun _ => ?_) (fun z => absurd (by decide) z)
    refine gbr_i (fun z => absurd z e0) (fun _ => ?_)
    refine gsd_i (Or.inl rfl) ⟨rfl, congrArg (fun z => some (Value.int z)) ?_⟩
    unfold und
    rw [if_neg]
    clear hca hK
    (simp only [Int32.lt_iff_toInt_lt, Int32.le_iff_toInt_le, ← Int32.toInt_inj, Int32.reduceToInt] at *; omega)
  · refine hK [10] 60 _ _ _ _ _ _ ?_
    refine gbr_i (fun z => absurd z (by decide)) (fun _ => ?_)
    refine gbr_i (fun e0 => ?_) (fun e0 => ?_)
    · subst e0
      refine gbr_i (fun _ => ?_) (fun z => absurd rfl z)
      exact gsd_i (Or.inr rfl) ⟨rfl, by decide⟩
    refine gbr_i (fun z => absurd z (by decide)) (fun _ => ?_)
    refine gsd_i (by unfold vp_in; decide) ?_
    show K 0 0 10 [some (.ref 6), some (.int r), some (.int a), some (.int 0), some (.int 1)] [] (wX c ln I L)
    refine hK [10] 60 _ _ _ _ _ _ ?_
    refine gbr_i (fun z => absurd z (by decide)) (fun _ => ?_)
    refine gbr_i (fun e1 => ?_) (fun e1 => ?_)
    · subst e1
      refine gbr_i (fun _ => ?_) (fun z => absurd rfl z)
      exact gsd_i (Or.inr rfl) ⟨rfl, by decide⟩
    refine gbr_i (fun _ => ?_) (fun z => absurd (by decide) z)
    refine gbr_i (fun z => absurd z e1) (fun _ => ?_)
    refine gsd_i (Or.inl rfl) ⟨rfl, congrArg (fun z => some (Value.int z)) ?_⟩
    unfold und
    rw [if_neg]
    clear hca hK
    (simp only [Int32.lt_iff_toInt_lt, Int32.le_iff_toInt_le, ← Int32.toInt_inj, Int32.reduceToInt] at *; omega)
  · refine hK [10] 60 _ _ _ _ _ _ ?_
    refine gbr_i (fun z => absurd z (by decide)) (fun _ => ?_)
    refine gbr_i (fun e0 => ?_) (fun e0 => ?_)
    · subst e0
      refine gbr_i (fun _ => ?_) (fun z => absurd rfl z)
      exact gsd_i (Or.inr rfl) ⟨rfl, by decide⟩
    refine gbr_i (fun z => absurd z (by decide)) (fun _ => ?_)
    refine gsd_i (by unfold vp_in; decide) ?_
    show K 0 0 10 [some (.ref 6), some (.int r), some (.int a), some (.int 0), some (.int 1)] [] (wX c ln I L)
    refine hK [10] 60 _ _ _ _ _ _ ?_
    refine gbr_i (fun z => absurd z (by decide)) (fun _ => ?_)
    refine gbr_i (fun e1 => ?_) (fun e1 => ?_)
    · subst e1
      refine gbr_i (fun _ => ?_) (fun z => absurd rfl z)
      exact gsd_i (Or.inr rfl) ⟨rfl, by decide⟩
    refine gbr_i (fun _ => ?_) (fun z => absurd (by decide) z)
    refine gbr_i (fun z => absurd z e1) (fun _ => ?_)
    refine gsd_i (Or.inl rfl) ⟨rfl, congrArg (fun z => some (Value.int z)) ?_⟩
    unfold und
    rw [if_neg]
    clear hca hK
    (simp only [Int32.lt_iff_toInt_lt, Int32.le_iff_toInt_le, ← Int32.toInt_inj, Int32.reduceToInt] at *; omega)
  · refine hK [10] 60 _ _ _ _ _ _ ?_
    refine gbr_i (fun z => absurd z (by decide)) (fun _ => ?_)
    refine gbr_i (fun e0 => ?_) (fun e0 => ?_)
    · subst e0
      refine gbr_i (fun _ => ?_) (fun z => absurd rfl z)
      exact gsd_i (Or.inr rfl) ⟨rfl, by decide⟩
    refine gbr_i (fun z => absurd z (by decide)) (fun _ => ?_)
    refine gsd_i (by unfold vp_in; decide) ?_
    show K 0 0 10 [some (.ref 6), some (.int r), some (.int a), some (.int 2), some (.int 1)] [] (wX c ln I L)
    refine hK [10] 60 _ _ _ _ _ _ ?_
    refine gbr_i (fun z => absurd z (by decide)) (fun _ => ?_)
    refine gbr_i (fun e1 => ?_) (fun e1 => ?_)
    · subst e1
      refine gbr_i (fun _ => ?_) (fun z => absurd rfl z)
      exact gsd_i (Or.inr rfl) ⟨rfl, by decide⟩
    refine gbr_i (fun z => absurd z (by decide)) (fun _ => ?_)
    refine gsd_i (by unfold vp_in; decide) ?_
    show K 0 0 10 [some (.ref 6), some (.int r), some (.int a), some (.int 0), some (.int 2)] [] (wX c ln I L)
    refine hK [10] 60 _ _ _ _ _ _ ?_
    refine gbr_i (fun z => absurd z (by decide)) (fun _ => ?_)
    refine gbr_i (fun e2 => ?_) (fun e2 => ?_)
    · subst e2
      refine gbr_i (fun _ => ?_) (fun z => absurd rfl z)
      exact gsd_i (Or.inr rfl) ⟨rfl, by decide⟩
    refine gbr_i (fun _ => ?_) (fun z => absurd (by decide) z)
    refine gbr_i (fun z => absurd z e2) (fun _ => ?_)
    refine gsd_i (Or.inl rfl) ⟨rfl, congrArg (fun z => some (Value.int z)) ?_⟩
    unfold und
    rw [if_neg]
    clear hca hK
    (simp only [Int32.lt_iff_toInt_lt, Int32.le_iff_toInt_le, ← Int32.toInt_inj, Int32.reduceToInt] at *; omega)
  · refine hK [10] 60 _ _ _ _ _ _ ?_
    refine gbr_i (fun z => absurd z (by decide)) (fun _ => ?_)
    refine gbr_i (fun e0 => ?_) (fun e0 => ?_)
    · subst e0
      refine gbr_i (fun _ => ?_) (fun z => absurd rfl z)
      exact gsd_i (Or.inr rfl) ⟨rfl, by decide⟩
    refine gbr_i (fun z => absurd z (by decide)) (fun _ => ?_)
    refine gsd_i (by unfold vp_in; decide) ?_
    show K 0 0 10 [some (.ref 6), some (.int r), some (.int a), some (.int 0), some (.int 1)] [] (wX c ln I L)
    refine hK [10] 60 _ _ _ _ _ _ ?_
    refine gbr_i (fun z => absurd z (by decide)) (fun _ => ?_)
    refine gbr_i (fun e1 => ?_) (fun e1 => ?_)
    · subst e1
      refine gbr_i (fun _ => ?_) (fun z => absurd rfl z)
      exact gsd_i (Or.inr rfl) ⟨rfl, by decide⟩
    refine gbr_i (fun _ => ?_) (fun z => absurd (by decide) z)
    refine gbr_i (fun z => absurd z e1) (fun _ => ?_)
    refine gsd_i (Or.inl rfl) ⟨rfl, congrArg (fun z => some (Value.int z)) ?_⟩
    unfold und
    rw [if_neg]
    clear hca hK
    (simp only [Int32.lt_iff_toInt_lt, Int32.le_iff_toInt_le, ← Int32.toInt_inj, Int32.reduceToInt] at *; omega)
  · refine hK [10] 60 _ _ _ _ _ _ ?_
    refine gbr_i (fun z => absurd z (by decide)) (fun _ => ?_)
    refine gbr_i (fun e0 => ?_) (fun e0 => ?_)
    · subst e0
      refine gbr_i (fun _ => ?_) (fun z => absurd rfl z)
      exact gsd_i (Or.inr rfl) ⟨rfl, by decide⟩
    refine gbr_i (fun z => absurd z (by decide)) (fun _ => ?_)
    refine gsd_i (by unfold vp_in; decide) ?_
    show K 0 0 10 [some (.ref 6), some (.int r), some (.int a), some (.int 1), some (.int 1)] [] (wX c ln I L)
    refine hK [10] 60 _ _ _ _ _ _ ?_
    refine gbr_i (fun z => absurd z (by decide)) (fun _ => ?_)
    refine gbr_i (fun e1 => ?_) (fun e1 => ?_)
    · subst e1
      refine gbr_i (fun _ => ?_) (fun z => absurd rfl z)
      exact gsd_i (Or.inr rfl) ⟨rfl, by decide⟩
    refine gbr_i (fun z => absurd z (by decide)) (fun _ => ?_)
    refine gsd_i (by unfold vp_in; decide) ?_
    show K 0 0 10 [some (.ref 6), some (.int r), some (.int a), some (.int 0), some (.int 2)] [] (wX c ln I L)
    refine hK [10] 60 _ _ _ _ _ _ ?_
    refine gbr_i (fun z => absurd z (by decide)) (fun _ => ?_)
    refine gbr_i (fun e2 => ?_) (fun e2 => ?_)
    · subst e2
      refine gbr_i (fun _ => ?_) (fun z => absurd rfl z)
      exact gsd_i (Or.inr rfl) ⟨rfl, by decide⟩
    refine gbr_i (fun _ => ?_) (fun z => absurd (by decide) z)
    refine gbr_i (fun z => absurd z e2) (fun _ => ?_)
    refine gsd_i (Or.inl rfl) ⟨rfl, congrArg (fun z => some (Value.int z)) ?_⟩
    unfold und
    rw [if_neg]
    clear hca hK
    (simp only [Int32.lt_iff_toInt_lt, Int32.le_iff_toInt_le, ← Int32.toInt_inj, Int32.reduceToInt] at *; omega)
def countX (I : Nat → Nat → Int32) (L : Nat → Nat → Int64) (nr : Nat) (what : Int32) : Int32 :=
  if what = 0 then I 1 4 else if what = 1 then I 6 6 else if what = 2 then I 17 5 else if what = 3 then I 13 3 else if what = 4 then I 17 6 else if what = 5 then ss (fun r => lbc (L 12 r)) nr else if what = 6 then ss (I 11) nr else -2
theorem p_count (what : Int32) (nr : Nat) (hnr : nr ≤ 12) (hc : I 6 6 = nI nr) : gCtr E 3 0 0 nX9_count [.ref 0, .int what] (wX c ln I L) (fun w u' => u' = (wX c ln I L) ∧ w = some (.int (countX I L nr what))) := by
  refine gstart iX9_count tX9_count rfl rfl (fun K ca hK hca => ?_)
  refine hK [] 80 _ _ _ _ _ _ ?_
  clear hK
  unfold countX
  refine gbr_i (fun e => ?_) (fun e0 => ?_)
  · rw [if_pos e]; exact ⟨rfl, rfl⟩
  rw [if_neg e0]
  refine gbr_i (fun e => ?_) (fun e1 => ?_)
  · rw [if_pos e]; exact ⟨rfl, rfl⟩
  rw [if_neg e1]
  refine gbr_i (fun e => ?_) (fun e2 => ?_)
  · rw [if_pos e]; exact ⟨rfl, rfl⟩
  rw [if_neg e2]
  refine gbr_i (fun e => ?_) (fun e3 => ?_)
  · rw [if_pos e]; exact ⟨rfl, rfl⟩
  rw [if_neg e3]
  refine gbr_i (fun e => ?_) (fun e4 => ?_)
  · rw [if_pos e]; exact ⟨rfl, rfl⟩
  rw [if_neg e4]
  refine gbr_i (fun e => ?_) (fun e5 => ?_)
  · rw [if_pos e]
    refine gcall0 hca (c_allFilmed E c ln I L nr hnr hc) rfl ?_
    rintro w u' - ⟨rfl, rfl⟩
    exact ⟨rfl, rfl⟩
  rw [if_neg e5]
  refine gbr_i (fun e => ?_) (fun e6 => ?_)
  · rw [if_pos e]
    refine gcall0 hca (c_allStores E c ln I L nr hnr hc) rfl ?_
    rintro w u' - ⟨rfl, rfl⟩
    exact ⟨rfl, rfl⟩
  rw [if_neg e6]
  exact ⟨rfl, rfl⟩
def takenX (I : Nat → Nat → Int32) (r k : Int32) : Int32 := if 0 ≤ k ∧ k ≤ 5 then (if 0 ≤ r ∧ r < I 6 6 then (if und (I 7 r.toNatClampNeg) k = 0 then -13 else I 9 r.toNatClampNeg) else -11) else -2
theorem p_taken (r k : Int32) (nr : Nat) (hnr : nr ≤ 12) (hc : I 6 6 = nI nr) (hk : ∀ i, i < nr → 0 ≤ I 7 i ∧ I 7 i ≤ 5) : gCtr E 3 0 0 nX9_taken [.ref 0, .int r, .int k] (wX c ln I L) (fun w u' => u' = (wX c ln I L) ∧ w = some (.int (takenX I r k))) := by
  refine gstart iX9_taken tX9_taken rfl rfl (fun K ca hK hca => ?_)
  refine hK [] 80 _ _ _ _ _ _ ?_
  clear hK
  unfold takenX
  refine gbr_i (fun h1 => ?_) (fun h1 => ?_)
  · rw [if_neg (by clear hca hc hk; (simp only [Int32.lt_iff_toInt_lt, Int32.le_iff_toInt_le, ← Int32.toInt_inj, Int32.reduceToInt] at *; omega))]; exact ⟨rfl, rfl⟩
  refine gbr_i (fun h2 => ?_) (fun h2 => ?_)
  · rw [if_pos (by clear hca hc hk; (simp only [Int32.lt_iff_toInt_lt, Int32.le_iff_toInt_le, ← Int32.toInt_inj, Int32.reduceToInt] at *; omega))]
    refine gcall0 hca (c_thas E c ln I L r) rfl ?_
    rintro w u' - ⟨rfl, rfl⟩
    refine gbr_p (fun h3 => ?_) (fun h3 => ?_)
    · rw [if_neg h3]; exact ⟨rfl, rfl⟩
    rw [if_pos h3]
    have hv : vp_in r 12 := gin_of (by rw [← hc]; exact h3) hnr (by omega)
    obtain ⟨j, hj, rfl⟩ := vp_in_of (gin_of (N := nr) (by rw [← hc]; exact h3) (Nat.le_refl _) (by omega)) (by omega)
    have hkj := hk j hj
    rw [show j = (nI j).toNatClampNeg from (nI_clamp (by omega)).symm] at hkj
    refine gcall0 hca (c_isUnder E c ln I L (nI j) k hv hkj) rfl ?_
    rintro w u' - ⟨rfl, rfl⟩
    refine gbr_i (fun e => ?_) (fun e => ?_)
    · rw [if_pos e]; exact ⟨rfl, rfl⟩
    · rw [if_neg e]; exact gsd_i hv ⟨rfl, rfl⟩
  · rw [if_neg (by clear hca hc hk; (simp only [Int32.lt_iff_toInt_lt, Int32.le_iff_toInt_le, ← Int32.toInt_inj, Int32.reduceToInt] at *; omega))]; exact ⟨rfl, rfl⟩
end
