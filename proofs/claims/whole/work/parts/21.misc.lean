-- JDK: counts of bits, fill
def ibc1 (i : Int32) : Int32 := i - ((i.toUInt32 >>> ((1 : Int32).toUInt32 &&& Int32.toUInt32 31)).toInt32 &&& 1431655765)
def ibc2 (i : Int32) : Int32 := (i &&& 858993459) + ((i.toUInt32 >>> ((2 : Int32).toUInt32 &&& Int32.toUInt32 31)).toInt32 &&& 858993459)
def ibc3 (i : Int32) : Int32 := (i + (i.toUInt32 >>> ((4 : Int32).toUInt32 &&& Int32.toUInt32 31)).toInt32) &&& 252645135
def ibc4 (i : Int32) : Int32 := i + (i.toUInt32 >>> ((8 : Int32).toUInt32 &&& Int32.toUInt32 31)).toInt32
def ibc5 (i : Int32) : Int32 := i + (i.toUInt32 >>> ((16 : Int32).toUInt32 &&& Int32.toUInt32 31)).toInt32
def ibc (i : Int32) : Int32 := ibc5 (ibc4 (ibc3 (ibc2 (ibc1 i)))) &&& 63
theorem c_ibc (E : gEnv) (u : gS) (x : Int32) : gCtr E 1 0 0 nJ6_bitCount_0f7a4 [.int x] u (fun w u' => u' = u ∧ w = some (.int (ibc x))) := by
  refine gstart iJ6_bitCount_0f7a4 tJ6_bitCount_0f7a4 rfl rfl (fun K ca hK hca => ?_)
  refine hK [] 80 _ _ _ _ _ _ ?_
  clear hK
  exact ⟨rfl, rfl⟩
def lbc1 (i : Int64) : Int64 := i - ((i.toUInt64 >>> ((1 : Int32).toInt64.toUInt64 &&& Int64.toUInt64 63)).toInt64 &&& 6148914691236517205)
def lbc2 (i : Int64) : Int64 := (i &&& 3689348814741910323) + ((i.toUInt64 >>> ((2 : Int32).toInt64.toUInt64 &&& Int64.toUInt64 63)).toInt64 &&& 3689348814741910323)
def lbc3 (i : Int64) : Int64 := (i + (i.toUInt64 >>> ((4 : Int32).toInt64.toUInt64 &&& Int64.toUInt64 63)).toInt64) &&& 1085102592571150095
def lbcs (k : Int32) (i : Int64) : Int64 := i + (i.toUInt64 >>> (k.toInt64.toUInt64 &&& Int64.toUInt64 63)).toInt64
def lbc (i : Int64) : Int32 := (lbcs 32 (lbcs 16 (lbcs 8 (lbc3 (lbc2 (lbc1 i)))))).toInt32 &&& 127
theorem c_lbc (E : gEnv) (u : gS) (x : Int64) : gCtr E 1 0 0 nJ13_bitCount_95d88 [.long x] u (fun w u' => u' = u ∧ w = some (.int (lbc x))) := by
  refine gstart iJ13_bitCount_95d88 tJ13_bitCount_95d88 rfl rfl (fun K ca hK hca => ?_)
  refine hK [] 80 _ _ _ _ _ _ ?_
  clear hK
  exact ⟨rfl, rfl⟩
theorem gss {α : Type} {I : Nat → Nat → α} {k j : Nat} {F : Nat → α} {v : α} : gset (gset I k F) k (gupd (gset I k F k) j v) = gset I k (gupd F j v) := by rw [gset_s, gset_gset]
def ffil (f : Nat → Int32) (v : Int32) (n : Nat) : Nat → Int32 := fun j => if j < n then v else f j
theorem ffil_0 (f : Nat → Int32) (v : Int32) : ffil f v 0 = f := by funext j; simp [ffil]
theorem ffil_s (f : Nat → Int32) (v : Int32) (n : Nat) : ffil f v (n + 1) = gupd (ffil f v n) n v := by
  funext j
  by_cases h : j = n
  · subst h; rw [gupd_s]; simp [ffil]
  · rw [gupd_n h]; unfold ffil; by_cases h2 : j < n
    · rw [if_pos h2, if_pos (by omega)]
    · rw [if_neg h2, if_neg (by omega)]
section
variable (E : gEnv) (c : Nat) (ln : Nat → Nat) (I : Nat → Nat → Int32) (L : Nat → Nat → Int64)
theorem c_fill (k : Nat) (hk : k = 34 ∨ k = 36 ∨ k = 38 ∨ k = 40) (v : Int32) : gCtr E 1 0 0 nJ7_fill_53178 [.ref k, .int v] (wX c ln I L) (fun w u' => u' = (wX c ln (gset I k (ffil (I k) v 40)) L) ∧ w = none) := by
  have hs : shX c ln k = .inr (0, 40) := by rcases hk with rfl | rfl | rfl | rfl <;> rfl
  refine gstart iJ7_fill_53178 tJ7_fill_53178 rfl rfl (fun K ca hK hca => ?_)
  have loop : ∀ m i, i + m = 40 → K 0 0 5 [some (.ref k), some (.int v), some (.int (nI i)), some (.int (nI 40))] [] (wX c ln (gset I k (ffil (I k) v i)) L) := by
    intro m
    induction m with
    | zero =>
      intro i hi
      refine hK [5] 40 _ _ _ _ _ _ ?_
      refine gbr_i (fun _ => ?_) (fun z => absurd (nI_le (a := 40) (b := i) (by omega) (by omega)) z)
      have hin : i = 40 := by omega
      subst hin
      exact ⟨rfl, rfl⟩
    | succ m ih =>
      intro i hi
      refine hK [5] 40 _ _ _ _ _ _ ?_
      refine gbr_i (fun z => absurd z (nI_ge (a := i) (b := 40) (by omega) (by omega))) (fun _ => ?_)
      have hcl : (nI i).toNatClampNeg = i := nI_clamp (by omega)
      have h := ih (i + 1) (by omega)
      rw [ffil_s, ← gss, ← nI_1] at h
      have e : gupd (gset I k (ffil (I k) v i) k) i v = gupd (gset I k (ffil (I k) v i) k) (nI i).toNatClampNeg v := by rw [hcl]
      rw [e] at h
      rcases hk with rfl | rfl | rfl | rfl
      all_goals exact gsd_i (vp_in_nI (by omega) (by omega)) h
  rcases hk with rfl | rfl | rfl | rfl
  all_goals refine hK [5] 40 _ _ _ _ _ _ ?_
  all_goals have h := loop 40 0 (by omega)
  all_goals rw [ffil_0, gset_self] at h
  all_goals exact h
-- SHEETS: cells 33, 35, 37, 39 (sort, size: places 1, 2), their numbers in the cell behind
theorem c_isMissing (k : Nat) (hk : k = 33 ∨ k = 35 ∨ k = 37 ∨ k = 39) : gCtr E 1 0 0 nX4_isMissing [.ref k] (wX c ln I L) (fun v u' => u' = (wX c ln I L) ∧ v = some (.int (if I k 1 = -1 then 1 else 0))) := by
  rcases hk with rfl | rfl | rfl | rfl
  all_goals refine gstart iX4_isMissing tX4_isMissing rfl rfl (fun K ca hK hca => ?_)
  all_goals refine hK [] 80 _ _ _ _ _ _ ?_
  all_goals clear hK
  all_goals repeat' refine gbr_i (fun _ => ?_) (fun _ => ?_)
  all_goals clear hca
  all_goals first
    | exact gsd_i (Or.inl rfl) (gz0 (by (simp only [Int32.lt_iff_toInt_lt, Int32.le_iff_toInt_le, ← Int32.toInt_inj, Int32.reduceToInt] at *; omega)))
    | exact gsd_i (Or.inr rfl) (gz1 (by (simp only [Int32.lt_iff_toInt_lt, Int32.le_iff_toInt_le, ← Int32.toInt_inj, Int32.reduceToInt] at *; omega)))
theorem c_reaches (k : Nat) (hk : k = 33 ∨ k = 35 ∨ k = 37 ∨ k = 39) (i n : Int32) : gCtr E 1 0 0 nX4_reaches [.ref k, .int i, .int n] (wX c ln I L) (fun v u' => u' = (wX c ln I L) ∧ v = some (.int (if 0 ≤ i ∧ 0 ≤ n ∧ i ≤ I k 2 - n then 1 else 0))) := by
  rcases hk with rfl | rfl | rfl | rfl
  all_goals refine gstart iX4_reaches tX4_reaches rfl rfl (fun K ca hK hca => ?_)
  all_goals refine hK [] 80 _ _ _ _ _ _ ?_
  all_goals clear hK
  all_goals repeat' refine gbr_i (fun _ => ?_) (fun _ => ?_)
  all_goals clear hca
  all_goals first
    | exact gsd_i (Or.inl rfl) (gz0 (by (simp only [Int32.lt_iff_toInt_lt, Int32.le_iff_toInt_le, ← Int32.toInt_inj, Int32.reduceToInt] at *; omega)))
    | exact gsd_i (Or.inr rfl) (gz1 (by (simp only [Int32.lt_iff_toInt_lt, Int32.le_iff_toInt_le, ← Int32.toInt_inj, Int32.reduceToInt] at *; omega)))
/-- what a number becomes in a row of a sort -/
def nar (sort v : Int32) : Int32 := if sort = 0 then v.toInt8.toInt32 else if sort = 1 then v.toInt16.toInt32 else v
theorem c_put (k : Nat) (hk : k = 33 ∨ k = 35 ∨ k = 37 ∨ k = 39) (i v : Int32) (hi : vp_in i 40) : gCtr E 1 0 0 nX4_put [.ref k, .int i, .int v] (wX c ln I L) (fun w u' => u' = (wX c ln (gset I (k + 1) (gupd (I (k + 1)) i.toNatClampNeg (nar (I k 1) v))) L) ∧ w = none) := by
  rcases hk with rfl | rfl | rfl | rfl
  all_goals refine gstart iX4_put tX4_put rfl rfl (fun K ca hK hca => ?_)
  all_goals refine hK [] 80 _ _ _ _ _ _ ?_
  all_goals clear hK
  all_goals refine gbr_i (fun h1 => ?_) (fun h1 => ?_)
  all_goals first
    | exact gsd_i hi ⟨by rw [show nar _ v = v.toInt8.toInt32 from if_pos h1], rfl⟩
    | skip
  all_goals refine gbr_i (fun h2 => ?_) (fun h2 => ?_)
  all_goals first
    | exact gsd_i hi ⟨by rw [show nar _ v = v.toInt16.toInt32 from (if_neg h1).trans (if_pos h2)], rfl⟩
    | exact gsd_i hi ⟨by rw [show nar _ v = v from (if_neg h1).trans (if_neg h2)], rfl⟩
theorem c_become (k : Nat) (hk : k = 33 ∨ k = 35 ∨ k = 37 ∨ k = 39) (s n : Int32) : gCtr E 2 0 0 nX4_become [.ref k, .int s, .int n] (wX c ln I L) (fun w u' => u' = (wX c ln (gset (gset I k (gupd (gupd (I k) 1 s) 2 n)) (k + 1) (ffil (I (k + 1)) 0 40)) L) ∧ w = none) := by
  rcases hk with rfl | rfl | rfl | rfl
  all_goals refine gstart iX4_become tX4_become rfl rfl (fun K ca hK hca => ?_)
  all_goals refine hK [] 80 _ _ _ _ _ _ ?_
  all_goals clear hK
  · refine gcall0 hca (c_fill E c ln (gset (gset I 33 (gupd (I 33) 1 s)) 33 (gupd (gset I 33 (gupd (I 33) 1 s) 33) 2 n)) L 34 (by decide) 0) rfl ?_
    rintro w u' - ⟨rfl, rfl⟩
    exact ⟨by rw [gss]; rfl, rfl⟩
  · refine gcall0 hca (c_fill E c ln (gset (gset I 35 (gupd (I 35) 1 s)) 35 (gupd (gset I 35 (gupd (I 35) 1 s) 35) 2 n)) L 36 (by decide) 0) rfl ?_
    rintro w u' - ⟨rfl, rfl⟩
    exact ⟨by rw [gss]; rfl, rfl⟩
  · refine gcall0 hca (c_fill E c ln (gset (gset I 37 (gupd (I 37) 1 s)) 37 (gupd (gset I 37 (gupd (I 37) 1 s) 37) 2 n)) L 38 (by decide) 0) rfl ?_
    rintro w u' - ⟨rfl, rfl⟩
    exact ⟨by rw [gss]; rfl, rfl⟩
  · refine gcall0 hca (c_fill E c ln (gset (gset I 39 (gupd (I 39) 1 s)) 39 (gupd (gset I 39 (gupd (I 39) 1 s) 39) 2 n)) L 40 (by decide) 0) rfl ?_
    rintro w u' - ⟨rfl, rfl⟩
    exact ⟨by rw [gss]; rfl, rfl⟩
end
