-- ROAD: cell 1; slope 2, wind 3, side 4, wide 5; size I 1 4
theorem gvp {x : Int32} {n j : Nat} (h : x = nI j) (hj : j < n) (hn : n < 2 ^ 31) : vp_in x n := by rw [h]; exact vp_in_nI hj hn
section
variable (E : gEnv) (c : Nat) (ln : Nat → Nat) (I : Nat → Nat → Int32) (L : Nat → Nat → Int64)
theorem c_has (t : Int32) : gCtr E 1 0 0 nX2_has [.ref 1, .int t] (wX c ln I L) (fun v u' => u' = (wX c ln I L) ∧ v = some (.int (if 0 ≤ t ∧ t < I 1 4 then 1 else 0))) := by
  refine gstart iX2_has tX2_has rfl rfl (fun K ca hK hca => ?_)
  refine hK [] 80 _ _ _ _ _ _ ?_
  clear hK
  repeat' refine gbr_i (fun _ => ?_) (fun _ => ?_)
  all_goals clear hca
  all_goals first
    | exact gsd_i (Or.inl rfl) (gz0 (by (simp only [Int32.lt_iff_toInt_lt, Int32.le_iff_toInt_le, ← Int32.toInt_inj, Int32.reduceToInt] at *; omega)))
    | exact gsd_i (Or.inr rfl) (gz1 (by (simp only [Int32.lt_iff_toInt_lt, Int32.le_iff_toInt_le, ← Int32.toInt_inj, Int32.reduceToInt] at *; omega)))
theorem c_left (t : Int32) : gCtr E 1 0 0 nX2_left [.ref 1, .int t] (wX c ln I L) (fun v u' => u' = (wX c ln I L) ∧ v = some (.int (I 1 4 - t))) := by
  refine gstart iX2_left tX2_left rfl rfl (fun K ca hK hca => ?_)
  refine hK [] 80 _ _ _ _ _ _ ?_
  clear hK
  exact ⟨rfl, rfl⟩
theorem c_spanFrom (t : Int32) : gCtr E 1 0 0 nX2_spanFrom [.ref 1, .int t] (wX c ln I L) (fun v u' => u' = (wX c ln I L) ∧ v = some (.int (t / 100))) := by
  refine gstart iX2_spanFrom tX2_spanFrom rfl rfl (fun K ca hK hca => ?_)
  refine hK [] 80 _ _ _ _ _ _ ?_
  clear hK
  exact gsd_i (by decide) ⟨rfl, rfl⟩
theorem c_spanTo (t : Int32) : gCtr E 1 0 0 nX2_spanTo [.ref 1, .int t] (wX c ln I L) (fun v u' => u' = (wX c ln I L) ∧ v = some (.int (t - t / 100 * 100))) := by
  refine gstart iX2_spanTo tX2_spanTo rfl rfl (fun K ca hK hca => ?_)
  refine hK [] 80 _ _ _ _ _ _ ?_
  clear hK
  exact gsd_i (by decide) ⟨rfl, rfl⟩
theorem c_isSpan (t : Int32) : gCtr E 2 0 0 nX2_isSpan [.ref 1, .int t] (wX c ln I L) (fun v u' => u' = (wX c ln I L) ∧ v = some (.int (if 0 ≤ t ∧ t / 100 ≤ t - t / 100 * 100 ∧ t - t / 100 * 100 < I 1 4 then 1 else 0))) := by
  refine gstart iX2_isSpan tX2_isSpan rfl rfl (fun K ca hK hca => ?_)
  refine hK [] 80 _ _ _ _ _ _ ?_
  clear hK
  repeat' first
    | refine gbr_i (fun _ => ?_) (fun _ => ?_)
    | (refine gcall0 hca (c_spanFrom E c ln I L t) rfl ?_; rintro w u' - ⟨rfl, rfl⟩)
    | (refine gcall0 hca (c_spanTo E c ln I L t) rfl ?_; rintro w u' - ⟨rfl, rfl⟩)
  all_goals generalize t - t / 100 * 100 = y at *
  all_goals generalize t / 100 = x at *
  all_goals clear hca
  all_goals first
    | exact gsd_i (Or.inl rfl) (gz0 (by (simp only [Int32.lt_iff_toInt_lt, Int32.le_iff_toInt_le, ← Int32.toInt_inj, Int32.reduceToInt] at *; omega)))
    | exact gsd_i (Or.inr rfl) (gz1 (by (simp only [Int32.lt_iff_toInt_lt, Int32.le_iff_toInt_le, ← Int32.toInt_inj, Int32.reduceToInt] at *; omega)))
/-- what place a rider is told at a tenth -/
def shelt (I : Nat → Nat → Int32) (t p : Int32) : Int32 := if I 4 t.toNatClampNeg = 1 ∧ I 5 t.toNatClampNeg ≤ p then 0 else p
theorem c_sheltered (t p : Int32) (ht : vp_in t 40) : gCtr E 1 0 0 nX2_sheltered [.ref 1, .int t, .int p] (wX c ln I L) (fun v u' => u' = (wX c ln I L) ∧ v = some (.int (shelt I t p))) := by
  refine gstart iX2_sheltered tX2_sheltered rfl rfl (fun K ca hK hca => ?_)
  refine hK [] 80 _ _ _ _ _ _ ?_
  clear hK
  refine gsd_i ht (gbr_i (fun h1 => ?_) (fun h1 => ?_))
  · refine gsd_i ht (gbr_i (fun h2 => ?_) (fun h2 => ?_))
    · exact ⟨rfl, by unfold shelt; rw [if_neg]; exact fun z => by have := z.2; clear hca; (simp only [Int32.lt_iff_toInt_lt, Int32.le_iff_toInt_le, ← Int32.toInt_inj, Int32.reduceToInt] at *; omega)⟩
    · exact ⟨rfl, by unfold shelt; rw [if_pos]; exact ⟨h1, by clear hca; (simp only [Int32.lt_iff_toInt_lt, Int32.le_iff_toInt_le, ← Int32.toInt_inj, Int32.reduceToInt] at *; omega)⟩⟩
  · exact ⟨rfl, by unfold shelt; rw [if_neg (fun z => h1 z.1)]⟩
/-- Road.add -/
def radd (I : Nat → Nat → Int32) (a b z : Int32) : Int32 × (Nat → Nat → Int32) :=
  if -9 ≤ a ∧ a ≤ 9 ∧ 0 ≤ b ∧ b ≤ 9 ∧ 2 ≤ z ∧ z ≤ 41 then
    if 40 ≤ I 1 4 then (-4, I) else (I 1 4, gset (gset (gset (gset (gset I 2 (gupd (I 2) (I 1 4).toNatClampNeg a)) 3 (gupd (I 3) (I 1 4).toNatClampNeg b)) 4 (gupd (I 4) (I 1 4).toNatClampNeg (z - z / 2 * 2))) 5 (gupd (I 5) (I 1 4).toNatClampNeg (z / 2))) 1 (gupd (I 1) 4 (I 1 4 + 1)))
  else (-2, I)
theorem c_radd (a b z : Int32) (h : ¬ 40 ≤ I 1 4 → vp_in (I 1 4) 40) : gCtr E 1 0 0 nX2_add [.ref 1, .int a, .int b, .int z] (wX c ln I L) (fun v u' => u' = (wX c ln (radd I a b z).2 L) ∧ v = some (.int (radd I a b z).1)) := by
  refine gstart iX2_add tX2_add rfl rfl (fun K ca hK hca => ?_)
  refine hK [] 120 _ _ _ _ _ _ ?_
  clear hK
  have bad : ¬ (-9 ≤ a ∧ a ≤ 9 ∧ 0 ≤ b ∧ b ≤ 9 ∧ 2 ≤ z ∧ z ≤ 41) → (wX c ln I L) = (wX c ln (radd I a b z).2 L) ∧ some (Value.int (-2)) = some (.int (radd I a b z).1) := fun h => by
    unfold radd; rw [if_neg h]; exact ⟨rfl, rfl⟩
  refine gbr_i (fun h1 => bad (by clear bad hca; (simp only [Int32.lt_iff_toInt_lt, Int32.le_iff_toInt_le, ← Int32.toInt_inj, Int32.reduceToInt] at *; omega))) (fun h1 => ?_)
  refine gbr_i (fun h2 => bad (by clear bad hca; (simp only [Int32.lt_iff_toInt_lt, Int32.le_iff_toInt_le, ← Int32.toInt_inj, Int32.reduceToInt] at *; omega))) (fun h2 => ?_)
  refine gbr_i (fun h3 => bad (by clear bad hca; (simp only [Int32.lt_iff_toInt_lt, Int32.le_iff_toInt_le, ← Int32.toInt_inj, Int32.reduceToInt] at *; omega))) (fun h3 => ?_)
  refine gbr_i (fun h4 => bad (by clear bad hca; (simp only [Int32.lt_iff_toInt_lt, Int32.le_iff_toInt_le, ← Int32.toInt_inj, Int32.reduceToInt] at *; omega))) (fun h4 => ?_)
  refine gbr_i (fun h5 => bad (by clear bad hca; (simp only [Int32.lt_iff_toInt_lt, Int32.le_iff_toInt_le, ← Int32.toInt_inj, Int32.reduceToInt] at *; omega))) (fun h5 => ?_)
  refine gbr_i (fun h6 => ?_) (fun h6 => bad (by clear bad hca; (simp only [Int32.lt_iff_toInt_lt, Int32.le_iff_toInt_le, ← Int32.toInt_inj, Int32.reduceToInt] at *; omega)))
  have good : -9 ≤ a ∧ a ≤ 9 ∧ 0 ≤ b ∧ b ≤ 9 ∧ 2 ≤ z ∧ z ≤ 41 := by clear bad hca h; (simp only [Int32.lt_iff_toInt_lt, Int32.le_iff_toInt_le, ← Int32.toInt_inj, Int32.reduceToInt] at *; omega)
  unfold radd
  simp only [if_pos good]
  refine gbr_i (fun h7 => ?_) (fun h7 => ?_)
  · have h8 : ¬ 40 ≤ I 1 4 := by clear bad hca h; (simp only [Int32.lt_iff_toInt_lt, Int32.le_iff_toInt_le, ← Int32.toInt_inj, Int32.reduceToInt] at *; omega)
    rw [if_neg h8]
    have hv := h h8
    exact gsd_i hv (gsd_i hv (gsd_i (by decide) (gsd_i hv (gsd_i (by decide) (gsd_i hv ⟨rfl, rfl⟩)))))
  · have h8 : 40 ≤ I 1 4 := by clear bad hca h; (simp only [Int32.lt_iff_toInt_lt, Int32.le_iff_toInt_le, ← Int32.toInt_inj, Int32.reduceToInt] at *; omega)
    rw [if_pos h8]
    exact ⟨rfl, rfl⟩
end
