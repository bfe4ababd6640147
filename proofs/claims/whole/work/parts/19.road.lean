-- ROAD: cell 1; slope 2, wind 3, side 4, wide 5; size I 1 4
section
variable (E : gEnv) (c : Nat) (ln : Nat → Nat) (I : Nat → Nat → Int32) (L : Nat → Nat → Int64)
theorem c_has (t : Int32) : gCtr E 1 0 0 nX2_has [.ref 1, .int t] (wX c ln I L) (fun v u' => u' = (wX c ln I L) ∧ v = some (.int (if 0 ≤ t ∧ t < I 1 4 then 1 else 0))) := by
  refine gstart iX2_has tX2_has rfl rfl (fun K ca hK hca => ?_)
  refine hK [] 60 _ _ _ _ _ _ ?_
  clear hK
  repeat' refine gbr_i (fun _ => ?_) (fun _ => ?_)
  all_goals first
    | exact gsd_i (Or.inl rfl) (gz0 (by (simp only [Int32.lt_iff_toInt_lt, Int32.le_iff_toInt_le, ← Int32.toInt_inj, Int32.reduceToInt] at *; omega)))
    | exact gsd_i (Or.inr rfl) (gz1 (by (simp only [Int32.lt_iff_toInt_lt, Int32.le_iff_toInt_le, ← Int32.toInt_inj, Int32.reduceToInt] at *; omega)))
theorem c_left (t : Int32) : gCtr E 1 0 0 nX2_left [.ref 1, .int t] (wX c ln I L) (fun v u' => u' = (wX c ln I L) ∧ v = some (.int (I 1 4 - t))) := by
  refine gstart iX2_left tX2_left rfl rfl (fun K ca hK hca => ?_)
  refine hK [] 60 _ _ _ _ _ _ ?_
  clear hK
  exact ⟨rfl, rfl⟩
theorem c_spanFrom (t : Int32) : gCtr E 1 0 0 nX2_spanFrom [.ref 1, .int t] (wX c ln I L) (fun v u' => u' = (wX c ln I L) ∧ v = some (.int (t / 100))) := by
  refine gstart iX2_spanFrom tX2_spanFrom rfl rfl (fun K ca hK hca => ?_)
  refine hK [] 60 _ _ _ _ _ _ ?_
  clear hK
  exact gsd_i (by decide) ⟨rfl, rfl⟩
theorem c_spanTo (t : Int32) : gCtr E 1 0 0 nX2_spanTo [.ref 1, .int t] (wX c ln I L) (fun v u' => u' = (wX c ln I L) ∧ v = some (.int (t - t / 100 * 100))) := by
  refine gstart iX2_spanTo tX2_spanTo rfl rfl (fun K ca hK hca => ?_)
  refine hK [] 60 _ _ _ _ _ _ ?_
  clear hK
  exact gsd_i (by decide) ⟨rfl, rfl⟩
theorem c_isSpan (t : Int32) : gCtr E 2 0 0 nX2_isSpan [.ref 1, .int t] (wX c ln I L) (fun v u' => u' = (wX c ln I L) ∧ v = some (.int (if 0 ≤ t ∧ t / 100 ≤ t - t / 100 * 100 ∧ t - t / 100 * 100 < I 1 4 then 1 else 0))) := by
  refine gstart iX2_isSpan tX2_isSpan rfl rfl (fun K ca hK hca => ?_)
  refine hK [] 60 _ _ _ _ _ _ ?_
  clear hK
  repeat' first
    | refine gbr_i (fun _ => ?_) (fun _ => ?_)
    | (refine gcall0 hca (c_spanFrom E c ln I L t) rfl ?_; rintro w u' - ⟨rfl, rfl⟩)
    | (refine gcall0 hca (c_spanTo E c ln I L t) rfl ?_; rintro w u' - ⟨rfl, rfl⟩)
  all_goals generalize t - t / 100 * 100 = y at *
  all_goals generalize t / 100 = x at *
  all_goals clear hca
  all_goals first
    | exact gsd_i (Or.inl rfl) (gz0 (by (simp only [Int32.lt_iff_toInt_lt, Int32.le_iff_toInt_le, ← Int32.toInt_inj, Int32.reduceToInt] at *; omega)))
    | exact gsd_i (Or.inr rfl) (gz1 (by (simp only [Int32.lt_iff_toInt_lt, Int32.le_iff_toInt_le, ← Int32.toInt_inj, Int32.reduceToInt] at *; omega)))
end
