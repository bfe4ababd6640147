theorem c_isPower (E : gEnv) (u : gS) (x : Int32) : gCtr E 1 0 0 nX9_isPower [.int x] u (fun v u' => u' = u ∧ v = some (.int (if 1 ≤ x ∧ x ≤ 99 then 1 else 0))) := by
  refine gstart iX9_isPower tX9_isPower rfl rfl (fun K hK => ?_)
  refine hK [] 40 _ _ _ _ _ _ ?_
  repeat' first
    | refine gbr_i (fun _ => ?_) (fun _ => ?_)
    | refine gsd_i ?_ ?_
    | refine And.intro rfl ?_
  all_goals sorry
theorem c_isPower2 (E : gEnv) (u : gS) (x : Int32) : gCtr E 1 0 0 nX9_isPower [.int x] u (fun v u' => u' = u ∧ v = some (.int (if 1 ≤ x ∧ x ≤ 99 then 1 else 0))) := by
  refine gstart iX9_isPower tX9_isPower rfl rfl (fun K hK => ?_)
  refine hK [] 40 _ _ _ _ _ _ ?_
  refine gbr_i (fun h1 => ?_) (fun h1 => ?_)
  · refine gsd_i (Or.inl rfl) ⟨rfl, ?_⟩
    simp only [Int32.lt_iff_toInt_lt, Int32.le_iff_toInt_le, Int32.reduceToInt] at h1 ⊢
    rw [if_neg (by omega)]
  · refine gbr_i (fun h2 => ?_) (fun h2 => ?_)
    · refine gsd_i (Or.inl rfl) ⟨rfl, ?_⟩
      sorry
    · refine gsd_i (Or.inr rfl) ⟨rfl, ?_⟩
      sorry
