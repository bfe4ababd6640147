-- the JDK's Strings: length, charAt
theorem i13 {i : Nat} (h : i < 13) : i = 0 ∨ i = 1 ∨ i = 2 ∨ i = 3 ∨ i = 4 ∨ i = 5 ∨ i = 6 ∨ i = 7 ∨ i = 8 ∨ i = 9 ∨ i = 10 ∨ i = 11 ∨ i = 12 := by omega
theorem str_ch : ∀ i, i < 13 → ∀ j, j < gStrL.getD i 0 → ((((gStrB.getD i []).getD j 0) &&& 255).toUInt32 % 65536).toInt32 = (gStrB.getD i []).getD j 0 := by decide +kernel
theorem str_l : ∀ i, i < 13 → gStrL.getD i 0 ≤ 78 ∧ (gStrB.getD i []).length = gStrL.getD i 0 := by decide +kernel
section
variable (E : gEnv) (c : Nat) (ln : Nat → Nat) (I : Nat → Nat → Int32) (L : Nat → Nat → Int64)
theorem c_coder (i : Nat) (hi : i < 13) : gCtr E 1 0 0 nJ0_coder_7d493 [.ref (1000 + i)] (wX c ln I L) (fun v u' => u' = (wX c ln I L) ∧ v = some (.int 0)) := by
  rcases i13 hi with rfl | rfl | rfl | rfl | rfl | rfl | rfl | rfl | rfl | rfl | rfl | rfl | rfl
  all_goals refine gstart iJ0_coder_7d493 tJ0_coder_7d493 rfl rfl (fun K ca hK hca => ?_)
  all_goals refine hK [] 80 _ _ _ _ _ _ ?_
  all_goals clear hK
  all_goals exact gbr_i (fun z => absurd z (by decide)) (fun _ => gsd_i (by decide) ⟨rfl, rfl⟩)
theorem c_isL1 (i : Nat) (hi : i < 13) : gCtr E 1 0 0 nJ0_isLatin1_aae02 [.ref (1000 + i)] (wX c ln I L) (fun v u' => u' = (wX c ln I L) ∧ v = some (.int 1)) := by
  rcases i13 hi with rfl | rfl | rfl | rfl | rfl | rfl | rfl | rfl | rfl | rfl | rfl | rfl | rfl
  all_goals refine gstart iJ0_isLatin1_aae02 tJ0_isLatin1_aae02 rfl rfl (fun K ca hK hca => ?_)
  all_goals refine hK [] 80 _ _ _ _ _ _ ?_
  all_goals clear hK
  all_goals exact gbr_i (fun z => absurd z (by decide)) (fun _ => gbr_i (fun _ => gsd_i (Or.inr rfl) ⟨rfl, rfl⟩) (fun z => absurd rfl z))
theorem c_len (i : Nat) (hi : i < 13) : gCtr E 2 0 0 nJ0_length_8abf5 [.ref (1000 + i)] (wX c ln I L) (fun v u' => u' = (wX c ln I L) ∧ v = some (.int (nI (gStrL.getD i 0)))) := by
  have hc := c_coder E c ln I L i hi
  rcases i13 hi with rfl | rfl | rfl | rfl | rfl | rfl | rfl | rfl | rfl | rfl | rfl | rfl | rfl
  all_goals refine gstart iJ0_length_8abf5 tJ0_length_8abf5 rfl rfl (fun K ca hK hca => ?_)
  all_goals refine hK [] 80 _ _ _ _ _ _ ?_
  all_goals clear hK
  all_goals refine gcall0 hca hc rfl ?_
  all_goals rintro w u' - ⟨rfl, rfl⟩
  all_goals exact ⟨rfl, by decide +kernel⟩
theorem c_ci3 (i n : Nat) (h : i < n) (hn : n < 2 ^ 31) (x : Value) (hx : x = .null ∨ x = .ref 1300) : gCtr E 1 0 0 nJ3_checkIndex_8e157 [.int (nI i), .int (nI n), x] (wX c ln I L) (fun v u' => u' = (wX c ln I L) ∧ v = some (.int (nI i))) := by
  rcases hx with rfl | rfl
  all_goals refine gstart iJ3_checkIndex_8e157 tJ3_checkIndex_8e157 rfl rfl (fun K ca hK hca => ?_)
  all_goals refine hK [] 80 _ _ _ _ _ _ ?_
  all_goals clear hK
  all_goals exact gbr_i (fun z => absurd z (nI_pos (by omega))) (fun _ => gbr_i (fun _ => ⟨rfl, rfl⟩) (fun z => absurd (nI_lt h hn) z))
theorem c_ci0 (i n : Nat) (h : i < n) (hn : n < 2 ^ 31) : gCtr E 2 0 0 nJ0_checkIndex_df160 [.int (nI i), .int (nI n)] (wX c ln I L) (fun v u' => u' = (wX c ln I L) ∧ v = none) := by
  refine gstart iJ0_checkIndex_df160 tJ0_checkIndex_df160 rfl rfl (fun K ca hK hca => ?_)
  refine hK [] 80 _ _ _ _ _ _ ?_
  clear hK
  refine gsd_i ?_ ?_
  · refine gcall0 hca (c_ci3 E c ln I L i n h hn .null (Or.inl rfl)) rfl ?_
    rintro w u' - ⟨rfl, rfl⟩
    exact ⟨rfl, rfl⟩
  · refine gcall0 hca (c_ci3 E c ln I L i n h hn (.ref 1300) (Or.inr rfl)) rfl ?_
    rintro w u' - ⟨rfl, rfl⟩
    exact ⟨rfl, rfl⟩
theorem c_l1ch (i : Nat) (hi : i < 13) (j : Nat) (hj : j < gStrL.getD i 0) : gCtr E 3 0 0 nJ1_charAt_3b067 [.ref (1100 + i), .int (nI j)] (wX c ln I L) (fun v u' => u' = (wX c ln I L) ∧ v = some (.int ((gStrB.getD i []).getD j 0))) := by
  have hch := str_ch i hi j hj
  have hl := (str_l i hi).1
  have hcl : (nI j).toNatClampNeg = j := nI_clamp (by omega)
  have hv := vp_in_nI hj (by omega)
  have hci := c_ci0 E c ln I L j _ hj (by omega)
  rcases i13 hi with rfl | rfl | rfl | rfl | rfl | rfl | rfl | rfl | rfl | rfl | rfl | rfl | rfl
  all_goals refine gstart iJ1_charAt_3b067 tJ1_charAt_3b067 rfl rfl (fun K ca hK hca => ?_)
  all_goals refine hK [] 80 _ _ _ _ _ _ ?_
  all_goals clear hK
  all_goals refine gcall0 hca hci rfl ?_
  all_goals rintro w u' - ⟨rfl, rfl⟩
  all_goals refine gsd_i hv ?_
  all_goals refine gsd_i (pk_nc _) ⟨rfl, ?_⟩
  all_goals rw [← hch]
  · show some (Value.int ((((gStrB.getD 0 []).getD (nI j).toNatClampNeg 0) &&& 255).toUInt32 % 65536).toInt32) = _
    rw [hcl]
  · show some (Value.int ((((gStrB.getD 1 []).getD (nI j).toNatClampNeg 0) &&& 255).toUInt32 % 65536).toInt32) = _
    rw [hcl]
  · show some (Value.int ((((gStrB.getD 2 []).getD (nI j).toNatClampNeg 0) &&& 255).toUInt32 % 65536).toInt32) = _
    rw [hcl]
  · show some (Value.int ((((gStrB.getD 3 []).getD (nI j).toNatClampNeg 0) &&& 255).toUInt32 % 65536).toInt32) = _
    rw [hcl]
  · show some (Value.int ((((gStrB.getD 4 []).getD (nI j).toNatClampNeg 0) &&& 255).toUInt32 % 65536).toInt32) = _
    rw [hcl]
  · show some (Value.int ((((gStrB.getD 5 []).getD (nI j).toNatClampNeg 0) &&& 255).toUInt32 % 65536).toInt32) = _
    rw [hcl]
  · show some (Value.int ((((gStrB.getD 6 []).getD (nI j).toNatClampNeg 0) &&& 255).toUInt32 % 65536).toInt32) = _
    rw [hcl]
  · show some (Value.int ((((gStrB.getD 7 []).getD (nI j).toNatClampNeg 0) &&& 255).toUInt32 % 65536).toInt32) = _
    rw [hcl]
  · show some (Value.int ((((gStrB.getD 8 []).getD (nI j).toNatClampNeg 0) &&& 255).toUInt32 % 65536).toInt32) = _
    rw [hcl]
  · show some (Value.int ((((gStrB.getD 9 []).getD (nI j).toNatClampNeg 0) &&& 255).toUInt32 % 65536).toInt32) = _
    rw [hcl]
  · show some (Value.int ((((gStrB.getD 10 []).getD (nI j).toNatClampNeg 0) &&& 255).toUInt32 % 65536).toInt32) = _
    rw [hcl]
  · show some (Value.int ((((gStrB.getD 11 []).getD (nI j).toNatClampNeg 0) &&& 255).toUInt32 % 65536).toInt32) = _
    rw [hcl]
  · show some (Value.int ((((gStrB.getD 12 []).getD (nI j).toNatClampNeg 0) &&& 255).toUInt32 % 65536).toInt32) = _
    rw [hcl]
theorem c_char (i : Nat) (hi : i < 13) (j : Nat) (hj : j < gStrL.getD i 0) : gCtr E 4 0 0 nJ0_charAt_5068e [.ref (1000 + i), .int (nI j)] (wX c ln I L) (fun v u' => u' = (wX c ln I L) ∧ v = some (.int ((gStrB.getD i []).getD j 0))) := by
  have hL := c_isL1 E c ln I L i hi
  have hcc := c_l1ch E c ln I L i hi j hj
  have hch := str_ch i hi j hj
  rcases i13 hi with rfl | rfl | rfl | rfl | rfl | rfl | rfl | rfl | rfl | rfl | rfl | rfl | rfl
  all_goals refine gstart iJ0_charAt_5068e tJ0_charAt_5068e rfl rfl (fun K ca hK hca => ?_)
  all_goals refine hK [] 80 _ _ _ _ _ _ ?_
  all_goals clear hK
  all_goals refine gcall0 hca hL rfl ?_
  all_goals rintro w u' - ⟨rfl, rfl⟩
  all_goals refine gbr_i (fun z => absurd z (by decide)) (fun _ => ?_)
  all_goals refine gcall0 hca hcc rfl ?_
  all_goals rintro w u' - ⟨rfl, rfl⟩
  all_goals exact gsd_i (by rw [← hch]; exact pk_nc _) ⟨rfl, rfl⟩
end
