-- falling back
def kp (st : Nat → Int32) (row : List Nat) : List Nat := row.filter fun r => decide (0 < st r)
theorem kp_pos {st : Nat → Int32} {r : Nat} {l : List Nat} (h : 0 < st r) : kp st (r :: l) = r :: kp st l := by unfold kp; simp [h]
theorem kp_neg {st : Nat → Int32} {r : Nat} {l : List Nat} (h : ¬ 0 < st r) : kp st (r :: l) = kp st l := by unfold kp; simp [h]
section
variable (E : gEnv) (c : Nat) (ln : Nat → Nat) (I : Nat → Nat → Int32) (L : Nat → Nat → Int64)
set_option maxHeartbeats 1000000 in
theorem c21_fallBack (row : List Nat) (since : Int32) (st : Nat → Int32) (h : rdX I 21 row since st) (fr : Nat) (hfr : fr < 12) (hfo : I 21 7 = nI fr) :
    gCtr E 1 0 0 nX1_fallBack [.ref 21] (wX c ln I L) (fun v u' => v = none ∧ ∃ I', u' = wX c ln I' L ∧ rdX I' 21 (kp st row) (if st fr = 0 then 0 else since) st ∧ I' 21 7 = I 21 7 ∧ I' 21 8 = I 21 8 ∧ ∀ k, k ≠ 21 → k ≠ 23 → I' k = I k) := by
  obtain ⟨h1, h2, h3, h4, h5, h6⟩ := h
  refine gstart iX1_fallBack tX1_fallBack rfl rfl (fun K ca hK hca => ?_)
  have loop := gloop (P := fun i => ∀ (acc : List Nat) (J : Nat → Nat → Int32), acc.length ≤ i → acc ++ kp st (row.drop i) = kp st row → (∀ j, j < acc.length → J 23 j = nI (acc.getD j 0)) → (∀ j, i ≤ j → J 23 j = I 23 j) → (∀ k, k ≠ 23 → J k = I k) → K 0 0 4 [some (.ref 21), some (.int (nI acc.length)), some (.int (nI i))] [] (wX c ln J L)) (n := row.length) (by
    intro acc J ha hk hj1 hj2 hf
    have hJo : J 21 = I 21 := hf 21 (by decide)
    have hJs : J 22 = st := by rw [hf 22 (by decide), h4]
    have hacc : acc = kp st row := by rw [← hk, List.drop_length]; simp [kp]
    refine hK [4] 100 _ _ _ _ _ _ ?_
    refine gbr_lp (n := row.length) (by show J 21 5 = _; rw [hJo, h1]) (by omega) (Nat.le_refl _) (fun _ => ?_) (fun z => absurd z (Nat.lt_irrefl _))
    have hfJ : J 21 7 = nI fr := by rw [hJo, hfo]
    refine gsd_i (gvp hfJ hfr (by omega)) ?_
    have hst : J 22 (J 21 7).toNatClampNeg = st fr := by rw [hfJ, nI_clamp (by omega), hJs]
    have hmem : ∀ r ∈ kp st row, r < 12 := fun r hr => h6 r (List.mem_filter.mp hr |>.1)
    have hlen : (kp st row).length ≤ 12 := by rw [← hacc]; omega
    refine gbr_i (fun hz => ?_) (fun hz => ?_)
    · refine ⟨rfl, _, rfl, ⟨?_, ?_, ?_, hJs, hlen, hmem⟩, ?_, ?_, ?_⟩
      · show nI acc.length = _; rw [hacc]
      · show (0 : Int32) = _
        rw [if_pos (by rw [← hst]; exact hz)]
      · intro j hj; rw [← hacc] at hj ⊢; exact hj1 j hj
      · show J 21 7 = _; rw [hJo]
      · show J 21 8 = _; rw [hJo]
      · intro k a b; exact (gset_n a).trans ((gset_n a).trans (hf k b))
    · refine ⟨rfl, _, rfl, ⟨?_, ?_, ?_, hJs, hlen, hmem⟩, ?_, ?_, ?_⟩
      · show nI acc.length = _; rw [hacc]
      · show J 21 6 = _
        rw [if_neg (by rw [← hst]; exact hz), hJo, h2]
      · intro j hj; rw [← hacc] at hj ⊢; exact hj1 j hj
      · show J 21 7 = _; rw [hJo]
      · show J 21 8 = _; rw [hJo]
      · intro k a b; exact (gset_n a).trans (hf k b)) (by
    intro i hi ih acc J ha hk hj1 hj2 hf
    have hJo : J 21 = I 21 := hf 21 (by decide)
    have hJs : J 22 = st := by rw [hf 22 (by decide), h4]
    have hr12 := rd_lt h6 hi
    obtain ⟨r, hr⟩ : ∃ r, row.getD i 0 = r := ⟨_, rfl⟩
    rw [hr] at hr12
    have hx : J 23 (nI i).toNatClampNeg = nI r := by rw [nI_clamp (by omega), hj2 i (Nat.le_refl _), ← hr]; exact h3 i hi
    have hcr : (nI r).toNatClampNeg = r := nI_clamp (by omega)
    have hvr : vp_in (J 23 (nI i).toNatClampNeg) 12 := by rw [hx]; exact vp_in_nI hr12 (by omega)
    have hvi : vp_in (nI i) 12 := vp_in_nI (by omega) (by omega)
    have hst : J 22 (J 23 (nI i).toNatClampNeg).toNatClampNeg = st r := by rw [hx, hcr, hJs]
    rw [drop_cons hi, hr] at hk
    refine hK [4] 100 _ _ _ _ _ _ ?_
    refine gbr_lp (n := row.length) (by show J 21 5 = _; rw [hJo, h1]) (by omega) (by omega) (fun e => by omega) (fun _ => ?_)
    refine gsd_i hvi (gsd_i hvr (gbr_i (fun hz => ?_) (fun hz => ?_)))
    · have hn : ¬ 0 < st r := by
        have hz' : J 22 (J 23 (nI i).toNatClampNeg).toNatClampNeg ≤ 0 := hz
        rw [hst] at hz'; clear hK hca ih hf hj1 hj2 h3 h6 hst hx hcr hz; (simp only [Int32.lt_iff_toInt_lt, Int32.le_iff_toInt_le, ← Int32.toInt_inj, Int32.reduceToInt] at *; omega)
      have := ih acc J (by omega) (by rw [← hk, kp_neg hn]) hj1 (fun j hj => hj2 j (by omega)) hf
      rw [← nI_1] at this
      exact this
    · have hn : 0 < st r := by
        have hz' : ¬ J 22 (J 23 (nI i).toNatClampNeg).toNatClampNeg ≤ 0 := hz
        rw [hst] at hz'; clear hK hca ih hf hj1 hj2 h3 h6 hst hx hcr hz; (simp only [Int32.lt_iff_toInt_lt, Int32.le_iff_toInt_le, ← Int32.toInt_inj, Int32.reduceToInt] at *; omega)
      have hca' : (nI acc.length).toNatClampNeg = acc.length := nI_clamp (by omega)
      refine gsd_i hvi (gsd_i (vp_in_nI (by omega) (by omega)) ?_)
      have := ih (acc ++ [r]) (gset J 23 (gupd (J 23) (nI acc.length).toNatClampNeg (J 23 (nI i).toNatClampNeg))) (by simp; omega) (by rw [← hk, kp_pos hn]; simp) (fun j hj => ?_) (fun j hj => ?_) (fun k hk => ?_)
      · rw [List.length_append, List.length_singleton, ← nI_1, ← nI_1] at this
        exact this
      · rw [gset_s, hca', hx]
        by_cases hjn : j = acc.length
        · subst hjn; rw [gupd_s]; simp
        · have : j < acc.length := by simp at hj; omega
          rw [gupd_n hjn, getD_app this]
          exact hj1 j this
      · rw [gset_s, hca', gupd_n (by omega)]
        exact hj2 j (by omega)
      · rw [gset_n hk, hf k hk])
  refine hK [4] 100 _ _ _ _ _ _ ?_
  exact loop 0 (Nat.zero_le _) [] I (Nat.le_refl _) rfl (fun j hj => absurd hj (Nat.not_lt_zero _)) (fun _ _ => rfl) (fun _ _ => rfl)
end
section
variable (E : gEnv) (c : Nat) (ln : Nat → Nat) (I : Nat → Nat → Int32) (L : Nat → Nat → Int64)
set_option maxHeartbeats 1000000 in
theorem c24_fallBack (row : List Nat) (since : Int32) (st : Nat → Int32) (h : rdX I 24 row since st) (fr : Nat) (hfr : fr < 12) (hfo : I 24 7 = nI fr) :
    gCtr E 1 0 0 nX1_fallBack [.ref 24] (wX c ln I L) (fun v u' => v = none ∧ ∃ I', u' = wX c ln I' L ∧ rdX I' 24 (kp st row) (if st fr = 0 then 0 else since) st ∧ I' 24 7 = I 24 7 ∧ I' 24 8 = I 24 8 ∧ ∀ k, k ≠ 24 → k ≠ 26 → I' k = I k) := by
  obtain ⟨h1, h2, h3, h4, h5, h6⟩ := h
  refine gstart iX1_fallBack tX1_fallBack rfl rfl (fun K ca hK hca => ?_)
  have loop := gloop (P := fun i => ∀ (acc : List Nat) (J : Nat → Nat → Int32), acc.length ≤ i → acc ++ kp st (row.drop i) = kp st row → (∀ j, j < acc.length → J 26 j = nI (acc.getD j 0)) → (∀ j, i ≤ j → J 26 j = I 26 j) → (∀ k, k ≠ 26 → J k = I k) → K 0 0 4 [some (.ref 24), some (.int (nI acc.length)), some (.int (nI i))] [] (wX c ln J L)) (n := row.length) (by
    intro acc J ha hk hj1 hj2 hf
    have hJo : J 24 = I 24 := hf 24 (by decide)
    have hJs : J 25 = st := by rw [hf 25 (by decide), h4]
    have hacc : acc = kp st row := by rw [← hk, List.drop_length]; simp [kp]
    refine hK [4] 100 _ _ _ _ _ _ ?_
    refine gbr_lp (n := row.length) (by show J 24 5 = _; rw [hJo, h1]) (by omega) (Nat.le_refl _) (fun _ => ?_) (fun z => absurd z (Nat.lt_irrefl _))
    have hfJ : J 24 7 = nI fr := by rw [hJo, hfo]
    refine gsd_i (gvp hfJ hfr (by omega)) ?_
    have hst : J 25 (J 24 7).toNatClampNeg = st fr := by rw [hfJ, nI_clamp (by omega), hJs]
    have hmem : ∀ r ∈ kp st row, r < 12 := fun r hr => h6 r (List.mem_filter.mp hr |>.1)
    have hlen : (kp st row).length ≤ 12 := by rw [← hacc]; omega
    refine gbr_i (fun hz => ?_) (fun hz => ?_)
    · refine ⟨rfl, _, rfl, ⟨?_, ?_, ?_, hJs, hlen, hmem⟩, ?_, ?_, ?_⟩
      · show nI acc.length = _; rw [hacc]
      · show (0 : Int32) = _
        rw [if_pos (by rw [← hst]; exact hz)]
      · intro j hj; rw [← hacc] at hj ⊢; exact hj1 j hj
      · show J 24 7 = _; rw [hJo]
      · show J 24 8 = _; rw [hJo]
      · intro k a b; exact (gset_n a).trans ((gset_n a).trans (hf k b))
    · refine ⟨rfl, _, rfl, ⟨?_, ?_, ?_, hJs, hlen, hmem⟩, ?_, ?_, ?_⟩
      · show nI acc.length = _; rw [hacc]
      · show J 24 6 = _
        rw [if_neg (by rw [← hst]; exact hz), hJo, h2]
      · intro j hj; rw [← hacc] at hj ⊢; exact hj1 j hj
      · show J 24 7 = _; rw [hJo]
      · show J 24 8 = _; rw [hJo]
      · intro k a b; exact (gset_n a).trans (hf k b)) (by
    intro i hi ih acc J ha hk hj1 hj2 hf
    have hJo : J 24 = I 24 := hf 24 (by decide)
    have hJs : J 25 = st := by rw [hf 25 (by decide), h4]
    have hr12 := rd_lt h6 hi
    obtain ⟨r, hr⟩ : ∃ r, row.getD i 0 = r := ⟨_, rfl⟩
    rw [hr] at hr12
    have hx : J 26 (nI i).toNatClampNeg = nI r := by rw [nI_clamp (by omega), hj2 i (Nat.le_refl _), ← hr]; exact h3 i hi
    have hcr : (nI r).toNatClampNeg = r := nI_clamp (by omega)
    have hvr : vp_in (J 26 (nI i).toNatClampNeg) 12 := by rw [hx]; exact vp_in_nI hr12 (by omega)
    have hvi : vp_in (nI i) 12 := vp_in_nI (by omega) (by omega)
    have hst : J 25 (J 26 (nI i).toNatClampNeg).toNatClampNeg = st r := by rw [hx, hcr, hJs]
    rw [drop_cons hi, hr] at hk
    refine hK [4] 100 _ _ _ _ _ _ ?_
    refine gbr_lp (n := row.length) (by show J 24 5 = _; rw [hJo, h1]) (by omega) (by omega) (fun e => by omega) (fun _ => ?_)
    refine gsd_i hvi (gsd_i hvr (gbr_i (fun hz => ?_) (fun hz => ?_)))
    · have hn : ¬ 0 < st r := by
        have hz' : J 25 (J 26 (nI i).toNatClampNeg).toNatClampNeg ≤ 0 := hz
        rw [hst] at hz'; clear hK hca ih hf hj1 hj2 h3 h6 hst hx hcr hz; (simp only [Int32.lt_iff_toInt_lt, Int32.le_iff_toInt_le, ← Int32.toInt_inj, Int32.reduceToInt] at *; omega)
      have := ih acc J (by omega) (by rw [← hk, kp_neg hn]) hj1 (fun j hj => hj2 j (by omega)) hf
      rw [← nI_1] at this
      exact this
    · have hn : 0 < st r := by
        have hz' : ¬ J 25 (J 26 (nI i).toNatClampNeg).toNatClampNeg ≤ 0 := hz
        rw [hst] at hz'; clear hK hca ih hf hj1 hj2 h3 h6 hst hx hcr hz; (simp only [Int32.lt_iff_toInt_lt, Int32.le_iff_toInt_le, ← Int32.toInt_inj, Int32.reduceToInt] at *; omega)
      have hca' : (nI acc.length).toNatClampNeg = acc.length := nI_clamp (by omega)
      refine gsd_i hvi (gsd_i (vp_in_nI (by omega) (by omega)) ?_)
      have := ih (acc ++ [r]) (gset J 26 (gupd (J 26) (nI acc.length).toNatClampNeg (J 26 (nI i).toNatClampNeg))) (by simp; omega) (by rw [← hk, kp_pos hn]; simp) (fun j hj => ?_) (fun j hj => ?_) (fun k hk => ?_)
      · rw [List.length_append, List.length_singleton, ← nI_1, ← nI_1] at this
        exact this
      · rw [gset_s, hca', hx]
        by_cases hjn : j = acc.length
        · subst hjn; rw [gupd_s]; simp
        · have : j < acc.length := by simp at hj; omega
          rw [gupd_n hjn, getD_app this]
          exact hj1 j this
      · rw [gset_s, hca', gupd_n (by omega)]
        exact hj2 j (by omega)
      · rw [gset_n hk, hf k hk])
  refine hK [4] 100 _ _ _ _ _ _ ?_
  exact loop 0 (Nat.zero_le _) [] I (Nat.le_refl _) rfl (fun j hj => absurd hj (Nat.not_lt_zero _)) (fun _ _ => rfl) (fun _ _ => rfl)
end
