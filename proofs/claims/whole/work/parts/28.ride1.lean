-- RIDES: cells 21 (store 22, row 23) and 24 (store 25, row 26): size 5, since 6, front 7, pace 8
/-- a ride as it stands: who rides in what order, for how long the first one has, the stores -/
def rdX (I : Nat → Nat → Int32) (o : Nat) (row : List Nat) (since : Int32) (st : Nat → Int32) : Prop :=
  I o 5 = nI row.length ∧ I o 6 = since ∧ (∀ j, j < row.length → I (o + 2) j = nI (row.getD j 0)) ∧ I (o + 1) = st ∧ row.length ≤ 12 ∧ ∀ r ∈ row, r < 12
theorem rd_lt {row : List Nat} (h : ∀ r ∈ row, r < 12) {j : Nat} (hj : j < row.length) : row.getD j 0 < 12 := by
  have : row.getD j 0 = row[j] := by simp [hj]
  rw [this]
  exact h _ (List.getElem_mem hj)
def wkr (I : Nat → Nat → Int32) (st : Nat → Int32) (lf : Int32) (r : Nat) : Int32 := wk (I 7 r) (I 9 r) (st r) lf
/-- some of the row works -/
def smw (I : Nat → Nat → Int32) (st : Nat → Int32) (lf : Int32) (row : List Nat) : Prop := ∃ r ∈ row, ¬ wkr I st lf r = 0
/-- the bits of a row -/
def bts : List Nat → Int32 → Int32
  | [], b => b
  | r :: l, b => bts l (b ||| (1 <<< (nI r &&& 31)))
theorem drop_cons {row : List Nat} {i : Nat} (h : i < row.length) : row.drop i = row.getD i 0 :: row.drop (i + 1) := by
  rw [List.drop_eq_getElem_cons h]
  simp [h]
section
variable (E : gEnv) (c : Nat) (ln : Nat → Nat) (I : Nat → Nat → Int32) (L : Nat → Nat → Int64)
theorem c21_left (row : List Nat) (since : Int32) (st : Nat → Int32) (h : rdX I 21 row since st) : gCtr E 1 0 0 nX1_left [.ref 21] (wX c ln I L) (fun v u' => u' = (wX c ln I L) ∧ v = some (.int (bts row 0))) := by
  obtain ⟨h1, h2, h3, h4, h5, h6⟩ := h
  refine gstart iX1_left tX1_left rfl rfl (fun K ca hK hca => ?_)
  have loop := gloop (P := fun i => ∀ b, bts (row.drop i) b = bts row 0 → K 0 0 4 [some (.ref 21), some (.int b), some (.int (nI i))] [] (wX c ln I L)) (n := row.length) (by
    intro b hb
    refine hK [4] 40 _ _ _ _ _ _ ?_
    refine gbr_lp h1 (by omega) (Nat.le_refl _) (fun _ => ⟨rfl, ?_⟩) (fun z => absurd z (Nat.lt_irrefl _))
    rw [← hb, List.drop_length]
    rfl) (by
    intro i hi ih b hb
    refine hK [4] 40 _ _ _ _ _ _ ?_
    refine gbr_lp h1 (by omega) (by omega) (fun e => by omega) (fun _ => ?_)
    refine gsd_i (vp_in_nI (by omega) (by omega)) ?_
    have hx : I 23 (nI i).toNatClampNeg = nI (row.getD i 0) := by rw [nI_clamp (by omega)]; exact h3 i hi
    have := ih (b ||| (1 <<< (nI (row.getD i 0) &&& 31))) (by rw [← hb, drop_cons hi]; rfl)
    rw [← hx, ← nI_1] at this
    exact this)
  exact hK [4] 40 _ _ _ _ _ _ (loop 0 (Nat.zero_le _) 0 rfl)
theorem c21_someWorks (row : List Nat) (since : Int32) (st : Nat → Int32) (h : rdX I 21 row since st) (lf : Int32) : gCtr E 2 0 0 nX1_someWorks [.ref 21, .int lf] (wX c ln I L) (fun v u' => u' = (wX c ln I L) ∧ ((v = some (.int 1) ∧ smw I st lf row) ∨ (v = some (.int 0) ∧ ¬ smw I st lf row))) := by
  obtain ⟨h1, h2, h3, h4, h5, h6⟩ := h
  refine gstart iX1_someWorks tX1_someWorks rfl rfl (fun K ca hK hca => ?_)
  have loop := gloop (P := fun i => (∀ j, j < i → wkr I st lf (row.getD j 0) = 0) → K 0 0 2 [some (.ref 21), some (.int lf), some (.int (nI i))] [] (wX c ln I L)) (n := row.length) (by
    intro hno
    refine hK [2] 40 _ _ _ _ _ _ ?_
    refine gbr_lp h1 (by omega) (Nat.le_refl _) (fun _ => gsd_i (Or.inl rfl) ⟨rfl, Or.inr ⟨rfl, ?_⟩⟩) (fun z => absurd z (Nat.lt_irrefl _))
    rintro ⟨r, hr, hw⟩
    obtain ⟨j, hj⟩ := List.mem_iff_getElem?.mp hr
    have hjl : j < row.length := (List.getElem?_eq_some_iff.mp hj).1
    have := hno j hjl
    rw [show row.getD j 0 = r by simp [hj]] at this
    exact hw this) (by
    intro i hi ih hno
    have hr12 := rd_lt h6 hi
    have hx : I 23 (nI i).toNatClampNeg = nI (row.getD i 0) := by rw [nI_clamp (by omega)]; exact h3 i hi
    have hcr : (nI (row.getD i 0)).toNatClampNeg = row.getD i 0 := nI_clamp (by omega)
    have hvr : vp_in (I 23 (nI i).toNatClampNeg) 12 := by rw [hx]; exact vp_in_nI hr12 (by omega)
    refine hK [2] 40 _ _ _ _ _ _ ?_
    refine gbr_lp h1 (by omega) (by omega) (fun e => by omega) (fun _ => ?_)
    refine gsd_i (vp_in_nI (by omega) (by omega)) (gsd_i (vp_in_nI (by omega) (by omega)) (gsd_i hvr ?_))
    refine gcall0 hca (c_works E c ln I L (I 23 (nI i).toNatClampNeg) (I 22 (I 23 (nI i).toNatClampNeg).toNatClampNeg) lf hvr) rfl ?_
    rintro w u' - ⟨rfl, rfl⟩
    rw [hx, hcr]
    have he : wk (I 7 (row.getD i 0)) (I 9 (row.getD i 0)) (I 22 (row.getD i 0)) lf = wkr I st lf (row.getD i 0) := by unfold wkr; rw [← h4]
    rw [he]
    refine gbr_i (fun hz => ?_) (fun hz => ?_)
    · have := ih (fun j hj => by rcases Nat.lt_or_ge j i with q | q
                                 · exact hno j q
                                 · have : j = i := by omega
                                   subst this; exact hz)
      rw [← nI_1] at this
      exact this
    · exact gsd_i (Or.inr rfl) ⟨rfl, Or.inl ⟨rfl, row.getD i 0, by simp [hi], hz⟩⟩)
  exact hK [2] 40 _ _ _ _ _ _ (loop 0 (Nat.zero_le _) (fun j hj => absurd hj (Nat.not_lt_zero j)))
end
section
variable (E : gEnv) (c : Nat) (ln : Nat → Nat) (I : Nat → Nat → Int32) (L : Nat → Nat → Int64)
theorem c24_left (row : List Nat) (since : Int32) (st : Nat → Int32) (h : rdX I 24 row since st) : gCtr E 1 0 0 nX1_left [.ref 24] (wX c ln I L) (fun v u' => u' = (wX c ln I L) ∧ v = some (.int (bts row 0))) := by
  obtain ⟨h1, h2, h3, h4, h5, h6⟩ := h
  refine gstart iX1_left tX1_left rfl rfl (fun K ca hK hca => ?_)
  have loop := gloop (P := fun i => ∀ b, bts (row.drop i) b = bts row 0 → K 0 0 4 [some (.ref 24), some (.int b), some (.int (nI i))] [] (wX c ln I L)) (n := row.length) (by
    intro b hb
    refine hK [4] 40 _ _ _ _ _ _ ?_
    refine gbr_lp h1 (by omega) (Nat.le_refl _) (fun _ => ⟨rfl, ?_⟩) (fun z => absurd z (Nat.lt_irrefl _))
    rw [← hb, List.drop_length]
    rfl) (by
    intro i hi ih b hb
    refine hK [4] 40 _ _ _ _ _ _ ?_
    refine gbr_lp h1 (by omega) (by omega) (fun e => by omega) (fun _ => ?_)
    refine gsd_i (vp_in_nI (by omega) (by omega)) ?_
    have hx : I 26 (nI i).toNatClampNeg = nI (row.getD i 0) := by rw [nI_clamp (by omega)]; exact h3 i hi
    have := ih (b ||| (1 <<< (nI (row.getD i 0) &&& 31))) (by rw [← hb, drop_cons hi]; rfl)
    rw [← hx, ← nI_1] at this
    exact this)
  exact hK [4] 40 _ _ _ _ _ _ (loop 0 (Nat.zero_le _) 0 rfl)
theorem c24_someWorks (row : List Nat) (since : Int32) (st : Nat → Int32) (h : rdX I 24 row since st) (lf : Int32) : gCtr E 2 0 0 nX1_someWorks [.ref 24, .int lf] (wX c ln I L) (fun v u' => u' = (wX c ln I L) ∧ ((v = some (.int 1) ∧ smw I st lf row) ∨ (v = some (.int 0) ∧ ¬ smw I st lf row))) := by
  obtain ⟨h1, h2, h3, h4, h5, h6⟩ := h
  refine gstart iX1_someWorks tX1_someWorks rfl rfl (fun K ca hK hca => ?_)
  have loop := gloop (P := fun i => (∀ j, j < i → wkr I st lf (row.getD j 0) = 0) → K 0 0 2 [some (.ref 24), some (.int lf), some (.int (nI i))] [] (wX c ln I L)) (n := row.length) (by
    intro hno
    refine hK [2] 40 _ _ _ _ _ _ ?_
    refine gbr_lp h1 (by omega) (Nat.le_refl _) (fun _ => gsd_i (Or.inl rfl) ⟨rfl, Or.inr ⟨rfl, ?_⟩⟩) (fun z => absurd z (Nat.lt_irrefl _))
    rintro ⟨r, hr, hw⟩
    obtain ⟨j, hj⟩ := List.mem_iff_getElem?.mp hr
    have hjl : j < row.length := (List.getElem?_eq_some_iff.mp hj).1
    have := hno j hjl
    rw [show row.getD j 0 = r by simp [hj]] at this
    exact hw this) (by
    intro i hi ih hno
    have hr12 := rd_lt h6 hi
    have hx : I 26 (nI i).toNatClampNeg = nI (row.getD i 0) := by rw [nI_clamp (by omega)]; exact h3 i hi
    have hcr : (nI (row.getD i 0)).toNatClampNeg = row.getD i 0 := nI_clamp (by omega)
    have hvr : vp_in (I 26 (nI i).toNatClampNeg) 12 := by rw [hx]; exact vp_in_nI hr12 (by omega)
    refine hK [2] 40 _ _ _ _ _ _ ?_
    refine gbr_lp h1 (by omega) (by omega) (fun e => by omega) (fun _ => ?_)
    refine gsd_i (vp_in_nI (by omega) (by omega)) (gsd_i (vp_in_nI (by omega) (by omega)) (gsd_i hvr ?_))
    refine gcall0 hca (c_works E c ln I L (I 26 (nI i).toNatClampNeg) (I 25 (I 26 (nI i).toNatClampNeg).toNatClampNeg) lf hvr) rfl ?_
    rintro w u' - ⟨rfl, rfl⟩
    rw [hx, hcr]
    have he : wk (I 7 (row.getD i 0)) (I 9 (row.getD i 0)) (I 25 (row.getD i 0)) lf = wkr I st lf (row.getD i 0) := by unfold wkr; rw [← h4]
    rw [he]
    refine gbr_i (fun hz => ?_) (fun hz => ?_)
    · have := ih (fun j hj => by rcases Nat.lt_or_ge j i with q | q
                                 · exact hno j q
                                 · have : j = i := by omega
                                   subst this; exact hz)
      rw [← nI_1] at this
      exact this
    · exact gsd_i (Or.inr rfl) ⟨rfl, Or.inl ⟨rfl, row.getD i 0, by simp [hi], hz⟩⟩)
  exact hK [2] 40 _ _ _ _ _ _ (loop 0 (Nat.zero_le _) (fun j hj => absurd hj (Nat.not_lt_zero j)))
end
