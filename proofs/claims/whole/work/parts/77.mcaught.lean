-- the model: caught, clock, goes
section
variable (E : gEnv) (I : Nat → Nat → Int32) (L : Nat → Nat → Int64)
theorem m_caught (T : Tx) (hR : mR I T) (nr : Nat) (hnr : nr ≤ 12) (hcr : I 0 17 = nI nr) (hst : ∀ r, r < nr → 0 ≤ I 12 r) (nt : Nat) (hnt : nt ≤ 40) (hct : I 0 11 = nI nt) (g o t gap what : Int32) :
    gCtr E 46 0 0 nX10_caught [.ref 0, .int g, .int o, .int t, .int gap, .int what] (wM I L) (fun v u' => v = some (.long (caugX (xv I) (svT T (xv I)) nr g o t gap what)) ∧ ∃ I' L', u' = wM I' L' ∧ mgf I I') := by
  refine gstart iX10_caught tX10_caught rfl rfl (fun K ca hK hca => ?_)
  refine hK [] 80 _ _ _ _ _ _ ?_
  clear hK
  have bad : ¬ (isCh (xv I) g o t gap ∧ 0 ≤ what ∧ what ≤ 1) → some (Value.long (-4611686018427387904)) = some (.long (caugX (xv I) (svT T (xv I)) nr g o t gap what)) ∧ ∃ I' L', (wM I L) = wM I' L' ∧ mgf I I' := fun h => by
    unfold caugX; rw [if_neg h]; exact ⟨rfl, I, L, rfl, mgf_refl I⟩
  refine gcall0 hca (m_areGroups E I L g o nr hnr hcr) rfl ?_
  rintro w u' - ⟨rfl, rfl⟩
  refine gbr_p (fun h1 => bad (fun z => h1 ⟨z.1.1.1, z.1.2.1, z.1.2.2.1⟩)) (fun h1 => ?_)
  refine gcall0 hca (m_areTenths E I L t nt hnt hct) rfl ?_
  rintro w u' - ⟨rfl, rfl⟩
  refine gbr_p (fun h2 => bad (fun z => h2 z.1.1.2)) (fun h2 => ?_)
  refine gcall0 hca (m_in E (wM I L) gap 0 9999) rfl ?_
  rintro w u' - ⟨rfl, rfl⟩
  refine gbr_p (fun h3 => bad (fun z => h3 z.1.2.2.2)) (fun h3 => ?_)
  refine gcall0 hca (m_in E (wM I L) what 0 1) rfl ?_
  rintro w u' - ⟨rfl, rfl⟩
  refine gbr_p (fun h4 => bad (fun z => h4 z.2)) (fun h4 => ?_)
  have hX : caugX (xv I) (svT T (xv I)) nr g o t gap what = _ := if_pos ⟨⟨⟨h1.1, h2⟩, h1.2.1, h1.2.2, h3⟩, h4⟩
  obtain ⟨e1, e2, e3, e4, e5⟩ := spAB hnt (by rw [← hct]; exact h2)
  refine gcall0 hca (m_chases E I L T hR nr hnr hcr hst g o t gap 0 _ _ e1 e2 e3 (by omega) (Or.inl rfl)) rfl ?_
  rintro w u' - ⟨rfl, J, M, s, rfl, hf, hs, hm, h39, h40, -⟩
  rw [hX]
  refine gbr_i (fun z => ?_) (fun z => ?_)
  · rw [if_pos z]; exact ⟨by show some (Value.long (J 0 39).toInt64) = _; rw [h39], J, M, rfl, hf⟩
  · rw [if_neg z]; exact ⟨by show some (Value.long (J 0 40).toInt64) = _; rw [h40], J, M, rfl, hf⟩
theorem m_clock (T : Tx) (hR : mR I T) (nr : Nat) (hnr : nr ≤ 12) (hcr : I 0 17 = nI nr) (hst : ∀ r, r < nr → 0 ≤ I 12 r) (nt : Nat) (hnt : nt ≤ 40) (hct : I 0 11 = nI nt) (g o t gap y : Int32) :
    gCtr E 46 0 0 nX10_clock [.ref 0, .int g, .int o, .int t, .int gap, .int y] (wM I L) (fun v u' => v = some (.long (clkX (xv I) (svT T (xv I)) nr g o t gap y)) ∧ ∃ I' L', u' = wM I' L' ∧ mgf I I') := by
  refine gstart iX10_clock tX10_clock rfl rfl (fun K ca hK hca => ?_)
  refine hK [] 80 _ _ _ _ _ _ ?_
  clear hK
  have bad : ¬ (isCh (xv I) g o t gap ∧ (1 ≤ y / 100 ∧ y / 100 ≤ 99) ∧ 1 ≤ y - y / 100 * 100 ∧ y - y / 100 * 100 ≤ 20) → some (Value.long (-4611686018427387904)) = some (.long (clkX (xv I) (svT T (xv I)) nr g o t gap y)) ∧ ∃ I' L', (wM I L) = wM I' L' ∧ mgf I I' := fun h => by
    unfold clkX; rw [if_neg h]; exact ⟨rfl, I, L, rfl, mgf_refl I⟩
  refine gcall0 hca (m_areGroups E I L g o nr hnr hcr) rfl ?_
  rintro w u' - ⟨rfl, rfl⟩
  refine gbr_p (fun h1 => bad (fun z => h1 ⟨z.1.1.1, z.1.2.1, z.1.2.2.1⟩)) (fun h1 => ?_)
  refine gcall0 hca (m_areTenths E I L t nt hnt hct) rfl ?_
  rintro w u' - ⟨rfl, rfl⟩
  refine gbr_p (fun h2 => bad (fun z => h2 z.1.1.2)) (fun h2 => ?_)
  refine gcall0 hca (m_in E (wM I L) gap 0 9999) rfl ?_
  rintro w u' - ⟨rfl, rfl⟩
  refine gbr_p (fun h3 => bad (fun z => h3 z.1.2.2.2)) (fun h3 => ?_)
  refine gcall0 hca (m_in E (wM I L) y 100 9999) rfl ?_
  rintro w u' - ⟨rfl, rfl⟩
  refine gbr_p (fun h4 => bad (fun z => h4 ((cby y).mpr z.2).1)) (fun h4 => ?_)
  refine gsd_i (by decide) ?_
  refine gcall0 hca (m_in E (wM I L) (y - y / 100 * 100) 1 20) rfl ?_
  rintro w u' - ⟨rfl, rfl⟩
  refine gbr_p (fun h5 => bad (fun z => h5 z.2.2)) (fun h5 => ?_)
  have hX : clkX (xv I) (svT T (xv I)) nr g o t gap y = _ := if_pos ⟨⟨⟨h1.1, h2⟩, h1.2.1, h1.2.2, h3⟩, (cby y).mp ⟨h4, h5⟩⟩
  obtain ⟨e1, e2, e3, e4, e5⟩ := spAB hnt (by rw [← hct]; exact h2)
  have hy0 : 0 < y := by clear bad hX hca; (simp only [Int32.lt_iff_toInt_lt, Int32.le_iff_toInt_le, ← Int32.toInt_inj, Int32.reduceToInt] at *; omega)
  have hyn : ¬ y = 0 := fun z => by rw [z] at hy0; exact absurd hy0 (by decide)
  have hyd : ¬ y - y / 100 * 100 = 0 := fun z => by rw [z] at h5; exact absurd h5.1 (by decide)
  refine gcall0 hca (m_chases E I L T hR nr hnr hcr hst g o t gap y _ _ e1 e2 e3 (by omega) (Or.inr ⟨hy0, hyd⟩)) rfl ?_
  rintro w u' - ⟨rfl, J, M, s, rfl, hf, hs, hm, h39, h40, h41⟩
  rw [hX]
  exact ⟨by show some (Value.long (M 0 41)) = _; rw [h41 hyn], J, M, rfl, hf⟩
set_option maxHeartbeats 1000000 in
theorem m_goes (T : Tx) (hR : mR I T) (nr : Nat) (hnr : nr ≤ 12) (hcr : I 0 17 = nI nr) (hst : ∀ r, r < nr → 0 ≤ I 12 r) (nt : Nat) (hnt : nt ≤ 40) (hct : I 0 11 = nI nt) (r g : Int32) :
    gCtr E 46 0 0 nX10_goes [.ref 0, .int r, .int g] (wM I L) (fun v u' => v = some (.int (goesX (xv I) (svT T (xv I)) nr nt r g)) ∧ ∃ I' L', u' = wM I' L' ∧ mgf I I') := by
  refine gstart iX10_goes tX10_goes rfl rfl (fun K ca hK hca => ?_)
  refine hK [21] 60 _ _ _ _ _ _ ?_
  have bad : ¬ ((0 ≤ r ∧ r < xv I 6 6) ∧ isG (xv I) g) → some (Value.int (-2)) = some (.int (goesX (xv I) (svT T (xv I)) nr nt r g)) ∧ ∃ I' L', (wM I L) = wM I' L' ∧ mgf I I' := fun h => by
    unfold goesX; rw [if_neg h]; exact ⟨rfl, I, L, rfl, mgf_refl I⟩
  refine gcall0 hca (m_isRider E I L r nr hnr hcr) rfl ?_
  rintro w u' - ⟨rfl, rfl⟩
  refine gbr_p (fun h1 => bad (fun z => h1 z.1)) (fun h1 => ?_)
  refine gcall0 hca (m_isGroup E I L g nr hnr hcr) rfl ?_
  rintro w u' - ⟨rfl, rfl⟩
  refine gbr_p (fun h2 => bad (fun z => h2 z.2)) (fun h2 => ?_)
  clear bad
  have hX : goesX (xv I) (svT T (xv I)) nr nt r g = _ := if_pos ⟨h1, h2⟩
  rw [hX] at hK
  obtain ⟨V, hV⟩ : ∃ V, V = xv I := ⟨_, rfl⟩
  rw [← hV] at hK
  obtain ⟨rn, hrn, rfl⟩ : ∃ rn, rn < nr ∧ r = nI rn := by
    obtain ⟨rn, hrn, hrr⟩ := vp_in_of (gin_of (r := r) (by rw [← hcr]; exact h1) hnr (by omega)) (by omega)
    rw [hrr, hcr] at h1
    exact ⟨rn, (nI_ltI (by omega) (by omega)).mp h1.2, hrr⟩
  have hcl : (nI rn).toNatClampNeg = rn := nI_clamp (by omega)
  have hmem : mem (1 <<< (nI rn &&& 31)) nr rn := ⟨hrn, (b_in (by omega)).mpr (by rw [b_one (by omega) (by omega)]; simp)⟩
  have loop : ∀ (m i : Nat) (J : Nat → Nat → Int32) (M : Nat → Nat → Int64), i + m = nt → mgf I J → goN V (svT T V) nr (nI rn) g m i = goN V (svT T V) nr (nI rn) g nt 0 → K 0 0 21 [some (.ref 0), some (.int (nI rn)), some (.int g), some (.int (nI i))] [] (wM J M) := by
    intro m
    induction m with
    | zero =>
      intro i J M hi hf he
      refine hK [21] 60 _ _ _ _ _ _ ?_
      refine gbr_lp (n := nt) (by show J 0 11 = _; rw [hf.2 11 (by omega), hct]) (by omega) (by omega) (fun _ => ?_) (fun z => by omega)
      rw [← he]
      exact ⟨rfl, J, M, rfl, hf⟩
    | succ m ih =>
      intro i J M hi hf he
      have e11 : J 0 11 = nI nt := by rw [hf.2 11 (by omega), hct]
      refine hK [21] 60 _ _ _ _ _ _ ?_
      refine gbr_lp (n := nt) e11 (by omega) (by omega) (fun e => by omega) (fun _ => ?_)
      have et : 100 * nI i + J 0 11 - 1 = nI (100 * i + (nt - 1)) := by
        rw [e11, show (100 : Int32) = nI 100 from rfl, pk_mul, nI_add, show 100 * i + nt = 100 * i + (nt - 1) + 1 by omega]; exact nI_pred _
      have ha : (100 * nI i + J 0 11 - 1) / 100 = nI i := by
        rw [et, show nI (100 * i + (nt - 1)) / 100 = nI ((100 * i + (nt - 1)) / 100) from pk_div (d := 100) (by omega) (by decide) (by decide), show (100 * i + (nt - 1)) / 100 = i by omega]
      have hb : (100 * nI i + J 0 11 - 1) - (100 * nI i + J 0 11 - 1) / 100 * 100 = nI (nt - 1) := by
        rw [et, show nI (100 * i + (nt - 1)) - nI (100 * i + (nt - 1)) / 100 * 100 = nI ((100 * i + (nt - 1)) % 100) from pk_rem (d := 100) (by omega) (by decide) (by decide), show (100 * i + (nt - 1)) % 100 = nt - 1 by omega]
      refine gcall0 hca (m_chases E J M T (mR_mgf hR hf) nr hnr (by rw [hf.2 17 (by omega), hcr]) (fun r hr => by rw [hf.1 12 (by decide) (by decide)]; exact hst r hr) (1 <<< (nI rn &&& 31)) (g &&& ((1 <<< (nI rn &&& 31)) ^^^ -1)) (100 * nI i + J 0 11 - 1) 0 0 i (nt - 1) ha hb (by omega) (by omega) (Or.inl rfl)) rfl ?_
      rintro w u' - ⟨rfl, J2, M2, s, rfl, hf2, hs, hm, h39, -, -⟩
      rw [xv_mgf hf, ← hV, show nt - 1 + 1 - i = m + 1 by omega] at hs h39
      have hf3 := mgf_trans hf hf2
      have e16 : J2 16 (nI rn).toNatClampNeg = (ron V (svT T V) (m + 1) i (cst V (1 <<< (nI rn &&& 31)) nr)).2.2.1 rn := by
        have := hm.2.2.2.1 rn (by omega); rw [Nat.mul_zero, Nat.zero_add] at this
        rw [hcl, this]; exact hs.2.2.1 rn hmem
      have hg := gaw_cht (V := V) (sv := svT T V) (r := rn) (m + 1) i (cst V (1 <<< (nI rn &&& 31)) nr) (cst V (g &&& ((1 <<< (nI rn &&& 31)) ^^^ -1)) nr) 0 (by omega) (by rw [hV]; exact hst rn hrn) (Or.inl (Nat.succ_pos _))
      rw [goN_s, hcl] at he
      have again : gaw V (svT T V) rn (m + 1) i (cst V (1 <<< (nI rn &&& 31)) nr) (cst V (g &&& ((1 <<< (nI rn &&& 31)) ^^^ -1)) nr) 0 = 0 → K 0 0 21 [some (.ref 0), some (.int (nI rn)), some (.int g), some (.int (nI i + 1))] [] (wM J2 M2) := fun h => by
        rw [if_pos h] at he
        rw [nI_1]
        exact ih (i + 1) J2 M2 (by omega) hf3 he
      refine gbr_i (fun z1 => ?_) (fun z1 => ?_)
      · refine gsd_i (vp_in_nI (by omega) (by omega)) (gbr_i (fun z2 => ?_) (fun z2 => ?_))
        · refine again ?_
          rw [hg, if_neg (fun q => ?_)]
          rw [← e16] at q
          exact Int32.lt_irrefl (Int32.lt_of_lt_of_le q.2 z2)
        · have hp : gaw V (svT T V) rn (m + 1) i (cst V (1 <<< (nI rn &&& 31)) nr) (cst V (g &&& ((1 <<< (nI rn &&& 31)) ^^^ -1)) nr) 0 = 1 := by
            rw [hg, if_pos]
            exact ⟨h39.symm.trans z1, by rw [← e16]; exact Int32.not_le.mp z2⟩
          rw [if_neg (by rw [hp]; decide)] at he
          rw [← he]
          exact ⟨rfl, J2, M2, rfl, hf3⟩
      · refine again ?_
        rw [hg, if_neg (fun q => z1 (h39.trans q.1))]
  exact loop nt 0 I L (by omega) (mgf_refl I) rfl
end
