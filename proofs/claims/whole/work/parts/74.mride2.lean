-- the model: ride, spent, ridden
section
variable (E : gEnv) (I : Nat → Nat → Int32) (L : Nat → Nat → Int64)
theorem m_ride (T : Tx) (hR : mR I T) (nr : Nat) (hnr : nr ≤ 12) (hcr : I 0 17 = nI nr) (hst : ∀ r, r < nr → 0 ≤ I 12 r) (nt : Nat) (hnt : nt ≤ 40) (hct : I 0 11 = nI nt) (g t what : Int32) :
    gCtr E 46 0 0 nX10_ride [.ref 0, .int g, .int t, .int what] (wM I L) (fun v u' => v = some (.int (rideX (xv I) (svT T (xv I)) nr g t what)) ∧ ∃ I' L', u' = wM I' L' ∧ mgf I I') := by
  refine gstart iX10_ride tX10_ride rfl rfl (fun K ca hK hca => ?_)
  refine hK [] 80 _ _ _ _ _ _ ?_
  clear hK
  have bad : ¬ ((isG (xv I) g ∧ isSp (xv I) t) ∧ 0 ≤ what ∧ what ≤ 2) → some (Value.int (-2)) = some (.int (rideX (xv I) (svT T (xv I)) nr g t what)) ∧ ∃ I' L', (wM I L) = wM I' L' ∧ mgf I I' := fun h => by
    unfold rideX; rw [if_neg h]; exact ⟨rfl, I, L, rfl, mgf_refl I⟩
  refine gcall0 hca (m_isGroup E I L g nr hnr hcr) rfl ?_
  rintro w u' - ⟨rfl, rfl⟩
  refine gbr_p (fun h1 => bad (fun z => h1 z.1.1)) (fun h1 => ?_)
  refine gcall0 hca (m_areTenths E I L t nt hnt hct) rfl ?_
  rintro w u' - ⟨rfl, rfl⟩
  refine gbr_p (fun h2 => bad (fun z => h2 z.1.2)) (fun h2 => ?_)
  refine gcall0 hca (m_in E (wM I L) what 0 2) rfl ?_
  rintro w u' - ⟨rfl, rfl⟩
  refine gbr_p (fun h3 => bad (fun z => h3 z.2)) (fun h3 => ?_)
  have hX : rideX (xv I) (svT T (xv I)) nr g t what = _ := if_pos ⟨⟨h1, h2⟩, h3⟩
  obtain ⟨e1, e2, e3, e4, e5⟩ := spAB hnt (by rw [← hct]; exact h2)
  refine gcall0 hca (m_goes1 E I L T hR nr hnr hcr hst g t _ _ e1 e2 e3 (by omega)) rfl ?_
  rintro w u' - ⟨rfl, J, M, s, rfl, hf, hs, hm, h17, h38⟩
  rw [hX]
  refine gbr_i (fun z => ?_) (fun z => ?_)
  · rw [if_pos z]; exact ⟨by show some (Value.int (J 0 38)) = _; rw [h38]; rfl, J, M, rfl, hf⟩
  · rw [if_neg z]
    refine gbr_i (fun z1 => ?_) (fun z1 => ?_)
    · rw [if_pos z1]
      refine gcall0 hca (m_leftIn E J M s.1 s.2.1 s.2.2.1 hm) rfl ?_
      rintro w u' - ⟨rfl, rfl⟩
      exact ⟨by rw [hs.1]; rfl, J, M, rfl, hf⟩
    · rw [if_neg z1]
      refine gsd_i (vp_in_nI (by omega : 0 < 2) (by omega)) ?_
      exact ⟨by show some (Value.int (J 17 0)) = _; rw [h17]; rfl, J, M, rfl, hf⟩
theorem m_spent (T : Tx) (hR : mR I T) (nr : Nat) (hnr : nr ≤ 12) (hcr : I 0 17 = nI nr) (hst : ∀ r, r < nr → 0 ≤ I 12 r) (nt : Nat) (hnt : nt ≤ 40) (hct : I 0 11 = nI nt) (g t r : Int32) :
    gCtr E 46 0 0 nX10_spent [.ref 0, .int g, .int t, .int r] (wM I L) (fun v u' => v = some (.long (spentX (xv I) (svT T (xv I)) nr g t r)) ∧ ∃ I' L', u' = wM I' L' ∧ mgf I I') := by
  refine gstart iX10_spent tX10_spent rfl rfl (fun K ca hK hca => ?_)
  refine hK [] 80 _ _ _ _ _ _ ?_
  clear hK
  have bad : ¬ ((isG (xv I) g ∧ isSp (xv I) t) ∧ (0 ≤ r ∧ r < xv I 6 6) ∧ ¬ (g >>> (r &&& 31)) &&& 1 = 0) → some (Value.long (-4611686018427387904)) = some (.long (spentX (xv I) (svT T (xv I)) nr g t r)) ∧ ∃ I' L', (wM I L) = wM I' L' ∧ mgf I I' := fun h => by
    unfold spentX; rw [if_neg h]; exact ⟨rfl, I, L, rfl, mgf_refl I⟩
  refine gcall0 hca (m_isGroup E I L g nr hnr hcr) rfl ?_
  rintro w u' - ⟨rfl, rfl⟩
  refine gbr_p (fun h1 => bad (fun z => h1 z.1.1)) (fun h1 => ?_)
  refine gcall0 hca (m_areTenths E I L t nt hnt hct) rfl ?_
  rintro w u' - ⟨rfl, rfl⟩
  refine gbr_p (fun h2 => bad (fun z => h2 z.1.2)) (fun h2 => ?_)
  refine gcall0 hca (m_isRider E I L r nr hnr hcr) rfl ?_
  rintro w u' - ⟨rfl, rfl⟩
  refine gbr_p (fun h3 => bad (fun z => h3 z.2.1)) (fun h3 => ?_)
  refine gbr_i (fun h4 => bad (fun z => z.2.2 h4)) (fun h4 => ?_)
  have hX : spentX (xv I) (svT T (xv I)) nr g t r = _ := if_pos ⟨⟨h1, h2⟩, h3, h4⟩
  obtain ⟨e1, e2, e3, e4, e5⟩ := spAB hnt (by rw [← hct]; exact h2)
  refine gcall0 hca (m_goes1 E I L T hR nr hnr hcr hst g t _ _ e1 e2 e3 (by omega)) rfl ?_
  rintro w u' - ⟨rfl, J, M, s, rfl, hf, hs, hm, h17, h38⟩
  rw [hX]
  have hv : vp_in r 12 := gin_of (by rw [← hcr]; exact h3) hnr (by omega)
  obtain ⟨n, hn, rfl⟩ := vp_in_of hv (by omega)
  have hnn : n < nr := by
    have := Int32.lt_iff_toInt_lt.mp (show nI n < nI nr by rw [← hcr]; exact h3.2)
    rw [nI_toInt (by omega), nI_toInt (by omega)] at this
    omega
  have hcn : (nI n).toNatClampNeg = n := nI_clamp (by omega)
  refine gsd_i hv (gsd_i (vp_in_nI (by omega) (by omega)) ?_)
  refine ⟨?_, J, M, rfl, hf⟩
  show some (Value.long (J 12 (nI n).toNatClampNeg - J 16 (nI n).toNatClampNeg).toInt64) = _
  have e16 : J 16 n = s.2.2.1 n := by have := hm.2.2.2.1 n (by omega); rw [Nat.mul_zero, Nat.zero_add] at this; exact this
  rw [hcn, e16, hf.1 12 (by decide) (by decide), hs.2.2.1 n ⟨hnn, bit01.mp h4⟩]
  rfl
set_option maxHeartbeats 1000000 in
theorem m_ridden (T : Tx) (hR : mR I T) (nr : Nat) (hnr : nr ≤ 12) (hcr : I 0 17 = nI nr) (hst : ∀ r, r < nr → 0 ≤ I 12 r) (nt : Nat) (hnt : nt ≤ 40) (hct : I 0 11 = nI nt) (g t : Int32) :
    gCtr E 46 0 0 nX10_ridden [.ref 0, .int g, .int t] (wM I L) (fun v u' => v = some (.int (riddX (xv I) (svT T (xv I)) nr g t).1) ∧ ∃ I' L', u' = wM I' L' ∧ (∀ r, I' 12 r = (riddX (xv I) (svT T (xv I)) nr g t).2 r) ∧ (∀ k, k ≠ 0 → k ≠ 12 → (k < 13 ∨ 17 < k) → I' k = I k) ∧ ∀ j, (j < 18 ∨ 43 < j) → I' 0 j = I 0 j) := by
  refine gstart iX10_ridden tX10_ridden rfl rfl (fun K ca hK hca => ?_)
  refine hK [27] 60 _ _ _ _ _ _ ?_
  have bad : ¬ (isG (xv I) g ∧ isSp (xv I) t) → some (Value.int (-2)) = some (.int (riddX (xv I) (svT T (xv I)) nr g t).1) ∧ ∃ I' L', (wM I L) = wM I' L' ∧ (∀ r, I' 12 r = (riddX (xv I) (svT T (xv I)) nr g t).2 r) ∧ (∀ k, k ≠ 0 → k ≠ 12 → (k < 13 ∨ 17 < k) → I' k = I k) ∧ ∀ j, (j < 18 ∨ 43 < j) → I' 0 j = I 0 j := fun h => by
    unfold riddX; rw [if_neg h]; exact ⟨rfl, I, L, rfl, fun _ => rfl, fun _ _ _ _ => rfl, fun _ _ => rfl⟩
  refine gcall0 hca (m_isGroup E I L g nr hnr hcr) rfl ?_
  rintro w u' - ⟨rfl, rfl⟩
  refine gbr_p (fun h1 => bad (fun z => h1 z.1)) (fun h1 => ?_)
  refine gcall0 hca (m_areTenths E I L t nt hnt hct) rfl ?_
  rintro w u' - ⟨rfl, rfl⟩
  refine gbr_p (fun h2 => bad (fun z => h2 z.2)) (fun h2 => ?_)
  clear bad
  have hX : riddX (xv I) (svT T (xv I)) nr g t = _ := if_pos ⟨h1, h2⟩
  obtain ⟨e1, e2, e3, e4, e5⟩ := spAB hnt (by rw [← hct]; exact h2)
  refine gcall0 hca (m_goes1 E I L T hR nr hnr hcr hst g t _ _ e1 e2 e3 (by omega)) rfl ?_
  rintro w u' - ⟨rfl, J, M, s, rfl, hf, hs, hm, h17, h38⟩
  rw [hX] at hK
  have h12 : J 12 = I 12 := hf.1 12 (by decide) (by decide)
  have loop := gloop (P := fun i => ∀ Q, (∀ k, k ≠ 12 → Q k = J k) → (∀ r, Q 12 r = bgS g (rdE (xv I) (svT T (xv I)) nr g t).2.2.1 (I 12) i r) → K 0 0 27 [some (.ref 0), some (.int g), some (.int t), some (.int (nI i))] [] (wM Q M)) (n := nr) (by
    intro Q hQ hq
    have hQ0 : Q 0 = J 0 := hQ 0 (by decide)
    refine hK [27] 60 _ _ _ _ _ _ ?_
    refine gbr_lp (n := nr) (by show Q 0 17 = _; rw [hQ0, hf.2 17 (by omega), hcr]) (by omega) (Nat.le_refl _) (fun _ => ?_) (fun z => absurd z (Nat.lt_irrefl _))
    have hmQ : mrd Q 0 s.1 s.2.1 s.2.2.1 := by unfold mrd; rw [hQ 13 (by decide), hQ 14 (by decide), hQ 15 (by decide), hQ 16 (by decide)]; exact hm
    refine gcall0 hca (m_leftIn E Q M s.1 s.2.1 s.2.2.1 hmQ) rfl ?_
    rintro w u' - ⟨rfl, rfl⟩
    exact ⟨by rw [hs.1]; rfl, Q, M, rfl, hq, fun k a b d => by rw [hQ k b]; exact hf.1 k a d, fun j hj => by rw [hQ0]; exact hf.2 j hj⟩) (by
    intro i hi ih Q hQ hq
    have hQ0 : Q 0 = J 0 := hQ 0 (by decide)
    have hci : (nI i).toNatClampNeg = i := nI_clamp (by omega)
    have hvi : vp_in (nI i) 12 := vp_in_nI (by omega) (by omega)
    refine hK [27] 60 _ _ _ _ _ _ ?_
    refine gbr_lp (n := nr) (by show Q 0 17 = _; rw [hQ0, hf.2 17 (by omega), hcr]) (by omega) (by omega) (fun e => by omega) (fun _ => ?_)
    refine gbr_i (fun hb => ?_) (fun hb => ?_)
    · have e16 : Q 16 i = (rdE (xv I) (svT T (xv I)) nr g t).2.2.1 i := by
        rw [hQ 16 (by decide)]
        have := hm.2.2.2.1 i (by omega); rw [Nat.mul_zero, Nat.zero_add] at this
        rw [this]
        exact hs.2.2.1 i ⟨hi, hb⟩
      refine gsd_i (vp_in_nI (by omega) (by omega)) (gsd_i hvi ?_)
      have := ih (gset Q 12 (gupd (Q 12) i (Q 16 i))) (fun k hk => by rw [gset_n hk]; exact hQ k hk) (fun r => by
        rw [gset_s, bgS_p hb]
        by_cases e : r = i
        · rw [e, gupd_s, gupd_s, e16]
        · rw [gupd_n e, gupd_n e]; exact hq r)
      rw [← nI_1] at this
      exact Eq.mp (congrArg (fun q => K 0 0 27 [some (.ref 0), some (.int g), some (.int t), some (.int (nI i + 1))] [] (wM (gset Q 12 (gupd (Q 12) q (Q 16 q))) M)) hci.symm) this
    · refine gsd_i hvi (gsd_i hvi ?_)
      have := ih (gset Q 12 (gupd (Q 12) i (Q 12 i))) (fun k hk => by rw [gset_n hk]; exact hQ k hk) (fun r => by
        rw [gset_s, bgS_n hb]
        by_cases e : r = i
        · rw [e, gupd_s]; exact hq i
        · rw [gupd_n e]; exact hq r)
      rw [← nI_1] at this
      exact Eq.mp (congrArg (fun q => K 0 0 27 [some (.ref 0), some (.int g), some (.int t), some (.int (nI i + 1))] [] (wM (gset Q 12 (gupd (Q 12) q (Q 12 q))) M)) hci.symm) this)
  exact loop 0 (Nat.zero_le _) J (fun _ _ => rfl) (fun r => by rw [h12]; exact (if_neg (fun z => absurd z.1 (Nat.not_lt_zero _))).symm)
end
