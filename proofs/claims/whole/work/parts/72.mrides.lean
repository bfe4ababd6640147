-- the model: a tenth is ridden
theorem wkr_xv {I J : Nat → Nat → Int32} (h : mgf I J) {st : Nat → Int32} {lf : Int32} {r : Nat} : wk (J 8 r) (J 10 r) (st r) lf = wkr (xv I) st lf r := by
  rw [h.1 8 (by decide) (by decide), h.1 10 (by decide) (by decide)]; rfl
theorem mrd_17 {I : Nat → Nat → Int32} {k : Nat} {row : List Nat} {s v : Int32} {st : Nat → Int32} (h : mrd I k row s st) : mrd (gset I 17 (gupd (I 17) k v)) k row s st := h
theorem mrd_msf {I J : Nat → Nat → Int32} {L M : Nat → Nat → Int64} {k : Nat} {row : List Nat} {s : Int32} {st : Nat → Int32} (h : mrd I k row s st) (hf : msf I J L M) : mrd J k row s st := by
  unfold mrd
  rw [hf.1 13 (by decide), hf.1 14 (by decide), hf.1 15 (by decide), hf.1 16 (by decide)]
  exact h
section
variable (E : gEnv) (I : Nat → Nat → Int32) (L : Nat → Nat → Int64)
set_option maxRecDepth 30000 in
set_option maxHeartbeats 2000000 in
theorem m_rides (T : Tx) (hR : mR I T) (k : Nat) (hk : k < 2) (t : Nat) (ht : t < 40) (s : RdS) (h : mrd I k s.1 s.2.1 s.2.2.1) :
    gCtr E 44 0 0 nX10_rides [.ref 0, .int (nI k), .int (nI t)] (wM I L) (fun v u' => v = some (.int (stpX (xv I) (svT T (xv I)) t s).2.2.2.2) ∧ ∃ J M, u' = wM J M ∧ mfk I J L M k ∧ mrd J k (stpX (xv I) (svT T (xv I)) t s).1 (stpX (xv I) (svT T (xv I)) t s).2.1 (stpX (xv I) (svT T (xv I)) t s).2.2.1 ∧ J 17 k = (stpX (xv I) (svT T (xv I)) t s).2.2.2.1) := by
  obtain ⟨row, since, st, fr0, p0⟩ := s
  have h0 : mrd I k row since st := h
  refine gstart iX10_rides tX10_rides rfl rfl (fun K ca hK hca => ?_)
  have hck : (nI k).toNatClampNeg = k := nI_clamp (by omega)
  have hv : vp_in (nI k) 2 := vp_in_nI hk (by omega)
  have hvt : vp_in (nI t) 40 := vp_in_nI ht (by omega)
  have e0 : (12 : Int32) * nI k = nI (12 * k) := by rw [show (12 : Int32) = nI 12 from rfl, pk_mul]
  have c0 : (12 * nI k).toNatClampNeg = 12 * k := by rw [e0]; exact nI_clamp (by omega)
  obtain ⟨V, hV⟩ : ∃ V, V = xv I := ⟨_, rfl⟩
  obtain ⟨lf, hlf⟩ : ∃ lf, lf = V 1 4 - nI t := ⟨_, rfl⟩
  have hlfJ : ∀ {J}, mgf I J → J 0 11 - nI t = lf := fun hf => by rw [hlf, hV, hf.2 11 (by omega)]; rfl
  rw [← hV] at hK
  refine hK [33, 103, 185, 230] 60 _ _ _ _ _ _ ?_
  refine gsd_i hv (gsd_i hv ?_)
  have hf0 := mfk_1 (I := I) (L := L) (k := k) (q := 17) (v := -1) (Or.inr (Or.inr rfl))
  match row, h0 with
  | [], h0 =>
    have hn : I 14 (nI k).toNatClampNeg = 0 := by rw [hck]; exact h0.1
    refine gbr_i (fun _ => ?_) (fun z => absurd hn z)
    have hs : stpX V (svT T V) t ([], since, st, fr0, p0) = ([], since, st, -1, 1) := rfl
    rw [hs]
    exact ⟨rfl, _, L, rfl, by rw [hck]; exact hf0, h0, by rw [hck]; exact gupd_s⟩
  | f0 :: l0, h0 =>
    obtain ⟨row, hrow0⟩ : ∃ row, row = f0 :: l0 := ⟨_, rfl⟩
    rw [← hrow0] at h0 hK
    have hne : ¬ row = [] := by rw [hrow0]; simp
    obtain ⟨n, hn⟩ : ∃ n, n = row.length := ⟨_, rfl⟩
    have hn0 : 0 < n := by rw [hn, hrow0]; simp
    have hn12 : n ≤ 12 := by rw [hn]; exact h0.2.2.2.2.1
    have hIn : I 14 (nI k).toNatClampNeg = nI n := by rw [hck, hn]; exact h0.1
    -- the end: tiring, falling back
    have tail : ∀ J M row' since' b5 b6 (x7 x8 : Option Value), mfk I J L M k → mrd J k row' since' st → row'.length = n → goT V lf row since st = (row', since') → K 0 0 185 [some (.ref 0), some (.int (nI k)), some (.int (nI t)), some (.int (12 * nI k)), some (.int (nI n)), some (.int b5), some (.int b6), x7, x8, none, none, none, none, none] [] (wM J M) := by
      intro J M row' since' b5 b6 x7 x8 hf hJ hl hg
      match row', hJ, hl, hg with
      | [], _, hl, _ => exact absurd hl (by simp; omega)
      | f :: l, hJ, hl, hg =>
      obtain ⟨rw', hrw⟩ : ∃ rw', rw' = f :: l := ⟨_, rfl⟩
      rw [← hrw] at hJ hl hg
      obtain ⟨st', hst'⟩ : ∃ st', st' = tir (svT T V) (nI t) 0 rw' st := ⟨_, rfl⟩
      obtain ⟨pc, hpc⟩ : ∃ pc, pc = svT T V 2 (nI f) (st f) (nI t) 0 := ⟨_, rfl⟩
      have hres : stpX V (svT T V) t (row, since, st, fr0, p0) = (kp st' rw', (if st' f = 0 then 0 else since' + 1), st', nI f, pc) := by
        have e1 : stpX V (svT T V) t (row, since, st, fr0, p0) = (if row = [] then (row, since, st, -1, 1) else
          (kp (tir (svT T V) (nI t) 0 (goT V (V 1 4 - nI t) row since st).1 st) (goT V (V 1 4 - nI t) row since st).1, (if (tir (svT T V) (nI t) 0 (goT V (V 1 4 - nI t) row since st).1 st) ((goT V (V 1 4 - nI t) row since st).1.headD 0) = 0 then 0 else (goT V (V 1 4 - nI t) row since st).2 + 1), tir (svT T V) (nI t) 0 (goT V (V 1 4 - nI t) row since st).1 st, nI ((goT V (V 1 4 - nI t) row since st).1.headD 0), svT T V 2 (nI ((goT V (V 1 4 - nI t) row since st).1.headD 0)) (st ((goT V (V 1 4 - nI t) row since st).1.headD 0)) (nI t) 0)) := rfl
        rw [e1, if_neg hne, ← hlf, hg]
        show (kp (tir (svT T V) (nI t) 0 rw' st) rw', (if tir (svT T V) (nI t) 0 rw' st (rw'.headD 0) = 0 then 0 else since' + 1), tir (svT T V) (nI t) 0 rw' st, nI (rw'.headD 0), svT T V 2 (nI (rw'.headD 0)) (st (rw'.headD 0)) (nI t) 0) = _
        rw [← hst', hpc, hrw]
        rfl
      rw [hres] at hK
      have hf12 : f < 12 := hJ.2.2.2.2.2.1 f (by rw [hrw]; exact List.mem_cons_self)
      have hfr : J 13 (12 * nI k).toNatClampNeg = nI f := by rw [c0]; have := hJ.2.2.1 0 (by omega); rw [hrw] at this; exact this
      have cf : (12 * nI k + nI f).toNatClampNeg = 12 * k + f := by rw [ix12]; exact nI_clamp (by omega)
      have hlt : ∀ i, i < n → rw'.getD i 0 < 12 := fun i hi => rd_lt hJ.2.2.2.2.2.1 (by omega)
      have loop := gloop (P := fun i => ∀ J' M' (x12 x13 : Option Value), mfk I J' L M' k → J' 15 k = since' → J' 17 k = nI f → (∀ j, j < (kp st' (rw'.take i)).length → J' 13 (12 * k + j) = nI ((kp st' (rw'.take i)).getD j 0)) → (∀ j, i ≤ j → j < n → J' 13 (12 * k + j) = nI (rw'.getD j 0)) → (∀ r, r < 12 → J' 16 (12 * k + r) = tir (svT T V) (nI t) 0 (rw'.take i) st r) →
          K 0 0 230 [some (.ref 0), some (.int (nI k)), some (.int (nI t)), some (.int (12 * nI k)), some (.int (nI n)), some (.int b5), some (.int b6), some (.int (nI f)), some (.int pc), some (.int (nI (kp st' (rw'.take i)).length)), some (.int (if i = 0 then 0 else if st' f = 0 then 0 else 1)), some (.int (nI i)), x12, x13] [] (wM J' M')) (n := n) (by
        intro J' M' x12 x13 hf' h15 h17 h13 _ h16
        refine hK [33, 103, 185, 230] 60 _ _ _ _ _ _ ?_
        refine gbr_lp (n := n) rfl (by omega) (Nat.le_refl _) (fun _ => ?_) (fun z => absurd z (Nat.lt_irrefl _))
        rw [show rw'.take n = rw' by rw [← hl]; exact List.take_length] at h13 h16 ⊢
        rw [if_neg (by omega : ¬ n = 0)]
        have fin : ∀ v, mfk I (gset (gset J' 14 (gupd (J' 14) k (nI (kp st' rw').length))) 15 (gupd (J' 15) k v)) L M' k ∧ mrd (gset (gset J' 14 (gupd (J' 14) k (nI (kp st' rw').length))) 15 (gupd (J' 15) k v)) k (kp st' rw') v st' ∧ (gset (gset J' 14 (gupd (J' 14) k (nI (kp st' rw').length))) 15 (gupd (J' 15) k v)) 17 k = nI f := fun v =>
          ⟨mfk_trans (mfk_trans hf' (mfk_1 (I := J') (L := M') (k := k) (q := 14) (v := nI (kp st' rw').length) (Or.inl rfl))) (mfk_1 (I := _) (L := M') (k := k) (q := 15) (v := v) (Or.inr (Or.inl rfl))),
            ⟨gupd_s, gupd_s, h13, fun r hr => by rw [hst']; exact h16 r hr, Nat.le_trans kp_len (by omega), fun r hr => hJ.2.2.2.2.2.1 r (List.mem_filter.mp hr).1, List.Pairwise.filter _ hJ.2.2.2.2.2.2.1, fun r hr => Int32.le_of_lt (of_decide_eq_true (List.mem_filter.mp hr).2)⟩, h17⟩
        refine gsd_i hv (gbr_i (fun e => ?_) (fun e => ?_))
        · refine gsd_i hv ?_
          have e' : st' f = 0 := Classical.byContradiction (fun z => by rw [if_neg z] at e; exact absurd e (by decide))
          have := fin 0
          rw [show (if st' f = 0 then 0 else since' + 1) = 0 from if_pos e']
          refine ⟨rfl, _, M', rfl, ?_⟩
          exact Eq.mp (congrArg (fun q => mfk I (gset (gset J' 14 (gupd (J' 14) q (nI (kp st' rw').length))) 15 (gupd (J' 15) q 0)) L M' k ∧ mrd (gset (gset J' 14 (gupd (J' 14) q (nI (kp st' rw').length))) 15 (gupd (J' 15) q 0)) k (kp st' rw') 0 st' ∧ (gset (gset J' 14 (gupd (J' 14) q (nI (kp st' rw').length))) 15 (gupd (J' 15) q 0)) 17 k = nI f) hck.symm) this
        · refine gsd_i hv (gsd_i hv ?_)
          have e' : ¬ st' f = 0 := fun z => e (if_pos z)
          have := fin (since' + 1)
          rw [show (if st' f = 0 then 0 else since' + 1) = since' + 1 from if_neg e']
          refine ⟨rfl, _, M', rfl, ?_⟩
          rw [← h15] at this ⊢
          exact Eq.mp (congrArg (fun q => mfk I (gset (gset J' 14 (gupd (J' 14) q (nI (kp st' rw').length))) 15 (gupd (J' 15) q (J' 15 q + 1))) L M' k ∧ mrd (gset (gset J' 14 (gupd (J' 14) q (nI (kp st' rw').length))) 15 (gupd (J' 15) q (J' 15 q + 1))) k (kp st' rw') (J' 15 k + 1) st' ∧ (gset (gset J' 14 (gupd (J' 14) q (nI (kp st' rw').length))) 15 (gupd (J' 15) q (J' 15 q + 1))) 17 k = nI f) hck.symm) this) (by
        intro i hi ih J' M' x12 x13 hf' h15 h17 h13 h13' h16
        refine hK [33, 103, 185, 230] 90 _ _ _ _ _ _ ?_
        refine gbr_lp (n := n) rfl (by omega) (by omega) (fun e => by omega) (fun _ => ?_)
        have hri := hlt i hi
        obtain ⟨r, hr⟩ : ∃ r, r = rw'.getD i 0 := ⟨_, rfl⟩
        rw [← hr] at hri
        have ci : (12 * nI k + nI i).toNatClampNeg = 12 * k + i := by rw [ix12]; exact nI_clamp (by omega)
        have er : J' 13 (12 * nI k + nI i).toNatClampNeg = nI r := by rw [ci, h13' i (Nat.le_refl _) hi, hr]
        have cr : (12 * nI k + nI r).toNatClampNeg = 12 * k + r := by rw [ix12]; exact nI_clamp (by omega)
        have vr : vp_in (12 * nI k + J' 13 (12 * nI k + nI i).toNatClampNeg) 24 := by rw [er, ix12]; exact vp_in_nI (by omega) (by omega)
        have vr12 : vp_in (J' 13 (12 * nI k + nI i).toNatClampNeg) 12 := by rw [er]; exact vp_in_nI hri (by omega)
        obtain ⟨hd, hhd⟩ : ∃ hd, hd = J' 16 (12 * nI k + J' 13 (12 * nI k + nI i).toNatClampNeg).toNatClampNeg := ⟨_, rfl⟩
        have hhd' : hd = tir (svT T V) (nI t) 0 (rw'.take i) st r := by rw [hhd, er, cr, h16 r hri]
        refine gsd_i (by rw [ix12]; exact vp_in_nI (by omega) (by omega)) (gsd_i vr ?_)
        refine gcall0 hca (m_saysR E J' M' T (mR_mgf hR (mfk_mgf hf')) 0 (J' 13 (12 * nI k + nI i).toNatClampNeg) (J' 16 (12 * nI k + J' 13 (12 * nI k + nI i).toNatClampNeg).toNatClampNeg) (nI t) (nI i) (by decide) vr12 hvt) rfl ?_
        rintro w u' - ⟨rfl, J2, M2, rfl, hf2⟩
        refine gcall0 hca (m_saysR E J2 M2 T (mR_mgf hR (mgf_trans (mfk_mgf hf') (mgf_msf hf2))) 1 (J' 13 (12 * nI k + nI i).toNatClampNeg) (J' 16 (12 * nI k + J' 13 (12 * nI k + nI i).toNatClampNeg).toNatClampNeg) (nI t) (nI i) (by decide) vr12 hvt) rfl ?_
        rintro w u' - ⟨rfl, J3, M3, rfl, hf3⟩
        rw [xv_mgf (mgf_msf hf2), xv_mgf (mfk_mgf hf'), ← hV]
        refine gcall0 hca (m_within E 0 _ 999 (by decide) _) rfl ?_
        rintro w u' - ⟨rfl, rfl⟩
        refine gsd_i vr (gsd_i vr ?_)
        have eW : (wthn 0 ((J' 16 (12 * nI k + J' 13 (12 * nI k + nI i).toNatClampNeg).toNatClampNeg) - svT T V 0 (J' 13 (12 * nI k + nI i).toNatClampNeg) (J' 16 (12 * nI k + J' 13 (12 * nI k + nI i).toNatClampNeg).toNatClampNeg) (nI t) (nI i) + svT T V 1 (J' 13 (12 * nI k + nI i).toNatClampNeg) (J' 16 (12 * nI k + J' 13 (12 * nI k + nI i).toNatClampNeg).toNatClampNeg) (nI t) (nI i)) 999) = tr1 (svT T V) (nI t) st rw' i := by rw [← hhd, hhd', er, hr]; rfl
        have hstr : st' r = tr1 (svT T V) (nI t) st rw' i := by rw [hst', hr]; exact tir_end (by omega) hJ.2.2.2.2.2.2.1
        have f34 : mfk J' J3 M' M3 k := mfk_trans (mfk_msf hf2) (mfk_msf hf3)
        have h3 : ∀ q, 13 ≤ q → J3 q = J' q := fun q hq => by rw [hf3.1 q (by omega), hf2.1 q (by omega)]
        have hkl : (kp st' (rw'.take i)).length ≤ i := Nat.le_trans kp_len (by rw [List.length_take]; omega)
        have c16 : (12 * nI k + (J' 13 (12 * nI k + nI i).toNatClampNeg)).toNatClampNeg = 12 * k + r := by rw [er, cr]
        obtain ⟨J4, hJ4⟩ : ∃ J4, J4 = gset J3 16 (gupd (J3 16) (12 * k + r) (st' r)) := ⟨_, rfl⟩
        have hJ4f : mfk I J4 L M3 k := by rw [hJ4]; exact mfk_trans (mfk_trans hf' f34) (mfk_16 (by omega))
        have eJ4 : gset J3 16 (gupd (J3 16) (12 * nI k + (J' 13 (12 * nI k + nI i).toNatClampNeg)).toNatClampNeg (wthn 0 ((J' 16 (12 * nI k + J' 13 (12 * nI k + nI i).toNatClampNeg).toNatClampNeg) - svT T V 0 (J' 13 (12 * nI k + nI i).toNatClampNeg) (J' 16 (12 * nI k + J' 13 (12 * nI k + nI i).toNatClampNeg).toNatClampNeg) (nI t) (nI i) + svT T V 1 (J' 13 (12 * nI k + nI i).toNatClampNeg) (J' 16 (12 * nI k + J' 13 (12 * nI k + nI i).toNatClampNeg).toNatClampNeg) (nI t) (nI i)) 999)) = J4 := by rw [hJ4, eW, c16, ← hstr]
        have g15 : J4 15 k = since' := by rw [hJ4]; show J3 15 k = _; rw [h3 15 (by decide)]; exact h15
        have g17 : J4 17 k = nI f := by rw [hJ4]; show J3 17 k = _; rw [h3 17 (by decide)]; exact h17
        have g13 : J4 13 = J' 13 := by rw [hJ4]; exact h3 13 (by decide)
        have g16 : ∀ q, q < 12 → J4 16 (12 * k + q) = tir (svT T V) (nI t) 0 (rw'.take (i + 1)) st q := fun q hq => by
          rw [hJ4, tir_s (by omega), gset_s, ← hr, ← hstr]
          by_cases e : q = r
          · rw [e, gupd_s, gupd_s]
          · rw [gupd_n (by omega), gupd_n e, h3 16 (by decide)]; exact h16 q hq
        have hpos : 0 ≤ st' r := by rw [hstr]; exact wthn_0 _
        have zz : gset J3 16 (gupd (J3 16) (12 * nI k + (J' 13 (12 * nI k + nI i).toNatClampNeg)).toNatClampNeg (wthn 0 ((J' 16 (12 * nI k + J' 13 (12 * nI k + nI i).toNatClampNeg).toNatClampNeg) - svT T V 0 (J' 13 (12 * nI k + nI i).toNatClampNeg) (J' 16 (12 * nI k + J' 13 (12 * nI k + nI i).toNatClampNeg).toNatClampNeg) (nI t) (nI i) + svT T V 1 (J' 13 (12 * nI k + nI i).toNatClampNeg) (J' 16 (12 * nI k + J' 13 (12 * nI k + nI i).toNatClampNeg).toNatClampNeg) (nI t) (nI i)) 999)) 16 (12 * nI k + (J' 13 (12 * nI k + nI i).toNatClampNeg)).toNatClampNeg = st' r := by rw [gset_s, gupd_s, eW, hstr]
        refine gbr_i (fun e0 => ?_) (fun e0 => ?_)
        · have e : st' r = 0 := zz.symm.trans e0
          have hks : kp st' (rw'.take (i + 1)) = kp st' (rw'.take i) := by rw [kp_s (by omega), ← hr]; exact if_neg (fun z => (pos_ne hpos).mp z e)
          have := fun (x12 x13 : Option Value) => ih J4 M3 x12 x13 hJ4f g15 g17 (by rw [hks, g13]; exact h13) (fun j hj hj' => by rw [g13]; exact h13' j (by omega) hj') g16
          rw [hks, show (if i + 1 = 0 then (0 : Int32) else if st' f = 0 then 0 else 1) = (if i = 0 then 0 else if st' f = 0 then 0 else 1) by
            rw [if_neg (by omega)]
            by_cases hi0 : i = 0
            · rw [if_pos hi0, if_pos (by rw [hi0, hrw] at hr; have hr' : r = f := hr; rw [← hr']; exact e)]
            · rw [if_neg hi0], ← nI_1, ← eJ4] at this
          exact this _ _
        · have e : ¬ st' r = 0 := fun z => e0 (zz.trans z)
          have hks : kp st' (rw'.take (i + 1)) = kp st' (rw'.take i) ++ [r] := by rw [kp_s (by omega), ← hr]; exact if_pos ((pos_ne hpos).mpr e)
          have ck : (12 * nI k + nI (kp st' (rw'.take i)).length).toNatClampNeg = 12 * k + (kp st' (rw'.take i)).length := by rw [ix12]; exact nI_clamp (by omega)
          refine gsd_i (by rw [ix12]; exact vp_in_nI (by omega) (by omega)) ?_
          have next : ∀ (x12 x13 : Option Value) (b : Int32), b = (if i + 1 = 0 then (0 : Int32) else if st' f = 0 then 0 else 1) → K 0 0 230 [some (.ref 0), some (.int (nI k)), some (.int (nI t)), some (.int (12 * nI k)), some (.int (nI n)), some (.int b5), some (.int b6), some (.int (nI f)), some (.int pc), some (.int (nI (kp st' (rw'.take i)).length + 1)), some (.int b), some (.int (nI i + 1)), x12, x13] [] (wM (gset (gset J3 16 (gupd (J3 16) (12 * nI k + (J' 13 (12 * nI k + nI i).toNatClampNeg)).toNatClampNeg (wthn 0 ((J' 16 (12 * nI k + J' 13 (12 * nI k + nI i).toNatClampNeg).toNatClampNeg) - svT T V 0 (J' 13 (12 * nI k + nI i).toNatClampNeg) (J' 16 (12 * nI k + J' 13 (12 * nI k + nI i).toNatClampNeg).toNatClampNeg) (nI t) (nI i) + svT T V 1 (J' 13 (12 * nI k + nI i).toNatClampNeg) (J' 16 (12 * nI k + J' 13 (12 * nI k + nI i).toNatClampNeg).toNatClampNeg) (nI t) (nI i)) 999))) 13 (gupd (J3 13) (12 * nI k + nI (kp st' (rw'.take i)).length).toNatClampNeg (J' 13 (12 * nI k + nI i).toNatClampNeg))) M3) := by
            intro x12 x13 b hb
            have hJ5 := mfk_trans hJ4f (mfk_13 (I := J4) (L := M3) (k := k) (p := 12 * k + (kp st' (rw'.take i)).length) (v := nI r) (by omega))
            have := ih _ M3 x12 x13 hJ5 g15 g17 (by
              intro j hj
              rw [hks, List.length_append] at hj
              have hj' : j < (kp st' (rw'.take i)).length + 1 := hj
              rw [gset_s, hks]
              by_cases e2 : j = (kp st' (rw'.take i)).length
              · rw [e2, gupd_s]; simp
              · rw [gupd_n (by omega), getD_app (by omega), g13]; exact h13 j (by omega)) (fun j hj hj' => by rw [gset_s, gupd_n (by omega), g13]; exact h13' j (by omega) hj') g16
            rw [hks, List.length_append, g13] at this
            rw [← h3 13 (by decide), ← hb] at this
            have e3 : nI ((kp st' (rw'.take i)).length + [r].length) = nI (kp st' (rw'.take i)).length + 1 := (nI_1 _).symm
            rw [e3, ← nI_1 i, ← ck, ← er, ← eJ4] at this
            exact this
          by_cases hi0 : i = 0
          · have hrf : r = f := by rw [hi0, hrw] at hr; exact hr
            refine gbr_eq (z := 0) (by rw [if_pos hi0]) (fun _ => ?_) (fun z => absurd rfl z)
            refine gbr_i (fun _ => ?_) (fun z => absurd (show (J' 13 (12 * nI k + nI i).toNatClampNeg) = nI f by rw [er, hrf]) z)
            exact next _ _ 1 (by rw [if_neg (by omega), if_neg (by rw [← hrf]; exact e)])
          · by_cases hz : st' f = 0
            · refine gbr_eq (z := 0) (by rw [if_neg hi0, if_pos hz]) (fun _ => ?_) (fun z => absurd rfl z)
              have hrf : ¬ r = f := fun z => e (by rw [z]; exact hz)
              refine gbr_i (fun z => ?_) (fun _ => ?_)
              · exact absurd ((nI_eq (by omega) (by omega)).mp (er.symm.trans z)) hrf
              · exact next _ _ 0 (by rw [if_neg (by omega), if_pos hz])
            · refine gbr_eq (z := 1) (by rw [if_neg hi0, if_neg hz]) (fun z => absurd z (by decide)) (fun _ => ?_)
              exact next _ _ 1 (by rw [if_neg (by omega), if_neg hz]))
      refine hK [33, 103, 185, 230] 60 _ _ _ _ _ _ ?_
      refine gsd_i (by rw [e0]; exact vp_in_nI (by omega) (by omega)) (gsd_i hv ?_)
      refine gsd_i (by show vp_in (12 * nI k + J 13 (12 * nI k).toNatClampNeg) 24; rw [hfr, ix12]; exact vp_in_nI (by omega) (by omega)) ?_
      have hf1 := mfk_trans hf (mfk_1 (I := J) (L := M) (k := k) (q := 17) (v := nI f) (Or.inr (Or.inr rfl)))
      obtain ⟨J1, hJ1⟩ : ∃ J1, J1 = gset J 17 (gupd (J 17) k (nI f)) := ⟨_, rfl⟩
      rw [← hJ1] at hf1
      have eJ1 : gset J 17 (gupd (J 17) (nI k).toNatClampNeg (J 13 (12 * nI k).toNatClampNeg)) = J1 := by rw [hJ1, hfr, hck]
      have hsy := m_saysR E J1 M T (mR_mgf hR (mfk_mgf hf1)) 2 (nI f) (J 16 (12 * nI k + J 13 (12 * nI k).toNatClampNeg).toNatClampNeg) (nI t) 0 (by decide) (vp_in_nI hf12 (by omega)) hvt
      rw [← eJ1, ← hfr] at hsy
      refine gcall0 hca hsy rfl ?_
      rintro w u' - ⟨rfl, J2, M2, rfl, hf2⟩
      rw [eJ1] at hf2 ⊢
      rw [xv_mgf (mfk_mgf hf1), ← hV]
      have hf3 := mfk_trans hf1 (mfk_msf (k := k) hf2)
      have hm2 : mrd J2 k rw' since' st := mrd_msf (by rw [hJ1]; exact hJ) hf2
      have := loop 0 (Nat.zero_le _) J2 M2 none none hf3 hm2.2.1 (by rw [hf2.1 17 (by decide), hJ1]; exact gupd_s) (fun j hj => absurd hj (Nat.not_lt_zero _)) (fun j _ hj => hm2.2.2.1 j (by omega)) (fun r hr => hm2.2.2.2.1 r hr)
      have cst0 : J 16 (12 * nI k + J 13 (12 * nI k).toNatClampNeg).toNatClampNeg = st f := by rw [hfr, cf]; exact hJ.2.2.2.1 f hf12
      rw [hpc, ← cst0, ← hfr] at this
      exact this
    -- taking turns
    have ex185 : ∀ J row' since' b5 b6 (x7 x8 : Option Value), mfk I J L L k → mrd J k row' since' st → row'.length = n → (row', since') = goT V lf row since st → K 0 0 185 [some (.ref 0), some (.int (nI k)), some (.int (nI t)), some (.int (12 * nI k)), some (.int (nI n)), some (.int b5), some (.int b6), x7, x8, none, none, none, none, none] [] (wM J L) :=
      fun J row' since' b5 b6 x7 x8 h1 h2 h3 h4 => tail J L row' since' b5 b6 x7 x8 h1 h2 h3 h4.symm
    have turn : ∀ (c i : Nat) J row' since' (more b5 : Int32) (x8 : Option Value), i + c = n → mfk I J L L k → mrd J k row' since' st → row'.length = n → ((more = 1 ∧ ttn V st lf c row' since' = goT V lf row since st) ∨ (more = 0 ∧ (row', since') = goT V lf row since st)) → K 0 0 103 [some (.ref 0), some (.int (nI k)), some (.int (nI t)), some (.int (12 * nI k)), some (.int (nI n)), some (.int b5), some (.int more), some (.int (nI i)), x8, none, none, none, none, none] [] (wM J L) := by
      intro c
      induction c with
      | zero =>
        intro i J row' since' more b5 x8 hi hf hJ hl hm
        refine hK [33, 103, 185, 230] 60 _ _ _ _ _ _ ?_
        refine gbr_lp (n := n) rfl (by omega) (by omega) (fun _ => ?_) (fun z => absurd z (by omega))
        exact ex185 J row' since' b5 more _ x8 hf hJ hl (hm.elim (fun z => z.2) (fun z => z.2))
      | succ c ih =>
        intro i J row' since' more b5 x8 hi hf hJ hl hm
        refine hK [33, 103, 185, 230] 60 _ _ _ _ _ _ ?_
        refine gbr_lp (n := n) rfl (by omega) (by omega) (fun z => absurd z (by omega)) (fun _ => ?_)
        refine gbr_i (fun z => ?_) (fun z => ?_)
        · exact ex185 J row' since' b5 more _ x8 hf hJ hl (hm.elim (fun y => absurd (y.1.symm.trans z) (by decide)) (fun y => y.2))
        have hm1 : ttn V st lf (c + 1) row' since' = goT V lf row since st := hm.elim (fun y => y.2) (fun y => absurd y.1 z)
        match row', hJ, hl, hm1 with
        | [], _, hl, _ => exact absurd hl (by simp; omega)
        | f :: l, hJ, hl, hm1 =>
        have hf12 : f < 12 := hJ.2.2.2.2.2.1 f List.mem_cons_self
        have hfr : J 13 (12 * nI k).toNatClampNeg = nI f := by rw [c0]; exact hJ.2.2.1 0 (by simp)
        have cf : (12 * nI k + nI f).toNatClampNeg = 12 * k + f := by rw [ix12]; exact nI_clamp (by omega)
        have est : J 16 (12 * nI k + J 13 (12 * nI k).toNatClampNeg).toNatClampNeg = st f := by rw [hfr, cf]; exact hJ.2.2.2.1 f hf12
        have vf : vp_in (J 13 (12 * nI k).toNatClampNeg) 12 := by rw [hfr]; exact vp_in_nI hf12 (by omega)
        have hcf : (nI f).toNatClampNeg = f := nI_clamp (by omega)
        refine gsd_i (by rw [e0]; exact vp_in_nI (by omega) (by omega)) (gsd_i (by show vp_in (12 * nI k + J 13 (12 * nI k).toNatClampNeg) 24; rw [hfr, ix12]; exact vp_in_nI (by omega) (by omega)) ?_)
        refine gcall0 hca (m_works E J L (J 13 (12 * nI k).toNatClampNeg) (J 16 (12 * nI k + J 13 (12 * nI k).toNatClampNeg).toNatClampNeg) (J 0 11 - nI t) vf (by rw [est]; exact hJ.2.2.2.2.2.2.2 f List.mem_cons_self)) rfl ?_
        rintro w u' - ⟨rfl, rfl⟩
        have ew : wk (J 8 (J 13 (12 * nI k).toNatClampNeg).toNatClampNeg) (J 10 (J 13 (12 * nI k).toNatClampNeg).toNatClampNeg) (J 16 (12 * nI k + J 13 (12 * nI k).toNatClampNeg).toNatClampNeg) (J 0 11 - nI t) = wkr V st lf f := by
          rw [est, hfr, hcf, hlfJ (mfk_mgf hf), wkr_xv (mfk_mgf hf), hV]
        have etn : ttn V st lf (c + 1) (f :: l) since' = if wkr V st lf f = 0 ∨ ¬ since' < sty (V 7 f) (V 9 f) then ttn V st lf c (l ++ [f]) 0 else (f :: l, since') := rfl
        rw [etn] at hm1
        have rot : ttn V st lf c (l ++ [f]) 0 = goT V lf row since st → ∀ J' (x8 : Option Value), mfk J J' L L k → mrd J' k (l ++ [f]) 0 st → K 0 0 103 [some (.ref 0), some (.int (nI k)), some (.int (nI t)), some (.int (12 * nI k)), some (.int (nI n)), some (.int b5), some (.int 1), some (.int (nI i + 1)), x8, none, none, none, none, none] [] (wM J' L) := fun hq J' x8 hf' hJ' => by
          rw [nI_1]
          exact ih (i + 1) J' (l ++ [f]) 0 1 b5 x8 (by omega) (mfk_trans hf hf') hJ' (by rw [List.length_append]; exact hl) (Or.inl ⟨rfl, hq⟩)
        refine gbr_i (fun e => ?_) (fun e => ?_)
        · have ez : wkr V st lf f = 0 := ew.symm.trans e
          rw [if_pos (Or.inl ez)] at hm1
          refine gbr_i (fun z => absurd z (by decide)) (fun _ => ?_)
          refine gcall0 hca (m_turnsOn E J L k hk f l since' st hJ) rfl ?_
          rintro w u' - ⟨rfl, J', rfl, hf', hJ'⟩
          exact rot hm1 J' _ hf' hJ'
        · have ez : ¬ wkr V st lf f = 0 := fun z => e (ew.trans z)
          refine gsd_i hv ?_
          refine gcall0 hca (m_stays E J L (J 13 (12 * nI k).toNatClampNeg) vf) rfl ?_
          rintro w u' - ⟨rfl, rfl⟩
          have es : sty (J 8 (J 13 (12 * nI k).toNatClampNeg).toNatClampNeg) (J 10 (J 13 (12 * nI k).toNatClampNeg).toNatClampNeg) = sty (V 7 f) (V 9 f) := by
            rw [hfr, hcf, hf.1 8 (by decide) (by decide), hf.1 10 (by decide) (by decide), hV]; rfl
          have e15 : J 15 (nI k).toNatClampNeg = since' := by rw [hck]; exact hJ.2.1
          refine gbr_i (fun h => ?_) (fun h => ?_)
          · have hlt : since' < sty (V 7 f) (V 9 f) := by rw [← es, ← e15]; exact h
            rw [if_neg (fun z => z.elim ez (fun y => y hlt))] at hm1
            refine gbr_i (fun _ => ?_) (fun z => absurd rfl z)
            have := ih (i + 1) J (f :: l) since' 0 b5 (some (.int (J 13 (12 * nI k).toNatClampNeg))) (by omega) hf hJ hl (Or.inr ⟨rfl, hm1⟩)
            rw [← nI_1] at this
            exact this
          · have hlt : ¬ since' < sty (V 7 f) (V 9 f) := by rw [← es, ← e15]; exact h
            rw [if_pos (Or.inr hlt)] at hm1
            refine gbr_i (fun z => absurd z (by decide)) (fun _ => ?_)
            refine gcall0 hca (m_turnsOn E J L k hk f l since' st hJ) rfl ?_
            rintro w u' - ⟨rfl, J', rfl, hf', hJ'⟩
            exact rot hm1 J' _ hf' hJ'
    -- does someone work?
    obtain ⟨J0, hJ0⟩ : ∃ J0, J0 = gset I 17 (gupd (I 17) k (-1)) := ⟨_, rfl⟩
    rw [← hJ0] at hf0
    have m0 : mrd J0 k row since st := by rw [hJ0]; exact h0
    have some1 := gloop (P := fun i => ∀ b : Int32, ((b = 1 ∧ smw V st lf (row.take i)) ∨ (b = 0 ∧ ¬ smw V st lf (row.take i))) → K 0 0 33 [some (.ref 0), some (.int (nI k)), some (.int (nI t)), some (.int (12 * nI k)), some (.int (nI n)), some (.int b), some (.int (nI i)), none, none, none, none, none, none, none] [] (wM J0 L)) (n := n) (by
      intro b hb
      refine hK [33, 103, 185, 230] 60 _ _ _ _ _ _ ?_
      refine gbr_lp (n := n) rfl (by omega) (by omega) (fun _ => ?_) (fun z => absurd z (by omega))
      rw [show row.take n = row by rw [hn]; exact List.take_length] at hb
      refine turn n 0 J0 row since b b none (by omega) hf0 m0 hn.symm ?_
      rcases hb with ⟨h1, h2⟩ | ⟨h1, h2⟩
      · exact Or.inl ⟨h1, by unfold goT; rw [if_pos h2, hn]⟩
      · exact Or.inr ⟨h1, by unfold goT; rw [if_neg h2]⟩) (by
      intro i hi ih b hb
      refine hK [33, 103, 185, 230] 60 _ _ _ _ _ _ ?_
      refine gbr_lp (n := n) rfl (by omega) (by omega) (fun z => absurd z (by omega)) (fun _ => ?_)
      obtain ⟨r, hr⟩ : ∃ r, r = row.getD i 0 := ⟨_, rfl⟩
      have hmem : r ∈ row := by rw [hr, show row.getD i 0 = row[i]'(by omega) by simp [hn ▸ hi]]; exact List.getElem_mem _
      have hr12 : r < 12 := h0.2.2.2.2.2.1 r hmem
      have esm : smw V st lf (row.take (i + 1)) ↔ (smw V st lf (row.take i) ∨ ¬ wkr V st lf r = 0) := by
        rw [take_s1 (by omega), ← hr]
        constructor
        · rintro ⟨q, hq, hw⟩
          rcases List.mem_append.mp hq with z | z
          · exact Or.inl ⟨q, z, hw⟩
          · exact Or.inr (by rw [← List.mem_singleton.mp z]; exact hw)
        · rintro (⟨q, hq, hw⟩ | hw)
          · exact ⟨q, List.mem_append_left _ hq, hw⟩
          · exact ⟨r, List.mem_append_right _ (List.mem_singleton.mpr rfl), hw⟩
      have next : ∀ b' : Int32, ((b' = 1 ∧ smw V st lf (row.take (i + 1))) ∨ (b' = 0 ∧ ¬ smw V st lf (row.take (i + 1)))) → K 0 0 33 [some (.ref 0), some (.int (nI k)), some (.int (nI t)), some (.int (12 * nI k)), some (.int (nI n)), some (.int b'), some (.int (nI i + 1)), none, none, none, none, none, none, none] [] (wM J0 L) := fun b' hb' => by
        rw [nI_1]; exact ih b' hb'
      refine gbr_i (fun z => ?_) (fun z => ?_)
      · have hno : ¬ smw V st lf (row.take i) := hb.elim (fun y => absurd (y.1.symm.trans z) (by decide)) (fun y => y.2)
        have ci : (12 * nI k + nI i).toNatClampNeg = 12 * k + i := by rw [ix12]; exact nI_clamp (by omega)
        have er : J0 13 (12 * nI k + nI i).toNatClampNeg = nI r := by rw [ci, m0.2.2.1 i (by omega), hr]
        have cr : (12 * nI k + nI r).toNatClampNeg = 12 * k + r := by rw [ix12]; exact nI_clamp (by omega)
        have hcr : (nI r).toNatClampNeg = r := nI_clamp (by omega)
        have est : J0 16 (12 * nI k + J0 13 (12 * nI k + nI i).toNatClampNeg).toNatClampNeg = st r := by rw [er, cr]; exact m0.2.2.2.1 r hr12
        have vr12 : vp_in (J0 13 (12 * nI k + nI i).toNatClampNeg) 12 := by rw [er]; exact vp_in_nI hr12 (by omega)
        have vi : vp_in (12 * nI k + nI i) 24 := by rw [ix12]; exact vp_in_nI (by omega) (by omega)
        refine gsd_i vi (gsd_i vi (gsd_i (by show vp_in (12 * nI k + J0 13 (12 * nI k + nI i).toNatClampNeg) 24; rw [er, ix12]; exact vp_in_nI (by omega) (by omega)) ?_))
        refine gcall0 hca (m_works E J0 L (J0 13 (12 * nI k + nI i).toNatClampNeg) (J0 16 (12 * nI k + J0 13 (12 * nI k + nI i).toNatClampNeg).toNatClampNeg) (J0 0 11 - nI t) vr12 (by rw [est]; exact h0.2.2.2.2.2.2.2 r hmem)) rfl ?_
        rintro w u' - ⟨rfl, rfl⟩
        have ew : wk (J0 8 (J0 13 (12 * nI k + nI i).toNatClampNeg).toNatClampNeg) (J0 10 (J0 13 (12 * nI k + nI i).toNatClampNeg).toNatClampNeg) (J0 16 (12 * nI k + J0 13 (12 * nI k + nI i).toNatClampNeg).toNatClampNeg) (J0 0 11 - nI t) = wkr V st lf r := by
          rw [est, er, hcr, hlfJ (mfk_mgf hf0), wkr_xv (mfk_mgf hf0), hV]
        refine gbr_i (fun e => ?_) (fun e => ?_)
        · exact next 0 (Or.inr ⟨rfl, fun y => (esm.mp y).elim hno (fun q => q (ew.symm.trans e))⟩)
        · exact next 1 (Or.inl ⟨rfl, esm.mpr (Or.inr (fun q => e (ew.trans q)))⟩)
      · have hyes : smw V st lf (row.take i) := hb.elim (fun y => y.2) (fun y => absurd y.1 z)
        exact next 1 (Or.inl ⟨rfl, esm.mpr (Or.inl hyes)⟩))
    have hn' : ¬ I 14 (nI k).toNatClampNeg = 0 := by rw [hIn]; intro z; have := (nI_eq (a := n) (b := 0) (by omega) (by omega)).mp z; omega
    refine gbr_i (fun z => absurd z hn') (fun _ => ?_)
    have := some1 0 (Nat.zero_le _) 0 (Or.inr ⟨rfl, fun ⟨q, hq, _⟩ => absurd hq (by simp)⟩)
    rw [← hIn, hJ0] at this
    exact Eq.mp (congrArg (fun q => K 0 0 33 [some (.ref 0), some (.int (nI k)), some (.int (nI t)), some (.int (12 * nI k)), some (.int (I 14 (nI k).toNatClampNeg)), some (.int 0), some (.int (nI 0)), none, none, none, none, none, none, none] [] (wM (gset I 17 (gupd (I 17) q (-1))) L)) hck.symm) this
end
