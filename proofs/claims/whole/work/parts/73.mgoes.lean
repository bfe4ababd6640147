-- the model: a whole ride
theorem mgf_0 {I : Nat → Nat → Int32} {j : Nat} {v : Int32} (h : 18 ≤ j ∧ j ≤ 43) : mgf I (gset I 0 (gupd (I 0) j v)) :=
  ⟨fun k a _ => gset_n a, fun q hq => by rw [gset_s, gupd_n (by omega)]⟩
theorem mrd_oth {I J : Nat → Nat → Int32} {L M : Nat → Nat → Int64} {k k' : Nat} (hk : k < 2) (hk' : k' < 2) (hn : k' ≠ k) {row : List Nat} {s : Int32} {st : Nat → Int32} (h : mrd I k' row s st) (hf : mfk I J L M k) : mrd J k' row s st := by
  obtain ⟨h1, h2, h3, h4, h5, h6, h7, h8⟩ := h
  have g := hf.2.2.2.1 k' hn
  refine ⟨by rw [g.1]; exact h1, by rw [g.2.1]; exact h2, fun j hj => ?_, fun r hr => ?_, h5, h6, h7, h8⟩
  · rw [(hf.2.2.1 (12 * k' + j) (by omega)).1]; exact h3 j hj
  · rw [(hf.2.2.1 (12 * k' + r) (by omega)).2]; exact h4 r hr
section
variable (E : gEnv) (I : Nat → Nat → Int32) (L : Nat → Nat → Int64)
theorem m_leftIn (row : List Nat) (since : Int32) (st : Nat → Int32) (h : mrd I 0 row since st) : gCtr E 1 0 0 nX10_leftIn [.ref 0] (wM I L) (fun v u' => u' = (wM I L) ∧ v = some (.int (bts row 0))) := by
  obtain ⟨h1, h2, h3, h4, h5, h6, -⟩ := h
  refine gstart iX10_leftIn tX10_leftIn rfl rfl (fun K ca hK hca => ?_)
  have loop := gloop (P := fun i => ∀ b, bts (row.drop i) b = bts row 0 → K 0 0 4 [some (.ref 0), some (.int b), some (.int (nI i))] [] (wM I L)) (n := row.length) (by
    intro b hb
    refine hK [4] 60 _ _ _ _ _ _ ?_
    refine gsd_i (vp_in_nI (by omega : 0 < 2) (by omega)) (gbr_lp (n := row.length) h1 (by omega) (Nat.le_refl _) (fun _ => ?_) (fun z => absurd z (Nat.lt_irrefl _)))
    rw [List.drop_length] at hb
    exact ⟨rfl, by rw [← hb]; rfl⟩) (by
    intro i hi ih b hb
    have hci : (nI i).toNatClampNeg = i := nI_clamp (by omega)
    refine hK [4] 60 _ _ _ _ _ _ ?_
    refine gsd_i (vp_in_nI (by omega : 0 < 2) (by omega)) (gbr_lp (n := row.length) h1 (by omega) (by omega) (fun e => by omega) (fun _ => ?_))
    refine gsd_i (vp_in_nI (by omega) (by omega)) ?_
    have er : I 13 (nI i).toNatClampNeg = nI (row.getD i 0) := by rw [hci]; have := h3 i hi; rw [Nat.mul_zero, Nat.zero_add] at this; exact this
    have := ih (b ||| (1 <<< (nI (row.getD i 0) &&& 31))) (by rw [drop_cons hi] at hb; exact hb)
    rw [← er, ← nI_1] at this
    exact this)
  refine hK [4] 60 _ _ _ _ _ _ ?_
  exact loop 0 (Nat.zero_le _) 0 rfl
set_option maxRecDepth 8000 in
set_option maxHeartbeats 1000000 in
theorem m_goes1 (T : Tx) (hR : mR I T) (nr : Nat) (hnr : nr ≤ 12) (hcr : I 0 17 = nI nr) (hst : ∀ r, r < nr → 0 ≤ I 12 r) (g t : Int32) (a b : Nat) (ha : t / 100 = nI a) (hb : t - t / 100 * 100 = nI b) (hab : a ≤ b) (hbn : b < 40) :
    gCtr E 45 0 0 nX10_goes1 [.ref 0, .int g, .int t] (wM I L) (fun v u' => v = none ∧ ∃ J M s, u' = wM J M ∧ mgf I J ∧ sim (mem g nr) s (ron (xv I) (svT T (xv I)) (b + 1 - a) a (cst (xv I) g nr)) ∧ mrd J 0 s.1 s.2.1 s.2.2.1 ∧ J 17 0 = (ron (xv I) (svT T (xv I)) (b + 1 - a) a (cst (xv I) g nr)).2.2.2.1 ∧ J 0 38 = rfr (xv I) (svT T (xv I)) (b + 1 - a) a (cst (xv I) g nr) 0) := by
  refine gstart iX10_goes1 tX10_goes1 rfl rfl (fun K ca hK hca => ?_)
  refine hK [16] 60 _ _ _ _ _ _ ?_
  have hbg := m_begins E I L 0 (by omega) g nr hnr hcr hst
  refine gcall0 hca hbg rfl ?_
  rintro w u' - ⟨rfl, J1, rfl, hf, h17, h16, hm⟩
  have hm1 : b + 1 = a + (b + 1 - a) := by omega
  obtain ⟨m, hmm⟩ : ∃ m, m = b + 1 - a := ⟨_, rfl⟩
  rw [← hmm] at hK hm1 ⊢
  have hsim : sim (mem g nr) (bgR g nr, 0, (fun r => J1 16 (12 * 0 + r)), -1, 1) (cst (xv I) g nr) := ⟨rfl, rfl, fun r hr => h16 r hr.1, fun _ hr => bgR_mem hr⟩
  have hfin := sim_ron (I := xv I) (sv := svT T (xv I)) m a _ _ hsim
  have hff := sim_rfr (I := xv I) (sv := svT T (xv I)) m a _ _ 0 hsim
  obtain ⟨S, hS⟩ : ∃ S, S = ron (xv I) (svT T (xv I)) m a (bgR g nr, 0, (fun r => J1 16 (12 * 0 + r)), -1, 1) := ⟨_, rfl⟩
  rw [← hff] at hK
  rw [← hS] at hfin
  have hm0 : 0 < m := by omega
  rw [← hfin.2 hm0] at hK
  have loop : ∀ (c i : Nat) (J : Nat → Nat → Int32) (M : Nat → Nat → Int64) (s : RdS) (f : Int32), b + 1 = i + c → mgf I J → mrd J 0 s.1 s.2.1 s.2.2.1 → J 17 0 = s.2.2.2.1 → J 0 38 = f → ron (xv I) (svT T (xv I)) c i s = S → rfr (xv I) (svT T (xv I)) c i s f = rfr (xv I) (svT T (xv I)) m a (bgR g nr, 0, (fun r => J1 16 (12 * 0 + r)), -1, 1) 0 → K 0 0 16 [some (.ref 0), some (.int g), some (.int t), some (.int (nI i))] [] (wM J M) := by
    intro c
    induction c with
    | zero =>
      intro i J M s f hi hf hm h17 h38 hr hfr
      refine hK [16] 60 _ _ _ _ _ _ ?_
      refine gsd_i (by decide) ?_
      refine gbr_gt (i := i) (b := b) hb (by omega) (by omega) (fun _ => ?_) (fun z => absurd z (by omega))
      have e1 : s = S := hr
      have e2 : f = rfr (xv I) (svT T (xv I)) m a (bgR g nr, 0, (fun r => J1 16 (12 * 0 + r)), -1, 1) 0 := hfr
      exact ⟨rfl, J, M, s, rfl, hf, by rw [e1]; exact hfin.1, hm, by rw [h17, e1], by rw [h38, e2]⟩
    | succ c ih =>
      intro i J M s f hi hf hm h17 h38 hr hfr
      refine hK [16] 60 _ _ _ _ _ _ ?_
      refine gsd_i (by decide) ?_
      refine gbr_gt (i := i) (b := b) hb (by omega) (by omega) (fun z => absurd z (by omega)) (fun _ => ?_)
      refine gcall0 hca (m_rides E J M T (mR_mgf hR hf) 0 (by omega) i (by omega) s hm) rfl ?_
      rintro w u' - ⟨rfl, J2, M2, rfl, hf2, hm2, h172⟩
      rw [xv_mgf hf] at hm2 h172 ⊢
      have hf3 : mgf I (gset J2 0 (gupd (J2 0) 38 (J 0 38 + (stpX (xv I) (svT T (xv I)) i s).2.2.2.2))) := mgf_trans (mgf_trans hf (mfk_mgf hf2)) (mgf_0 (by omega))
      have := ih (i + 1) _ M2 (stpX (xv I) (svT T (xv I)) i s) (f + (stpX (xv I) (svT T (xv I)) i s).2.2.2.2) (by omega) hf3 hm2 h172 (by rw [h38, gset_s]; exact gupd_s) hr hfr
      rw [← nI_1] at this
      exact this
  have hf0 : mgf I (gset J1 0 (gupd (J1 0) 38 0)) := mgf_trans (mfk_mgf hf) (mgf_0 (by omega))
  have := loop m a _ L (bgR g nr, 0, (fun r => J1 16 (12 * 0 + r)), -1, 1) 0 hm1 hf0 hm h17 (by show gupd (J1 0) 38 0 38 = 0; exact gupd_s) hS.symm rfl
  rw [← ha] at this
  refine gsd_i (by decide) ?_
  exact this
end
