-- the model: chases
theorem addsub3 (a b c : Int32) : a + b - c = a + (b - c) := by rw [Int32.sub_eq_add_neg, Int32.sub_eq_add_neg, Int32.add_assoc]
section
variable (E : gEnv) (I : Nat → Nat → Int32) (L : Nat → Nat → Int64)
theorem m_areGroups (g o : Int32) (nr : Nat) (hnr : nr ≤ 12) (hcr : I 0 17 = nI nr) : gCtr E 3 0 0 nX10_areGroups [.ref 0, .int g, .int o] (wM I L) (fun v u' => u' = (wM I L) ∧ v = some (.int (if isG (xv I) g ∧ isG (xv I) o ∧ g &&& o = 0 then 1 else 0))) := by
  refine gstart iX10_areGroups tX10_areGroups rfl rfl (fun K ca hK hca => ?_)
  refine hK [] 80 _ _ _ _ _ _ ?_
  clear hK
  refine gcall0 hca (m_isGroup E I L g nr hnr hcr) rfl ?_
  rintro w u' - ⟨rfl, rfl⟩
  refine gbr_p (fun h1 => gsd_i (Or.inl rfl) (gz0 (fun z => h1 z.1))) (fun h1 => ?_)
  refine gcall0 hca (m_isGroup E I L o nr hnr hcr) rfl ?_
  rintro w u' - ⟨rfl, rfl⟩
  refine gbr_p (fun h2 => gsd_i (Or.inl rfl) (gz0 (fun z => h2 z.2.1))) (fun h2 => ?_)
  exact gbr_i (fun h3 => gsd_i (Or.inr rfl) (gz1 ⟨h1, h2, h3⟩)) (fun h3 => gsd_i (Or.inl rfl) (gz0 (fun z => h3 z.2.2)))
set_option maxRecDepth 8000 in
set_option maxHeartbeats 2000000 in
theorem m_chases (T : Tx) (hR : mR I T) (nr : Nat) (hnr : nr ≤ 12) (hcr : I 0 17 = nI nr) (hst : ∀ r, r < nr → 0 ≤ I 12 r) (g o t gap y : Int32) (a b : Nat) (ha : t / 100 = nI a) (hb : t - t / 100 * 100 = nI b) (hab : a ≤ b) (hbn : b < 40) (hy : y = 0 ∨ (0 < y ∧ ¬ y - y / 100 * 100 = 0)) :
    gCtr E 45 0 0 nX10_chases [.ref 0, .int g, .int o, .int t, .int gap, .int y] (wM I L) (fun v u' => v = none ∧ ∃ J M s, u' = wM J M ∧ mgf I J ∧ sim (mem g nr) s (ron (xv I) (svT T (xv I)) (b + 1 - a) a (cst (xv I) g nr)) ∧ mrd J 0 s.1 s.2.1 s.2.2.1 ∧ J 0 39 = (cht (xv I) (svT T (xv I)) (b + 1 - a) a (cst (xv I) g nr) (cst (xv I) o nr) (-1) gap).1 ∧ J 0 40 = (cht (xv I) (svT T (xv I)) (b + 1 - a) a (cst (xv I) g nr) (cst (xv I) o nr) (-1) gap).2 ∧ (¬ y = 0 → M 0 41 = clk (xv I) (svT T (xv I)) (y / 100) (y - y / 100 * 100) (b + 1 - a) a (cst (xv I) g nr) (cst (xv I) o nr) gap 0)) := by
  refine gstart iX10_chases tX10_chases rfl rfl (fun K ca hK hca => ?_)
  refine hK [34, 87] 60 _ _ _ _ _ _ ?_
  refine gcall0 hca (m_begins E I L 0 (by omega) g nr hnr hcr hst) rfl ?_
  rintro w u' - ⟨rfl, J1, rfl, hf, h17, h16, hm⟩
  have hst1 : ∀ r, r < nr → 0 ≤ J1 12 r := fun r hr => by rw [hf.1 12 (by decide) (by decide)]; exact hst r hr
  refine gcall0 hca (m_begins E J1 L 1 (by omega) o nr hnr (by rw [hf.2.1 17 (by omega)]; exact hcr) hst1) rfl ?_
  rintro w u' - ⟨rfl, J2, rfl, hf2, h172, h162, hm2⟩
  have hm1 : mrd J2 0 (bgR g nr) 0 (fun r => J1 16 (12 * 0 + r)) := mrd_oth (by omega) (by omega) (by omega) hm hf2
  have hmm1 : b + 1 = a + (b + 1 - a) := by omega
  obtain ⟨m, hmm⟩ : ∃ m, m = b + 1 - a := ⟨_, rfl⟩
  rw [← hmm] at hK hmm1 ⊢
  obtain ⟨V, hV⟩ : ∃ V, V = xv I := ⟨_, rfl⟩
  rw [← hV] at hK ⊢
  have hsim : sim (mem g nr) (bgR g nr, 0, (fun r => J1 16 (12 * 0 + r)), -1, 1) (cst V g nr) := ⟨rfl, rfl, fun r hr => by rw [hV]; exact h16 r hr.1, fun _ hr => bgR_mem hr⟩
  have hsim2 : sim (mem o nr) (bgR o nr, 0, (fun r => J2 16 (12 * 1 + r)), -1, 1) (cst V o nr) := ⟨rfl, rfl, fun r hr => by rw [hV]; show J2 16 (12 * 1 + r) = I 12 r; rw [h162 r hr.1, hf.1 12 (by decide) (by decide)], fun _ hr => bgR_mem hr⟩
  obtain ⟨A, hA⟩ : ∃ A : RdS, A = (bgR g nr, 0, (fun r => J1 16 (12 * 0 + r)), -1, 1) := ⟨_, rfl⟩
  obtain ⟨B, hB⟩ : ∃ B : RdS, B = (bgR o nr, 0, (fun r => J2 16 (12 * 1 + r)), -1, 1) := ⟨_, rfl⟩
  rw [← hA] at hsim
  rw [← hB] at hsim2
  have hfin := (sim_ron (I := V) (sv := svT T V) m a _ _ hsim).1
  obtain ⟨S, hS⟩ : ∃ S, S = ron V (svT T V) m a A := ⟨_, rfl⟩
  rw [← hS] at hfin
  obtain ⟨C, hC⟩ : ∃ C, C = cht V (svT T V) m a A B (-1) gap := ⟨_, rfl⟩
  obtain ⟨D, hD⟩ : ∃ D, D = clk V (svT T V) (y / 100) (y - y / 100 * 100) m a A B gap 0 := ⟨_, rfl⟩
  rw [← sim_cht m a _ _ _ _ (-1) gap hsim hsim2, ← sim_clk m a _ _ _ _ gap 0 hsim hsim2, ← hC, ← hD] at hK
  have loop : ∀ (c i : Nat) (J : Nat → Nat → Int32) (M : Nat → Nat → Int64) (s1 s2 : RdS), b + 1 = i + c → mgf I J → mrd J 0 s1.1 s1.2.1 s1.2.2.1 → mrd J 1 s2.1 s2.2.1 s2.2.2.1 → ron V (svT T V) c i s1 = S → cht V (svT T V) c i s1 s2 (J 0 39) (J 0 40) = C → (¬ y = 0 → clk V (svT T V) (y / 100) (y - y / 100 * 100) c i s1 s2 (J 0 40) (M 0 41) = D) → K 0 0 34 [some (.ref 0), some (.int g), some (.int o), some (.int t), some (.int gap), some (.int y), some (.int (nI i))] [] (wM J M) := by
    intro c
    induction c with
    | zero =>
      intro i J M s1 s2 hi hf h1 h2 hr hc hk
      refine hK [34, 87] 60 _ _ _ _ _ _ ?_
      refine gsd_i (by decide) ?_
      refine gbr_gt (i := i) (b := b) hb (by omega) (by omega) (fun _ => ?_) (fun z => absurd z (by omega))
      have e1 : s1 = S := hr
      have e2 : (J 0 39, J 0 40) = C := hc
      exact ⟨rfl, J, M, s1, rfl, hf, by rw [e1]; exact hfin, h1, by rw [← e2], by rw [← e2], fun z => hk z⟩
    | succ c ih =>
      intro i J M s1 s2 hi hf h1 h2 hr hc hk
      have mid : ∀ M : Nat → Nat → Int64, (¬ y = 0 → clk V (svT T V) (y / 100) (y - y / 100 * 100) c (i + 1) (stpX V (svT T V) i s1) (stpX V (svT T V) i s2) (J 0 40 + ((stpX V (svT T V) i s1).2.2.2.2 - (stpX V (svT T V) i s2).2.2.2.2)) (M 0 41) = D) → K 0 0 87 [some (.ref 0), some (.int g), some (.int o), some (.int t), some (.int gap), some (.int y), some (.int (nI i))] [] (wM J M) := by
        intro M hk
        refine hK [34, 87] 60 _ _ _ _ _ _ ?_
        refine gcall0 hca (m_rides E J M T (mR_mgf hR hf) 0 (by omega) i (by omega) s1 h1) rfl ?_
        rintro w u' - ⟨rfl, J3, M3, rfl, hf3, h13, -⟩
        rw [xv_mgf hf, ← hV] at h13 ⊢
        obtain ⟨J4, hJ4⟩ : ∃ J4, J4 = gset J3 0 (gupd (J3 0) 40 (J 0 40 + (stpX V (svT T V) i s1).2.2.2.2)) := ⟨_, rfl⟩
        have hf4 : mgf I J4 := by rw [hJ4]; exact mgf_trans (mgf_trans hf (mfk_mgf hf3)) (mgf_0 (by omega))
        have h23 : mrd J3 1 s2.1 s2.2.1 s2.2.2.1 := mrd_oth (by omega) (by omega) (by omega) h2 hf3
        have h24 : mrd J4 1 s2.1 s2.2.1 s2.2.2.1 := by rw [hJ4]; exact h23
        have h14 : mrd J4 0 (stpX V (svT T V) i s1).1 (stpX V (svT T V) i s1).2.1 (stpX V (svT T V) i s1).2.2.1 := by rw [hJ4]; exact h13
        have hrd := m_rides E J4 M3 T (mR_mgf hR hf4) 1 (by omega) i (by omega) s2 h24
        have e40 : J4 0 40 = J 0 40 + (stpX V (svT T V) i s1).2.2.2.2 := by rw [hJ4, gset_s, gupd_s]
        have e39 : J4 0 39 = J 0 39 := by rw [hJ4, gset_s, gupd_n (by decide)]; exact hf3.2.1 39 (by omega)
        rw [hJ4] at hrd
        refine gcall0 hca hrd rfl ?_
        rw [← hJ4]
        rintro w u' - ⟨rfl, J5, M5, rfl, hf5, h25, -⟩
        rw [xv_mgf hf4, ← hV] at h25 ⊢
        obtain ⟨J6, hJ6⟩ : ∃ J6, J6 = gset J5 0 (gupd (J5 0) 40 (J4 0 40 - (stpX V (svT T V) i s2).2.2.2.2)) := ⟨_, rfl⟩
        have hf6 : mgf I J6 := by rw [hJ6]; exact mgf_trans (mgf_trans hf4 (mfk_mgf hf5)) (mgf_0 (by omega))
        have h15 : mrd J5 0 (stpX V (svT T V) i s1).1 (stpX V (svT T V) i s1).2.1 (stpX V (svT T V) i s1).2.2.1 := mrd_oth (by omega) (by omega) (by omega) h14 hf5
        have h16 : mrd J6 0 (stpX V (svT T V) i s1).1 (stpX V (svT T V) i s1).2.1 (stpX V (svT T V) i s1).2.2.1 := by rw [hJ6]; exact h15
        have h26 : mrd J6 1 (stpX V (svT T V) i s2).1 (stpX V (svT T V) i s2).2.1 (stpX V (svT T V) i s2).2.2.1 := by rw [hJ6]; exact h25
        have g40 : J6 0 40 = J 0 40 + ((stpX V (svT T V) i s1).2.2.2.2 - (stpX V (svT T V) i s2).2.2.2.2) := by rw [hJ6, gset_s, gupd_s, e40, addsub3]
        have g39 : J6 0 39 = J 0 39 := by rw [hJ6, gset_s, gupd_n (by decide), hf5.2.1 39 (by omega), e39]
        have gM : M5 0 41 = M 0 41 := by rw [hf5.2.2.2.2 41 (by decide), hf3.2.2.2.2 41 (by decide)]
        have q39 : gset J5 0 (gupd (J5 0) 40 (J4 0 40 - (stpX V (svT T V) i s2).2.2.2.2)) 0 39 = J 0 39 := by rw [← hJ6]; exact g39
        have q40 : gset J5 0 (gupd (J5 0) 40 (J4 0 40 - (stpX V (svT T V) i s2).2.2.2.2)) 0 40 = J 0 40 + ((stpX V (svT T V) i s1).2.2.2.2 - (stpX V (svT T V) i s2).2.2.2.2) := by rw [← hJ6]; exact g40
        have ecs : cht V (svT T V) (c + 1) i s1 s2 (J 0 39) (J 0 40) = cht V (svT T V) c (i + 1) (stpX V (svT T V) i s1) (stpX V (svT T V) i s2) (if J 0 40 + ((stpX V (svT T V) i s1).2.2.2.2 - (stpX V (svT T V) i s2).2.2.2.2) ≤ 0 ∧ J 0 39 = -1 then nI i else J 0 39) (J 0 40 + ((stpX V (svT T V) i s1).2.2.2.2 - (stpX V (svT T V) i s2).2.2.2.2)) := rfl
        rw [ecs] at hc
        have keep : ¬ (J 0 40 + ((stpX V (svT T V) i s1).2.2.2.2 - (stpX V (svT T V) i s2).2.2.2.2) ≤ 0 ∧ J 0 39 = -1) → K 0 0 34 [some (.ref 0), some (.int g), some (.int o), some (.int t), some (.int gap), some (.int y), some (.int (nI i + 1))] [] (wM (gset J5 0 (gupd (J5 0) 40 (J4 0 40 - (stpX V (svT T V) i s2).2.2.2.2))) M5) := fun hno => by
          rw [← hJ6, nI_1]
          exact ih (i + 1) J6 M5 _ _ (by omega) hf6 h16 h26 hr (by rw [if_neg hno] at hc; rw [g39, g40]; exact hc) (by rw [g40, gM]; exact hk)
        refine gbr_i (fun z1 => ?_) (fun z1 => ?_)
        · have z1' : J 0 39 = -1 := q39.symm.trans z1
          refine gbr_i (fun z2 => ?_) (fun z2 => ?_)
          · exact keep (fun z => absurd (show (0 : Int32) < J 0 40 + ((stpX V (svT T V) i s1).2.2.2.2 - (stpX V (svT T V) i s2).2.2.2.2) by rw [← q40]; exact z2) (Int32.not_lt.mpr z.1))
          · have z2' : J 0 40 + ((stpX V (svT T V) i s1).2.2.2.2 - (stpX V (svT T V) i s2).2.2.2.2) ≤ 0 := by rw [← q40]; exact Int32.not_lt.mp z2
            have := ih (i + 1) (gset J6 0 (gupd (J6 0) 39 (nI i))) M5 _ _ (by omega) (mgf_trans hf6 (mgf_0 (by omega))) h16 h26 hr (by
              rw [if_pos ⟨z2', z1'⟩] at hc
              rw [gset_s, gupd_s, gupd_n (by decide), g40]; exact hc) (by rw [gset_s, gupd_n (by decide), g40, gM]; exact hk)
            rw [hJ6, ← nI_1] at this
            exact this
        · exact keep (fun z => z1 (q39.trans z.2))
      refine hK [34, 87] 60 _ _ _ _ _ _ ?_
      refine gsd_i (by decide) ?_
      refine gbr_gt (i := i) (b := b) hb (by omega) (by omega) (fun z => absurd z (by omega)) (fun _ => ?_)
      have e11 : J 0 11 = V 1 4 := by rw [hV, hf.2 11 (by omega)]; rfl
      have eck : ∀ bb, clk V (svT T V) (y / 100) (y - y / 100 * 100) (c + 1) i s1 s2 (J 0 40) bb = clk V (svT T V) (y / 100) (y - y / 100 * 100) c (i + 1) (stpX V (svT T V) i s1) (stpX V (svT T V) i s2) (J 0 40 + ((stpX V (svT T V) i s1).2.2.2.2 - (stpX V (svT T V) i s2).2.2.2.2)) (if y / 100 * (V 1 4 - nI i) / (y - y / 100 * 100) < J 0 40 then bb else bb ||| ((1 : Int64) <<< ((nI i).toInt64 &&& 63))) := fun _ => rfl
      refine gbr_i (fun z => ?_) (fun z => ?_)
      · refine mid M (fun hz => absurd z ?_)
        rcases hy with h | h
        · exact absurd h hz
        · exact Int32.not_le.mpr h.1
      have hyp : ¬ y = 0 := fun h => z (by rw [h]; exact Int32.le_refl 0)
      have hyd : ¬ y - y / 100 * 100 = 0 := hy.elim (fun h => absurd h hyp) (fun h => h.2)
      have hk' := hk hyp
      rw [eck] at hk'
      refine gsd_i (by decide) (gsd_i (by decide) (gsd_i hyd ?_))
      refine gbr_i (fun z2 => ?_) (fun z2 => ?_)
      · have z2' : y / 100 * (V 1 4 - nI i) / (y - y / 100 * 100) < J 0 40 := by rw [← e11]; exact z2
        rw [if_pos z2'] at hk'
        exact mid M (fun _ => hk')
      · have z2' : ¬ y / 100 * (V 1 4 - nI i) / (y - y / 100 * 100) < J 0 40 := by rw [← e11]; exact z2
        rw [if_neg z2'] at hk'
        exact mid (gset M 0 (gupd (M 0) 41 (M 0 41 ||| ((1 : Int64) <<< ((nI i).toInt64 &&& 63))))) (fun _ => by rw [gset_s, gupd_s]; exact hk')
  have hf3 : mgf I (gset (gset J2 0 (gupd (J2 0) 39 (-1))) 0 (gupd (gset J2 0 (gupd (J2 0) 39 (-1)) 0) 40 gap)) := mgf_trans (mgf_trans (mgf_trans (mfk_mgf hf) (mfk_mgf hf2)) (mgf_0 (by omega))) (mgf_0 (by omega))
  have k39 : gset (gset J2 0 (gupd (J2 0) 39 (-1))) 0 (gupd (gset J2 0 (gupd (J2 0) 39 (-1)) 0) 40 gap) 0 39 = -1 := by rw [gset_s, gupd_n (by decide), gset_s, gupd_s]
  have k40 : gset (gset J2 0 (gupd (J2 0) 39 (-1))) 0 (gupd (gset J2 0 (gupd (J2 0) 39 (-1)) 0) 40 gap) 0 40 = gap := by rw [gset_s, gupd_s]
  have := loop m a _ (gset L 0 (gupd (L 0) 41 0)) A B hmm1 hf3 (by rw [hA]; exact hm1) (by rw [hB]; exact hm2) hS.symm (by rw [k39, k40]; exact hC.symm) (fun _ => by rw [k40, gset_s, gupd_s]; exact hD.symm)
  rw [← ha] at this
  refine gsd_i (by decide) ?_
  exact this
end
