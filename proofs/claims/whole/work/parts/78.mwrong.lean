-- the model: what was filmed
noncomputable def mwrg (I : Nat → Nat → Int32) (sv : Say) (g : Int32) : Nat → Nat → RdS → Int32
  | 0, _, _ => -1
  | m + 1, t, s => if (I 7 t &&& g) &&& ((if (stpX (xv I) sv t s).2.2.2.1 = -1 then (0 : Int32) else (1 : Int32) <<< ((stpX (xv I) sv t s).2.2.2.1 &&& 31)) ^^^ -1) = 0 then mwrg I sv g m (t + 1) (stpX (xv I) sv t s) else nI t
noncomputable def mwroX (I : Nat → Nat → Int32) (sv : Say) (nr : Nat) (g t : Int32) : Int32 :=
  if isG (xv I) g ∧ isSp (xv I) t then mwrg I sv g (spB t + 1 - spA t) (spA t) (cst (xv I) g nr) else -2
theorem sim_mwrg {I : Nat → Nat → Int32} {sv : Say} {g : Int32} {G : Nat → Prop} : ∀ (m t : Nat) (s s' : RdS), sim G s s' → mwrg I sv g m t s = mwrg I sv g m t s' := by
  intro m
  induction m with
  | zero => intro t s s' _; rfl
  | succ m ih =>
    intro t s s' h
    have g1 := sim_stp (I := xv I) (sv := sv) (t := t) h
    unfold mwrg
    rw [g1.2, ih _ _ _ g1.1]
section
variable (E : gEnv) (I : Nat → Nat → Int32) (L : Nat → Nat → Int64)
set_option maxHeartbeats 1000000 in
theorem m_wrong (T : Tx) (hR : mR I T) (nr : Nat) (hnr : nr ≤ 12) (hcr : I 0 17 = nI nr) (hst : ∀ r, r < nr → 0 ≤ I 12 r) (nt : Nat) (hnt : nt ≤ 40) (hct : I 0 11 = nI nt) (g t : Int32) :
    gCtr E 46 0 0 nX10_wrong [.ref 0, .int g, .int t] (wM I L) (fun v u' => v = some (.int (mwroX I (svT T (xv I)) nr g t)) ∧ ∃ I' L', u' = wM I' L' ∧ mgf I I') := by
  refine gstart iX10_wrong tX10_wrong rfl rfl (fun K ca hK hca => ?_)
  refine hK [33] 60 _ _ _ _ _ _ ?_
  have bad : ¬ (isG (xv I) g ∧ isSp (xv I) t) → some (Value.int (-2)) = some (.int (mwroX I (svT T (xv I)) nr g t)) ∧ ∃ I' L', (wM I L) = wM I' L' ∧ mgf I I' := fun h => by
    unfold mwroX; rw [if_neg h]; exact ⟨rfl, I, L, rfl, mgf_refl I⟩
  refine gcall0 hca (m_isGroup E I L g nr hnr hcr) rfl ?_
  rintro w u' - ⟨rfl, rfl⟩
  refine gbr_p (fun h1 => bad (fun z => h1 z.1)) (fun h1 => ?_)
  refine gcall0 hca (m_areTenths E I L t nt hnt hct) rfl ?_
  rintro w u' - ⟨rfl, rfl⟩
  refine gbr_p (fun h2 => bad (fun z => h2 z.2)) (fun h2 => ?_)
  clear bad
  have hX : mwroX I (svT T (xv I)) nr g t = _ := if_pos ⟨h1, h2⟩
  rw [hX] at hK
  obtain ⟨e1, e2, e3, e4, e5⟩ := spAB hnt (by rw [← hct]; exact h2)
  refine gcall0 hca (m_begins E I L 0 (by omega) g nr hnr hcr hst) rfl ?_
  rintro w u' - ⟨rfl, J1, rfl, hf, h17, h16, hm⟩
  have hsim : sim (mem g nr) (bgR g nr, 0, (fun r => J1 16 (12 * 0 + r)), -1, 1) (cst (xv I) g nr) := ⟨rfl, rfl, fun r hr => h16 r hr.1, fun _ hr => bgR_mem hr⟩
  obtain ⟨V, hV⟩ : ∃ V, V = xv I := ⟨_, rfl⟩
  have hW := sim_mwrg (I := I) (sv := svT T (xv I)) (g := g) (spB t + 1 - spA t) (spA t) _ _ hsim
  rw [← hW] at hK
  obtain ⟨D, hD⟩ : ∃ D, D = mwrg I (svT T (xv I)) g (spB t + 1 - spA t) (spA t) (bgR g nr, 0, (fun r => J1 16 (12 * 0 + r)), -1, 1) := ⟨_, rfl⟩
  rw [← hD] at hK
  have found : ∀ (i : Nat) (J : Nat → Nat → Int32) (M : Nat → Nat → Int64) (x : Option Value) (f : Int32), i ≤ spB t + 1 → mgf I J → ¬ f = -1 → f = D → K 0 0 33 [some (.ref 0), some (.int g), some (.int t), some (.int f), some (.int (nI i)), x] [] (wM J M) := by
    intro i J M x f hi hf hne he
    refine hK [33] 60 _ _ _ _ _ _ ?_
    refine gsd_i (by decide) ?_
    refine gbr_gt (i := i) (b := spB t) e2 (by omega) (by omega) (fun _ => ?_) (fun _ => ?_)
    · exact ⟨by rw [he], J, M, rfl, hf⟩
    · refine gbr_i (fun z => absurd z hne) (fun _ => ?_)
      exact ⟨by rw [he], J, M, rfl, hf⟩
  have loop : ∀ (c i : Nat) (J : Nat → Nat → Int32) (M : Nat → Nat → Int64) (s : RdS) (x : Option Value), spB t + 1 = i + c → mgf I J → mrd J 0 s.1 s.2.1 s.2.2.1 → mwrg I (svT T (xv I)) g c i s = D → K 0 0 33 [some (.ref 0), some (.int g), some (.int t), some (.int (-1)), some (.int (nI i)), x] [] (wM J M) := by
    intro c
    induction c with
    | zero =>
      intro i J M s x hi hf hm hr
      refine hK [33] 60 _ _ _ _ _ _ ?_
      refine gsd_i (by decide) ?_
      refine gbr_gt (i := i) (b := spB t) e2 (by omega) (by omega) (fun _ => ?_) (fun z => absurd z (by omega))
      exact ⟨by rw [← hr]; rfl, J, M, rfl, hf⟩
    | succ c ih =>
      intro i J M s x hi hf hm hr
      refine hK [33] 60 _ _ _ _ _ _ ?_
      refine gsd_i (by decide) ?_
      refine gbr_gt (i := i) (b := spB t) e2 (by omega) (by omega) (fun z => absurd z (by omega)) (fun _ => ?_)
      refine gbr_i (fun _ => ?_) (fun z => absurd rfl z)
      refine gcall0 hca (m_rides E J M T (mR_mgf hR hf) 0 (by omega) i (by omega) s hm) rfl ?_
      rintro w u' - ⟨rfl, J2, M2, rfl, hf2, hm2, h172⟩
      rw [xv_mgf hf] at hm2 h172
      have hf3 := mgf_trans hf (mfk_mgf hf2)
      have hci : (nI i).toNatClampNeg = i := nI_clamp (by omega)
      have e7 : J2 7 (nI i).toNatClampNeg = I 7 i := by rw [hci, hf3.1 7 (by decide) (by decide)]
      have er : mwrg I (svT T (xv I)) g (c + 1) i s = if (I 7 i &&& g) &&& ((if (stpX (xv I) (svT T (xv I)) i s).2.2.2.1 = -1 then (0 : Int32) else (1 : Int32) <<< ((stpX (xv I) (svT T (xv I)) i s).2.2.2.1 &&& 31)) ^^^ -1) = 0 then mwrg I (svT T (xv I)) g c (i + 1) (stpX (xv I) (svT T (xv I)) i s) else nI i := rfl
      rw [er, ← h172, ← e7] at hr
      have next : ∀ (fr : Int32) (x : Option Value), (if J2 17 0 = -1 then (0 : Int32) else (1 : Int32) <<< (J2 17 0 &&& 31)) = fr → (J2 7 (nI i).toNatClampNeg &&& g) &&& (fr ^^^ -1) = 0 → K 0 0 33 [some (.ref 0), some (.int g), some (.int t), some (.int (-1)), some (.int (nI i + 1)), x] [] (wM J2 M2) := fun fr x h1 h2 => by
        rw [h1, if_pos h2] at hr
        rw [nI_1]
        exact ih (i + 1) J2 M2 _ x (by omega) hf3 hm2 hr
      have stop : ∀ (fr : Int32) (x : Option Value), (if J2 17 0 = -1 then (0 : Int32) else (1 : Int32) <<< (J2 17 0 &&& 31)) = fr → ¬ (J2 7 (nI i).toNatClampNeg &&& g) &&& (fr ^^^ -1) = 0 → K 0 0 33 [some (.ref 0), some (.int g), some (.int t), some (.int (nI i)), some (.int (nI i + 1)), x] [] (wM J2 M2) := fun fr x h1 h2 => by
        rw [h1, if_neg h2] at hr
        rw [nI_1]
        refine found (i + 1) J2 M2 x (nI i) (by omega) hf3 (fun q => ?_) hr
        have := congrArg Int32.toInt q
        rw [nI_toInt (by omega)] at this
        simp only [Int32.reduceToInt] at this
        omega
      refine gsd_i (vp_in_nI (by omega : 0 < 2) (by omega)) (gbr_i (fun z1 => ?_) (fun z1 => ?_))
      · refine gsd_i (vp_in_nI (by omega) (by omega)) (gbr_i (fun z2 => ?_) (fun z2 => ?_))
        · exact next 0 _ (if_pos z1) z2
        · exact stop 0 _ (if_pos z1) z2
      · refine gsd_i (vp_in_nI (by omega : 0 < 2) (by omega)) (gsd_i (vp_in_nI (by omega) (by omega)) (gbr_i (fun z2 => ?_) (fun z2 => ?_)))
        · exact next _ _ (if_neg z1) z2
        · exact stop _ _ (if_neg z1) z2
  have := loop (spB t + 1 - spA t) (spA t) J1 L (bgR g nr, 0, (fun r => J1 16 (12 * 0 + r)), -1, 1) none (by omega) (mfk_mgf hf) hm hD.symm
  rw [← e1] at this
  refine gsd_i (by decide) ?_
  exact this
end
