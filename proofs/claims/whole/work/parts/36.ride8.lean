-- public methods of rides: ride, spent, ridden, wrong
abbrev isG (I : Nat → Nat → Int32) (g : Int32) : Prop := 0 < g ∧ g >>> (I 6 6 &&& 31) = 0
abbrev isSp (I : Nat → Nat → Int32) (t : Int32) : Prop := 0 ≤ t ∧ t / 100 ≤ t - t / 100 * 100 ∧ t - t / 100 * 100 < I 1 4
def spA (t : Int32) : Nat := (t / 100).toNatClampNeg
def spB (t : Int32) : Nat := (t - t / 100 * 100).toNatClampNeg
theorem spAB {t : Int32} {nt : Nat} (hnt : nt ≤ 40) (h : 0 ≤ t ∧ t / 100 ≤ t - t / 100 * 100 ∧ t - t / 100 * 100 < nI nt) : t / 100 = nI (spA t) ∧ t - t / 100 * 100 = nI (spB t) ∧ spA t ≤ spB t ∧ spB t < nt ∧ t.toInt = 100 * spA t + spB t := by
  obtain ⟨a, b, h1, h2, h3, h4, h5⟩ := spn hnt h
  have ea : spA t = a := by unfold spA; rw [h1]; exact nI_clamp (by omega)
  have eb : spB t = b := by unfold spB; rw [h2]; exact nI_clamp (by omega)
  rw [ea, eb]
  exact ⟨h1, h2, h3, h4, h5⟩
/-- a whole ride: how it stands behind; how far -/
noncomputable def rdE (I : Nat → Nat → Int32) (sv : Say) (nr : Nat) (g t : Int32) : RdS := ron I sv (spB t + 1 - spA t) (spA t) (cst I g nr)
noncomputable def rdF (I : Nat → Nat → Int32) (sv : Say) (nr : Nat) (g t : Int32) : Int32 := rfr I sv (spB t + 1 - spA t) (spA t) (cst I g nr) 0
noncomputable def rideX (I : Nat → Nat → Int32) (sv : Say) (nr : Nat) (g t what : Int32) : Int32 :=
  if (isG I g ∧ isSp I t) ∧ 0 ≤ what ∧ what ≤ 2 then (if what = 0 then rdF I sv nr g t else if what = 1 then bts (rdE I sv nr g t).1 0 else (rdE I sv nr g t).2.2.2.1) else -2
noncomputable def spentX (I : Nat → Nat → Int32) (sv : Say) (nr : Nat) (g t r : Int32) : Int64 :=
  if (isG I g ∧ isSp I t) ∧ (0 ≤ r ∧ r < I 6 6) ∧ ¬ (g >>> (r &&& 31)) &&& 1 = 0 then (I 11 r.toNatClampNeg - (rdE I sv nr g t).2.2.1 r.toNatClampNeg).toInt64 else -4611686018427387904
noncomputable def riddX (I : Nat → Nat → Int32) (sv : Say) (nr : Nat) (g t : Int32) : Int32 × (Nat → Int32) :=
  if isG I g ∧ isSp I t then (bts (rdE I sv nr g t).1 0, bgS g (rdE I sv nr g t).2.2.1 (I 11) nr) else (-2, I 11)
theorem and1 (x : Int32) : x &&& 1 = 0 ∨ x &&& 1 = 1 := by
  obtain ⟨j, hj, h⟩ := pk_andE x (m := 1) 1 rfl
  match j, hj, h with
  | 0, _, h => exact Or.inl h
  | 1, _, h => exact Or.inr h
section
variable (E : gEnv) (c : Nat) (ln : Nat → Nat) (I : Nat → Nat → Int32) (L : Nat → Nat → Int64)
set_option maxHeartbeats 1000000 in
theorem p_ride (ru : Nat) (hru : ru < c) (hc : c ≤ 6) (hrl : I 17 6 = nI ru) (hok : ruleOk I ln ru) (nr : Nat) (hnr : nr ≤ 12) (hcr : I 6 6 = nI nr) (nt : Nat) (hnt : nt ≤ 40) (hct : I 1 4 = nI nt) (g t what : Int32) :
    gCtr E 8 0 0 nX9_ride [.ref 0, .int g, .int t, .int what] (wX c ln I L) (fun v u' => v = some (.int (rideX I (svX I ln ru) nr g t what)) ∧ ∃ I', u' = wX c ln I' L ∧ frh I I') := by
  refine gstart iX9_ride tX9_ride rfl rfl (fun K ca hK hca => ?_)
  refine hK [] 80 _ _ _ _ _ _ ?_
  clear hK
  have bad : ¬ ((isG I g ∧ isSp I t) ∧ 0 ≤ what ∧ what ≤ 2) → some (Value.int (-2)) = some (.int (rideX I (svX I ln ru) nr g t what)) ∧ ∃ I', wX c ln I L = wX c ln I' L ∧ frh I I' := fun h => by
    unfold rideX; rw [if_neg h]; exact ⟨rfl, I, rfl, frh_refl I⟩
  refine gcall0 hca (c_isRide E c ln I L g t) rfl ?_
  rintro w u' - ⟨rfl, rfl⟩
  refine gbr_p (fun h1 => bad (fun z => h1 z.1)) (fun h1 => ?_)
  refine gbr_i (fun h2 => bad (fun z => by have := z.2; clear z bad hca hcr hct hrl h1; (simp only [Int32.lt_iff_toInt_lt, Int32.le_iff_toInt_le, ← Int32.toInt_inj, Int32.reduceToInt] at *; omega))) (fun h2 => ?_)
  refine gbr_i (fun h3 => ?_) (fun h3 => bad (fun z => h3 z.2.2))
  have good : (isG I g ∧ isSp I t) ∧ 0 ≤ what ∧ what ≤ 2 := ⟨h1, by clear bad hca hcr hct hrl h1; (simp only [Int32.lt_iff_toInt_lt, Int32.le_iff_toInt_le, ← Int32.toInt_inj, Int32.reduceToInt] at *; omega), h3⟩
  obtain ⟨e1, e2, e3, e4, e5⟩ := spAB hnt (by rw [← hct]; exact h1.2)
  refine gcall0 hca (c_rideAll E c ln I L ru hru hc hrl hok nr hnr hcr nt hnt g t _ _ e1 e2 e3 e4) rfl ?_
  rintro w u' - ⟨rfl, I', rfl, hr, hf⟩
  have hsim := sim_ron (I := I) (sv := svX I ln ru) (spB t + 1 - spA t) (spA t) _ _ (sim_bgn (I := I) (o := 21) (nr := nr) (g := g))
  have hX : rideX I (svX I ln ru) nr g t what = _ := if_pos good
  rw [hX]
  unfold rdF rdE
  refine gbr_i (fun h4 => ?_) (fun h4 => ?_)
  · rw [if_pos h4, sim_rfr _ _ _ _ _ (sim_bgn (I := I) (o := 21) (nr := nr) (g := g))]; exact ⟨rfl, I', rfl, frh_frg (by decide) hf⟩
  rw [if_neg h4]
  refine gbr_i (fun h5 => ?_) (fun h5 => ?_)
  · rw [if_pos h5]
    refine gcall0 hca (c21_left E c ln I' L _ _ _ hr.1) rfl ?_
    rintro w u' - ⟨rfl, rfl⟩
    rw [hsim.1.1]
    exact ⟨rfl, I', rfl, frh_frg (by decide) hf⟩
  · rw [if_neg h5]
    refine ⟨?_, I', rfl, frh_frg (by decide) hf⟩
    show some (Value.int (I' 21 7)) = _
    rw [hr.2.1, hsim.2 (by omega)]
set_option maxHeartbeats 1000000 in
theorem p_spent (ru : Nat) (hru : ru < c) (hc : c ≤ 6) (hrl : I 17 6 = nI ru) (hok : ruleOk I ln ru) (nr : Nat) (hnr : nr ≤ 12) (hcr : I 6 6 = nI nr) (nt : Nat) (hnt : nt ≤ 40) (hct : I 1 4 = nI nt) (g t r : Int32) :
    gCtr E 8 0 0 nX9_spent [.ref 0, .int g, .int t, .int r] (wX c ln I L) (fun v u' => v = some (.long (spentX I (svX I ln ru) nr g t r)) ∧ ∃ I', u' = wX c ln I' L ∧ frh I I') := by
  refine gstart iX9_spent tX9_spent rfl rfl (fun K ca hK hca => ?_)
  refine hK [] 80 _ _ _ _ _ _ ?_
  clear hK
  have bad : ¬ ((isG I g ∧ isSp I t) ∧ (0 ≤ r ∧ r < I 6 6) ∧ ¬ (g >>> (r &&& 31)) &&& 1 = 0) → some (Value.long (-4611686018427387904)) = some (.long (spentX I (svX I ln ru) nr g t r)) ∧ ∃ I', wX c ln I L = wX c ln I' L ∧ frh I I' := fun h => by
    unfold spentX; rw [if_neg h]; exact ⟨rfl, I, rfl, frh_refl I⟩
  refine gcall0 hca (c_isRide E c ln I L g t) rfl ?_
  rintro w u' - ⟨rfl, rfl⟩
  refine gbr_p (fun h1 => bad (fun z => h1 z.1)) (fun h1 => ?_)
  refine gcall0 hca (c_thas E c ln I L r) rfl ?_
  rintro w u' - ⟨rfl, rfl⟩
  refine gbr_p (fun h2 => bad (fun z => h2 z.2.1)) (fun h2 => ?_)
  refine gbr_i (fun h3 => bad (fun z => z.2.2 h3)) (fun h3 => ?_)
  have good : (isG I g ∧ isSp I t) ∧ (0 ≤ r ∧ r < I 6 6) ∧ ¬ (g >>> (r &&& 31)) &&& 1 = 0 := ⟨h1, h2, h3⟩
  have hv : vp_in r 12 := gin_of (by rw [← hcr]; exact h2) hnr (by omega)
  obtain ⟨e1, e2, e3, e4, e5⟩ := spAB hnt (by rw [← hct]; exact h1.2)
  refine gcall0 hca (c_rideAll E c ln I L ru hru hc hrl hok nr hnr hcr nt hnt g t _ _ e1 e2 e3 e4) rfl ?_
  rintro w u' - ⟨rfl, I', rfl, hr, hf⟩
  have hsim := sim_ron (I := I) (sv := svX I ln ru) (spB t + 1 - spA t) (spA t) _ _ (sim_bgn (I := I) (o := 21) (nr := nr) (g := g))
  have hX : spentX I (svX I ln ru) nr g t r = _ := if_pos good
  rw [hX]
  unfold rdE
  obtain ⟨rn, hrn, hrr⟩ := vp_in_of hv (by omega)
  have hm : mem g nr r.toNatClampNeg := by
    rw [hrr, nI_clamp (by omega)]
    rw [hrr, hcr] at h2
    rw [hrr] at h3
    exact ⟨(nI_ltI (by omega) (by omega)).mp h2.2, (and1 _).resolve_left h3⟩
  refine gsd_i hv (gsd_i hv ⟨?_, I', rfl, frh_frg (by decide) hf⟩)
  show some (Value.long (I' 11 r.toNatClampNeg - I' 22 r.toNatClampNeg).toInt64) = _
  rw [hf 11 (by decide) (by decide) (by decide) (by decide) (by decide), hr.1.2.2.2.1, hsim.1.2.2.1 _ hm]
set_option maxHeartbeats 1000000 in
theorem p_ridden (ru : Nat) (hru : ru < c) (hc : c ≤ 6) (hrl : I 17 6 = nI ru) (hok : ruleOk I ln ru) (nr : Nat) (hnr : nr ≤ 12) (hcr : I 6 6 = nI nr) (nt : Nat) (hnt : nt ≤ 40) (hct : I 1 4 = nI nt) (g t : Int32) :
    gCtr E 8 0 0 nX9_ridden [.ref 0, .int g, .int t] (wX c ln I L) (fun v u' => v = some (.int (riddX I (svX I ln ru) nr g t).1) ∧ ∃ I', u' = wX c ln I' L ∧ I' 11 = (riddX I (svX I ln ru) nr g t).2 ∧ ∀ k, k ≠ 11 → k ≠ 19 → k ≠ 20 → (k < 21 ∨ 26 < k) → I' k = I k) := by
  refine gstart iX9_ridden tX9_ridden rfl rfl (fun K ca hK hca => ?_)
  by_cases good : isG I g ∧ isSp I t
  · have hX : riddX I (svX I ln ru) nr g t = _ := if_pos good
    rw [hX] at hK
    refine hK [24] 80 _ _ _ _ _ _ ?_
    refine gcall0 hca (c_isRide E c ln I L g t) rfl ?_
    rintro w u' - ⟨rfl, rfl⟩
    refine gbr_p (fun h1 => absurd good h1) (fun _ => ?_)
    obtain ⟨e1, e2, e3, e4, e5⟩ := spAB hnt (by rw [← hct]; exact good.2)
    refine gcall0 hca (c_rideAll E c ln I L ru hru hc hrl hok nr hnr hcr nt hnt g t _ _ e1 e2 e3 e4) rfl ?_
    rintro w u' - ⟨rfl, J, rfl, hr, hf⟩
    have hsim := sim_ron (I := I) (sv := svX I ln ru) (spB t + 1 - spA t) (spA t) _ _ (sim_bgn (I := I) (o := 21) (nr := nr) (g := g))
    unfold rdE at hK
    generalize ron I (svX I ln ru) (spB t + 1 - spA t) (spA t) (bgn I 21 g nr) = S at hr hsim
    generalize ron I (svX I ln ru) (spB t + 1 - spA t) (spA t) (cst I g nr) = S' at hsim hK
    have hrd : rdX (gset J 11 (bgS g (J 22) (J 11) nr)) 21 S.1 S.2.1 S.2.2.1 := by
      obtain ⟨a1, a2, a3, a4, a5, a6⟩ := hr.1
      exact ⟨a1, a2, a3, a4, a5, a6⟩
    have loop := gloop (P := fun i => K 0 0 24 [some (.ref 0), some (.int g), some (.int t), some (.int (nI i))] [] (wX c ln (gset J 11 (bgS g (J 22) (J 11) i)) L)) (n := nr) (by
      refine hK [24] 60 _ _ _ _ _ _ ?_
      refine gbr_lp (n := nr) (by show J 6 6 = _; rw [hf 6 (by decide) (by decide) (by decide) (by decide) (by decide), hcr]) (by omega) (Nat.le_refl _) (fun _ => ?_) (fun z => absurd z (Nat.lt_irrefl _))
      refine gcall0 hca (c21_left E c ln (gset J 11 (bgS g (J 22) (J 11) nr)) L _ _ _ hrd) rfl ?_
      rintro w u' - ⟨rfl, rfl⟩
      rw [hsim.1.1]
      refine ⟨rfl, _, rfl, ?_, fun k a b d e => ?_⟩
      · rw [gset_s, hr.1.2.2.2.1, hf 11 (by decide) (by decide) (by decide) (by decide) (by decide)]
        funext r
        show bgS g S.2.2.1 (I 11) nr r = bgS g S'.2.2.1 (I 11) nr r
        unfold bgS
        by_cases hm : r < nr ∧ (g >>> (nI r &&& 31)) &&& 1 = 1
        · rw [if_pos hm, if_pos hm, hsim.1.2.2.1 r hm]
        · rw [if_neg hm, if_neg hm]
      · rw [gset_n a, hf k b d (by omega) (by omega) (by omega)]) (by
      intro i hi ih
      have hci : (nI i).toNatClampNeg = i := nI_clamp (by omega)
      have hvi : vp_in (nI i) 12 := vp_in_nI (by omega) (by omega)
      refine hK [24] 60 _ _ _ _ _ _ ?_
      refine gbr_lp (n := nr) (by show J 6 6 = _; rw [hf 6 (by decide) (by decide) (by decide) (by decide) (by decide), hcr]) (by omega) (by omega) (fun e => by omega) (fun _ => ?_)
      refine gbr_i (fun hb => ?_) (fun hb => ?_)
      · refine gsd_i hvi (gsd_i hvi ?_)
        rw [bgS_p hb, ← nI_1] at ih
        rw [gss, hci]
        exact ih
      · rw [bgS_n hb, ← nI_1] at ih
        exact ih)
    have h0 : gset J 11 (bgS g (J 22) (J 11) 0) = J := by
      have : bgS g (J 22) (J 11) 0 = J 11 := by funext r; exact if_neg (fun z => absurd z.1 (Nat.not_lt_zero _))
      rw [this, gset_self]
    have := loop 0 (Nat.zero_le _)
    rw [h0] at this
    exact this
  · have hX : riddX I (svX I ln ru) nr g t = _ := if_neg good
    rw [hX] at hK
    refine hK [24] 80 _ _ _ _ _ _ ?_
    refine gcall0 hca (c_isRide E c ln I L g t) rfl ?_
    rintro w u' - ⟨rfl, rfl⟩
    exact gbr_p (fun _ => ⟨rfl, I, rfl, rfl, fun _ _ _ _ _ => rfl⟩) (fun h1 => absurd h1 good)
end
