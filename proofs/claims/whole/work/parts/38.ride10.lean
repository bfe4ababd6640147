-- goes, wrong
theorem bit_own : ∀ r, r < 12 → (((1 : Int32) <<< (nI r &&& 31)) >>> (nI r &&& 31)) &&& 1 = 1 := by decide +kernel
noncomputable def goN (I : Nat → Nat → Int32) (sv : Say) (nr : Nat) (r g : Int32) : Nat → Nat → Int32
  | 0, _ => -1
  | m + 1, i => if gaw I sv r.toNatClampNeg (m + 1) i (cst I (1 <<< (r &&& 31)) nr) (cst I (g &&& ((1 <<< (r &&& 31)) ^^^ -1)) nr) 0 = 0 then goN I sv nr r g m (i + 1) else nI i
noncomputable def goesX (I : Nat → Nat → Int32) (sv : Say) (nr nt : Nat) (r g : Int32) : Int32 :=
  if (0 ≤ r ∧ r < I 6 6) ∧ isG I g then goN I sv nr r g nt 0 else -2
theorem goN_s {I : Nat → Nat → Int32} {sv : Say} {nr : Nat} {r g : Int32} (m i : Nat) : goN I sv nr r g (m + 1) i = if gaw I sv r.toNatClampNeg (m + 1) i (cst I (1 <<< (r &&& 31)) nr) (cst I (g &&& ((1 <<< (r &&& 31)) ^^^ -1)) nr) 0 = 0 then goN I sv nr r g m (i + 1) else nI i := rfl
/-- one of the group that wasn't at the front was filmed -/
def wrF (L : Nat → Nat → Int64) (nr : Nat) (g : Int32) (t : Nat) (f : Int32) : Prop := ∃ r, r < nr ∧ flm L (if f = -1 then g else g &&& ((1 <<< (f &&& 31)) ^^^ -1)) (nI t) r
noncomputable def wrg (I : Nat → Nat → Int32) (L : Nat → Nat → Int64) (sv : Say) (nr : Nat) (g : Int32) : Nat → Nat → RdS → Int32
  | 0, _, _ => -1
  | m + 1, t, s => @ite _ (wrF L nr g t (stpX I sv t s).2.2.2.1) (Classical.propDecidable _) (nI t) (wrg I L sv nr g m (t + 1) (stpX I sv t s))
theorem wrg_s {I : Nat → Nat → Int32} {L : Nat → Nat → Int64} {sv : Say} {nr : Nat} {g : Int32} (m t : Nat) (s : RdS) : wrg I L sv nr g (m + 1) t s = @ite _ (wrF L nr g t (stpX I sv t s).2.2.2.1) (Classical.propDecidable _) (nI t) (wrg I L sv nr g m (t + 1) (stpX I sv t s)) := rfl
theorem wrF_p {L : Nat → Nat → Int64} {nr : Nat} {g : Int32} {t : Nat} {f : Int32} (h : f = -1) : wrF L nr g t f = ∃ r, r < nr ∧ flm L g (nI t) r := by unfold wrF; rw [if_pos h]
theorem wrF_n {L : Nat → Nat → Int64} {nr : Nat} {g : Int32} {t : Nat} {f : Int32} (h : ¬ f = -1) : wrF L nr g t f = ∃ r, r < nr ∧ flm L (g &&& ((1 <<< (f &&& 31)) ^^^ -1)) (nI t) r := by unfold wrF; rw [if_neg h]
noncomputable def wrongX (I : Nat → Nat → Int32) (L : Nat → Nat → Int64) (sv : Say) (nr : Nat) (g t : Int32) : Int32 :=
  if isG I g ∧ isSp I t then wrg I L sv nr g (spB t + 1 - spA t) (spA t) (cst I g nr) else -2
theorem sim_wrg {I : Nat → Nat → Int32} {L : Nat → Nat → Int64} {sv : Say} {nr : Nat} {g : Int32} {G : Nat → Prop} : ∀ (m t : Nat) (s s' : RdS), sim G s s' → wrg I L sv nr g m t s = wrg I L sv nr g m t s' := by
  intro m
  induction m with
  | zero => intro t s s' _; rfl
  | succ m ih =>
    intro t s s' h
    have g1 := sim_stp (I := I) (sv := sv) (t := t) h
    unfold wrg
    rw [g1.2, ih _ _ _ g1.1]
section
variable (E : gEnv) (c : Nat) (ln : Nat → Nat) (I : Nat → Nat → Int32) (L : Nat → Nat → Int64)
set_option maxHeartbeats 1000000 in
theorem c_getsAway (J : Nat → Nat → Int32) (hf0 : frh I J) (ru : Nat) (hru : ru < c) (hc : c ≤ 6) (hrl : I 17 6 = nI ru) (hok : ruleOk I ln ru) (nr : Nat) (hnr : nr ≤ 12) (hcr : I 6 6 = nI nr) (nt : Nat) (hnt : nt ≤ 40) (hct : I 1 4 = nI nt) (r : Nat) (hr : r < nr) (o : Int32) (i m : Nat) (hi : i + m = nt) :
    gCtr E 8 0 0 nX9_getsAway [.ref 0, .int (nI r), .int o, .int (nI i)] (wX c ln J L) (fun v u' => v = some (.int (gaw I (svX I ln ru) r m i (cst I (1 <<< (nI r &&& 31)) nr) (cst I o nr) 0)) ∧ ∃ I', u' = wX c ln I' L ∧ frh I I') := by
  refine gstart iX9_getsAway tX9_getsAway rfl rfl (fun K ca hK hca => ?_)
  have hcr12 : (nI r).toNatClampNeg = r := nI_clamp (by omega)
  have loop : ∀ (m' i' : Nat) (J : Nat → Nat → Int32) (s1 s2 : RdS) (n : Int32), i' + m' = nt → rdS J 21 s1 → rdS J 24 s2 → frh I J → gaw I (svX I ln ru) r m' i' s1 s2 n = gaw I (svX I ln ru) r m i (cst I (1 <<< (nI r &&& 31)) nr) (cst I o nr) 0 → K 0 0 14 [some (.ref 0), some (.int (nI r)), some (.int o), some (.int (nI i)), some (.int n), some (.int (nI i'))] [] (wX c ln J L) := by
    intro m'
    induction m' with
    | zero =>
      intro i' J s1 s2 n hi' hr1 hr2 hf he
      refine hK [14] 60 _ _ _ _ _ _ ?_
      refine gbr_lp (n := nt) (by show J 1 4 = _; rw [hf 1 (by decide) (by decide) (by decide), hct]) (by omega) (by omega) (fun _ => ?_) (fun z => by omega)
      rw [← he]
      exact gsd_i (Or.inr rfl) ⟨rfl, J, rfl, hf⟩
    | succ m' ih =>
      intro i' J s1 s2 n hi' hr1 hr2 hf he
      refine hK [14] 60 _ _ _ _ _ _ ?_
      refine gbr_lp (n := nt) (by show J 1 4 = _; rw [hf 1 (by decide) (by decide) (by decide), hct]) (by omega) (by omega) (fun e => by omega) (fun _ => ?_)
      refine gcall0 hca (c_gained E c ln J L ru hru hc (by rw [hf 17 (by decide) (by decide) (by decide), hrl]) (ruleOk_congr (fun k hk => hf k (by omega) (by omega) (by omega)) hok) s1 s2 hr1 hr2 i' (by omega)) rfl ?_
      rintro w u' - ⟨rfl, J2, rfl, g1, g2, hf2⟩
      rw [stpX_I hf, stpX_I hf]
      rw [stpX_I hf] at g1 g2
      have hst : J2 22 (nI r).toNatClampNeg = (stpX I (svX I ln ru) i' s1).2.2.1 r := by rw [hcr12]; exact congrFun g1.1.2.2.2.1 r
      have he' : (if n + ((stpX I (svX I ln ru) i' s1).2.2.2.2 - (stpX I (svX I ln ru) i' s2).2.2.2.2) ≤ 0 ∨ (stpX I (svX I ln ru) i' s1).2.2.1 r = 0 then 0 else gaw I (svX I ln ru) r m' (i' + 1) (stpX I (svX I ln ru) i' s1) (stpX I (svX I ln ru) i' s2) (n + ((stpX I (svX I ln ru) i' s1).2.2.2.2 - (stpX I (svX I ln ru) i' s2).2.2.2.2))) = gaw I (svX I ln ru) r m i (cst I (1 <<< (nI r &&& 31)) nr) (cst I o nr) 0 := he
      refine gbr_i (fun h4 => ?_) (fun h4 => ?_)
      · rw [if_pos (Or.inl h4)] at he'
        rw [← he']
        exact gsd_i (Or.inl rfl) ⟨rfl, J2, rfl, frh_trans hf hf2⟩
      · refine gsd_i (vp_in_nI (by omega) (by omega)) (gbr_i (fun h5 => ?_) (fun h5 => ?_))
        · have h5' : J2 22 (nI r).toNatClampNeg = 0 := h5
          rw [hst] at h5'
          rw [if_pos (Or.inr h5')] at he'
          rw [← he']
          exact gsd_i (Or.inl rfl) ⟨rfl, J2, rfl, frh_trans hf hf2⟩
        · have h5' : ¬ J2 22 (nI r).toNatClampNeg = 0 := h5
          rw [hst] at h5'
          rw [if_neg (fun z => z.elim h4 h5')] at he'
          have := ih (i' + 1) J2 _ _ _ (by omega) g1 g2 (frh_trans hf hf2) he'
          rw [← nI_1] at this
          exact this
  refine hK [14] 60 _ _ _ _ _ _ ?_
  refine gcall0 hca (c_beginChase E c ln J L nr hnr (by rw [hf0 6 (by decide) (by decide) (by decide), hcr]) (1 <<< (nI r &&& 31)) o) rfl ?_
  rintro w u' - ⟨rfl, J1, rfl, g1, g2, hf⟩
  have hcs : ∀ g, cst J g nr = cst I g nr := fun g => by unfold cst; rw [hf0 11 (by decide) (by decide) (by decide)]
  refine loop m i J1 _ _ 0 hi g1 g2 (frh_trans hf0 hf) ?_
  rw [← hcs, ← hcs]
  exact sim_gaw (G := mem (1 <<< (nI r &&& 31)) nr) (H := mem o nr) ⟨hr, bit_own r (by omega)⟩ _ _ _ _ _ _ _ sim_bgn sim_bgn
set_option maxHeartbeats 1000000 in
theorem p_goes (ru : Nat) (hru : ru < c) (hc : c ≤ 6) (hrl : I 17 6 = nI ru) (hok : ruleOk I ln ru) (nr : Nat) (hnr : nr ≤ 12) (hcr : I 6 6 = nI nr) (nt : Nat) (hnt : nt ≤ 40) (hct : I 1 4 = nI nt) (r g : Int32) :
    gCtr E 9 0 0 nX9_goes [.ref 0, .int r, .int g] (wX c ln I L) (fun v u' => v = some (.int (goesX I (svX I ln ru) nr nt r g)) ∧ ∃ I', u' = wX c ln I' L ∧ frh I I') := by
  refine gstart iX9_goes tX9_goes rfl rfl (fun K ca hK hca => ?_)
  refine hK [27] 60 _ _ _ _ _ _ ?_
  have bad : ¬ ((0 ≤ r ∧ r < I 6 6) ∧ isG I g) → some (Value.int (-2)) = some (.int (goesX I (svX I ln ru) nr nt r g)) ∧ ∃ I', wX c ln I L = wX c ln I' L ∧ frh I I' := fun h => by
    unfold goesX; rw [if_neg h]; exact ⟨rfl, I, rfl, frh_refl I⟩
  refine gcall0 hca (c_thas E c ln I L r) rfl ?_
  rintro w u' - ⟨rfl, rfl⟩
  refine gbr_p (fun h1 => bad (fun z => h1 z.1)) (fun h1 => ?_)
  refine gcall0 hca (c_isGroup E c ln I L g) rfl ?_
  rintro w u' - ⟨rfl, rfl⟩
  refine gbr_p (fun h2 => bad (fun z => h2 z.2)) (fun h2 => ?_)
  clear bad
  have hX : goesX I (svX I ln ru) nr nt r g = _ := if_pos ⟨h1, h2⟩
  rw [hX] at hK
  obtain ⟨rn, hrn, rfl⟩ : ∃ rn, rn < nr ∧ r = nI rn := by
    obtain ⟨rn, hrn, hrr⟩ := vp_in_of (gin_of (r := r) (by rw [← hcr]; exact h1) hnr (by omega)) (by omega)
    rw [hrr, hcr] at h1
    exact ⟨rn, (nI_ltI (by omega) (by omega)).mp h1.2, hrr⟩
  have hcl : (nI rn).toNatClampNeg = rn := nI_clamp (by omega)
  have loop : ∀ (m i : Nat) (J : Nat → Nat → Int32), i + m = nt → frh I J → goN I (svX I ln ru) nr (nI rn) g m i = goN I (svX I ln ru) nr (nI rn) g nt 0 → K 0 0 27 [some (.ref 0), some (.int (nI rn)), some (.int g), some (.int (nI i))] [] (wX c ln J L) := by
    intro m
    induction m with
    | zero =>
      intro i J hi hf he
      refine hK [27] 60 _ _ _ _ _ _ ?_
      refine gbr_lp (n := nt) (by show J 1 4 = _; rw [hf 1 (by decide) (by decide) (by decide), hct]) (by omega) (by omega) (fun _ => ?_) (fun z => by omega)
      rw [← he]
      exact ⟨rfl, J, rfl, hf⟩
    | succ m ih =>
      intro i J hi hf he
      refine hK [27] 60 _ _ _ _ _ _ ?_
      refine gbr_lp (n := nt) (by show J 1 4 = _; rw [hf 1 (by decide) (by decide) (by decide), hct]) (by omega) (by omega) (fun e => by omega) (fun _ => ?_)
      refine gcall0 hca (c_getsAway E c ln I L J hf ru hru hc hrl hok nr hnr hcr nt hnt hct rn hrn (g &&& ((1 <<< (nI rn &&& 31)) ^^^ -1)) i (m + 1) hi) rfl ?_
      rintro w u' - ⟨rfl, J2, rfl, hf2⟩
      rw [goN_s, hcl] at he
      refine gbr_i (fun h4 => ?_) (fun h4 => ?_)
      · rw [if_pos h4] at he
        have := ih (i + 1) J2 (by omega) hf2 he
        rw [← nI_1] at this
        exact this
      · rw [if_neg h4] at he
        rw [← he]
        exact ⟨rfl, J2, rfl, hf2⟩
  exact loop nt 0 I (by omega) (frh_refl I) rfl
set_option maxHeartbeats 1000000 in
theorem p_wrong (ru : Nat) (hru : ru < c) (hc : c ≤ 6) (hrl : I 17 6 = nI ru) (hok : ruleOk I ln ru) (nr : Nat) (hnr : nr ≤ 12) (hcr : I 6 6 = nI nr) (nt : Nat) (hnt : nt ≤ 40) (hct : I 1 4 = nI nt) (g t : Int32) :
    gCtr E 8 0 0 nX9_wrong [.ref 0, .int g, .int t] (wX c ln I L) (fun v u' => v = some (.int (wrongX I L (svX I ln ru) nr g t)) ∧ ∃ I', u' = wX c ln I' L ∧ frh I I') := by
  refine gstart iX9_wrong tX9_wrong rfl rfl (fun K ca hK hca => ?_)
  refine hK [29] 60 _ _ _ _ _ _ ?_
  refine gcall0 hca (c_isRide E c ln I L g t) rfl ?_
  rintro w u' - ⟨rfl, rfl⟩
  refine gbr_p (fun h1 => ?_) (fun h1 => ?_)
  · unfold wrongX; rw [if_neg h1]; exact ⟨rfl, I, rfl, frh_refl I⟩
  have hX : wrongX I L (svX I ln ru) nr g t = _ := if_pos h1
  rw [hX] at hK
  obtain ⟨e1, e2, e3, e4, e5⟩ := spAB hnt (by rw [← hct]; exact h1.2)
  have loop : ∀ (m i : Nat) (J : Nat → Nat → Int32) (s : RdS) (x : Option Value), i + m = spB t + 1 → rdS J 21 s → frg I J 21 → wrg I L (svX I ln ru) nr g m i s = wrg I L (svX I ln ru) nr g (spB t + 1 - spA t) (spA t) (cst I g nr) → K 0 0 29 [some (.ref 0), some (.int g), some (.int t), some (.int (nI i)), x] [] (wX c ln J L) := by
    intro m
    induction m with
    | zero =>
      intro i J s x hi hr hf he
      refine hK [29] 60 _ _ _ _ _ _ ?_
      refine gcall0 hca (c_spanTo E c ln J L t) rfl ?_
      rintro w u' - ⟨rfl, rfl⟩
      rw [e2]
      refine gbr_gt rfl (by omega) (by omega) (fun _ => ?_) (fun z => by omega)
      rw [← he]
      exact ⟨rfl, J, rfl, frh_frg (by decide) hf⟩
    | succ m ih =>
      intro i J s x hi hr hf he
      refine hK [29] 60 _ _ _ _ _ _ ?_
      refine gcall0 hca (c_spanTo E c ln J L t) rfl ?_
      rintro w u' - ⟨rfl, rfl⟩
      rw [e2]
      refine gbr_gt rfl (by omega) (by omega) (fun e => by omega) (fun _ => ?_)
      refine gcall0 hca (c21_go E c ln J L ru hru hc (by rw [hf 17 (by decide) (by decide) (by decide) (by decide) (by decide), hrl]) (ruleOk_congr (fun k hk => hf k (by omega) (by omega) (by omega) (by omega) (by omega)) hok) s hr.1 (nI i) (vp_in_nI (by omega) (by omega))) rfl ?_
      rintro w u' - ⟨rfl, J', rfl, hr', hf'⟩
      rw [stpX_eq (frh_frg (by decide) hf)] at hr'
      have hf2 := frg_trans hf hf'
      have hfr : J' 21 7 = (stpX I (svX I ln ru) i s).2.2.2.1 := hr'.2.1
      rw [wrg_s] at he
      have hct6 : J' 6 6 = nI nr := by rw [hf2 6 (by decide) (by decide) (by decide) (by decide) (by decide), hcr]
      refine gbr_i (fun h4 => ?_) (fun h4 => ?_)
      · have h4' : J' 21 7 = -1 := h4
        rw [hfr] at h4'
        rw [wrF_p h4'] at he
        refine gcall0 hca (c_someFilmed E c ln J' L g (nI i) nr hnr hct6) rfl ?_
        rintro w u' - ⟨rfl, (⟨rfl, hw⟩ | ⟨rfl, hw⟩)⟩
        · refine gbr_i (fun z => absurd z (by decide)) (fun _ => ?_)
          rw [if_pos hw] at he
          rw [← he]
          exact ⟨rfl, J', rfl, frh_frg (by decide) hf2⟩
        · refine gbr_i (fun _ => ?_) (fun z => absurd rfl z)
          rw [if_neg hw] at he
          have := ih (i + 1) J' _ (some (.int g)) (by omega) hr' hf2 he
          rw [← nI_1] at this
          exact this
      · have h4' : ¬ J' 21 7 = -1 := h4
        rw [hfr] at h4'
        rw [wrF_n h4', ← hfr] at he
        refine gcall0 hca (c_someFilmed E c ln J' L (g &&& ((1 <<< (J' 21 7 &&& 31)) ^^^ -1)) (nI i) nr hnr hct6) rfl ?_
        rintro w u' - ⟨rfl, (⟨rfl, hw⟩ | ⟨rfl, hw⟩)⟩
        · refine gbr_i (fun z => absurd z (by decide)) (fun _ => ?_)
          rw [if_pos hw] at he
          rw [← he]
          exact ⟨rfl, J', rfl, frh_frg (by decide) hf2⟩
        · refine gbr_i (fun _ => ?_) (fun z => absurd rfl z)
          rw [if_neg hw] at he
          have := ih (i + 1) J' _ (some (.int (g &&& ((1 <<< (J' 21 7 &&& 31)) ^^^ -1)))) (by omega) hr' hf2 he
          rw [← nI_1] at this
          exact this
  refine gcall0 hca (c21_begin E c ln I L nr hnr hcr g) rfl ?_
  rintro w u' - ⟨rfl, I', rfl, hr, h7, h8, hf⟩
  refine gcall0 hca (c_spanFrom E c ln I' L t) rfl ?_
  rintro w u' - ⟨rfl, rfl⟩
  rw [e1]
  exact loop _ _ I' (bgn I 21 g nr) none (by omega) ⟨hr, h7, h8⟩ hf (sim_wrg _ _ _ _ sim_bgn)
end
