-- one tenth of a ride
/-- the row and since, turns having been taken -/
noncomputable def goT (I : Nat → Nat → Int32) (lf : Int32) (row : List Nat) (since : Int32) (st : Nat → Int32) : List Nat × Int32 := @ite _ (smw I st lf row) (Classical.propDecidable _) (ttn I st lf row.length row since) (row, since)
/-- how a ride stands: row, since, stores, front, pace -/
abbrev RdS := List Nat × Int32 × (Nat → Int32) × Int32 × Int32
noncomputable def gon (I : Nat → Nat → Int32) (sv : Say) (lf t : Int32) (s : RdS) : RdS :=
  if s.1 = [] then (s.1, s.2.1, s.2.2.1, -1, 1) else
    let q := goT I lf s.1 s.2.1 s.2.2.1
    let f := q.1.headD 0
    let st' := tir sv t 0 q.1 s.2.2.1
    (kp st' q.1, (if st' f = 0 then 0 else q.2 + 1), st', nI f, sv 2 (nI f) (s.2.2.1 f) t 0)
/-- the ride of cell o stands so -/
def rdS (I : Nat → Nat → Int32) (o : Nat) (s : RdS) : Prop := rdX I o s.1 s.2.1 s.2.2.1 ∧ I o 7 = s.2.2.2.1 ∧ I o 8 = s.2.2.2.2
theorem ttn_len {I : Nat → Nat → Int32} {st : Nat → Int32} {lf : Int32} : ∀ (n : Nat) (row : List Nat) (s : Int32), (ttn I st lf n row s).1.length = row.length := by
  intro n
  induction n with
  | zero => intro row s; rfl
  | succ n ih =>
    intro row s
    match row with
    | [] => rfl
    | f :: l =>
      show (if wkr I st lf f = 0 ∨ ¬ s < sty (I 7 f) (I 9 f) then ttn I st lf n (l ++ [f]) 0 else (f :: l, s)).1.length = _
      by_cases h : wkr I st lf f = 0 ∨ ¬ s < sty (I 7 f) (I 9 f)
      · rw [if_pos h, ih]; simp
      · rw [if_neg h]
theorem goT_len {I : Nat → Nat → Int32} {st : Nat → Int32} {lf : Int32} {row : List Nat} {s : Int32} : (goT I lf row s st).1.length = row.length := by
  unfold goT
  by_cases h : smw I st lf row
  · rw [if_pos h, ttn_len]
  · rw [if_neg h]
theorem ttn_congr {I I' : Nat → Nat → Int32} {st : Nat → Int32} {lf : Int32} (h7 : I' 7 = I 7) (h9 : I' 9 = I 9) : ∀ (n : Nat) (row : List Nat) (s : Int32), ttn I' st lf n row s = ttn I st lf n row s := by
  intro n
  induction n with
  | zero => intro row s; rfl
  | succ n ih =>
    intro row s
    match row with
    | [] => rfl
    | f :: l =>
      show (if wkr I' st lf f = 0 ∨ ¬ s < sty (I' 7 f) (I' 9 f) then ttn I' st lf n (l ++ [f]) 0 else (f :: l, s)) = (if wkr I st lf f = 0 ∨ ¬ s < sty (I 7 f) (I 9 f) then ttn I st lf n (l ++ [f]) 0 else (f :: l, s))
      unfold wkr
      rw [h7, h9, ih]
theorem goT_congr {I I' : Nat → Nat → Int32} {st : Nat → Int32} {lf : Int32} {row : List Nat} {s : Int32} (h7 : I' 7 = I 7) (h9 : I' 9 = I 9) : goT I' lf row s st = goT I lf row s st := by
  unfold goT
  rw [ttn_congr h7 h9]
  have : smw I' st lf row = smw I st lf row := by unfold smw wkr; rw [h7, h9]
  rw [this]
theorem gon_congr {I I' : Nat → Nat → Int32} {sv : Say} {lf t : Int32} {s : RdS} (h7 : I' 7 = I 7) (h9 : I' 9 = I 9) : gon I' sv lf t s = gon I sv lf t s := by
  unfold gon
  rw [goT_congr h7 h9]
section
variable (E : gEnv) (c : Nat) (ln : Nat → Nat) (I : Nat → Nat → Int32) (L : Nat → Nat → Int64)
set_option maxHeartbeats 1000000 in
theorem c21_go (ru : Nat) (hru : ru < c) (hc : c ≤ 6) (hrl : I 17 6 = nI ru) (hok : ruleOk I ln ru) (s : RdS) (h : rdX I 21 s.1 s.2.1 s.2.2.1) (t : Int32) (ht : vp_in t 40) :
    gCtr E 6 0 0 nX1_go [.ref 21, .int t] (wX c ln I L) (fun v u' => v = none ∧ ∃ I', u' = wX c ln I' L ∧ rdS I' 21 (gon I (svX I ln ru) (I 1 4 - t) t s) ∧ frg I I' 21) := by
  obtain ⟨row, since, st, fr0, pc0⟩ := s
  obtain ⟨h1, h2, h3, h4, h5, h6⟩ := h
  dsimp only at h1 h2 h3 h4 h5 h6
  refine gstart iX1_go tX1_go rfl rfl (fun K ca hK hca => ?_)
  refine hK [40] 100 _ _ _ _ _ _ ?_
  have hlen0 : row.length = 0 → row = [] := List.length_eq_zero_iff.mp
  refine gbr_i (fun hz => ?_) (fun hz => ?_)
  · have hz' : I 21 5 = nI 0 := hz
    have hrow : row = [] := hlen0 (by
      rw [h1] at hz'
      have := congrArg Int32.toNatClampNeg hz'
      rw [nI_clamp (by omega), nI_clamp (by omega)] at this
      exact this)
    subst hrow
    refine ⟨rfl, _, rfl, ?_, ?_⟩
    · have : gon I (svX I ln ru) (I 1 4 - t) t ⟨[], since, st, fr0, pc0⟩ = ⟨[], since, st, -1, 1⟩ := if_pos rfl
      rw [this]
      exact ⟨⟨h1, h2, h3, h4, h5, h6⟩, rfl, rfl⟩
    · intro k _ _ a _ _
      exact (gset_n a).trans (gset_n a)
  · have hne : row ≠ [] := by
      rintro rfl
      exact hz h1
    have hgon : gon I (svX I ln ru) (I 1 4 - t) t ⟨row, since, st, fr0, pc0⟩ = _ := if_neg hne
    rw [hgon] at hK
    have tail : ∀ (J : Nat → Nat → Int32) (row1 : List Nat) (s1 : Int32), (row1, s1) = goT I (I 1 4 - t) row since st → rdX J 21 row1 s1 st → frg I J 21 → K 0 0 40 [some (.ref 21), some (.int t), some (.int (I 1 4 - t))] [] (wX c ln J L) := by
      intro J row1 s1 hq hr hf
      dsimp only at hK
      rw [← hq] at hK
      dsimp only at hK
      have hlen1 : row1.length = row.length := by
        have := goT_len (I := I) (st := st) (lf := I 1 4 - t) (row := row) (s := since)
        rw [← hq] at this
        exact this
      have hpos : 0 < row1.length := by
        rw [hlen1]
        exact Nat.pos_of_ne_zero (fun z => hne (hlen0 z))
      obtain ⟨g1, g2, g3, g4, g5, g6⟩ := hr
      obtain ⟨f, hfh⟩ : ∃ f, row1.headD 0 = f := ⟨_, rfl⟩
      rw [hfh] at hK
      have hfd : row1.getD 0 0 = f := by rw [← hfh]; cases row1 <;> rfl
      have hf12 : f < 12 := by rw [← hfd]; exact rd_lt g6 hpos
      have hx : J 23 (0 : Int32).toNatClampNeg = nI f := by rw [← hfd]; exact g3 0 hpos
      have hcf : (nI f).toNatClampNeg = f := nI_clamp (by omega)
      have hvf : vp_in (J 23 (0 : Int32).toNatClampNeg) 12 := by rw [hx]; exact vp_in_nI hf12 (by omega)
      refine hK [] 100 _ _ _ _ _ _ ?_
      refine gsd_i (by unfold vp_in; decide) (gsd_i hvf ?_)
      have hf1 : frg I (gset (gset J 21 (gupd (J 21) 7 (J 23 (0 : Int32).toNatClampNeg))) 21 (gupd (gset J 21 (gupd (J 21) 7 (J 23 (0 : Int32).toNatClampNeg)) 21) 6 (J 21 6 + 1))) 21 := fun k a b d e z => ((gset_n d).trans (gset_n d)).trans (hf k a b d e z)
      have okf : ∀ {H : Nat → Nat → Int32}, frg I H 21 → ruleOk H ln ru := fun hH => ruleOk_congr (fun k hk => hH k (by omega) (by omega) (by omega) (by omega) (by omega)) hok
      have rlf : ∀ {H : Nat → Nat → Int32}, frg I H 21 → H 17 6 = nI ru := fun hH => by rw [hH 17 (by decide) (by decide) (by decide) (by decide) (by decide), hrl]
      refine gcall0 hca (c_comesTo E c ln _ L ru hru hc (rlf hf1) (okf hf1) 2 (J 23 (0 : Int32).toNatClampNeg) (J 22 (J 23 (0 : Int32).toNatClampNeg).toNatClampNeg) t 0 (by decide) hvf ht) rfl ?_
      rintro w u' - ⟨⟨a1, a2, rfl⟩, rfl⟩
      have hsv1 := svX_congr (ln := ln) (ru := ru) (o := 21) (by decide) hf1
      rw [hsv1, hx, hcf, g4]
      have hf2 := frg_trans hf1 (frg_19 _ 21 a1 a2)
      have hf3 : frg I (gset (gset (gset (gset (gset J 21 (gupd (J 21) 7 (nI f))) 21 (gupd (gset J 21 (gupd (J 21) 7 (nI f)) 21) 6 (J 21 6 + 1))) 19 a1) 20 a2) 21 (gupd (gupd (gset J 21 (gupd (J 21) 7 (nI f)) 21) 6 (J 21 6 + 1)) 8 (svX I ln ru 2 (nI f) (st f) t 0))) 21 := by
        rw [hx] at hf2
        exact fun k a b d e z => (gset_n d).trans (hf2 k a b d e z)
      refine gcall0 hca (c21_tire E c ln _ L ru hru hc (rlf hf3) (okf hf3) row1 (s1 + 1) st ⟨g1, ?_, g3, g4, g5, g6⟩ t ht) rfl ?_
      · show J 21 6 + 1 = _
        rw [g2]
      rintro w u' - ⟨rfl, I', rfl, ho, hr', hs, hfr⟩
      rw [svX_congr (ln := ln) (ru := ru) (o := 21) (by decide) hf3] at hs
      refine gcall0 hca (c21_fallBack E c ln I' L row1 (s1 + 1) (tir (svX I ln ru) t 0 row1 st) ⟨?_, ?_, ?_, hs, g5, g6⟩ f hf12 ?_) rfl ?_
      · rw [ho]; exact g1
      · rw [ho]; show J 21 6 + 1 = _; rw [g2]
      · intro j hj; show I' 23 j = _; rw [hr']; exact g3 j hj
      · rw [ho]; rfl
      rintro w u' - ⟨rfl, I2, rfl, hrd, h7, h8, hk2⟩
      refine ⟨rfl, I2, rfl, ⟨hrd, ?_, ?_⟩, ?_⟩
      · rw [h7, ho]; rfl
      · rw [h8, ho]; rfl
      · intro k a b d e z
        exact (hk2 k d z).trans ((frg_trans hf3 hfr) k a b d e z)
    refine gcall0 hca (c_left E c ln _ L t) rfl ?_
    rintro w u' - ⟨rfl, rfl⟩
    have hf0 : frg I (gset (gset I 21 (gupd (I 21) 7 (-1))) 21 (gupd (gset I 21 (gupd (I 21) 7 (-1)) 21) 8 1)) 21 := fun k _ _ d _ _ => (gset_n d).trans (gset_n d)
    have hrd0 : rdX (gset (gset I 21 (gupd (I 21) 7 (-1))) 21 (gupd (gset I 21 (gupd (I 21) 7 (-1)) 21) 8 1)) 21 row since st := ⟨h1, h2, h3, h4, h5, h6⟩
    refine gcall0 hca (c21_someWorks E c ln _ L row since st hrd0 (I 1 4 - t)) rfl ?_
    rintro w u' - ⟨rfl, (⟨rfl, hw⟩ | ⟨rfl, hw⟩)⟩
    · refine gbr_i (fun z => absurd z (by decide)) (fun _ => ?_)
      refine gcall0 hca (c21_takeTurns E c ln _ L row since st hrd0 (I 1 4 - t)) rfl ?_
      rintro w u' - ⟨rfl, I', rfl, hrd, hfm⟩
      refine tail I' _ _ ?_ hrd (frg_trans hf0 (frg_frm hfm))
      have hw' : smw I st (I 1 4 - t) row := hw
      unfold goT
      rw [if_pos hw', ← ttn_congr (I := I) (I' := (gset (gset I 21 (gupd (I 21) 7 (-1))) 21 (gupd (gset I 21 (gupd (I 21) 7 (-1)) 21) 8 1))) rfl rfl]
    · refine gbr_i (fun _ => ?_) (fun z => absurd rfl z)
      refine tail _ row since ?_ hrd0 hf0
      have hw' : ¬ smw I st (I 1 4 - t) row := hw
      unfold goT
      rw [if_neg hw']
end
section
variable (E : gEnv) (c : Nat) (ln : Nat → Nat) (I : Nat → Nat → Int32) (L : Nat → Nat → Int64)
set_option maxHeartbeats 1000000 in
theorem c24_go (ru : Nat) (hru : ru < c) (hc : c ≤ 6) (hrl : I 17 6 = nI ru) (hok : ruleOk I ln ru) (s : RdS) (h : rdX I 24 s.1 s.2.1 s.2.2.1) (t : Int32) (ht : vp_in t 40) :
    gCtr E 6 0 0 nX1_go [.ref 24, .int t] (wX c ln I L) (fun v u' => v = none ∧ ∃ I', u' = wX c ln I' L ∧ rdS I' 24 (gon I (svX I ln ru) (I 1 4 - t) t s) ∧ frg I I' 24) := by
  obtain ⟨row, since, st, fr0, pc0⟩ := s
  obtain ⟨h1, h2, h3, h4, h5, h6⟩ := h
  dsimp only at h1 h2 h3 h4 h5 h6
  refine gstart iX1_go tX1_go rfl rfl (fun K ca hK hca => ?_)
  refine hK [40] 100 _ _ _ _ _ _ ?_
  have hlen0 : row.length = 0 → row = [] := List.length_eq_zero_iff.mp
  refine gbr_i (fun hz => ?_) (fun hz => ?_)
  · have hz' : I 24 5 = nI 0 := hz
    have hrow : row = [] := hlen0 (by
      rw [h1] at hz'
      have := congrArg Int32.toNatClampNeg hz'
      rw [nI_clamp (by omega), nI_clamp (by omega)] at this
      exact this)
    subst hrow
    refine ⟨rfl, _, rfl, ?_, ?_⟩
    · have : gon I (svX I ln ru) (I 1 4 - t) t ⟨[], since, st, fr0, pc0⟩ = ⟨[], since, st, -1, 1⟩ := if_pos rfl
      rw [this]
      exact ⟨⟨h1, h2, h3, h4, h5, h6⟩, rfl, rfl⟩
    · intro k _ _ a _ _
      exact (gset_n a).trans (gset_n a)
  · have hne : row ≠ [] := by
      rintro rfl
      exact hz h1
    have hgon : gon I (svX I ln ru) (I 1 4 - t) t ⟨row, since, st, fr0, pc0⟩ = _ := if_neg hne
    rw [hgon] at hK
    have tail : ∀ (J : Nat → Nat → Int32) (row1 : List Nat) (s1 : Int32), (row1, s1) = goT I (I 1 4 - t) row since st → rdX J 24 row1 s1 st → frg I J 24 → K 0 0 40 [some (.ref 24), some (.int t), some (.int (I 1 4 - t))] [] (wX c ln J L) := by
      intro J row1 s1 hq hr hf
      dsimp only at hK
      rw [← hq] at hK
      dsimp only at hK
      have hlen1 : row1.length = row.length := by
        have := goT_len (I := I) (st := st) (lf := I 1 4 - t) (row := row) (s := since)
        rw [← hq] at this
        exact this
      have hpos : 0 < row1.length := by
        rw [hlen1]
        exact Nat.pos_of_ne_zero (fun z => hne (hlen0 z))
      obtain ⟨g1, g2, g3, g4, g5, g6⟩ := hr
      obtain ⟨f, hfh⟩ : ∃ f, row1.headD 0 = f := ⟨_, rfl⟩
      rw [hfh] at hK
      have hfd : row1.getD 0 0 = f := by rw [← hfh]; cases row1 <;> rfl
      have hf12 : f < 12 := by rw [← hfd]; exact rd_lt g6 hpos
      have hx : J 26 (0 : Int32).toNatClampNeg = nI f := by rw [← hfd]; exact g3 0 hpos
      have hcf : (nI f).toNatClampNeg = f := nI_clamp (by omega)
      have hvf : vp_in (J 26 (0 : Int32).toNatClampNeg) 12 := by rw [hx]; exact vp_in_nI hf12 (by omega)
      refine hK [] 100 _ _ _ _ _ _ ?_
      refine gsd_i (by unfold vp_in; decide) (gsd_i hvf ?_)
      have hf1 : frg I (gset (gset J 24 (gupd (J 24) 7 (J 26 (0 : Int32).toNatClampNeg))) 24 (gupd (gset J 24 (gupd (J 24) 7 (J 26 (0 : Int32).toNatClampNeg)) 24) 6 (J 24 6 + 1))) 24 := fun k a b d e z => ((gset_n d).trans (gset_n d)).trans (hf k a b d e z)
      have okf : ∀ {H : Nat → Nat → Int32}, frg I H 24 → ruleOk H ln ru := fun hH => ruleOk_congr (fun k hk => hH k (by omega) (by omega) (by omega) (by omega) (by omega)) hok
      have rlf : ∀ {H : Nat → Nat → Int32}, frg I H 24 → H 17 6 = nI ru := fun hH => by rw [hH 17 (by decide) (by decide) (by decide) (by decide) (by decide), hrl]
      refine gcall0 hca (c_comesTo E c ln _ L ru hru hc (rlf hf1) (okf hf1) 2 (J 26 (0 : Int32).toNatClampNeg) (J 25 (J 26 (0 : Int32).toNatClampNeg).toNatClampNeg) t 0 (by decide) hvf ht) rfl ?_
      rintro w u' - ⟨⟨a1, a2, rfl⟩, rfl⟩
      have hsv1 := svX_congr (ln := ln) (ru := ru) (o := 24) (by decide) hf1
      rw [hsv1, hx, hcf, g4]
      have hf2 := frg_trans hf1 (frg_19 _ 24 a1 a2)
      have hf3 : frg I (gset (gset (gset (gset (gset J 24 (gupd (J 24) 7 (nI f))) 24 (gupd (gset J 24 (gupd (J 24) 7 (nI f)) 24) 6 (J 24 6 + 1))) 19 a1) 20 a2) 24 (gupd (gupd (gset J 24 (gupd (J 24) 7 (nI f)) 24) 6 (J 24 6 + 1)) 8 (svX I ln ru 2 (nI f) (st f) t 0))) 24 := by
        rw [hx] at hf2
        exact fun k a b d e z => (gset_n d).trans (hf2 k a b d e z)
      refine gcall0 hca (c24_tire E c ln _ L ru hru hc (rlf hf3) (okf hf3) row1 (s1 + 1) st ⟨g1, ?_, g3, g4, g5, g6⟩ t ht) rfl ?_
      · show J 24 6 + 1 = _
        rw [g2]
      rintro w u' - ⟨rfl, I', rfl, ho, hr', hs, hfr⟩
      rw [svX_congr (ln := ln) (ru := ru) (o := 24) (by decide) hf3] at hs
      refine gcall0 hca (c24_fallBack E c ln I' L row1 (s1 + 1) (tir (svX I ln ru) t 0 row1 st) ⟨?_, ?_, ?_, hs, g5, g6⟩ f hf12 ?_) rfl ?_
      · rw [ho]; exact g1
      · rw [ho]; show J 24 6 + 1 = _; rw [g2]
      · intro j hj; show I' 26 j = _; rw [hr']; exact g3 j hj
      · rw [ho]; rfl
      rintro w u' - ⟨rfl, I2, rfl, hrd, h7, h8, hk2⟩
      refine ⟨rfl, I2, rfl, ⟨hrd, ?_, ?_⟩, ?_⟩
      · rw [h7, ho]; rfl
      · rw [h8, ho]; rfl
      · intro k a b d e z
        exact (hk2 k d z).trans ((frg_trans hf3 hfr) k a b d e z)
    refine gcall0 hca (c_left E c ln _ L t) rfl ?_
    rintro w u' - ⟨rfl, rfl⟩
    have hf0 : frg I (gset (gset I 24 (gupd (I 24) 7 (-1))) 24 (gupd (gset I 24 (gupd (I 24) 7 (-1)) 24) 8 1)) 24 := fun k _ _ d _ _ => (gset_n d).trans (gset_n d)
    have hrd0 : rdX (gset (gset I 24 (gupd (I 24) 7 (-1))) 24 (gupd (gset I 24 (gupd (I 24) 7 (-1)) 24) 8 1)) 24 row since st := ⟨h1, h2, h3, h4, h5, h6⟩
    refine gcall0 hca (c24_someWorks E c ln _ L row since st hrd0 (I 1 4 - t)) rfl ?_
    rintro w u' - ⟨rfl, (⟨rfl, hw⟩ | ⟨rfl, hw⟩)⟩
    · refine gbr_i (fun z => absurd z (by decide)) (fun _ => ?_)
      refine gcall0 hca (c24_takeTurns E c ln _ L row since st hrd0 (I 1 4 - t)) rfl ?_
      rintro w u' - ⟨rfl, I', rfl, hrd, hfm⟩
      refine tail I' _ _ ?_ hrd (frg_trans hf0 (frg_frm hfm))
      have hw' : smw I st (I 1 4 - t) row := hw
      unfold goT
      rw [if_pos hw', ← ttn_congr (I := I) (I' := (gset (gset I 24 (gupd (I 24) 7 (-1))) 24 (gupd (gset I 24 (gupd (I 24) 7 (-1)) 24) 8 1))) rfl rfl]
    · refine gbr_i (fun _ => ?_) (fun z => absurd rfl z)
      refine tail _ row since ?_ hrd0 hf0
      have hw' : ¬ smw I st (I 1 4 - t) row := hw
      unfold goT
      rw [if_neg hw']
end
