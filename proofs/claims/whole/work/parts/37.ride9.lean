-- chases: caught, clock, goes, wrong
abbrev isCh (I : Nat → Nat → Int32) (g o t gap : Int32) : Prop := (isG I g ∧ isSp I t) ∧ isG I o ∧ g &&& o = 0 ∧ 0 ≤ gap ∧ gap ≤ 9999
noncomputable def caugX (I : Nat → Nat → Int32) (sv : Say) (nr : Nat) (g o t gap what : Int32) : Int64 :=
  if isCh I g o t gap ∧ 0 ≤ what ∧ what ≤ 1 then
    (if what = 0 then (cht I sv (spB t + 1 - spA t) (spA t) (cst I g nr) (cst I o nr) (-1) gap).1.toInt64 else (cht I sv (spB t + 1 - spA t) (spA t) (cst I g nr) (cst I o nr) (-1) gap).2.toInt64)
  else -4611686018427387904
noncomputable def clkX (I : Nat → Nat → Int32) (sv : Say) (nr : Nat) (g o t gap by' : Int32) : Int64 :=
  if isCh I g o t gap ∧ (1 ≤ by' / 100 ∧ by' / 100 ≤ 99) ∧ 1 ≤ by' - by' / 100 * 100 ∧ by' - by' / 100 * 100 ≤ 20 then
    clk I sv (by' / 100) (by' - by' / 100 * 100) (spB t + 1 - spA t) (spA t) (cst I g nr) (cst I o nr) gap 0
  else -4611686018427387904
theorem stpX_I {I J : Nat → Nat → Int32} {ln : Nat → Nat} {ru : Nat} (h : frh I J) (t : Nat) (s : RdS) : stpX J (svX J ln ru) t s = stpX I (svX I ln ru) t s := stpX_eq h
section
variable (E : gEnv) (c : Nat) (ln : Nat → Nat) (I : Nat → Nat → Int32) (L : Nat → Nat → Int64)
set_option maxHeartbeats 1000000 in
theorem p_caught (ru : Nat) (hru : ru < c) (hc : c ≤ 6) (hrl : I 17 6 = nI ru) (hok : ruleOk I ln ru) (nr : Nat) (hnr : nr ≤ 12) (hcr : I 6 6 = nI nr) (nt : Nat) (hnt : nt ≤ 40) (hct : I 1 4 = nI nt) (g o t gap what : Int32) :
    gCtr E 8 0 0 nX9_caught [.ref 0, .int g, .int o, .int t, .int gap, .int what] (wX c ln I L) (fun v u' => v = some (.long (caugX I (svX I ln ru) nr g o t gap what)) ∧ ∃ I', u' = wX c ln I' L ∧ frh I I') := by
  refine gstart iX9_caught tX9_caught rfl rfl (fun K ca hK hca => ?_)
  refine hK [50] 80 _ _ _ _ _ _ ?_
  have bad : ¬ (isCh I g o t gap ∧ 0 ≤ what ∧ what ≤ 1) → some (Value.long (-4611686018427387904)) = some (.long (caugX I (svX I ln ru) nr g o t gap what)) ∧ ∃ I', wX c ln I L = wX c ln I' L ∧ frh I I' := fun h => by
    unfold caugX; rw [if_neg h]; exact ⟨rfl, I, rfl, frh_refl I⟩
  refine gcall0 hca (c_isChase E c ln I L g o t gap) rfl ?_
  rintro w u' - ⟨rfl, rfl⟩
  refine gbr_p (fun h1 => bad (fun z => h1 z.1)) (fun h1 => ?_)
  refine gbr_i (fun h2 => bad (fun z => by have := z.2; clear z bad hca hcr hct hrl h1 hK; (simp only [Int32.lt_iff_toInt_lt, Int32.le_iff_toInt_le, ← Int32.toInt_inj, Int32.reduceToInt] at *; omega))) (fun h2 => ?_)
  refine gbr_i (fun h3 => ?_) (fun h3 => bad (fun z => h3 z.2.2))
  have good : isCh I g o t gap ∧ 0 ≤ what ∧ what ≤ 1 := ⟨h1, by clear bad hca hcr hct hrl h1 hK; (simp only [Int32.lt_iff_toInt_lt, Int32.le_iff_toInt_le, ← Int32.toInt_inj, Int32.reduceToInt] at *; omega), h3⟩
  clear bad
  obtain ⟨e1, e2, e3, e4, e5⟩ := spAB hnt (by rw [← hct]; exact h1.1.2)
  have hX : caugX I (svX I ln ru) nr g o t gap what = _ := if_pos good
  rw [hX] at hK
  have loop : ∀ (m i : Nat) (J : Nat → Nat → Int32) (s1 s2 : RdS) (f n : Int32), i + m = spB t + 1 → rdS J 21 s1 → rdS J 24 s2 → frh I J → cht I (svX I ln ru) m i s1 s2 f n = cht I (svX I ln ru) (spB t + 1 - spA t) (spA t) (cst I g nr) (cst I o nr) (-1) gap → K 0 0 50 [some (.ref 0), some (.int g), some (.int o), some (.int t), some (.int gap), some (.int what), some (.int f), some (.int n), some (.int (nI i))] [] (wX c ln J L) := by
    intro m
    induction m with
    | zero =>
      intro i J s1 s2 f n hi hr1 hr2 hf he
      refine hK [50] 60 _ _ _ _ _ _ ?_
      refine gcall0 hca (c_spanTo E c ln J L t) rfl ?_
      rintro w u' - ⟨rfl, rfl⟩
      rw [e2]
      refine gbr_gt rfl (by omega) (by omega) (fun _ => ?_) (fun z => by omega)
      rw [← he]
      refine gbr_i (fun h4 => ?_) (fun h4 => ?_)
      · rw [if_pos h4]; exact ⟨rfl, J, rfl, hf⟩
      · rw [if_neg h4]; exact ⟨rfl, J, rfl, hf⟩
    | succ m ih =>
      intro i J s1 s2 f n hi hr1 hr2 hf he
      refine hK [50] 60 _ _ _ _ _ _ ?_
      refine gcall0 hca (c_spanTo E c ln J L t) rfl ?_
      rintro w u' - ⟨rfl, rfl⟩
      rw [e2]
      refine gbr_gt rfl (by omega) (by omega) (fun e => by omega) (fun _ => ?_)
      refine gcall0 hca (c_gained E c ln J L ru hru hc (by rw [hf 17 (by decide) (by decide) (by decide), hrl]) (ruleOk_congr (fun k hk => hf k (by omega) (by omega) (by omega)) hok) s1 s2 hr1 hr2 i (by omega)) rfl ?_
      rintro w u' - ⟨rfl, J2, rfl, g1, g2, hf2⟩
      rw [stpX_I hf, stpX_I hf]
      rw [stpX_I hf] at g1 g2
      have go : ∀ f' : Int32, f' = (if n + ((stpX I (svX I ln ru) i s1).2.2.2.2 - (stpX I (svX I ln ru) i s2).2.2.2.2) ≤ 0 ∧ f = -1 then nI i else f) → K 0 0 50 [some (.ref 0), some (.int g), some (.int o), some (.int t), some (.int gap), some (.int what), some (.int f'), some (.int (n + ((stpX I (svX I ln ru) i s1).2.2.2.2 - (stpX I (svX I ln ru) i s2).2.2.2.2))), some (.int (nI i + 1))] [] (wX c ln J2 L) := by
        intro f' hf'
        have := ih (i + 1) J2 _ _ f' _ (by omega) g1 g2 (frh_trans hf hf2) (by rw [hf']; exact he)
        rw [← nI_1] at this
        exact this
      clear ih hK hca
      refine gbr_i (fun h4 => go _ ?_) (fun h4 => ?_)
      · rw [if_neg]; intro z; exact Int32.lt_irrefl (Int32.lt_of_lt_of_le h4 z.1)
      · have h4' := Int32.not_lt.mp h4
        refine gbr_i (fun h5 => go _ ?_) (fun h5 => go _ ?_)
        · rw [if_pos ⟨h4', h5⟩]
        · rw [if_neg (fun z => h5 z.2)]
  refine gcall0 hca (c_beginChase E c ln I L nr hnr hcr g o) rfl ?_
  rintro w u' - ⟨rfl, J, rfl, g1, g2, hf⟩
  refine gcall0 hca (c_spanFrom E c ln J L t) rfl ?_
  rintro w u' - ⟨rfl, rfl⟩
  rw [e1]
  exact loop _ _ J _ _ _ _ (by omega) g1 g2 hf (sim_cht _ _ _ _ _ _ _ _ sim_bgn sim_bgn)
set_option maxHeartbeats 1000000 in
theorem p_clock (ru : Nat) (hru : ru < c) (hc : c ≤ 6) (hrl : I 17 6 = nI ru) (hok : ruleOk I ln ru) (nr : Nat) (hnr : nr ≤ 12) (hcr : I 6 6 = nI nr) (nt : Nat) (hnt : nt ≤ 40) (hct : I 1 4 = nI nt) (g o t gap q : Int32) :
    gCtr E 8 0 0 nX9_clock [.ref 0, .int g, .int o, .int t, .int gap, .int q] (wX c ln I L) (fun v u' => v = some (.long (clkX I (svX I ln ru) nr g o t gap q)) ∧ ∃ I', u' = wX c ln I' L ∧ frh I I') := by
  refine gstart iX9_clock tX9_clock rfl rfl (fun K ca hK hca => ?_)
  refine hK [79] 80 _ _ _ _ _ _ ?_
  have bad : ¬ (isCh I g o t gap ∧ (1 ≤ q / 100 ∧ q / 100 ≤ 99) ∧ 1 ≤ q - q / 100 * 100 ∧ q - q / 100 * 100 ≤ 20) → some (Value.long (-4611686018427387904)) = some (.long (clkX I (svX I ln ru) nr g o t gap q)) ∧ ∃ I', wX c ln I L = wX c ln I' L ∧ frh I I' := fun h => by
    unfold clkX; rw [if_neg h]; exact ⟨rfl, I, rfl, frh_refl I⟩
  refine gsd_i (by decide) (gsd_i (by decide) ?_)
  refine gcall0 hca (c_isChase E c ln I L g o t gap) rfl ?_
  rintro w u' - ⟨rfl, rfl⟩
  refine gbr_p (fun h1 => bad (fun z => h1 z.1)) (fun h1 => ?_)
  have hXg : (1 ≤ q / 100 ∧ q / 100 ≤ 99) → (1 ≤ q - q / 100 * 100 ∧ q - q / 100 * 100 ≤ 20) → clkX I (svX I ln ru) nr g o t gap q = _ := fun z1 z2 => if_pos ⟨h1, z1, z2⟩
  generalize q - q / 100 * 100 = d at *
  generalize q / 100 = k at *
  refine gbr_i (fun h2 => bad (fun z => by have := z.2.1.1; clear z bad hca hcr hct hrl h1 hK hXg; (simp only [Int32.lt_iff_toInt_lt, Int32.le_iff_toInt_le, ← Int32.toInt_inj, Int32.reduceToInt] at *; omega))) (fun h2 => ?_)
  refine gbr_i (fun h3 => bad (fun z => by have := z.2.1.2; clear z bad hca hcr hct hrl h1 hK hXg; (simp only [Int32.lt_iff_toInt_lt, Int32.le_iff_toInt_le, ← Int32.toInt_inj, Int32.reduceToInt] at *; omega))) (fun h3 => ?_)
  refine gbr_i (fun h4 => bad (fun z => by have := z.2.2.1; clear z bad hca hcr hct hrl h1 hK hXg; (simp only [Int32.lt_iff_toInt_lt, Int32.le_iff_toInt_le, ← Int32.toInt_inj, Int32.reduceToInt] at *; omega))) (fun h4 => ?_)
  refine gbr_i (fun h5 => ?_) (fun h5 => bad (fun z => h5 z.2.2.2))
  have hX := hXg (by clear bad hca hcr hct hrl h1 hK hXg; (simp only [Int32.lt_iff_toInt_lt, Int32.le_iff_toInt_le, ← Int32.toInt_inj, Int32.reduceToInt] at *; omega)) (by clear bad hca hcr hct hrl h1 hK hXg; (simp only [Int32.lt_iff_toInt_lt, Int32.le_iff_toInt_le, ← Int32.toInt_inj, Int32.reduceToInt] at *; omega))
  have hd : ¬ d = 0 := by clear bad hca hcr hct hrl h1 hK hXg hX; (simp only [Int32.lt_iff_toInt_lt, Int32.le_iff_toInt_le, ← Int32.toInt_inj, Int32.reduceToInt] at *; omega)
  clear bad hXg
  obtain ⟨e1, e2, e3, e4, e5⟩ := spAB hnt (by rw [← hct]; exact h1.1.2)
  rw [hX] at hK
  have loop : ∀ (m i : Nat) (J : Nat → Nat → Int32) (s1 s2 : RdS) (n : Int32) (b : Int64), i + m = spB t + 1 → rdS J 21 s1 → rdS J 24 s2 → frh I J → clk I (svX I ln ru) k d m i s1 s2 n b = clk I (svX I ln ru) k d (spB t + 1 - spA t) (spA t) (cst I g nr) (cst I o nr) gap 0 → K 0 0 79 [some (.ref 0), some (.int g), some (.int o), some (.int t), some (.int gap), some (.int q), some (.int k), some (.int d), some (.long b), none, some (.int n), some (.int (nI i))] [] (wX c ln J L) := by
    intro m
    induction m with
    | zero =>
      intro i J s1 s2 n b hi hr1 hr2 hf he
      refine hK [79] 60 _ _ _ _ _ _ ?_
      refine gcall0 hca (c_spanTo E c ln J L t) rfl ?_
      rintro w u' - ⟨rfl, rfl⟩
      rw [e2]
      refine gbr_gt rfl (by omega) (by omega) (fun _ => ?_) (fun z => by omega)
      rw [← he]
      exact ⟨rfl, J, rfl, hf⟩
    | succ m ih =>
      intro i J s1 s2 n b hi hr1 hr2 hf he
      refine hK [79, 121] 60 _ _ _ _ _ _ ?_
      refine gcall0 hca (c_spanTo E c ln J L t) rfl ?_
      rintro w u' - ⟨rfl, rfl⟩
      rw [e2]
      refine gbr_gt rfl (by omega) (by omega) (fun e => by omega) (fun _ => ?_)
      refine gcall0 hca (c_left E c ln J L (nI i)) rfl ?_
      rintro w u' - ⟨rfl, rfl⟩
      rw [hf 1 (by decide) (by decide) (by decide)]
      refine gsd_i hd ?_
      have go : ∀ b' : Int64, b' = (if k * (I 1 4 - nI i) / d < n then b else b ||| ((1 : Int64) <<< ((nI i).toInt64 &&& 63))) → K 0 0 121 [some (.ref 0), some (.int g), some (.int o), some (.int t), some (.int gap), some (.int q), some (.int k), some (.int d), some (.long b'), none, some (.int n), some (.int (nI i))] [] (wX c ln J L) := by
        intro b' hb'
        refine hK [79] 60 _ _ _ _ _ _ ?_
        refine gcall0 hca (c_gained E c ln J L ru hru hc (by rw [hf 17 (by decide) (by decide) (by decide), hrl]) (ruleOk_congr (fun k hk => hf k (by omega) (by omega) (by omega)) hok) s1 s2 hr1 hr2 i (by omega)) rfl ?_
        rintro w u' - ⟨rfl, J2, rfl, g1, g2, hf2⟩
        rw [stpX_I hf, stpX_I hf]
        rw [stpX_I hf] at g1 g2
        have := ih (i + 1) J2 _ _ _ b' (by omega) g1 g2 (frh_trans hf hf2) (by rw [hb']; exact he)
        rw [← nI_1] at this
        exact this
      exact gbr_i (fun h6 => go _ (if_pos h6).symm) (fun h6 => go _ (if_neg h6).symm)
  refine gcall0 hca (c_beginChase E c ln I L nr hnr hcr g o) rfl ?_
  rintro w u' - ⟨rfl, J, rfl, g1, g2, hf⟩
  refine gcall0 hca (c_spanFrom E c ln J L t) rfl ?_
  rintro w u' - ⟨rfl, rfl⟩
  rw [e1]
  exact loop _ _ J _ _ _ _ (by omega) g1 g2 hf (sim_clk _ _ _ _ _ _ _ _ sim_bgn sim_bgn)
end
