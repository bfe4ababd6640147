-- train
/-- the rest without r -/
abbrev wo (rest : Int32) (r : Nat) : Int32 := rest &&& ((1 <<< (nI r &&& 31)) ^^^ -1)
abbrev isIn (g : Int32) (r : Nat) : Prop := (g >>> (nI r &&& 31)) &&& 1 = 1
def edI (I : Nat → Nat → Int32) (r : Nat) : Int32 := edx (I 7 r) (I 9 r) (I 10 r)
/-- one order's end, if it is better -/
def trb (rest dg gv : Int32) (e : Int32) (r : Nat) (s : Int32 × Int32) : Int32 × Int32 := if wo rest r = 0 ∧ s.2 < e + gv then (dg * 12 + nI r, e + gv) else s
def tra (I : Nat → Nat → Int32) (nr : Nat) : Nat → Int32 → Int32 → Int32 → Int32 × Int32 → Int32 × Int32
  | 0, _, _, _, s => s
  | k + 1, rest, dg, gv, s => if rest = 0 then s else (List.range nr).foldl (fun s r => if isIn rest r then tra I nr k (wo rest r) (dg * 12 + nI r) ((edI I r + gv) / 2) (trb rest dg gv (edI I r) r s) else s) s
/-- at most k of the first nr are in it -/
def few (nr k : Nat) (g : Int32) : Prop := ((List.range nr).filter (fun r => decide (isIn g r))).length ≤ k
theorem bt_wo : ∀ r, r < 12 → ∀ q, q < 12 → ∀ x : Int32, isIn (wo x r) q ↔ isIn x q ∧ q ≠ r := by
  intro r hr q hq x
  unfold isIn wo
  rw [b_in (by omega), b_in (by omega), b_wo (by omega) (by omega)]
  simp
theorem few_wo {nr k r : Nat} {g : Int32} (hnr : nr ≤ 12) (hr : r < nr) (hi : isIn g r) (h : few nr (k + 1) g) : few nr k (wo g r) := by
  unfold few at *
  have e : (List.range nr).filter (fun q => decide (isIn (wo g r) q)) = ((List.range nr).filter (fun q => decide (isIn g q))).filter (fun q => decide (q ≠ r)) := by
    rw [List.filter_filter]
    refine List.filter_congr (fun q hq => ?_)
    have hq' := List.mem_range.mp hq
    have := bt_wo r (by omega) q (by omega) g
    simp only [decide_eq_decide.mpr this, Bool.decide_and, Bool.and_comm]
  rw [e]
  have hm : r ∈ (List.range nr).filter (fun q => decide (isIn g q)) := List.mem_filter.mpr ⟨List.mem_range.mpr hr, decide_eq_true hi⟩
  generalize (List.range nr).filter (fun q => decide (isIn g q)) = l at h hm ⊢
  have hlt : (l.filter (fun q => decide (q ≠ r))).length < l.length := by
    have h1 := List.length_filter_lt_length_iff_exists (p := fun q => decide (q ≠ r)) (l := l)
    exact h1.mpr ⟨r, hm, by simp⟩
  omega
theorem few_12 {nr : Nat} (hnr : nr ≤ 12) (g : Int32) : few nr 12 g := by
  unfold few
  have := List.length_filter_le (fun r => decide (isIn g r)) (List.range nr)
  rw [List.length_range] at this
  omega
section
variable (E : gEnv) (c : Nat) (ln : Nat → Nat) (I : Nat → Nat → Int32) (L : Nat → Nat → Int64)
/-- the train's own cell -/
def trI (I : Nat → Nat → Int32) (s : Int32 × Int32) : Nat → Nat → Int32 := gset I 27 (gupd (gupd (I 27) 1 s.1) 2 s.2)
set_option maxHeartbeats 2000000 in
theorem c_tryAll (nr : Nat) (hnr : nr ≤ 12) (hcr : I 6 6 = nI nr) : ∀ (k : Nat) (rest dg gv : Int32) (s : Int32 × Int32), few nr k rest → gCtr E (2 + k) 0 0 nX8_tryAll [.ref 27, .int rest, .int dg, .int gv] (wX c ln (trI I s) L) (fun v u' => v = none ∧ u' = wX c ln (trI I (tra I nr k rest dg gv s)) L) := by
  intro k
  induction k with
  | zero =>
    intro rest dg gv s hfew
    refine gstart iX8_tryAll tX8_tryAll rfl rfl (fun K ca hK hca => ?_)
    have loop := gloop (P := fun i => ∀ x5 x6, K 0 0 8 [some (.ref 27), some (.int rest), some (.int dg), some (.int gv), some (.int (nI i)), x5, x6] [] (wX c ln (trI I s) L)) (n := nr) (by
      intro x5 x6
      refine hK [8] 60 _ _ _ _ _ _ ?_
      exact gbr_lp (n := nr) hcr (by omega) (Nat.le_refl _) (fun _ => ⟨rfl, rfl⟩) (fun z => absurd z (Nat.lt_irrefl _))) (by
      intro i hi ih x5 x6
      refine hK [8] 60 _ _ _ _ _ _ ?_
      refine gbr_lp (n := nr) hcr (by omega) (by omega) (fun e => by omega) (fun _ => ?_)
      refine gbr_i (fun h => ?_) (fun h => ?_)
      · exfalso
        unfold few at hfew
        have hm : i ∈ (List.range nr).filter (fun q => decide (isIn rest q)) := List.mem_filter.mpr ⟨List.mem_range.mpr hi, decide_eq_true h⟩
        rw [List.length_eq_zero_iff.mp (Nat.le_zero.mp hfew)] at hm
        exact absurd hm List.not_mem_nil
      · have := ih x5 x6
        rw [← nI_1] at this
        exact this)
    refine hK [8] 60 _ _ _ _ _ _ ?_
    refine gbr_i (fun h => ⟨rfl, rfl⟩) (fun h => ?_)
    exact loop 0 (Nat.zero_le _) none none
  | succ k ihk =>
    intro rest dg gv s hfew
    refine gstart iX8_tryAll tX8_tryAll rfl rfl (fun K ca hK hca => ?_)
    by_cases h0 : rest = 0
    · refine hK [8] 60 _ _ _ _ _ _ ?_
      refine gbr_i (fun h => ⟨rfl, ?_⟩) (fun h => absurd h0 h)
      rw [show tra I nr (k + 1) rest dg gv s = s from if_pos h0]
    have hX : tra I nr (k + 1) rest dg gv s = _ := if_neg h0
    rw [hX] at hK
    obtain ⟨F, hF⟩ : ∃ F, F = (fun (s : Int32 × Int32) (r : Nat) => if isIn rest r then tra I nr k (wo rest r) (dg * 12 + nI r) ((edI I r + gv) / 2) (trb rest dg gv (edI I r) r s) else s) := ⟨_, rfl⟩
    rw [← hF] at hK
    have loop := gloop (P := fun i => ∀ x5 x6, K 0 0 8 [some (.ref 27), some (.int rest), some (.int dg), some (.int gv), some (.int (nI i)), x5, x6] [] (wX c ln (trI I ((List.range i).foldl F s)) L)) (n := nr) (by
      intro x5 x6
      refine hK [8] 60 _ _ _ _ _ _ ?_
      exact gbr_lp (n := nr) hcr (by omega) (Nat.le_refl _) (fun _ => ⟨rfl, rfl⟩) (fun z => absurd z (Nat.lt_irrefl _))) (by
      intro i hi ih x5 x6
      rw [List.range_succ, List.foldl_append, List.foldl_cons, List.foldl_nil] at ih
      generalize (List.range i).foldl F s = s1 at ih
      have hcl : (nI i).toNatClampNeg = i := nI_clamp (by omega)
      refine hK [8, 84] 80 _ _ _ _ _ _ ?_
      refine gbr_lp (n := nr) hcr (by omega) (by omega) (fun e => by omega) (fun _ => ?_)
      refine gbr_i (fun h => ?_) (fun h => ?_)
      · have hFi : F s1 i = tra I nr k (wo rest i) (dg * 12 + nI i) ((edI I i + gv) / 2) (trb rest dg gv (edI I i) i s1) := by rw [hF]; exact if_pos h
        rw [hFi] at ih
        refine gcall0 hca (c_ends E c ln (trI I s1) L (nI i) (vp_in_nI (by omega) (by omega))) (blt_t (by omega)) ?_
        rintro w u' - ⟨rfl, rfl⟩
        have hed : edx (trI I s1 7 (nI i).toNatClampNeg) (trI I s1 9 (nI i).toNatClampNeg) (trI I s1 10 (nI i).toNatClampNeg) = edI I i := by rw [hcl]; rfl
        rw [hed]
        have tail : ∀ s2, s2 = trb rest dg gv (edI I i) i s1 → K 0 0 84 [some (.ref 27), some (.int rest), some (.int dg), some (.int gv), some (.int (nI i)), some (.int (wo rest i)), some (.int (edI I i + gv))] [] (wX c ln (trI I s2) L) := by
          intro s2 hs2
          refine hK [8] 60 _ _ _ _ _ _ ?_
          refine gsd_i (by decide) ?_
          refine gcall0 hca (ihk (wo rest i) (dg * 12 + nI i) ((edI I i + gv) / 2) s2 (few_wo hnr hi h hfew)) (blt_t (by omega)) ?_
          rintro w u' - ⟨rfl, rfl⟩
          have := ih (some (.int (wo rest i))) (some (.int (edI I i + gv)))
          rw [← nI_1] at this
          rw [hs2]
          exact this
        refine gbr_i (fun h2 => ?_) (fun h2 => ?_)
        · refine gbr_i (fun h3 => ?_) (fun h3 => ?_)
          · exact tail s1 (if_neg (fun z => Int32.lt_irrefl (Int32.lt_of_lt_of_le z.2 h3))).symm
          · have := tail (dg * 12 + nI i, edI I i + gv) (if_pos ⟨h2, Int32.not_le.mp h3⟩).symm
            have e : trI I (dg * 12 + nI i, edI I i + gv) = gset (gset (trI I s1) 27 (gupd (trI I s1 27) 2 (edI I i + gv))) 27 (gupd (gset (trI I s1) 27 (gupd (trI I s1 27) 2 (edI I i + gv)) 27) 1 (dg * 12 + nI i)) := by
              unfold trI
              simp only [gset_s, gset_gset]
              congr 1
              funext q
              match q with
              | 0 => rfl
              | 1 => rfl
              | 2 => rfl
              | _ + 3 => rfl
            rw [e] at this
            exact this
        · exact tail s1 (if_neg (fun z => h2 z.1)).symm
      · have hFi : F s1 i = s1 := by rw [hF]; exact if_neg h
        rw [hFi] at ih
        have := ih x5 x6
        rw [← nI_1] at this
        exact this)
    refine hK [8] 60 _ _ _ _ _ _ ?_
    refine gbr_i (fun h => absurd h h0) (fun h => ?_)
    exact loop 0 (Nat.zero_le _) none none
def trainX (I : Nat → Nat → Int32) (nr : Nat) (g what : Int32) : Int32 :=
  if isG I g ∧ (2 ≤ ibc g ∧ ibc g ≤ 4) ∧ 0 ≤ what ∧ what ≤ 1 then (if what = 0 then (tra I nr 12 g 0 0 (0, -1)).1 else (tra I nr 12 g 0 0 (0, -1)).2) else -2
set_option maxHeartbeats 1000000 in
theorem p_train (nr : Nat) (hnr : nr ≤ 12) (hcr : I 6 6 = nI nr) (g what : Int32) : gCtr E 16 0 0 nX9_train [.ref 0, .int g, .int what] (wX c ln I L) (fun w u' => w = some (.int (trainX I nr g what)) ∧ ∃ I', u' = wX c ln I' L ∧ ∀ k, k ≠ 27 → I' k = I k) := by
  have srch : gCtr E 15 0 0 nX8_search [.ref 27, .int g] (wX c ln I L) (fun w u' => w = none ∧ u' = wX c ln (trI I (tra I nr 12 g 0 0 (0, -1))) L) := by
    refine gstart iX8_search tX8_search rfl rfl (fun K ca hK hca => ?_)
    refine hK [] 80 _ _ _ _ _ _ ?_
    clear hK
    have e : gset (gset I 27 (gupd (I 27) 1 0)) 27 (gupd (gset I 27 (gupd (I 27) 1 0) 27) 2 (-1)) = trI I (0, -1) := by
      unfold trI
      simp only [gset_s, gset_gset]
    have hcl := c_tryAll E c ln I L nr hnr hcr 12 g 0 0 (0, -1) (few_12 hnr g)
    rw [← e] at hcl
    refine gcall0 hca hcl rfl ?_
    rintro w u' - ⟨rfl, rfl⟩
    exact ⟨rfl, rfl⟩
  refine gstart iX9_train tX9_train rfl rfl (fun K ca hK hca => ?_)
  refine hK [] 80 _ _ _ _ _ _ ?_
  clear hK
  have bad : ¬ (isG I g ∧ (2 ≤ ibc g ∧ ibc g ≤ 4) ∧ 0 ≤ what ∧ what ≤ 1) → some (Value.int (-2)) = some (.int (trainX I nr g what)) ∧ ∃ I', wX c ln I L = wX c ln I' L ∧ ∀ k, k ≠ 27 → I' k = I k := fun h => by
    unfold trainX; rw [if_neg h]; exact ⟨rfl, I, rfl, fun _ _ => rfl⟩
  refine gcall0 hca (c_ibc E (wX c ln I L) g) rfl ?_
  rintro w u' - ⟨rfl, rfl⟩
  refine gcall0 hca (c_isGroup E c ln I L g) rfl ?_
  rintro w u' - ⟨rfl, rfl⟩
  refine gbr_p (fun h1 => bad (fun z => h1 z.1)) (fun h1 => ?_)
  refine gbr_i (fun h2 => bad (fun z => Int32.lt_irrefl (Int32.lt_of_lt_of_le h2 z.2.1.1))) (fun h2 => ?_)
  refine gbr_i (fun h3 => bad (fun z => Int32.lt_irrefl (Int32.lt_of_lt_of_le h3 z.2.1.2))) (fun h3 => ?_)
  refine gbr_i (fun h5 => bad (fun z => Int32.lt_irrefl (Int32.lt_of_lt_of_le h5 z.2.2.1))) (fun h5 => ?_)
  refine gbr_i (fun h6 => ?_) (fun h6 => bad (fun z => h6 z.2.2.2))
  have hX : trainX I nr g what = _ := if_pos ⟨h1, ⟨Int32.not_lt.mp h2, Int32.not_lt.mp h3⟩, Int32.not_lt.mp h5, h6⟩
  rw [hX]
  clear bad hX
  refine gcall0 hca srch rfl ?_
  rintro w u' - ⟨rfl, rfl⟩
  refine gbr_i (fun h9 => ?_) (fun h9 => ?_)
  · rw [if_pos h9]; exact ⟨rfl, _, rfl, fun k hk => gset_n hk⟩
  · rw [if_neg h9]; exact ⟨rfl, _, rfl, fun k hk => gset_n hk⟩
end
