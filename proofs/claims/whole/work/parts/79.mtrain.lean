-- the model: train
theorem edn {k n p : Int32} (h : smalls p n) : ∃ v, v ≤ 4000 ∧ edx k n p = nI v := by
  obtain ⟨a, b, rfl, rfl, ha, hb⟩ := h
  have e : (nI a - nI b).toInt = (a : Int) - b := pk_sub_toInt (by omega) (by omega)
  have hd : ∃ v, v ≤ 4000 ∧ (if 0 < nI a - nI b then nI a - nI b else 0) = nI v := by
    by_cases z : 0 < nI a - nI b
    · refine ⟨a - b, by omega, ?_⟩
      rw [if_pos z]
      have z' := Int32.lt_iff_toInt_lt.mp z
      rw [e] at z'
      have e0 : Int32.toInt 0 = 0 := rfl
      rw [← Int32.toInt_inj, e, nI_toInt (by omega)]
      omega
    · exact ⟨0, by omega, by rw [if_neg z]; rfl⟩
  unfold edx
  by_cases h1 : k = 1
  · rw [if_pos h1]; exact hd
  rw [if_neg h1]
  by_cases h2 : k = 2
  · rw [if_pos h2]; exact ⟨a + b, by omega, nI_add a b⟩
  rw [if_neg h2]
  by_cases h3 : k = 3
  · rw [if_pos h3]; exact ⟨a + b + 1, by omega, by rw [nI_add, nI_1]⟩
  rw [if_neg h3]
  by_cases h4 : k = 4
  · rw [if_pos h4]; exact ⟨a + 3 * b, by omega, by rw [show (3 : Int32) = nI 3 from rfl, pk_mul, nI_add]⟩
  rw [if_neg h4]
  by_cases h5 : k = 5
  · rw [if_pos h5]; exact hd
  · rw [if_neg h5]; exact ⟨a, by omega, rfl⟩
theorem tra_0 {V : Nat → Nat → Int32} {nr : Nat} {dg gv : Int32} {s : Int32 × Int32} : ∀ k, tra V nr k 0 dg gv s = s := by
  intro k
  match k with
  | 0 => rfl
  | k + 1 => exact if_pos rfl
def mtr (V : Nat → Nat → Int32) (nr k : Nat) (rest dg G : Int32) (s : Int32 × Int32) : Int32 × Int32 := if rest = 0 then (if s.2 < G then (dg, G) else s) else tra V nr k rest dg (G / 2) s
theorem mtr_tra {V : Nat → Nat → Int32} {nr k r : Nat} {rest dg G e : Int32} {s : Int32 × Int32} : mtr V nr k (wo rest r) (12 * dg + nI r) (e + G / 2) s = tra V nr k (wo rest r) (dg * 12 + nI r) ((e + G / 2) / 2) (trb rest dg (G / 2) e r s) := by
  unfold mtr
  rw [Int32.mul_comm 12 dg]
  by_cases h : wo rest r = 0
  · rw [if_pos h, h, tra_0]
    unfold trb
    by_cases h2 : s.2 < e + G / 2
    · rw [if_pos h2, if_pos ⟨h, h2⟩]
    · rw [if_neg h2, if_neg (fun z => h2 z.2)]
  · rw [if_neg h]
    unfold trb
    rw [if_neg (fun z => h z.1)]
def mtrI (I : Nat → Nat → Int32) (s : Int32 × Int32) : Nat → Nat → Int32 := gset I 0 (gupd (gupd (I 0) 42 s.1) 43 s.2)
theorem mtrI_42 {I : Nat → Nat → Int32} {s : Int32 × Int32} : mtrI I s 0 42 = s.1 := by unfold mtrI; rw [gset_s, gupd_n (by decide), gupd_s]
theorem mtrI_43 {I : Nat → Nat → Int32} {s : Int32 × Int32} : mtrI I s 0 43 = s.2 := by unfold mtrI; rw [gset_s, gupd_s]
theorem mtrI_0 {I : Nat → Nat → Int32} {s : Int32 × Int32} {j : Nat} (h : j < 42) : mtrI I s 0 j = I 0 j := by unfold mtrI; rw [gset_s, gupd_n (by omega), gupd_n (by omega)]
theorem mtrI_set {I : Nat → Nat → Int32} {s t : Int32 × Int32} : gset (gset (mtrI I s) 0 (gupd (mtrI I s 0) 43 t.2)) 0 (gupd (gset (mtrI I s) 0 (gupd (mtrI I s 0) 43 t.2) 0) 42 t.1) = mtrI I t := by
  unfold mtrI
  simp only [gset_s, gset_gset]
  congr 1
  funext q
  by_cases h1 : q = 42
  · subst h1; rw [gupd_s, gupd_n (by decide), gupd_s]
  · by_cases h2 : q = 43
    · subst h2; rw [gupd_n (by decide), gupd_s, gupd_s]
    · rw [gupd_n h1, gupd_n h2, gupd_n h2, gupd_n h1, gupd_n h2, gupd_n h1]
section
variable (E : gEnv) (I : Nat → Nat → Int32) (L : Nat → Nat → Int64)
set_option maxHeartbeats 2000000 in
theorem m_couples (nr : Nat) (hnr : nr ≤ 12) (hcr : I 0 17 = nI nr) (hsm : ∀ r, r < nr → smalls (I 11 r) (I 10 r)) : ∀ (k : Nat) (rest dg G : Int32) (s : Int32 × Int32), few nr k rest → gCtr E (2 + k) 0 0 nX10_couples [.ref 0, .int rest, .int dg, .int G] (wM (mtrI I s) L) (fun v u' => v = none ∧ u' = wM (mtrI I (mtr (xv I) nr k rest dg G s)) L) := by
  intro k
  have leaf : ∀ (rest dg G : Int32) (s : Int32 × Int32), rest = 0 → gbr (G ≤ mtrI I s 0 43) ((none : Option Value) = none ∧ wM (mtrI I s) L = wM (mtrI I (mtr (xv I) nr k rest dg G s)) L) ((none : Option Value) = none ∧ wM (gset (gset (mtrI I s) 0 (gupd (mtrI I s 0) 43 G)) 0 (gupd (gset (mtrI I s) 0 (gupd (mtrI I s 0) 43 G) 0) 42 dg)) L = wM (mtrI I (mtr (xv I) nr k rest dg G s)) L) := by
    intro rest dg G s h0
    have hX : mtr (xv I) nr k rest dg G s = (if s.2 < G then (dg, G) else s) := if_pos h0
    rw [hX]
    refine gbr_i (fun h => ?_) (fun h => ?_)
    · rw [mtrI_43] at h
      rw [if_neg (Int32.not_lt.mpr h)]; exact ⟨rfl, rfl⟩
    · rw [mtrI_43] at h
      rw [if_pos (Int32.not_le.mp h)]
      exact ⟨rfl, congrArg (fun q => wM q L) (mtrI_set (t := (dg, G)))⟩
  induction k with
  | zero =>
    intro rest dg G s hfew
    refine gstart iX10_couples tX10_couples rfl rfl (fun K ca hK hca => ?_)
    by_cases h0 : rest = 0
    · refine hK [] 60 _ _ _ _ _ _ ?_
      exact gbr_i (fun _ => leaf rest dg G s h0) (fun h => absurd h0 h)
    have hX : mtr (xv I) nr 0 rest dg G s = s := if_neg h0
    rw [hX] at hK
    have loop := gloop (P := fun i => K 0 0 26 [some (.ref 0), some (.int rest), some (.int dg), some (.int G), some (.int (nI i))] [] (wM (mtrI I s) L)) (n := nr) (by
      refine hK [26] 60 _ _ _ _ _ _ ?_
      exact gbr_lp (n := nr) (by show mtrI I s 0 17 = _; rw [mtrI_0 (by omega), hcr]) (by omega) (Nat.le_refl _) (fun _ => ⟨rfl, rfl⟩) (fun z => absurd z (Nat.lt_irrefl _))) (by
      intro i hi ih
      refine hK [26] 60 _ _ _ _ _ _ ?_
      refine gbr_lp (n := nr) (by show mtrI I s 0 17 = _; rw [mtrI_0 (by omega), hcr]) (by omega) (by omega) (fun e => by omega) (fun _ => ?_)
      refine gbr_i (fun h => ?_) (fun h => ?_)
      · exfalso
        unfold few at hfew
        have hm : i ∈ (List.range nr).filter (fun q => decide (isIn rest q)) := List.mem_filter.mpr ⟨List.mem_range.mpr hi, decide_eq_true h⟩
        rw [List.length_eq_zero_iff.mp (Nat.le_zero.mp hfew)] at hm
        exact absurd hm List.not_mem_nil
      · rw [← nI_1] at ih
        exact ih)
    refine hK [26] 60 _ _ _ _ _ _ ?_
    refine gbr_i (fun h => absurd h h0) (fun h => ?_)
    exact loop 0 (Nat.zero_le _)
  | succ k ihk =>
    intro rest dg G s hfew
    refine gstart iX10_couples tX10_couples rfl rfl (fun K ca hK hca => ?_)
    by_cases h0 : rest = 0
    · refine hK [] 60 _ _ _ _ _ _ ?_
      exact gbr_i (fun _ => leaf rest dg G s h0) (fun h => absurd h0 h)
    have hX : mtr (xv I) nr (k + 1) rest dg G s = tra (xv I) nr (k + 1) rest dg (G / 2) s := if_neg h0
    have hX2 : tra (xv I) nr (k + 1) rest dg (G / 2) s = _ := if_neg h0
    rw [hX, hX2] at hK
    obtain ⟨F, hF⟩ : ∃ F, F = (fun (s : Int32 × Int32) (r : Nat) => if isIn rest r then tra (xv I) nr k (wo rest r) (dg * 12 + nI r) ((edI (xv I) r + G / 2) / 2) (trb rest dg (G / 2) (edI (xv I) r) r s) else s) := ⟨_, rfl⟩
    rw [← hF] at hK
    have ihk' := fun r d g s h => ihk (by
      intro rest dg G s h0
      have hX : mtr (xv I) nr k rest dg G s = (if s.2 < G then (dg, G) else s) := if_pos h0
      rw [hX]
      refine gbr_i (fun h => ?_) (fun h => ?_)
      · rw [mtrI_43] at h
        rw [if_neg (Int32.not_lt.mpr h)]; exact ⟨rfl, rfl⟩
      · rw [mtrI_43] at h
        rw [if_pos (Int32.not_le.mp h)]
        exact ⟨rfl, congrArg (fun q => wM q L) (mtrI_set (t := (dg, G)))⟩) r d g s h
    have loop := gloop (P := fun i => K 0 0 26 [some (.ref 0), some (.int rest), some (.int dg), some (.int G), some (.int (nI i))] [] (wM (mtrI I ((List.range i).foldl F s)) L)) (n := nr) (by
      refine hK [26] 60 _ _ _ _ _ _ ?_
      exact gbr_lp (n := nr) (by show mtrI I (List.foldl F s (List.range nr)) 0 17 = _; rw [mtrI_0 (by omega), hcr]) (by omega) (Nat.le_refl _) (fun _ => ⟨rfl, rfl⟩) (fun z => absurd z (Nat.lt_irrefl _))) (by
      intro i hi ih
      rw [List.range_succ, List.foldl_append, List.foldl_cons, List.foldl_nil] at ih
      generalize (List.range i).foldl F s = s1 at ih
      have hcl : (nI i).toNatClampNeg = i := nI_clamp (by omega)
      refine hK [26] 60 _ _ _ _ _ _ ?_
      refine gbr_lp (n := nr) (by show mtrI I s1 0 17 = _; rw [mtrI_0 (by omega), hcr]) (by omega) (by omega) (fun e => by omega) (fun _ => ?_)
      refine gbr_i (fun h => ?_) (fun h => ?_)
      · have hFi : F s1 i = tra (xv I) nr k (wo rest i) (dg * 12 + nI i) ((edI (xv I) i + G / 2) / 2) (trb rest dg (G / 2) (edI (xv I) i) i s1) := by rw [hF]; exact if_pos h
        rw [hFi, ← mtr_tra, ← nI_1] at ih
        refine gcall0 hca (m_endsOf E (mtrI I s1) L (nI i) (vp_in_nI (by omega) (by omega)) (by rw [hcl]; exact hsm i hi)) (blt_t (by omega)) ?_
        rintro w u' - ⟨rfl, rfl⟩
        have hed : edx (mtrI I s1 8 (nI i).toNatClampNeg) (mtrI I s1 10 (nI i).toNatClampNeg) (mtrI I s1 11 (nI i).toNatClampNeg) = edI (xv I) i := by rw [hcl]; rfl
        rw [hed]
        refine gsd_i (by decide) ?_
        refine gcall0 hca (ihk' (wo rest i) (12 * dg + nI i) (edI (xv I) i + G / 2) s1 (few_wo hnr hi h hfew)) (blt_t (by omega)) ?_
        rintro w u' - ⟨rfl, rfl⟩
        exact ih
      · have hFi : F s1 i = s1 := by rw [hF]; exact if_neg h
        rw [hFi, ← nI_1] at ih
        exact ih)
    refine hK [26] 60 _ _ _ _ _ _ ?_
    refine gbr_i (fun h => absurd h h0) (fun h => ?_)
    exact loop 0 (Nat.zero_le _)
end
