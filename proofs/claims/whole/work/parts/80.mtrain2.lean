-- the best train, wherever one begins
theorem tra_mono {V : Nat → Nat → Int32} {nr : Nat} : ∀ (k : Nat) (rest dg gv : Int32) (s : Int32 × Int32), s.2 ≤ (tra V nr k rest dg gv s).2 := by
  intro k
  induction k with
  | zero => intro rest dg gv s; exact Int32.le_refl _
  | succ k ih =>
    intro rest dg gv s
    show s.2 ≤ (if rest = 0 then s else (List.range nr).foldl _ s).2
    by_cases h0 : rest = 0
    · rw [if_pos h0]; exact Int32.le_refl _
    rw [if_neg h0]
    generalize List.range nr = l
    induction l generalizing s with
    | nil => exact Int32.le_refl _
    | cons r l ihl =>
      refine Int32.le_trans ?_ (ihl _)
      show s.2 ≤ (if isIn rest r then tra V nr k (wo rest r) (dg * 12 + nI r) ((edI V r + gv) / 2) (trb rest dg gv (edI V r) r s) else s).2
      by_cases hi : isIn rest r
      · rw [if_pos hi]
        refine Int32.le_trans ?_ (ih _ _ _ _)
        unfold trb
        by_cases h : wo rest r = 0 ∧ s.2 < edI V r + gv
        · rw [if_pos h]; exact Int32.le_of_lt h.2
        · rw [if_neg h]; exact Int32.le_refl _
      · rw [if_neg hi]; exact Int32.le_refl _
/-- the same best, and the same order, or none yet -/
def same (s t : Int32 × Int32) : Prop := s.2 = t.2 ∧ (s.1 = t.1 ∨ s.2 = -1)
theorem trb_same {rest dg gv e : Int32} {r : Nat} {s t : Int32 × Int32} (h : same s t) : same (trb rest dg gv e r s) (trb rest dg gv e r t) := by
  unfold trb
  by_cases c : wo rest r = 0 ∧ s.2 < e + gv
  · rw [if_pos c, if_pos (by rw [← h.1]; exact c)]; exact ⟨rfl, Or.inl rfl⟩
  · rw [if_neg c, if_neg (by rw [← h.1]; exact c)]; exact h
theorem tra_same {V : Nat → Nat → Int32} {nr : Nat} : ∀ (k : Nat) (rest dg gv : Int32) (s t : Int32 × Int32), same s t → same (tra V nr k rest dg gv s) (tra V nr k rest dg gv t) := by
  intro k
  induction k with
  | zero => intro rest dg gv s t h; exact h
  | succ k ih =>
    intro rest dg gv s t h
    show same (if rest = 0 then s else (List.range nr).foldl _ s) (if rest = 0 then t else (List.range nr).foldl _ t)
    by_cases h0 : rest = 0
    · rw [if_pos h0, if_pos h0]; exact h
    rw [if_neg h0, if_neg h0]
    generalize List.range nr = l
    induction l generalizing s t with
    | nil => exact h
    | cons r l ihl =>
      refine ihl _ _ ?_
      show same (if isIn rest r then tra V nr k (wo rest r) (dg * 12 + nI r) ((edI V r + gv) / 2) (trb rest dg gv (edI V r) r s) else s) (if isIn rest r then tra V nr k (wo rest r) (dg * 12 + nI r) ((edI V r + gv) / 2) (trb rest dg gv (edI V r) r t) else t)
      by_cases hi : isIn rest r
      · rw [if_pos hi, if_pos hi]; exact ih _ _ _ _ _ (trb_same h)
      · rw [if_neg hi, if_neg hi]; exact h
/-- there is someone: someone's end is the best -/
theorem tra_some {V : Nat → Nat → Int32} {nr : Nat} (hnr : nr ≤ 12) (hV : ∀ r, r < nr → ∃ v, v ≤ 4000 ∧ edI V r = nI v) : ∀ (k : Nat) (rest dg : Int32) (q : Nat) (s : Int32 × Int32), few nr k rest → q ≤ 4000 → (∀ i, i < 32 → bt rest i = true → i < nr) → ¬ rest = 0 → 0 ≤ (tra V nr k rest dg (nI q) s).2 := by
  intro k
  induction k with
  | zero =>
    intro rest dg q s hf hq hb h0
    exfalso
    refine h0 (b_ext (fun i hi => ?_))
    rw [b_0]
    cases hbt : bt rest i with
    | false => rfl
    | true =>
      exfalso
      have hin := hb i hi hbt
      unfold few at hf
      have hm : i ∈ (List.range nr).filter (fun q => decide (isIn rest q)) := List.mem_filter.mpr ⟨List.mem_range.mpr hin, decide_eq_true ((b_in (by omega)).mpr hbt)⟩
      rw [List.length_eq_zero_iff.mp (Nat.le_zero.mp hf)] at hm
      exact absurd hm List.not_mem_nil
  | succ k ih =>
    intro rest dg q s hf hq hb h0
    obtain ⟨r0, hr0, hin0⟩ : ∃ r, r < nr ∧ isIn rest r := by
      refine Classical.byContradiction (fun hno => h0 (b_ext (fun i hi => ?_)))
      rw [b_0]
      cases hbt : bt rest i with
      | false => rfl
      | true => exact absurd ⟨i, hb i hi hbt, (b_in (by have := hb i hi hbt; omega)).mpr hbt⟩ hno
    obtain ⟨F, hF⟩ : ∃ F, F = (fun (s : Int32 × Int32) (r : Nat) => if isIn rest r then tra V nr k (wo rest r) (dg * 12 + nI r) ((edI V r + nI q) / 2) (trb rest dg (nI q) (edI V r) r s) else s) := ⟨_, rfl⟩
    have e : tra V nr (k + 1) rest dg (nI q) s = (List.range nr).foldl F s := by rw [hF]; exact if_neg h0
    rw [e]
    have mono : ∀ (l : List Nat) (s : Int32 × Int32), s.2 ≤ (l.foldl F s).2 := by
      intro l
      induction l with
      | nil => intro s; exact Int32.le_refl _
      | cons r l ihl =>
        intro s
        refine Int32.le_trans ?_ (ihl _)
        rw [hF]
        show s.2 ≤ (if isIn rest r then tra V nr k (wo rest r) (dg * 12 + nI r) ((edI V r + nI q) / 2) (trb rest dg (nI q) (edI V r) r s) else s).2
        by_cases hi : isIn rest r
        · rw [if_pos hi]
          refine Int32.le_trans ?_ (tra_mono _ _ _ _ _)
          unfold trb
          by_cases h : wo rest r = 0 ∧ s.2 < edI V r + nI q
          · rw [if_pos h]; exact Int32.le_of_lt h.2
          · rw [if_neg h]; exact Int32.le_refl _
        · rw [if_neg hi]; exact Int32.le_refl _
    have one : ∀ s, 0 ≤ (F s r0).2 := by
      intro s
      rw [hF]
      show 0 ≤ (if isIn rest r0 then tra V nr k (wo rest r0) (dg * 12 + nI r0) ((edI V r0 + nI q) / 2) (trb rest dg (nI q) (edI V r0) r0 s) else s).2
      rw [if_pos hin0]
      obtain ⟨v, hv, hev⟩ := hV r0 hr0
      by_cases hw : wo rest r0 = 0
      · rw [hw, tra_0]
        unfold trb
        have hpos : 0 ≤ edI V r0 + nI q := by
          rw [hev, nI_add, Int32.le_iff_toInt_le, nI_toInt (by omega)]
          have e0 : Int32.toInt 0 = 0 := rfl
          omega
        by_cases h : s.2 < edI V r0 + nI q
        · rw [if_pos ⟨hw, h⟩]; exact hpos
        · rw [if_neg (fun z => h z.2)]; exact Int32.le_trans hpos (Int32.not_lt.mp h)
      · rw [hev, nI_add, show nI (v + q) / 2 = nI ((v + q) / 2) from pk_div (d := 2) (by omega) (by decide) (by decide)]
        refine ih _ _ _ _ (few_wo hnr hr0 hin0 hf) (by omega) (fun i hi hbi => ?_) hw
        rw [b_wo (by omega) hi] at hbi
        exact hb i hi (by
          cases hz : bt rest i with
          | true => rfl
          | false => rw [hz] at hbi; simp at hbi)
    have hsp : List.range nr = List.range r0 ++ (r0 :: (List.range nr).drop (r0 + 1)) := by
      have h1 : (List.range nr).take r0 = List.range r0 := by rw [List.take_range, Nat.min_eq_left (by omega)]
      have h2 : (List.range nr).drop r0 = r0 :: (List.range nr).drop (r0 + 1) := by
        rw [List.drop_eq_getElem_cons (by simp; omega)]; simp
      rw [← h2, ← h1, List.take_append_drop]
    rw [hsp, List.foldl_append, List.foldl_cons]
    exact Int32.le_trans (one _) (mono _ _)
section
variable (E : gEnv) (I : Nat → Nat → Int32) (L : Nat → Nat → Int64)
set_option maxHeartbeats 1000000 in
theorem m_train (nr : Nat) (hnr : nr ≤ 12) (hcr : I 0 17 = nI nr) (hsm : ∀ r, r < nr → smalls (I 11 r) (I 10 r)) (g what : Int32) :
    gCtr E 16 0 0 nX10_train [.ref 0, .int g, .int what] (wM I L) (fun v u' => v = some (.int (trainX (xv I) nr g what)) ∧ ∃ I' L', u' = wM I' L' ∧ mgf I I') := by
  refine gstart iX10_train tX10_train rfl rfl (fun K ca hK hca => ?_)
  refine hK [] 80 _ _ _ _ _ _ ?_
  clear hK
  have bad : ¬ (isG (xv I) g ∧ (2 ≤ ibc g ∧ ibc g ≤ 4) ∧ 0 ≤ what ∧ what ≤ 1) → some (Value.int (-2)) = some (.int (trainX (xv I) nr g what)) ∧ ∃ I' L', (wM I L) = wM I' L' ∧ mgf I I' := fun h => by
    unfold trainX; rw [if_neg h]; exact ⟨rfl, I, L, rfl, mgf_refl I⟩
  refine gcall0 hca (m_isGroup E I L g nr hnr hcr) rfl ?_
  rintro w u' - ⟨rfl, rfl⟩
  refine gbr_p (fun h1 => bad (fun z => h1 z.1)) (fun h1 => ?_)
  obtain ⟨m, hm, hm2, hm0, rfl⟩ := grp_m hcr hnr h1
  have hib := krn_ibc m hm
  refine gcall0 hca (m_bitsOf E m hm (wM I L)) rfl ?_
  rintro w u' - ⟨rfl, rfl⟩
  rw [← hib]
  refine gcall0 hca (m_in E (wM I L) (ibc (nI m)) 2 4) rfl ?_
  rintro w u' - ⟨rfl, rfl⟩
  refine gbr_p (fun h2 => bad (fun z => h2 z.2.1)) (fun h2 => ?_)
  refine gcall0 hca (m_in E (wM I L) what 0 1) rfl ?_
  rintro w u' - ⟨rfl, rfl⟩
  refine gbr_p (fun h3 => bad (fun z => h3 z.2.2)) (fun h3 => ?_)
  have hX : trainX (xv I) nr (nI m) what = _ := if_pos ⟨h1, h2, h3⟩
  have eI : gset I 0 (gupd (I 0) 43 (-1)) = mtrI I (I 0 42, -1) := by
    unfold mtrI
    congr 1
    funext q
    by_cases h1 : q = 43
    · subst h1; rw [gupd_s, gupd_s]
    · rw [gupd_n h1, gupd_n h1]
      by_cases h2 : q = 42
      · subst h2; rw [gupd_s]
      · rw [gupd_n h2]
  have hc := m_couples E I L nr hnr hcr hsm 12 (nI m) 0 0 (I 0 42, -1) (few_12 hnr _)
  rw [← eI] at hc
  have hne : ¬ nI m = 0 := fun z => by rw [z] at h1; exact absurd h1.1 (by decide)
  have hmt : mtr (xv I) nr 12 (nI m) 0 0 (I 0 42, -1) = tra (xv I) nr 12 (nI m) 0 0 (I 0 42, -1) := if_neg hne
  rw [hmt] at hc
  have hs := tra_same (V := xv I) (nr := nr) 12 (nI m) 0 0 (I 0 42, -1) (0, -1) ⟨rfl, Or.inr rfl⟩
  have hp := tra_some (V := xv I) hnr (fun r hr => edn (hsm r hr)) 12 (nI m) 0 0 (I 0 42, -1) (few_12 hnr _) (by omega) (fun i hi hb => by
    rcases Nat.lt_or_ge i nr with z | z
    · exact z
    · exfalso
      have e : bt (nI m) i = (decide (i < 32) && m.testBit i) := by
        unfold bt
        show (BitVec.ofNat 32 m).getLsbD i = _
        rw [BitVec.getLsbD_ofNat]
      rw [e, Nat.testBit_lt_two_pow (Nat.lt_of_lt_of_le hm2 (Nat.pow_le_pow_right (by decide) z))] at hb
      simp at hb) hne
  have heq : (tra (xv I) nr 12 (nI m) 0 0 (I 0 42, -1)).1 = (tra (xv I) nr 12 (nI m) 0 0 (0, -1)).1 := by
    rcases hs.2 with z | z
    · exact z
    · exfalso
      have hp' : 0 ≤ (tra (xv I) nr 12 (nI m) 0 0 (I 0 42, -1)).2 := hp
      rw [z] at hp'
      exact absurd hp' (by decide)
  refine gcall0 hca hc rfl ?_
  rintro w u' - ⟨rfl, rfl⟩
  have hmg : mgf I (mtrI I (tra (xv I) nr 12 (nI m) 0 0 (I 0 42, -1))) := by
    refine ⟨fun k a _ => gset_n a, fun j hj => ?_⟩
    show gset I 0 _ 0 j = _
    rw [gset_s, gupd_n (by omega), gupd_n (by omega)]
  rw [hX]
  refine gbr_i (fun z => ?_) (fun z => ?_)
  · rw [if_pos z, ← heq]
    exact ⟨congrArg (fun q => some (Value.int q)) (mtrI_42 (I := I)), _, L, rfl, hmg⟩
  · rw [if_neg z, ← hs.1]
    exact ⟨congrArg (fun q => some (Value.int q)) (mtrI_43 (I := I)), _, L, rfl, hmg⟩
end
