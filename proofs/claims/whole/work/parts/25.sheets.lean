-- public methods of sheets; sheet s is cell 33 + 2 s
section
variable (E : gEnv) (c : Nat) (ln : Nat → Nat) (I : Nat → Nat → Int32) (L : Nat → Nat → Int64)
def kS (s : Int32) : Nat := 33 + 2 * s.toNatClampNeg
def sheetX (I : Nat → Nat → Int32) (s sort n : Int32) : Int32 × (Nat → Nat → Int32) :=
  if (0 ≤ s ∧ s < 4) ∧ -1 ≤ sort ∧ sort ≤ 2 then
    if ¬ sort = -1 ∧ 40 < n then (-2, I) else if ¬ sort = -1 ∧ n < 0 then (-14, I)
    else (1, gset (gset I (kS s) (gupd (gupd (I (kS s)) 1 sort) 2 (if sort = -1 then 0 else n))) (kS s + 1) (ffil (I (kS s + 1)) 0 40))
  else (-2, I)
theorem p_sheet (s sort n : Int32) : gCtr E 4 0 0 nX9_sheet [.ref 0, .int s, .int sort, .int n] (wX c ln I L) (fun w u' => u' = (wX c ln (sheetX I s sort n).2 L) ∧ w = some (.int (sheetX I s sort n).1)) := by
  refine gstart iX9_sheet tX9_sheet rfl rfl (fun K ca hK hca => ?_)
  refine hK [] 80 _ _ _ _ _ _ ?_
  clear hK
  have bad : ¬ ((0 ≤ s ∧ s < 4) ∧ -1 ≤ sort ∧ sort ≤ 2) → (wX c ln I L) = (wX c ln (sheetX I s sort n).2 L) ∧ some (Value.int (-2)) = some (.int (sheetX I s sort n).1) := fun h => by
    unfold sheetX; rw [if_neg h]; exact ⟨rfl, rfl⟩
  refine gcall0 hca (c_isSheet E (wX c ln I L) s) rfl ?_
  rintro w u' - ⟨rfl, rfl⟩
  refine gbr_p (fun h1 => bad (fun z => h1 z.1)) (fun h1 => ?_)
  refine gbr_i (fun h2 => bad (fun z => by have := z.2.1; clear bad hca; (simp only [Int32.lt_iff_toInt_lt, Int32.le_iff_toInt_le, ← Int32.toInt_inj, Int32.reduceToInt] at *; omega))) (fun h2 => ?_)
  refine gbr_i (fun h3 => ?_) (fun h3 => bad (fun z => h3 z.2.2))
  have good : (0 ≤ s ∧ s < 4) ∧ -1 ≤ sort ∧ sort ≤ 2 := ⟨h1, by clear bad hca; (simp only [Int32.lt_iff_toInt_lt, Int32.le_iff_toInt_le, ← Int32.toInt_inj, Int32.reduceToInt] at *; omega)⟩
  have one : ∀ (m : Int32), (¬ (¬ sort = -1 ∧ 40 < n)) → (¬ (¬ sort = -1 ∧ n < 0)) → m = (if sort = -1 then 0 else n) → gset (gset I (kS s) (gupd (gupd (I (kS s)) 1 sort) 2 m)) (kS s + 1) (ffil (I (kS s + 1)) 0 40) = (sheetX I s sort n).2 ∧ (sheetX I s sort n).1 = 1 := fun m ha hb hm => by
    unfold sheetX; rw [if_pos good, if_neg ha, if_neg hb, hm]; exact ⟨rfl, rfl⟩
  refine gbr_i (fun h4 => ?_) (fun h4 => ?_)
  · refine gbr_i (fun h5 => ?_) (fun z => absurd h4 z)
    obtain ⟨e1, e2⟩ := one 0 (fun z => z.1 h4) (fun z => z.1 h4) (if_pos h4).symm
    rw [← e1, e2]
    rcases four h1 with rfl | rfl | rfl | rfl
    · refine gsd_i (by unfold vp_in; decide) (gbr_i (fun _ => ?_) (fun z => absurd h4 z))
      refine gcall0 hca (c_become E c ln I L 33 (by decide) sort 0) rfl ?_
      rintro w u' - ⟨rfl, rfl⟩
      exact ⟨rfl, rfl⟩
    · refine gsd_i (by unfold vp_in; decide) (gbr_i (fun _ => ?_) (fun z => absurd h4 z))
      refine gcall0 hca (c_become E c ln I L 35 (by decide) sort 0) rfl ?_
      rintro w u' - ⟨rfl, rfl⟩
      exact ⟨rfl, rfl⟩
    · refine gsd_i (by unfold vp_in; decide) (gbr_i (fun _ => ?_) (fun z => absurd h4 z))
      refine gcall0 hca (c_become E c ln I L 37 (by decide) sort 0) rfl ?_
      rintro w u' - ⟨rfl, rfl⟩
      exact ⟨rfl, rfl⟩
    · refine gsd_i (by unfold vp_in; decide) (gbr_i (fun _ => ?_) (fun z => absurd h4 z))
      refine gcall0 hca (c_become E c ln I L 39 (by decide) sort 0) rfl ?_
      rintro w u' - ⟨rfl, rfl⟩
      exact ⟨rfl, rfl⟩
  · refine gbr_i (fun h5 => ?_) (fun h5 => ?_)
    · refine gbr_i (fun z => absurd z h4) (fun _ => ?_)
      refine gbr_i (fun h6 => ?_) (fun h6 => ?_)
      · obtain ⟨e1, e2⟩ := one n (fun z => by have := z.2; clear bad hca one; (simp only [Int32.lt_iff_toInt_lt, Int32.le_iff_toInt_le, ← Int32.toInt_inj, Int32.reduceToInt] at *; omega)) (fun z => by have := z.2; clear bad hca one; (simp only [Int32.lt_iff_toInt_lt, Int32.le_iff_toInt_le, ← Int32.toInt_inj, Int32.reduceToInt] at *; omega)) (if_neg h4).symm
        rw [← e1, e2]
        rcases four h1 with rfl | rfl | rfl | rfl
        · refine gsd_i (by unfold vp_in; decide) (gbr_i (fun z => absurd z h4) (fun _ => ?_))
          refine gcall0 hca (c_become E c ln I L 33 (by decide) sort n) rfl ?_
          rintro w u' - ⟨rfl, rfl⟩
          exact ⟨rfl, rfl⟩
        · refine gsd_i (by unfold vp_in; decide) (gbr_i (fun z => absurd z h4) (fun _ => ?_))
          refine gcall0 hca (c_become E c ln I L 35 (by decide) sort n) rfl ?_
          rintro w u' - ⟨rfl, rfl⟩
          exact ⟨rfl, rfl⟩
        · refine gsd_i (by unfold vp_in; decide) (gbr_i (fun z => absurd z h4) (fun _ => ?_))
          refine gcall0 hca (c_become E c ln I L 37 (by decide) sort n) rfl ?_
          rintro w u' - ⟨rfl, rfl⟩
          exact ⟨rfl, rfl⟩
        · refine gsd_i (by unfold vp_in; decide) (gbr_i (fun z => absurd z h4) (fun _ => ?_))
          refine gcall0 hca (c_become E c ln I L 39 (by decide) sort n) rfl ?_
          rintro w u' - ⟨rfl, rfl⟩
          exact ⟨rfl, rfl⟩
      · have hn : n < 0 := by clear bad hca one; (simp only [Int32.lt_iff_toInt_lt, Int32.le_iff_toInt_le, ← Int32.toInt_inj, Int32.reduceToInt] at *; omega)
        unfold sheetX
        rw [if_pos good, if_neg (fun z => by have := z.2; clear bad hca one; (simp only [Int32.lt_iff_toInt_lt, Int32.le_iff_toInt_le, ← Int32.toInt_inj, Int32.reduceToInt] at *; omega)), if_pos ⟨h4, hn⟩]
        exact ⟨rfl, rfl⟩
    · unfold sheetX
      rw [if_pos good, if_pos ⟨h4, by clear bad hca one; (simp only [Int32.lt_iff_toInt_lt, Int32.le_iff_toInt_le, ← Int32.toInt_inj, Int32.reduceToInt] at *; omega)⟩]
      exact ⟨rfl, rfl⟩
def cellX (I : Nat → Nat → Int32) (s i v : Int32) : Int32 × (Nat → Nat → Int32) :=
  if 0 ≤ s ∧ s < 4 then
    if I (kS s) 1 = -1 then (-11, I) else if 0 ≤ i ∧ (0 : Int32) ≤ 1 ∧ i ≤ I (kS s) 2 - 1 then (1, gset I (kS s + 1) (gupd (I (kS s + 1)) i.toNatClampNeg (nar (I (kS s) 1) v))) else (-12, I)
  else (-2, I)
theorem gin40 {i x : Int32} {z : Nat} (hx : x = nI z) (hz : z ≤ 40) (h1 : 0 ≤ i) (h2 : i ≤ x - 1) : vp_in i 40 := by
  rw [vp_in_iff]
  rw [Int32.le_iff_toInt_le] at h1 h2
  have e : (x - 1).toInt = (z : Int) - 1 := by
    rw [hx, show (1 : Int32) = nI 1 from rfl, pk_sub_toInt (by omega) (by omega)]; rfl
  rw [e] at h2
  simp only [Int32.reduceToInt] at h1
  omega
theorem p_cell (s i v : Int32) (hz : ∀ s, 0 ≤ s ∧ s < 4 → ¬ I (kS s) 1 = -1 → ∃ z, z ≤ 40 ∧ I (kS s) 2 = nI z) : gCtr E 4 0 0 nX9_cell [.ref 0, .int s, .int i, .int v] (wX c ln I L) (fun w u' => u' = (wX c ln (cellX I s i v).2 L) ∧ w = some (.int (cellX I s i v).1)) := by
  refine gstart iX9_cell tX9_cell rfl rfl (fun K ca hK hca => ?_)
  refine hK [] 80 _ _ _ _ _ _ ?_
  clear hK
  refine gcall0 hca (c_isSheet E (wX c ln I L) s) rfl ?_
  rintro w u' - ⟨rfl, rfl⟩
  refine gbr_p (fun h1 => by unfold cellX; rw [if_neg h1]; exact ⟨rfl, rfl⟩) (fun h1 => ?_)
  have hzs := hz s h1
  unfold cellX
  simp only [if_pos h1]
  rcases four h1 with rfl | rfl | rfl | rfl
  · refine gsd_i (by unfold vp_in; decide) ?_
    have ek : kS 0 = 33 := rfl
    simp only [ek] at hzs ⊢
    refine gcall0 hca (c_isMissing E c ln I L 33 (by decide)) rfl ?_
    rintro w u' - ⟨rfl, rfl⟩
    refine gbr_p (fun h2 => ?_) (fun h2 => by rw [if_pos h2]; exact ⟨rfl, rfl⟩)
    rw [if_neg h2]
    obtain ⟨z, hz1, hz2⟩ := hzs h2
    refine gcall0 hca (c_reaches E c ln I L 33 (by decide) i 1) rfl ?_
    rintro w u' - ⟨rfl, rfl⟩
    refine gbr_p (fun h3 => by rw [if_neg h3]; exact ⟨rfl, rfl⟩) (fun h3 => ?_)
    rw [if_pos h3]
    refine gcall0 hca (c_put E c ln I L 33 (by decide) i v (gin40 hz2 hz1 h3.1 h3.2.2)) rfl ?_
    rintro w u' - ⟨rfl, rfl⟩
    exact ⟨rfl, rfl⟩
  · refine gsd_i (by unfold vp_in; decide) ?_
    have ek : kS 1 = 35 := rfl
    simp only [ek] at hzs ⊢
    refine gcall0 hca (c_isMissing E c ln I L 35 (by decide)) rfl ?_
    rintro w u' - ⟨rfl, rfl⟩
    refine gbr_p (fun h2 => ?_) (fun h2 => by rw [if_pos h2]; exact ⟨rfl, rfl⟩)
    rw [if_neg h2]
    obtain ⟨z, hz1, hz2⟩ := hzs h2
    refine gcall0 hca (c_reaches E c ln I L 35 (by decide) i 1) rfl ?_
    rintro w u' - ⟨rfl, rfl⟩
    refine gbr_p (fun h3 => by rw [if_neg h3]; exact ⟨rfl, rfl⟩) (fun h3 => ?_)
    rw [if_pos h3]
    refine gcall0 hca (c_put E c ln I L 35 (by decide) i v (gin40 hz2 hz1 h3.1 h3.2.2)) rfl ?_
    rintro w u' - ⟨rfl, rfl⟩
    exact ⟨rfl, rfl⟩
  · refine gsd_i (by unfold vp_in; decide) ?_
    have ek : kS 2 = 37 := rfl
    simp only [ek] at hzs ⊢
    refine gcall0 hca (c_isMissing E c ln I L 37 (by decide)) rfl ?_
    rintro w u' - ⟨rfl, rfl⟩
    refine gbr_p (fun h2 => ?_) (fun h2 => by rw [if_pos h2]; exact ⟨rfl, rfl⟩)
    rw [if_neg h2]
    obtain ⟨z, hz1, hz2⟩ := hzs h2
    refine gcall0 hca (c_reaches E c ln I L 37 (by decide) i 1) rfl ?_
    rintro w u' - ⟨rfl, rfl⟩
    refine gbr_p (fun h3 => by rw [if_neg h3]; exact ⟨rfl, rfl⟩) (fun h3 => ?_)
    rw [if_pos h3]
    refine gcall0 hca (c_put E c ln I L 37 (by decide) i v (gin40 hz2 hz1 h3.1 h3.2.2)) rfl ?_
    rintro w u' - ⟨rfl, rfl⟩
    exact ⟨rfl, rfl⟩
  · refine gsd_i (by unfold vp_in; decide) ?_
    have ek : kS 3 = 39 := rfl
    simp only [ek] at hzs ⊢
    refine gcall0 hca (c_isMissing E c ln I L 39 (by decide)) rfl ?_
    rintro w u' - ⟨rfl, rfl⟩
    refine gbr_p (fun h2 => ?_) (fun h2 => by rw [if_pos h2]; exact ⟨rfl, rfl⟩)
    rw [if_neg h2]
    obtain ⟨z, hz1, hz2⟩ := hzs h2
    refine gcall0 hca (c_reaches E c ln I L 39 (by decide) i 1) rfl ?_
    rintro w u' - ⟨rfl, rfl⟩
    refine gbr_p (fun h3 => by rw [if_neg h3]; exact ⟨rfl, rfl⟩) (fun h3 => ?_)
    rw [if_pos h3]
    refine gcall0 hca (c_put E c ln I L 39 (by decide) i v (gin40 hz2 hz1 h3.1 h3.2.2)) rfl ?_
    rintro w u' - ⟨rfl, rfl⟩
    exact ⟨rfl, rfl⟩
def copyX (I : Nat → Nat → Int32) (s i o j n : Int32) : Int32 × (Nat → Nat → Int32) :=
  if (0 ≤ s ∧ s < 4) ∧ 0 ≤ o ∧ o < 4 then
    if I (kS s) 1 = -1 ∨ I (kS o) 1 = -1 then (-11, I) else if ¬ I (kS s) 1 = I (kS o) 1 then (-13, I)
    else if (0 ≤ i ∧ 0 ≤ n ∧ i ≤ I (kS s) 2 - n) ∧ 0 ≤ j ∧ 0 ≤ n ∧ j ≤ I (kS o) 2 - n then (n, gset I (kS o + 1) (va_cpy (I (kS s + 1)) (I (kS o + 1)) i.toNatClampNeg j.toNatClampNeg n.toNatClampNeg)) else (-12, I)
  else (-2, I)
theorem gcp40 {i n x : Int32} {z : Nat} (hx : x = nI z) (hz : z ≤ 40) (h : 0 ≤ i ∧ 0 ≤ n ∧ i ≤ x - n) : ¬ i < 0 ∧ ¬ n < 0 ∧ i.toNatClampNeg + n.toNatClampNeg ≤ 40 := by
  obtain ⟨h1, h2, h3⟩ := h
  have g1 : ¬ i < 0 := by clear h3 hx; (simp only [Int32.lt_iff_toInt_lt, Int32.le_iff_toInt_le, ← Int32.toInt_inj, Int32.reduceToInt] at *; omega)
  have g2 : ¬ n < 0 := by clear h3 hx; (simp only [Int32.lt_iff_toInt_lt, Int32.le_iff_toInt_le, ← Int32.toInt_inj, Int32.reduceToInt] at *; omega)
  obtain ⟨a, ha, rfl⟩ := nI_of g1
  obtain ⟨b, hb, rfl⟩ := nI_of g2
  refine ⟨g1, g2, ?_⟩
  rw [nI_clamp ha, nI_clamp hb]
  rw [hx, Int32.le_iff_toInt_le, nI_toInt ha] at h3
  have e : (nI z - nI b).toInt = (z : Int) - b := by
    have hs : (nI z - nI b).toInt = ((nI z).toInt - (nI b).toInt).bmod (2 ^ 32) := Int32.toInt_sub _ _
    rw [hs, nI_toInt (by omega), nI_toInt hb, Int.bmod_eq_of_le (by omega) (by omega)]
  rw [e] at h3
  omega
theorem p_copy (s i o j n : Int32) (hz : ∀ s, 0 ≤ s ∧ s < 4 → ¬ I (kS s) 1 = -1 → ∃ z, z ≤ 40 ∧ I (kS s) 2 = nI z) : gCtr E 4 0 0 nX9_copy [.ref 0, .int s, .int i, .int o, .int j, .int n] (wX c ln I L) (fun w u' => u' = (wX c ln (copyX I s i o j n).2 L) ∧ w = some (.int (copyX I s i o j n).1)) := by
  refine gstart iX9_copy tX9_copy rfl rfl (fun K ca hK hca => ?_)
  refine hK [] 80 _ _ _ _ _ _ ?_
  clear hK
  refine gcall0 hca (c_isSheet E (wX c ln I L) s) rfl ?_
  rintro w u' - ⟨rfl, rfl⟩
  refine gbr_p (fun h1 => by unfold copyX; rw [if_neg (fun z => h1 z.1)]; exact ⟨rfl, rfl⟩) (fun h1 => ?_)
  refine gcall0 hca (c_isSheet E (wX c ln I L) o) rfl ?_
  rintro w u' - ⟨rfl, rfl⟩
  refine gbr_p (fun h2 => by unfold copyX; rw [if_neg (fun z => h2 z.2)]; exact ⟨rfl, rfl⟩) (fun h2 => ?_)
  have hzs := hz s h1
  have hzo := hz o h2
  unfold copyX
  simp only [if_pos (show (0 ≤ s ∧ s < 4) ∧ 0 ≤ o ∧ o < 4 from ⟨h1, h2⟩)]
  rcases four h1 with rfl | rfl | rfl | rfl
  · rcases four h2 with rfl | rfl | rfl | rfl
    · refine gsd_i (by unfold vp_in; decide) (gsd_i (by unfold vp_in; decide) ?_)
      have ea : kS 0 = 33 := rfl
      have eb : kS 0 = 33 := rfl
      simp only [ea, eb] at hzs hzo ⊢
      refine gcall0 hca (c_isMissing E c ln I L 33 (by decide)) rfl ?_
      rintro w u' - ⟨rfl, rfl⟩
      refine gbr_p (fun h3 => ?_) (fun h3 => by rw [if_pos (Or.inl h3)]; exact ⟨rfl, rfl⟩)
      refine gcall0 hca (c_isMissing E c ln I L 33 (by decide)) rfl ?_
      rintro w u' - ⟨rfl, rfl⟩
      refine gbr_p (fun h4 => ?_) (fun h4 => by rw [if_pos (Or.inr h4)]; exact ⟨rfl, rfl⟩)
      rw [if_neg (fun z => z.elim h3 h4)]
      obtain ⟨za, za1, za2⟩ := hzs h3
      obtain ⟨zb, zb1, zb2⟩ := hzo h4
      refine gbr_i (fun h5 => ?_) (fun h5 => absurd rfl h5)
      rw [if_neg (fun z => z trivial)]
      refine gcall0 hca (c_reaches E c ln I L 33 (by decide) i n) rfl ?_
      rintro w u' - ⟨rfl, rfl⟩
      refine gbr_p (fun h6 => by rw [if_neg (fun z => h6 z.1)]; exact ⟨rfl, rfl⟩) (fun h6 => ?_)
      refine gcall0 hca (c_reaches E c ln I L 33 (by decide) j n) rfl ?_
      rintro w u' - ⟨rfl, rfl⟩
      refine gbr_p (fun h7 => by rw [if_neg (fun z => h7 z.2)]; exact ⟨rfl, rfl⟩) (fun h7 => ?_)
      rw [if_pos ⟨h6, h7⟩]
      obtain ⟨g1, g2, g3⟩ := gcp40 za2 za1 h6
      obtain ⟨g4, g5, g6⟩ := gcp40 zb2 zb1 h7
      exact gsd_i ⟨g1, g4, g2, g3, g6⟩ ⟨rfl, rfl⟩
    · refine gsd_i (by unfold vp_in; decide) (gsd_i (by unfold vp_in; decide) ?_)
      have ea : kS 0 = 33 := rfl
      have eb : kS 1 = 35 := rfl
      simp only [ea, eb] at hzs hzo ⊢
      refine gcall0 hca (c_isMissing E c ln I L 33 (by decide)) rfl ?_
      rintro w u' - ⟨rfl, rfl⟩
      refine gbr_p (fun h3 => ?_) (fun h3 => by rw [if_pos (Or.inl h3)]; exact ⟨rfl, rfl⟩)
      refine gcall0 hca (c_isMissing E c ln I L 35 (by decide)) rfl ?_
      rintro w u' - ⟨rfl, rfl⟩
      refine gbr_p (fun h4 => ?_) (fun h4 => by rw [if_pos (Or.inr h4)]; exact ⟨rfl, rfl⟩)
      rw [if_neg (fun z => z.elim h3 h4)]
      obtain ⟨za, za1, za2⟩ := hzs h3
      obtain ⟨zb, zb1, zb2⟩ := hzo h4
      refine gbr_i (fun h5 => ?_) (fun h5 => by rw [if_pos h5]; exact ⟨rfl, rfl⟩)
      rw [if_neg (fun z => z h5)]
      refine gcall0 hca (c_reaches E c ln I L 33 (by decide) i n) rfl ?_
      rintro w u' - ⟨rfl, rfl⟩
      refine gbr_p (fun h6 => by rw [if_neg (fun z => h6 z.1)]; exact ⟨rfl, rfl⟩) (fun h6 => ?_)
      refine gcall0 hca (c_reaches E c ln I L 35 (by decide) j n) rfl ?_
      rintro w u' - ⟨rfl, rfl⟩
      refine gbr_p (fun h7 => by rw [if_neg (fun z => h7 z.2)]; exact ⟨rfl, rfl⟩) (fun h7 => ?_)
      rw [if_pos ⟨h6, h7⟩]
      obtain ⟨g1, g2, g3⟩ := gcp40 za2 za1 h6
      obtain ⟨g4, g5, g6⟩ := gcp40 zb2 zb1 h7
      exact gsd_i ⟨g1, g4, g2, g3, g6⟩ ⟨rfl, rfl⟩
    · refine gsd_i (by unfold vp_in; decide) (gsd_i (by unfold vp_in; decide) ?_)
      have ea : kS 0 = 33 := rfl
      have eb : kS 2 = 37 := rfl
      simp only [ea, eb] at hzs hzo ⊢
      refine gcall0 hca (c_isMissing E c ln I L 33 (by decide)) rfl ?_
      rintro w u' - ⟨rfl, rfl⟩
      refine gbr_p (fun h3 => ?_) (fun h3 => by rw [if_pos (Or.inl h3)]; exact ⟨rfl, rfl⟩)
      refine gcall0 hca (c_isMissing E c ln I L 37 (by decide)) rfl ?_
      rintro w u' - ⟨rfl, rfl⟩
      refine gbr_p (fun h4 => ?_) (fun h4 => by rw [if_pos (Or.inr h4)]; exact ⟨rfl, rfl⟩)
      rw [if_neg (fun z => z.elim h3 h4)]
      obtain ⟨za, za1, za2⟩ := hzs h3
      obtain ⟨zb, zb1, zb2⟩ := hzo h4
      refine gbr_i (fun h5 => ?_) (fun h5 => by rw [if_pos h5]; exact ⟨rfl, rfl⟩)
      rw [if_neg (fun z => z h5)]
      refine gcall0 hca (c_reaches E c ln I L 33 (by decide) i n) rfl ?_
      rintro w u' - ⟨rfl, rfl⟩
      refine gbr_p (fun h6 => by rw [if_neg (fun z => h6 z.1)]; exact ⟨rfl, rfl⟩) (fun h6 => ?_)
      refine gcall0 hca (c_reaches E c ln I L 37 (by decide) j n) rfl ?_
      rintro w u' - ⟨rfl, rfl⟩
      refine gbr_p (fun h7 => by rw [if_neg (fun z => h7 z.2)]; exact ⟨rfl, rfl⟩) (fun h7 => ?_)
      rw [if_pos ⟨h6, h7⟩]
      obtain ⟨g1, g2, g3⟩ := gcp40 za2 za1 h6
      obtain ⟨g4, g5, g6⟩ := gcp40 zb2 zb1 h7
      exact gsd_i ⟨g1, g4, g2, g3, g6⟩ ⟨rfl, rfl⟩
    · refine gsd_i (by unfold vp_in; decide) (gsd_i (by unfold vp_in; decide) ?_)
      have ea : kS 0 = 33 := rfl
      have eb : kS 3 = 39 := rfl
      simp only [ea, eb] at hzs hzo ⊢
      refine gcall0 hca (c_isMissing E c ln I L 33 (by decide)) rfl ?_
      rintro w u' - ⟨rfl, rfl⟩
      refine gbr_p (fun h3 => ?_) (fun h3 => by rw [if_pos (Or.inl h3)]; exact ⟨rfl, rfl⟩)
      refine gcall0 hca (c_isMissing E c ln I L 39 (by decide)) rfl ?_
      rintro w u' - ⟨rfl, rfl⟩
      refine gbr_p (fun h4 => ?_) (fun h4 => by rw [if_pos (Or.inr h4)]; exact ⟨rfl, rfl⟩)
      rw [if_neg (fun z => z.elim h3 h4)]
      obtain ⟨za, za1, za2⟩ := hzs h3
      obtain ⟨zb, zb1, zb2⟩ := hzo h4
      refine gbr_i (fun h5 => ?_) (fun h5 => by rw [if_pos h5]; exact ⟨rfl, rfl⟩)
      rw [if_neg (fun z => z h5)]
      refine gcall0 hca (c_reaches E c ln I L 33 (by decide) i n) rfl ?_
      rintro w u' - ⟨rfl, rfl⟩
      refine gbr_p (fun h6 => by rw [if_neg (fun z => h6 z.1)]; exact ⟨rfl, rfl⟩) (fun h6 => ?_)
      refine gcall0 hca (c_reaches E c ln I L 39 (by decide) j n) rfl ?_
      rintro w u' - ⟨rfl, rfl⟩
      refine gbr_p (fun h7 => by rw [if_neg (fun z => h7 z.2)]; exact ⟨rfl, rfl⟩) (fun h7 => ?_)
      rw [if_pos ⟨h6, h7⟩]
      obtain ⟨g1, g2, g3⟩ := gcp40 za2 za1 h6
      obtain ⟨g4, g5, g6⟩ := gcp40 zb2 zb1 h7
      exact gsd_i ⟨g1, g4, g2, g3, g6⟩ ⟨rfl, rfl⟩
  · rcases four h2 with rfl | rfl | rfl | rfl
    · refine gsd_i (by unfold vp_in; decide) (gsd_i (by unfold vp_in; decide) ?_)
      have ea : kS 1 = 35 := rfl
      have eb : kS 0 = 33 := rfl
      simp only [ea, eb] at hzs hzo ⊢
      refine gcall0 hca (c_isMissing E c ln I L 35 (by decide)) rfl ?_
      rintro w u' - ⟨rfl, rfl⟩
      refine gbr_p (fun h3 => ?_) (fun h3 => by rw [if_pos (Or.inl h3)]; exact ⟨rfl, rfl⟩)
      refine gcall0 hca (c_isMissing E c ln I L 33 (by decide)) rfl ?_
      rintro w u' - ⟨rfl, rfl⟩
      refine gbr_p (fun h4 => ?_) (fun h4 => by rw [if_pos (Or.inr h4)]; exact ⟨rfl, rfl⟩)
      rw [if_neg (fun z => z.elim h3 h4)]
      obtain ⟨za, za1, za2⟩ := hzs h3
      obtain ⟨zb, zb1, zb2⟩ := hzo h4
      refine gbr_i (fun h5 => ?_) (fun h5 => by rw [if_pos h5]; exact ⟨rfl, rfl⟩)
      rw [if_neg (fun z => z h5)]
      refine gcall0 hca (c_reaches E c ln I L 35 (by decide) i n) rfl ?_
      rintro w u' - ⟨rfl, rfl⟩
      refine gbr_p (fun h6 => by rw [if_neg (fun z => h6 z.1)]; exact ⟨rfl, rfl⟩) (fun h6 => ?_)
      refine gcall0 hca (c_reaches E c ln I L 33 (by decide) j n) rfl ?_
      rintro w u' - ⟨rfl, rfl⟩
      refine gbr_p (fun h7 => by rw [if_neg (fun z => h7 z.2)]; exact ⟨rfl, rfl⟩) (fun h7 => ?_)
      rw [if_pos ⟨h6, h7⟩]
      obtain ⟨g1, g2, g3⟩ := gcp40 za2 za1 h6
      obtain ⟨g4, g5, g6⟩ := gcp40 zb2 zb1 h7
      exact gsd_i ⟨g1, g4, g2, g3, g6⟩ ⟨rfl, rfl⟩
    · refine gsd_i (by unfold vp_in; decide) (gsd_i (by unfold vp_in; decide) ?_)
      have ea : kS 1 = 35 := rfl
      have eb : kS 1 = 35 := rfl
      simp only [ea, eb] at hzs hzo ⊢
      refine gcall0 hca (c_isMissing E c ln I L 35 (by decide)) rfl ?_
      rintro w u' - ⟨rfl, rfl⟩
      refine gbr_p (fun h3 => ?_) (fun h3 => by rw [if_pos (Or.inl h3)]; exact ⟨rfl, rfl⟩)
      refine gcall0 hca (c_isMissing E c ln I L 35 (by decide)) rfl ?_
      rintro w u' - ⟨rfl, rfl⟩
      refine gbr_p (fun h4 => ?_) (fun h4 => by rw [if_pos (Or.inr h4)]; exact ⟨rfl, rfl⟩)
      rw [if_neg (fun z => z.elim h3 h4)]
      obtain ⟨za, za1, za2⟩ := hzs h3
      obtain ⟨zb, zb1, zb2⟩ := hzo h4
      refine gbr_i (fun h5 => ?_) (fun h5 => absurd rfl h5)
      rw [if_neg (fun z => z trivial)]
      refine gcall0 hca (c_reaches E c ln I L 35 (by decide) i n) rfl ?_
      rintro w u' - ⟨rfl, rfl⟩
      refine gbr_p (fun h6 => by rw [if_neg (fun z => h6 z.1)]; exact ⟨rfl, rfl⟩) (fun h6 => ?_)
      refine gcall0 hca (c_reaches E c ln I L 35 (by decide) j n) rfl ?_
      rintro w u' - ⟨rfl, rfl⟩
      refine gbr_p (fun h7 => by rw [if_neg (fun z => h7 z.2)]; exact ⟨rfl, rfl⟩) (fun h7 => ?_)
      rw [if_pos ⟨h6, h7⟩]
      obtain ⟨g1, g2, g3⟩ := gcp40 za2 za1 h6
      obtain ⟨g4, g5, g6⟩ := gcp40 zb2 zb1 h7
      exact gsd_i ⟨g1, g4, g2, g3, g6⟩ ⟨rfl, rfl⟩
    · refine gsd_i (by unfold vp_in; decide) (gsd_i (by unfold vp_in; decide) ?_)
      have ea : kS 1 = 35 := rfl
      have eb : kS 2 = 37 := rfl
      simp only [ea, eb] at hzs hzo ⊢
      refine gcall0 hca (c_isMissing E c ln I L 35 (by decide)) rfl ?_
      rintro w u' - ⟨rfl, rfl⟩
      refine gbr_p (fun h3 => ?_) (fun h3 => by rw [if_pos (Or.inl h3)]; exact ⟨rfl, rfl⟩)
      refine gcall0 hca (c_isMissing E c ln I L 37 (by decide)) rfl ?_
      rintro w u' - ⟨rfl, rfl⟩
      refine gbr_p (fun h4 => ?_) (fun h4 => by rw [if_pos (Or.inr h4)]; exact ⟨rfl, rfl⟩)
      rw [if_neg (fun z => z.elim h3 h4)]
      obtain ⟨za, za1, za2⟩ := hzs h3
      obtain ⟨zb, zb1, zb2⟩ := hzo h4
      refine gbr_i (fun h5 => ?_) (fun h5 => by rw [if_pos h5]; exact ⟨rfl, rfl⟩)
      rw [if_neg (fun z => z h5)]
      refine gcall0 hca (c_reaches E c ln I L 35 (by decide) i n) rfl ?_
      rintro w u' - ⟨rfl, rfl⟩
      refine gbr_p (fun h6 => by rw [if_neg (fun z => h6 z.1)]; exact ⟨rfl, rfl⟩) (fun h6 => ?_)
      refine gcall0 hca (c_reaches E c ln I L 37 (by decide) j n) rfl ?_
      rintro w u' - ⟨rfl, rfl⟩
      refine gbr_p (fun h7 => by rw [if_neg (fun z => h7 z.2)]; exact ⟨rfl, rfl⟩) (fun h7 => ?_)
      rw [if_pos ⟨h6, h7⟩]
      obtain ⟨g1, g2, g3⟩ := gcp40 za2 za1 h6
      obtain ⟨g4, g5, g6⟩ := gcp40 zb2 zb1 h7
      exact gsd_i ⟨g1, g4, g2, g3, g6⟩ ⟨rfl, rfl⟩
    · refine gsd_i (by unfold vp_in; decide) (gsd_i (by unfold vp_in; decide) ?_)
      have ea : kS 1 = 35 := rfl
      have eb : kS 3 = 39 := rfl
      simp only [ea, eb] at hzs hzo ⊢
      refine gcall0 hca (c_isMissing E c ln I L 35 (by decide)) rfl ?_
      rintro w u' - ⟨rfl, rfl⟩
      refine gbr_p (fun h3 => ?_) (fun h3 => by rw [if_pos (Or.inl h3)]; exact ⟨rfl, rfl⟩)
      refine gcall0 hca (c_isMissing E c ln I L 39 (by decide)) rfl ?_
      rintro w u' - ⟨rfl, rfl⟩
      refine gbr_p (fun h4 => ?_) (fun h4 => by rw [if_pos (Or.inr h4)]; exact ⟨rfl, rfl⟩)
      rw [if_neg (fun z => z.elim h3 h4)]
      obtain ⟨za, za1, za2⟩ := hzs h3
      obtain ⟨zb, zb1, zb2⟩ := hzo h4
      refine gbr_i (fun h5 => ?_) (fun h5 => by rw [if_pos h5]; exact ⟨rfl, rfl⟩)
      rw [if_neg (fun z => z h5)]
      refine gcall0 hca (c_reaches E c ln I L 35 (by decide) i n) rfl ?_
      rintro w u' - ⟨rfl, rfl⟩
      refine gbr_p (fun h6 => by rw [if_neg (fun z => h6 z.1)]; exact ⟨rfl, rfl⟩) (fun h6 => ?_)
      refine gcall0 hca (c_reaches E c ln I L 39 (by decide) j n) rfl ?_
      rintro w u' - ⟨rfl, rfl⟩
      refine gbr_p (fun h7 => by rw [if_neg (fun z => h7 z.2)]; exact ⟨rfl, rfl⟩) (fun h7 => ?_)
      rw [if_pos ⟨h6, h7⟩]
      obtain ⟨g1, g2, g3⟩ := gcp40 za2 za1 h6
      obtain ⟨g4, g5, g6⟩ := gcp40 zb2 zb1 h7
      exact gsd_i ⟨g1, g4, g2, g3, g6⟩ ⟨rfl, rfl⟩
  · rcases four h2 with rfl | rfl | rfl | rfl
    · refine gsd_i (by unfold vp_in; decide) (gsd_i (by unfold vp_in; decide) ?_)
      have ea : kS 2 = 37 := rfl
      have eb : kS 0 = 33 := rfl
      simp only [ea, eb] at hzs hzo ⊢
      refine gcall0 hca (c_isMissing E c ln I L 37 (by decide)) rfl ?_
      rintro w u' - ⟨rfl, rfl⟩
      refine gbr_p (fun h3 => ?_) (fun h3 => by rw [if_pos (Or.inl h3)]; exact ⟨rfl, rfl⟩)
      refine gcall0 hca (c_isMissing E c ln I L 33 (by decide)) rfl ?_
      rintro w u' - ⟨rfl, rfl⟩
      refine gbr_p (fun h4 => ?_) (fun h4 => by rw [if_pos (Or.inr h4)]; exact ⟨rfl, rfl⟩)
      rw [if_neg (fun z => z.elim h3 h4)]
      obtain ⟨za, za1, za2⟩ := hzs h3
      obtain ⟨zb, zb1, zb2⟩ := hzo h4
      refine gbr_i (fun h5 => ?_) (fun h5 => by rw [if_pos h5]; exact ⟨rfl, rfl⟩)
      rw [if_neg (fun z => z h5)]
      refine gcall0 hca (c_reaches E c ln I L 37 (by decide) i n) rfl ?_
      rintro w u' - ⟨rfl, rfl⟩
      refine gbr_p (fun h6 => by rw [if_neg (fun z => h6 z.1)]; exact ⟨rfl, rfl⟩) (fun h6 => ?_)
      refine gcall0 hca (c_reaches E c ln I L 33 (by decide) j n) rfl ?_
      rintro w u' - ⟨rfl, rfl⟩
      refine gbr_p (fun h7 => by rw [if_neg (fun z => h7 z.2)]; exact ⟨rfl, rfl⟩) (fun h7 => ?_)
      rw [if_pos ⟨h6, h7⟩]
      obtain ⟨g1, g2, g3⟩ := gcp40 za2 za1 h6
      obtain ⟨g4, g5, g6⟩ := gcp40 zb2 zb1 h7
      exact gsd_i ⟨g1, g4, g2, g3, g6⟩ ⟨rfl, rfl⟩
    · refine gsd_i (by unfold vp_in; decide) (gsd_i (by unfold vp_in; decide) ?_)
      have ea : kS 2 = 37 := rfl
      have eb : kS 1 = 35 := rfl
      simp only [ea, eb] at hzs hzo ⊢
      refine gcall0 hca (c_isMissing E c ln I L 37 (by decide)) rfl ?_
      rintro w u' - ⟨rfl, rfl⟩
      refine gbr_p (fun h3 => ?_) (fun h3 => by rw [if_pos (Or.inl h3)]; exact ⟨rfl, rfl⟩)
      refine gcall0 hca (c_isMissing E c ln I L 35 (by decide)) rfl ?_
      rintro w u' - ⟨rfl, rfl⟩
      refine gbr_p (fun h4 => ?_) (fun h4 => by rw [if_pos (Or.inr h4)]; exact ⟨rfl, rfl⟩)
      rw [if_neg (fun z => z.elim h3 h4)]
      obtain ⟨za, za1, za2⟩ := hzs h3
      obtain ⟨zb, zb1, zb2⟩ := hzo h4
      refine gbr_i (fun h5 => ?_) (fun h5 => by rw [if_pos h5]; exact ⟨rfl, rfl⟩)
      rw [if_neg (fun z => z h5)]
      refine gcall0 hca (c_reaches E c ln I L 37 (by decide) i n) rfl ?_
      rintro w u' - ⟨rfl, rfl⟩
      refine gbr_p (fun h6 => by rw [if_neg (fun z => h6 z.1)]; exact ⟨rfl, rfl⟩) (fun h6 => ?_)
      refine gcall0 hca (c_reaches E c ln I L 35 (by decide) j n) rfl ?_
      rintro w u' - ⟨rfl, rfl⟩
      refine gbr_p (fun h7 => by rw [if_neg (fun z => h7 z.2)]; exact ⟨rfl, rfl⟩) (fun h7 => ?_)
      rw [if_pos ⟨h6, h7⟩]
      obtain ⟨g1, g2, g3⟩ := gcp40 za2 za1 h6
      obtain ⟨g4, g5, g6⟩ := gcp40 zb2 zb1 h7
      exact gsd_i ⟨g1, g4, g2, g3, g6⟩ ⟨rfl, rfl⟩
    · refine gsd_i (by unfold vp_in; decide) (gsd_i (by unfold vp_in; decide) ?_)
      have ea : kS 2 = 37 := rfl
      have eb : kS 2 = 37 := rfl
      simp only [ea, eb] at hzs hzo ⊢
      refine gcall0 hca (c_isMissing E c ln I L 37 (by decide)) rfl ?_
      rintro w u' - ⟨rfl, rfl⟩
      refine gbr_p (fun h3 => ?_) (fun h3 => by rw [if_pos (Or.inl h3)]; exact ⟨rfl, rfl⟩)
      refine gcall0 hca (c_isMissing E c ln I L 37 (by decide)) rfl ?_
      rintro w u' - ⟨rfl, rfl⟩
      refine gbr_p (fun h4 => ?_) (fun h4 => by rw [if_pos (Or.inr h4)]; exact ⟨rfl, rfl⟩)
      rw [if_neg (fun z => z.elim h3 h4)]
      obtain ⟨za, za1, za2⟩ := hzs h3
      obtain ⟨zb, zb1, zb2⟩ := hzo h4
      refine gbr_i (fun h5 => ?_) (fun h5 => absurd rfl h5)
      rw [if_neg (fun z => z trivial)]
      refine gcall0 hca (c_reaches E c ln I L 37 (by decide) i n) rfl ?_
      rintro w u' - ⟨rfl, rfl⟩
      refine gbr_p (fun h6 => by rw [if_neg (fun z => h6 z.1)]; exact ⟨rfl, rfl⟩) (fun h6 => ?_)
      refine gcall0 hca (c_reaches E c ln I L 37 (by decide) j n) rfl ?_
      rintro w u' - ⟨rfl, rfl⟩
      refine gbr_p (fun h7 => by rw [if_neg (fun z => h7 z.2)]; exact ⟨rfl, rfl⟩) (fun h7 => ?_)
      rw [if_pos ⟨h6, h7⟩]
      obtain ⟨g1, g2, g3⟩ := gcp40 za2 za1 h6
      obtain ⟨g4, g5, g6⟩ := gcp40 zb2 zb1 h7
      exact gsd_i ⟨g1, g4, g2, g3, g6⟩ ⟨rfl, rfl⟩
    · refine gsd_i (by unfold vp_in; decide) (gsd_i (by unfold vp_in; decide) ?_)
      have ea : kS 2 = 37 := rfl
      have eb : kS 3 = 39 := rfl
      simp only [ea, eb] at hzs hzo ⊢
      refine gcall0 hca (c_isMissing E c ln I L 37 (by decide)) rfl ?_
      rintro w u' - ⟨rfl, rfl⟩
      refine gbr_p (fun h3 => ?_) (fun h3 => by rw [if_pos (Or.inl h3)]; exact ⟨rfl, rfl⟩)
      refine gcall0 hca (c_isMissing E c ln I L 39 (by decide)) rfl ?_
      rintro w u' - ⟨rfl, rfl⟩
      refine gbr_p (fun h4 => ?_) (fun h4 => by rw [if_pos (Or.inr h4)]; exact ⟨rfl, rfl⟩)
      rw [if_neg (fun z => z.elim h3 h4)]
      obtain ⟨za, za1, za2⟩ := hzs h3
      obtain ⟨zb, zb1, zb2⟩ := hzo h4
      refine gbr_i (fun h5 => ?_) (fun h5 => by rw [if_pos h5]; exact ⟨rfl, rfl⟩)
      rw [if_neg (fun z => z h5)]
      refine gcall0 hca (c_reaches E c ln I L 37 (by decide) i n) rfl ?_
      rintro w u' - ⟨rfl, rfl⟩
      refine gbr_p (fun h6 => by rw [if_neg (fun z => h6 z.1)]; exact ⟨rfl, rfl⟩) (fun h6 => ?_)
      refine gcall0 hca (c_reaches E c ln I L 39 (by decide) j n) rfl ?_
      rintro w u' - ⟨rfl, rfl⟩
      refine gbr_p (fun h7 => by rw [if_neg (fun z => h7 z.2)]; exact ⟨rfl, rfl⟩) (fun h7 => ?_)
      rw [if_pos ⟨h6, h7⟩]
      obtain ⟨g1, g2, g3⟩ := gcp40 za2 za1 h6
      obtain ⟨g4, g5, g6⟩ := gcp40 zb2 zb1 h7
      exact gsd_i ⟨g1, g4, g2, g3, g6⟩ ⟨rfl, rfl⟩
  · rcases four h2 with rfl | rfl | rfl | rfl
    · refine gsd_i (by unfold vp_in; decide) (gsd_i (by unfold vp_in; decide) ?_)
      have ea : kS 3 = 39 := rfl
      have eb : kS 0 = 33 := rfl
      simp only [ea, eb] at hzs hzo ⊢
      refine gcall0 hca (c_isMissing E c ln I L 39 (by decide)) rfl ?_
      rintro w u' - ⟨rfl, rfl⟩
      refine gbr_p (fun h3 => ?_) (fun h3 => by rw [if_pos (Or.inl h3)]; exact ⟨rfl, rfl⟩)
      refine gcall0 hca (c_isMissing E c ln I L 33 (by decide)) rfl ?_
      rintro w u' - ⟨rfl, rfl⟩
      refine gbr_p (fun h4 => ?_) (fun h4 => by rw [if_pos (Or.inr h4)]; exact ⟨rfl, rfl⟩)
      rw [if_neg (fun z => z.elim h3 h4)]
      obtain ⟨za, za1, za2⟩ := hzs h3
      obtain ⟨zb, zb1, zb2⟩ := hzo h4
      refine gbr_i (fun h5 => ?_) (fun h5 => by rw [if_pos h5]; exact ⟨rfl, rfl⟩)
      rw [if_neg (fun z => z h5)]
      refine gcall0 hca (c_reaches E c ln I L 39 (by decide) i n) rfl ?_
      rintro w u' - ⟨rfl, rfl⟩
      refine gbr_p (fun h6 => by rw [if_neg (fun z => h6 z.1)]; exact ⟨rfl, rfl⟩) (fun h6 => ?_)
      refine gcall0 hca (c_reaches E c ln I L 33 (by decide) j n) rfl ?_
      rintro w u' - ⟨rfl, rfl⟩
      refine gbr_p (fun h7 => by rw [if_neg (fun z => h7 z.2)]; exact ⟨rfl, rfl⟩) (fun h7 => ?_)
      rw [if_pos ⟨h6, h7⟩]
      obtain ⟨g1, g2, g3⟩ := gcp40 za2 za1 h6
      obtain ⟨g4, g5, g6⟩ := gcp40 zb2 zb1 h7
      exact gsd_i ⟨g1, g4, g2, g3, g6⟩ ⟨rfl, rfl⟩
    · refine gsd_i (by unfold vp_in; decide) (gsd_i (by unfold vp_in; decide) ?_)
      have ea : kS 3 = 39 := rfl
      have eb : kS 1 = 35 := rfl
      simp only [ea, eb] at hzs hzo ⊢
      refine gcall0 hca (c_isMissing E c ln I L 39 (by decide)) rfl ?_
      rintro w u' - ⟨rfl, rfl⟩
      refine gbr_p (fun h3 => ?_) (fun h3 => by rw [if_pos (Or.inl h3)]; exact ⟨rfl, rfl⟩)
      refine gcall0 hca (c_isMissing E c ln I L 35 (by decide)) rfl ?_
      rintro w u' - ⟨rfl, rfl⟩
      refine gbr_p (fun h4 => ?_) (fun h4 => by rw [if_pos (Or.inr h4)]; exact ⟨rfl, rfl⟩)
      rw [if_neg (fun z => z.elim h3 h4)]
      obtain ⟨za, za1, za2⟩ := hzs h3
      obtain ⟨zb, zb1, zb2⟩ := hzo h4
      refine gbr_i (fun h5 => ?_) (fun h5 => by rw [if_pos h5]; exact ⟨rfl, rfl⟩)
      rw [if_neg (fun z => z h5)]
      refine gcall0 hca (c_reaches E c ln I L 39 (by decide) i n) rfl ?_
      rintro w u' - ⟨rfl, rfl⟩
      refine gbr_p (fun h6 => by rw [if_neg (fun z => h6 z.1)]; exact ⟨rfl, rfl⟩) (fun h6 => ?_)
      refine gcall0 hca (c_reaches E c ln I L 35 (by decide) j n) rfl ?_
      rintro w u' - ⟨rfl, rfl⟩
      refine gbr_p (fun h7 => by rw [if_neg (fun z => h7 z.2)]; exact ⟨rfl, rfl⟩) (fun h7 => ?_)
      rw [if_pos ⟨h6, h7⟩]
      obtain ⟨g1, g2, g3⟩ := gcp40 za2 za1 h6
      obtain ⟨g4, g5, g6⟩ := gcp40 zb2 zb1 h7
      exact gsd_i ⟨g1, g4, g2, g3, g6⟩ ⟨rfl, rfl⟩
    · refine gsd_i (by unfold vp_in; decide) (gsd_i (by unfold vp_in; decide) ?_)
      have ea : kS 3 = 39 := rfl
      have eb : kS 2 = 37 := rfl
      simp only [ea, eb] at hzs hzo ⊢
      refine gcall0 hca (c_isMissing E c ln I L 39 (by decide)) rfl ?_
      rintro w u' - ⟨rfl, rfl⟩
      refine gbr_p (fun h3 => ?_) (fun h3 => by rw [if_pos (Or.inl h3)]; exact ⟨rfl, rfl⟩)
      refine gcall0 hca (c_isMissing E c ln I L 37 (by decide)) rfl ?_
      rintro w u' - ⟨rfl, rfl⟩
      refine gbr_p (fun h4 => ?_) (fun h4 => by rw [if_pos (Or.inr h4)]; exact ⟨rfl, rfl⟩)
      rw [if_neg (fun z => z.elim h3 h4)]
      obtain ⟨za, za1, za2⟩ := hzs h3
      obtain ⟨zb, zb1, zb2⟩ := hzo h4
      refine gbr_i (fun h5 => ?_) (fun h5 => by rw [if_pos h5]; exact ⟨rfl, rfl⟩)
      rw [if_neg (fun z => z h5)]
      refine gcall0 hca (c_reaches E c ln I L 39 (by decide) i n) rfl ?_
      rintro w u' - ⟨rfl, rfl⟩
      refine gbr_p (fun h6 => by rw [if_neg (fun z => h6 z.1)]; exact ⟨rfl, rfl⟩) (fun h6 => ?_)
      refine gcall0 hca (c_reaches E c ln I L 37 (by decide) j n) rfl ?_
      rintro w u' - ⟨rfl, rfl⟩
      refine gbr_p (fun h7 => by rw [if_neg (fun z => h7 z.2)]; exact ⟨rfl, rfl⟩) (fun h7 => ?_)
      rw [if_pos ⟨h6, h7⟩]
      obtain ⟨g1, g2, g3⟩ := gcp40 za2 za1 h6
      obtain ⟨g4, g5, g6⟩ := gcp40 zb2 zb1 h7
      exact gsd_i ⟨g1, g4, g2, g3, g6⟩ ⟨rfl, rfl⟩
    · refine gsd_i (by unfold vp_in; decide) (gsd_i (by unfold vp_in; decide) ?_)
      have ea : kS 3 = 39 := rfl
      have eb : kS 3 = 39 := rfl
      simp only [ea, eb] at hzs hzo ⊢
      refine gcall0 hca (c_isMissing E c ln I L 39 (by decide)) rfl ?_
      rintro w u' - ⟨rfl, rfl⟩
      refine gbr_p (fun h3 => ?_) (fun h3 => by rw [if_pos (Or.inl h3)]; exact ⟨rfl, rfl⟩)
      refine gcall0 hca (c_isMissing E c ln I L 39 (by decide)) rfl ?_
      rintro w u' - ⟨rfl, rfl⟩
      refine gbr_p (fun h4 => ?_) (fun h4 => by rw [if_pos (Or.inr h4)]; exact ⟨rfl, rfl⟩)
      rw [if_neg (fun z => z.elim h3 h4)]
      obtain ⟨za, za1, za2⟩ := hzs h3
      obtain ⟨zb, zb1, zb2⟩ := hzo h4
      refine gbr_i (fun h5 => ?_) (fun h5 => absurd rfl h5)
      rw [if_neg (fun z => z trivial)]
      refine gcall0 hca (c_reaches E c ln I L 39 (by decide) i n) rfl ?_
      rintro w u' - ⟨rfl, rfl⟩
      refine gbr_p (fun h6 => by rw [if_neg (fun z => h6 z.1)]; exact ⟨rfl, rfl⟩) (fun h6 => ?_)
      refine gcall0 hca (c_reaches E c ln I L 39 (by decide) j n) rfl ?_
      rintro w u' - ⟨rfl, rfl⟩
      refine gbr_p (fun h7 => by rw [if_neg (fun z => h7 z.2)]; exact ⟨rfl, rfl⟩) (fun h7 => ?_)
      rw [if_pos ⟨h6, h7⟩]
      obtain ⟨g1, g2, g3⟩ := gcp40 za2 za1 h6
      obtain ⟨g4, g5, g6⟩ := gcp40 zb2 zb1 h7
      exact gsd_i ⟨g1, g4, g2, g3, g6⟩ ⟨rfl, rfl⟩
end
