-- the model: road, riders
def mtenX (I : Nat → Nat → Int32) (s w z : Int32) : Int32 × (Nat → Nat → Int32) :=
  if (-9 ≤ s ∧ s ≤ 9) ∧ (0 ≤ w ∧ w ≤ 9) ∧ 2 ≤ z ∧ z ≤ 41 then
    if I 0 11 = 40 then (-4, I) else (I 0 11 + 1 - 1, gset (gset (gset (gset (gset I 4 (gupd (I 4) (I 0 11).toNatClampNeg s)) 5 (gupd (I 5) (I 0 11).toNatClampNeg w)) 6 (gupd (I 6) (I 0 11).toNatClampNeg z)) 7 (gupd (I 7) (I 0 11).toNatClampNeg 0)) 0 (gupd (I 0) 11 (I 0 11 + 1)))
  else (-2, I)
def mridX (I : Nat → Nat → Int32) (k h p s : Int32) : Int32 × (Nat → Nat → Int32) :=
  if (0 ≤ k ∧ k ≤ 5) ∧ (0 ≤ h ∧ h ≤ 39) ∧ (1 ≤ p ∧ p ≤ 99) ∧ 0 ≤ s ∧ s ≤ 999 then
    if I 0 17 = 12 then (-4, I) else (I 0 17 + 1 - 1, gset (gset (gset (gset (gset (gset I 8 (gupd (I 8) (I 0 17).toNatClampNeg k)) 9 (gupd (I 9) (I 0 17).toNatClampNeg (h / 10))) 10 (gupd (I 10) (I 0 17).toNatClampNeg (h - h / 10 * 10))) 11 (gupd (I 11) (I 0 17).toNatClampNeg p)) 12 (gupd (I 12) (I 0 17).toNatClampNeg s)) 0 (gupd (I 0) 17 (I 0 17 + 1)))
  else (-2, I)
def msetX (I : Nat → Nat → Int32) (r what v : Int32) : Int32 × (Nat → Nat → Int32) :=
  if (0 ≤ r ∧ r < I 0 17) ∧ what = 0 ∧ 1 ≤ v ∧ v ≤ 99 then (I 11 r.toNatClampNeg, gset I 11 (gupd (I 11) r.toNatClampNeg v))
  else if (0 ≤ r ∧ r < I 0 17) ∧ what = 1 ∧ 0 ≤ v ∧ v ≤ 999 then (I 12 r.toNatClampNeg, gset I 12 (gupd (I 12) r.toNatClampNeg v))
  else (-2, I)
theorem nt_ne {x : Int32} {n N : Nat} (h : x = nI n) (hn : n ≤ N) (hN : N < 2 ^ 31) (h2 : ¬ x = nI N) : vp_in x N := by
  rw [h] at h2
  rw [h]
  refine vp_in_nI ?_ hN
  rcases Nat.lt_or_ge n N with q | q
  · exact q
  · exact absurd (by rw [show n = N by omega]) h2
section
variable (E : gEnv) (I : Nat → Nat → Int32) (L : Nat → Nat → Int64)
theorem m_tenth (s w z : Int32) (nt : Nat) (hnt : nt ≤ 40) (hct : I 0 11 = nI nt) : gCtr E 3 0 0 nX10_tenth [.ref 0, .int s, .int w, .int z] (wM I L) (fun v u' => u' = wM (mtenX I s w z).2 L ∧ v = some (.int (mtenX I s w z).1)) := by
  refine gstart iX10_tenth tX10_tenth rfl rfl (fun K ca hK hca => ?_)
  refine hK [] 80 _ _ _ _ _ _ ?_
  clear hK
  have bad : ¬ ((-9 ≤ s ∧ s ≤ 9) ∧ (0 ≤ w ∧ w ≤ 9) ∧ 2 ≤ z ∧ z ≤ 41) → (wM I L) = wM (mtenX I s w z).2 L ∧ some (Value.int (-2)) = some (.int (mtenX I s w z).1) := fun h => by
    unfold mtenX; rw [if_neg h]; exact ⟨rfl, rfl⟩
  refine gcall0 hca (m_in E (wM I L) s (-9) 9) rfl ?_
  rintro w' u' - ⟨rfl, rfl⟩
  refine gbr_p (fun h1 => bad (fun y => h1 y.1)) (fun h1 => ?_)
  refine gcall0 hca (m_in E (wM I L) w 0 9) rfl ?_
  rintro w' u' - ⟨rfl, rfl⟩
  refine gbr_p (fun h2 => bad (fun y => h2 y.2.1)) (fun h2 => ?_)
  refine gcall0 hca (m_in E (wM I L) z 2 41) rfl ?_
  rintro w' u' - ⟨rfl, rfl⟩
  refine gbr_p (fun h3 => bad (fun y => h3 y.2.2)) (fun h3 => ?_)
  unfold mtenX
  simp only [if_pos (show (-9 ≤ s ∧ s ≤ 9) ∧ (0 ≤ w ∧ w ≤ 9) ∧ 2 ≤ z ∧ z ≤ 41 from ⟨h1, h2, h3⟩)]
  refine gbr_i (fun h4 => ?_) (fun h4 => ?_)
  · rw [if_pos h4]; exact ⟨rfl, rfl⟩
  · rw [if_neg h4]
    have hv : vp_in (I 0 11) 40 := nt_ne (N := 40) hct hnt (by omega) h4
    exact gsd_i hv (gsd_i hv (gsd_i hv (gsd_i hv ⟨rfl, rfl⟩)))
theorem m_rider (k h p s : Int32) (nr : Nat) (hnr : nr ≤ 12) (hcr : I 0 17 = nI nr) : gCtr E 3 0 0 nX10_rider [.ref 0, .int k, .int h, .int p, .int s] (wM I L) (fun v u' => u' = wM (mridX I k h p s).2 L ∧ v = some (.int (mridX I k h p s).1)) := by
  refine gstart iX10_rider tX10_rider rfl rfl (fun K ca hK hca => ?_)
  refine hK [] 80 _ _ _ _ _ _ ?_
  clear hK
  have bad : ¬ ((0 ≤ k ∧ k ≤ 5) ∧ (0 ≤ h ∧ h ≤ 39) ∧ (1 ≤ p ∧ p ≤ 99) ∧ 0 ≤ s ∧ s ≤ 999) → (wM I L) = wM (mridX I k h p s).2 L ∧ some (Value.int (-2)) = some (.int (mridX I k h p s).1) := fun h => by
    unfold mridX; rw [if_neg h]; exact ⟨rfl, rfl⟩
  refine gcall0 hca (m_in E (wM I L) k 0 5) rfl ?_
  rintro w' u' - ⟨rfl, rfl⟩
  refine gbr_p (fun h1 => bad (fun y => h1 y.1)) (fun h1 => ?_)
  refine gcall0 hca (m_in E (wM I L) h 0 39) rfl ?_
  rintro w' u' - ⟨rfl, rfl⟩
  refine gbr_p (fun h2 => bad (fun y => h2 y.2.1)) (fun h2 => ?_)
  refine gcall0 hca (m_in E (wM I L) p 1 99) rfl ?_
  rintro w' u' - ⟨rfl, rfl⟩
  refine gbr_p (fun h3 => bad (fun y => h3 y.2.2.1)) (fun h3 => ?_)
  refine gcall0 hca (m_in E (wM I L) s 0 999) rfl ?_
  rintro w' u' - ⟨rfl, rfl⟩
  refine gbr_p (fun h4 => bad (fun y => h4 y.2.2.2)) (fun h4 => ?_)
  unfold mridX
  simp only [if_pos (show (0 ≤ k ∧ k ≤ 5) ∧ (0 ≤ h ∧ h ≤ 39) ∧ (1 ≤ p ∧ p ≤ 99) ∧ 0 ≤ s ∧ s ≤ 999 from ⟨h1, h2, h3, h4⟩)]
  refine gbr_i (fun h5 => ?_) (fun h5 => ?_)
  · rw [if_pos h5]; exact ⟨rfl, rfl⟩
  · rw [if_neg h5]
    have hv : vp_in (I 0 17) 12 := nt_ne (N := 12) hcr hnr (by omega) h5
    exact gsd_i hv (gsd_i (by decide) (gsd_i hv (gsd_i (by decide) (gsd_i hv (gsd_i hv (gsd_i hv ⟨rfl, rfl⟩))))))
theorem m_set (r what v : Int32) (nr : Nat) (hnr : nr ≤ 12) (hcr : I 0 17 = nI nr) : gCtr E 3 0 0 nX10_set [.ref 0, .int r, .int what, .int v] (wM I L) (fun w u' => u' = wM (msetX I r what v).2 L ∧ w = some (.int (msetX I r what v).1)) := by
  refine gstart iX10_set tX10_set rfl rfl (fun K ca hK hca => ?_)
  refine hK [] 80 _ _ _ _ _ _ ?_
  clear hK
  have bad : ¬ ((0 ≤ r ∧ r < I 0 17) ∧ what = 0 ∧ 1 ≤ v ∧ v ≤ 99) → ¬ ((0 ≤ r ∧ r < I 0 17) ∧ what = 1 ∧ 0 ≤ v ∧ v ≤ 999) → (wM I L) = wM (msetX I r what v).2 L ∧ some (Value.int (-2)) = some (.int (msetX I r what v).1) := fun h h2 => by
    unfold msetX; rw [if_neg h, if_neg h2]; exact ⟨rfl, rfl⟩
  refine gcall0 hca (m_isRider E I L r nr hnr hcr) rfl ?_
  rintro w' u' - ⟨rfl, rfl⟩
  refine gbr_p (fun h1 => bad (fun z => h1 z.1) (fun z => h1 z.1)) (fun h1 => ?_)
  have hv : vp_in r 12 := gin_of (by rw [← hcr]; exact h1) hnr (by omega)
  refine gcall0 hca (m_in E (wM I L) what 0 1) rfl ?_
  rintro w' u' - ⟨rfl, rfl⟩
  refine gbr_p (fun h2 => bad (fun z => h2 (by rw [z.2.1]; decide)) (fun z => h2 (by rw [z.2.1]; decide))) (fun h2 => ?_)
  refine gbr_i (fun e => ?_) (fun e => ?_)
  · subst e
    refine gbr_i (fun _ => ?_) (fun z => absurd rfl z)
    refine gcall0 hca (m_in E (wM I L) v 1 99) rfl ?_
    rintro w' u' - ⟨rfl, rfl⟩
    refine gbr_p (fun h3 => bad (fun z => h3 z.2.2) (fun z => absurd z.2.1 (by decide))) (fun h3 => ?_)
    refine gbr_i (fun _ => ?_) (fun z => absurd rfl z)
    refine gsd_i hv (gbr_i (fun _ => ?_) (fun z => absurd rfl z))
    unfold msetX
    rw [if_pos ⟨h1, rfl, h3⟩]
    exact gsd_i hv ⟨rfl, rfl⟩
  · refine gbr_i (fun z => absurd z e) (fun _ => ?_)
    refine gcall0 hca (m_in E (wM I L) v 0 999) rfl ?_
    rintro w' u' - ⟨rfl, rfl⟩
    refine gbr_p (fun h3 => bad (fun z => e z.2.1) (fun z => h3 z.2.2)) (fun h3 => ?_)
    refine gbr_i (fun z => absurd z e) (fun _ => ?_)
    refine gsd_i hv (gbr_i (fun z => absurd z e) (fun _ => ?_))
    have hw : what = 1 := by clear bad hca hcr hv h1 h3; (simp only [Int32.lt_iff_toInt_lt, Int32.le_iff_toInt_le, ← Int32.toInt_inj, Int32.reduceToInt] at *; omega)
    unfold msetX
    rw [if_neg (fun z => e z.2.1), if_pos ⟨h1, hw, h3⟩]
    exact gsd_i hv ⟨rfl, rfl⟩
theorem m_works (r st lf : Int32) (hr : vp_in r 12) (h0 : 0 ≤ st) : gCtr E 1 0 0 nX10_works [.ref 0, .int r, .int st, .int lf] (wM I L) (fun v u' => u' = (wM I L) ∧ v = some (.int (wk (I 8 r.toNatClampNeg) (I 10 r.toNatClampNeg) st lf))) := by
  refine gstart iX10_works tX10_works rfl rfl (fun K ca hK hca => ?_)
  refine hK [] 80 _ _ _ _ _ _ ?_
  clear hK
  clear hca
  have a1 : ¬ (20 : Int32) < 0 := by decide
  have a2 : ¬ (100 : Int32) < 0 := by decide
  have a3 : ¬ (0 : Int32) < 0 := by decide
  refine gbr_i (fun hz => ?_) (fun hz => ?_)
  · refine gsd_i (Or.inl rfl) ⟨rfl, congrArg (fun z => some (Value.int z)) ?_⟩
    subst hz
    unfold wk
    simp only [a1, a2, a3, false_and, or_self, if_false, ite_self]
  · have hpos : 0 < st := by clear a1 a2 a3 hr; (simp only [Int32.lt_iff_toInt_lt, Int32.le_iff_toInt_le, ← Int32.toInt_inj, Int32.reduceToInt] at *; omega)
    refine gsd_i hr ?_
    repeat' first
      | refine gbr_i (fun _ => ?_) (fun _ => ?_)
      | refine gsd_i hr ?_
      | fail
    all_goals first
      | exact gsd_i (Or.inl rfl) ⟨rfl, congrArg (fun z => some (Value.int z)) (by simp_all [wk, ← Int32.not_le])⟩
      | exact gsd_i (Or.inr rfl) ⟨rfl, congrArg (fun z => some (Value.int z)) (by simp_all [wk, ← Int32.not_le])⟩
theorem sty_eq (n : Int32) : 2 + n / 3 * 2 = 2 * (1 + n / 3) := by
  rw [Int32.mul_add, Int32.mul_one, Int32.mul_comm]
theorem m_stays (r : Int32) (hr : vp_in r 12) : gCtr E 1 0 0 nX10_stays [.ref 0, .int r] (wM I L) (fun v u' => u' = (wM I L) ∧ v = some (.int (sty (I 8 r.toNatClampNeg) (I 10 r.toNatClampNeg)))) := by
  refine gstart iX10_stays tX10_stays rfl rfl (fun K ca hK hca => ?_)
  refine hK [] 80 _ _ _ _ _ _ ?_
  clear hK
  clear hca
  refine gsd_i hr (gbr_i (fun h1 => ?_) (fun h1 => ?_))
  · exact gsd_i hr (gsd_i (by decide) ⟨rfl, congrArg (fun z => some (Value.int z)) (if_pos h1).symm⟩)
  · refine gsd_i hr (gbr_i (fun h2 => ?_) (fun h2 => ?_))
    · refine gsd_i hr (gsd_i (by decide) ⟨rfl, congrArg (fun z => some (Value.int z)) ?_⟩)
      refine Eq.trans (sty_eq _) ?_
      exact ((if_neg h1).trans (if_pos h2)).symm
    · exact ⟨rfl, congrArg (fun z => some (Value.int z)) ((if_neg h1).trans (if_neg h2)).symm⟩
/-- powers and numbers of riders are small -/
def smalls (p n : Int32) : Prop := ∃ a b : Nat, p = nI a ∧ n = nI b ∧ a < 1000 ∧ b < 1000
theorem edx_eq {p n : Int32} (h : smalls p n) : (if 0 < p - n then p - n else 0) = (if p < n then 0 else p - n) := by
  obtain ⟨a, b, rfl, rfl, ha, hb⟩ := h
  have e : (nI a - nI b).toInt = (a : Int) - b := pk_sub_toInt (by omega) (by omega)
  by_cases h : nI a < nI b
  · rw [if_pos h, if_neg]
    intro z
    rw [Int32.lt_iff_toInt_lt, e] at z
    rw [nI_ltI (by omega) (by omega)] at h
    simp only [Int32.reduceToInt] at z
    omega
  · rw [if_neg h]
    by_cases h2 : 0 < nI a - nI b
    · rw [if_pos h2]
    · rw [if_neg h2]
      rw [nI_ltI (by omega) (by omega)] at h
      rw [Int32.lt_iff_toInt_lt, e] at h2
      simp only [Int32.reduceToInt] at h2
      rw [show a = b by omega]
      exact (Int32.sub_self _).symm
theorem m_endsOf (r : Int32) (hr : vp_in r 12) (hs : smalls (I 11 r.toNatClampNeg) (I 10 r.toNatClampNeg)) : gCtr E 1 0 0 nX10_endsOf [.ref 0, .int r] (wM I L) (fun v u' => u' = (wM I L) ∧ v = some (.int (edx (I 8 r.toNatClampNeg) (I 10 r.toNatClampNeg) (I 11 r.toNatClampNeg)))) := by
  refine gstart iX10_endsOf tX10_endsOf rfl rfl (fun K ca hK hca => ?_)
  refine hK [] 80 _ _ _ _ _ _ ?_
  clear hK
  clear hca
  unfold edx
  rw [edx_eq hs]
  refine gsd_i hr (gsd_i hr ?_)
  have two : ∀ P : Int32 → Prop, gbr (I 11 r.toNatClampNeg < I 10 r.toNatClampNeg) (P 0) (P (I 11 r.toNatClampNeg - I 10 r.toNatClampNeg)) → P (if I 11 r.toNatClampNeg < I 10 r.toNatClampNeg then 0 else I 11 r.toNatClampNeg - I 10 r.toNatClampNeg) := fun P h => by
    by_cases z : I 11 r.toNatClampNeg < I 10 r.toNatClampNeg
    · rw [if_pos z]; exact h.1 z
    · rw [if_neg z]; exact h.2 z
  refine gbr_i (fun h1 => ?_) (fun h1 => ?_)
  · rw [if_pos h1]
    refine gsd_i hr (gbr_i (fun h => ?_) (fun h => ?_))
    · rw [if_neg (Int32.not_lt.mpr h)]; exact gsd_i hr ⟨rfl, rfl⟩
    · rw [if_pos (Int32.not_le.mp h)]; exact ⟨rfl, rfl⟩
  rw [if_neg h1]
  refine gbr_i (fun h2 => ?_) (fun h2 => ?_)
  · rw [if_pos h2]; exact gsd_i hr ⟨rfl, rfl⟩
  rw [if_neg h2]
  refine gbr_i (fun h3 => ?_) (fun h3 => ?_)
  · rw [if_pos h3]; exact gsd_i hr ⟨rfl, rfl⟩
  rw [if_neg h3]
  refine gbr_i (fun h4 => ?_) (fun h4 => ?_)
  · rw [if_pos h4]; exact gsd_i hr ⟨rfl, rfl⟩
  rw [if_neg h4]
  refine gbr_i (fun h5 => ?_) (fun h5 => ?_)
  · rw [if_pos h5]
    refine gsd_i hr (gbr_i (fun h => ?_) (fun h => ?_))
    · rw [if_neg (Int32.not_lt.mpr h)]; exact gsd_i hr ⟨rfl, rfl⟩
    · rw [if_pos (Int32.not_le.mp h)]; exact ⟨rfl, rfl⟩
  rw [if_neg h5]
  exact ⟨rfl, rfl⟩
theorem m_told (r lf what : Int32) (nr : Nat) (hnr : nr ≤ 12) (hcr : I 0 17 = nI nr) (hst : ∀ i, i < nr → 0 ≤ I 12 i) (hs : ∀ i, i < nr → smalls (I 11 i) (I 10 i)) : gCtr E 3 0 0 nX10_told [.ref 0, .int r, .int lf, .int what] (wM I L) (fun w u' => u' = (wM I L) ∧ w = some (.int (toldX (xv I) r lf what))) := by
  refine gstart iX10_told tX10_told rfl rfl (fun K ca hK hca => ?_)
  refine hK [] 80 _ _ _ _ _ _ ?_
  clear hK
  have bad : ¬ ((0 ≤ r ∧ r < xv I 6 6) ∧ 0 ≤ lf ∧ lf ≤ 40) → (wM I L) = (wM I L) ∧ some (Value.int (-2)) = some (.int (toldX (xv I) r lf what)) := fun h => by
    unfold toldX; rw [if_neg h]; exact ⟨rfl, rfl⟩
  refine gcall0 hca (m_isRider E I L r nr hnr hcr) rfl ?_
  rintro w u' - ⟨rfl, rfl⟩
  refine gbr_p (fun h1 => bad (fun z => h1 z.1)) (fun h1 => ?_)
  obtain ⟨rn, hrn, hrr⟩ : ∃ rn, rn < nr ∧ r.toNatClampNeg = rn := by
    obtain ⟨rn, hrn, hrr⟩ := vp_in_of (gin_of (r := r) (by rw [← hcr]; exact h1) hnr (by omega)) (by omega)
    rw [hrr, hcr] at h1
    exact ⟨rn, (nI_ltI (by omega) (by omega)).mp h1.2, by rw [hrr]; exact nI_clamp (by omega)⟩
  have hv : vp_in r 12 := gin_of (by rw [← hcr]; exact h1) hnr (by omega)
  refine gcall0 hca (m_in E (wM I L) lf 0 40) rfl ?_
  rintro w u' - ⟨rfl, rfl⟩
  refine gbr_p (fun h2 => bad (fun z => h2 z.2)) (fun h2 => ?_)
  have hX : toldX (xv I) r lf what = _ := if_pos ⟨h1, h2⟩
  rw [hX]
  refine gbr_i (fun e => ?_) (fun e0 => ?_)
  · rw [if_pos e]; exact gsd_i hv ⟨rfl, rfl⟩
  rw [if_neg e0]
  refine gbr_i (fun e => ?_) (fun e1 => ?_)
  · rw [if_pos e]; exact gsd_i hv ⟨rfl, rfl⟩
  rw [if_neg e1]
  refine gbr_i (fun e => ?_) (fun e2 => ?_)
  · rw [if_pos e]; exact gsd_i hv ⟨rfl, rfl⟩
  rw [if_neg e2]
  refine gbr_i (fun e => ?_) (fun e3 => ?_)
  · rw [if_pos e]; exact gsd_i hv ⟨rfl, rfl⟩
  rw [if_neg e3]
  refine gbr_i (fun e => ?_) (fun e4 => ?_)
  · rw [if_pos e]; exact gsd_i hv ⟨rfl, rfl⟩
  rw [if_neg e4]
  refine gbr_i (fun e => ?_) (fun e5 => ?_)
  · rw [if_pos e]
    refine gsd_i hv (gcall0 hca (m_works E I L r (I 12 r.toNatClampNeg) lf hv (by rw [hrr]; exact hst rn hrn)) rfl ?_)
    rintro w u' - ⟨rfl, rfl⟩
    refine gbr_i (fun e => ?_) (fun e => ?_)
    · have e' : wk (xv I 7 r.toNatClampNeg) (xv I 9 r.toNatClampNeg) (xv I 11 r.toNatClampNeg) lf = 0 := e
      rw [if_pos e']; exact ⟨rfl, rfl⟩
    · have e' : ¬ wk (xv I 7 r.toNatClampNeg) (xv I 9 r.toNatClampNeg) (xv I 11 r.toNatClampNeg) lf = 0 := e
      rw [if_neg e']; exact ⟨rfl, rfl⟩
  rw [if_neg e5]
  refine gbr_i (fun e => ?_) (fun e6 => ?_)
  · rw [if_pos e]
    refine gcall0 hca (m_stays E I L r hv) rfl ?_
    rintro w u' - ⟨rfl, rfl⟩
    exact ⟨rfl, rfl⟩
  rw [if_neg e6]
  refine gbr_i (fun e => ?_) (fun e7 => ?_)
  · rw [if_pos e]
    refine gcall0 hca (m_endsOf E I L r hv (by rw [hrr]; exact hs rn hrn)) rfl ?_
    rintro w u' - ⟨rfl, rfl⟩
    exact ⟨rfl, rfl⟩
  rw [if_neg e7]
  exact ⟨rfl, rfl⟩
theorem m_house (h : Int32) (nr : Nat) (hnr : nr ≤ 12) (hcr : I 0 17 = nI nr) : gCtr E 3 0 0 nX10_house [.ref 0, .int h] (wM I L) (fun w u' => u' = (wM I L) ∧ w = some (.int (if 0 ≤ h ∧ h ≤ 3 then hs (I 9) h nr else -2))) := by
  refine gstart iX10_house tX10_house rfl rfl (fun K ca hK hca => ?_)
  refine hK [19] 80 _ _ _ _ _ _ ?_
  refine gcall0 hca (m_in E (wM I L) h 0 3) rfl ?_
  rintro w u' - ⟨rfl, rfl⟩
  refine gbr_p (fun h1 => ?_) (fun h1 => ?_)
  · rw [if_neg h1]; exact ⟨rfl, rfl⟩
  rw [if_pos h1] at hK
  have loop := gloop (P := fun i => K 0 0 19 [some (.ref 0), some (.int h), some (.int (hs (I 9) h i)), some (.int (nI i))] [] (wM I L)) (n := nr) (by
    refine hK [19] 40 _ _ _ _ _ _ ?_
    exact gbr_lp hcr (by omega) (Nat.le_refl _) (fun _ => ⟨rfl, rfl⟩) (fun z => absurd z (Nat.lt_irrefl _))) (by
    intro i hi ih
    have hcl : (nI i).toNatClampNeg = i := nI_clamp (by omega)
    refine hK [19] 40 _ _ _ _ _ _ ?_
    refine gbr_lp hcr (by omega) (by omega) (fun e => by omega) (fun _ => ?_)
    refine gsd_i (vp_in_nI (by omega) (by omega)) (gbr_i (fun he => ?_) (fun he => ?_))
    · have he' : I 9 (nI i).toNatClampNeg = h := he
      rw [hcl] at he'
      rw [← nI_1, show hs (I 9) h (i + 1) = hs (I 9) h i ||| (1 <<< (nI i &&& 31)) from if_pos he'] at ih
      exact ih
    · have he' : ¬ I 9 (nI i).toNatClampNeg = h := he
      rw [hcl] at he'
      rw [← nI_1, show hs (I 9) h (i + 1) = hs (I 9) h i ||| 0 from (if_neg he').trans (Int32.or_zero).symm] at ih
      exact ih)
  exact loop 0 (Nat.zero_le _)
def mforX (I : Nat → Nat → Int32) (t : Int32) : Int32 × (Nat → Nat → Int32) := if 0 ≤ t ∧ t < I 0 3 then (I 0 4, gset I 0 (gupd (I 0) 4 t)) else (-2, I)
theorem m_force (t : Int32) (c : Nat) (hc : c ≤ 6) (hcc : I 0 3 = nI c) : gCtr E 3 0 0 nX10_force [.ref 0, .int t] (wM I L) (fun w u' => u' = wM (mforX I t).2 L ∧ w = some (.int (mforX I t).1)) := by
  refine gstart iX10_force tX10_force rfl rfl (fun K ca hK hca => ?_)
  refine hK [] 80 _ _ _ _ _ _ ?_
  clear hK
  refine gcall0 hca (m_in E (wM I L) t 0 (I 0 3 - 1)) rfl ?_
  rintro w u' - ⟨rfl, rfl⟩
  have e := le_m1 (r := t) hcc (by omega)
  unfold mforX
  refine gbr_p (fun h => ?_) (fun h => ?_)
  · rw [if_neg (fun z => h (e.mpr z))]; exact ⟨rfl, rfl⟩
  · rw [if_pos (e.mp h)]; exact ⟨rfl, rfl⟩
theorem m_within (a v b : Int32) (hab : a ≤ b) (u : gS) : gCtr E 1 0 0 nX10_within [.int v, .int a, .int b] u (fun w u' => u' = u ∧ w = some (.int (wthn a v b))) := by
  refine gstart iX10_within tX10_within rfl rfl (fun K ca hK hca => ?_)
  refine hK [] 80 _ _ _ _ _ _ ?_
  clear hK
  clear hca
  unfold wthn
  refine gbr_i (fun h => ?_) (fun h => ?_)
  · refine gbr_i (fun h2 => ?_) (fun h2 => ?_)
    · rw [if_neg (Int32.not_lt.mpr h2)]
      refine ⟨rfl, congrArg (fun z => some (Value.int z)) ?_⟩
      by_cases h3 : a < v
      · rw [if_pos h3]
      · rw [if_neg h3]; exact Int32.le_antisymm (Int32.not_lt.mp h3) h
    · rw [if_pos (Int32.not_le.mp h2)]
      refine ⟨rfl, congrArg (fun z => some (Value.int z)) ?_⟩
      by_cases h3 : a < b
      · rw [if_pos h3]
      · rw [if_neg h3]; exact Int32.le_antisymm (Int32.not_lt.mp h3) hab
  · refine ⟨rfl, congrArg (fun z => some (Value.int z)) ?_⟩
    have h' := Int32.not_le.mp h
    have h2 : ¬ b < v := fun z => Int32.lt_irrefl (Int32.lt_of_lt_of_le (Int32.lt_trans z h') hab)
    rw [if_neg h2, if_neg (fun z => Int32.lt_irrefl (Int32.lt_trans z h'))]
end
