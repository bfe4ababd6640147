-- THE MODEL: cell 0, rows 1 .. 24. What it holds, as the class would have it
def xv (I : Nat → Nat → Int32) : Nat → Nat → Int32 := fun k j => match k with
  | 1 => I 0 11
  | 2 => I 4 j
  | 3 => I 5 j
  | 4 => I 6 j - I 6 j / 2 * 2
  | 5 => I 6 j / 2
  | 6 => I 0 17
  | 7 => I 8 j
  | 8 => I 9 j
  | 9 => I 10 j
  | 10 => I 11 j
  | 11 => I 12 j
  | _ => 0
theorem i64_le (x y : Int32) : x.toInt64 ≤ y.toInt64 ↔ x ≤ y := by
  rw [Int64.le_iff_toInt_le, Int32.le_iff_toInt_le, Int32.toInt_toInt64, Int32.toInt_toInt64]
theorem lgc_neg (x y : Int64) : lg_cmp x y < 0 ↔ x < y := by
  unfold lg_cmp
  by_cases h1 : x > y
  · rw [if_pos h1]
    exact ⟨fun z => absurd z (by decide), fun z => absurd (Int64.lt_trans z h1) (Int64.lt_irrefl)⟩
  · rw [if_neg h1]
    by_cases h2 : x = y
    · rw [if_pos h2]; subst h2
      exact ⟨fun z => absurd z (by decide), fun z => absurd z Int64.lt_irrefl⟩
    · rw [if_neg h2]
      refine ⟨fun _ => ?_, fun _ => by decide⟩
      have := Int64.not_lt.mp h1
      rw [Int64.lt_iff_toInt_lt]
      rw [Int64.le_iff_toInt_le] at this
      have h3 : x.toInt ≠ y.toInt := fun z => h2 (Int64.toInt_inj.mp z)
      omega
theorem lgc_pos (x y : Int64) : 0 < lg_cmp x y ↔ y < x := by
  unfold lg_cmp
  by_cases h1 : x > y
  · rw [if_pos h1]
    exact ⟨fun _ => h1, fun _ => by decide⟩
  · rw [if_neg h1]
    by_cases h2 : x = y
    · rw [if_pos h2]; subst h2
      exact ⟨fun z => absurd z (by decide), fun z => absurd z Int64.lt_irrefl⟩
    · rw [if_neg h2]
      exact ⟨fun z => absurd z (by decide), fun z => absurd z h1⟩
theorem m_in (E : gEnv) (u : gS) (v a b : Int32) : gCtr E 1 0 0 nX10_in [.long v.toInt64, .long a.toInt64, .long b.toInt64] u (fun w u' => u' = u ∧ w = some (.int (if a ≤ v ∧ v ≤ b then 1 else 0))) := by
  refine gstart iX10_in tX10_in rfl rfl (fun K ca hK hca => ?_)
  refine hK [] 80 _ _ _ _ _ _ ?_
  clear hK hca
  refine gbr_i (fun h1 => ?_) (fun h1 => ?_)
  · refine gsd_i (Or.inl rfl) (gz0 (fun z => ?_))
    have h1' := (lgc_neg _ _).mp h1
    exact Int64.lt_irrefl (Int64.lt_of_lt_of_le h1' ((i64_le _ _).mpr z.1))
  · have h1' : ¬ v.toInt64 < a.toInt64 := fun z => h1 ((lgc_neg _ _).mpr z)
    refine gbr_i (fun h2 => ?_) (fun h2 => ?_)
    · refine gsd_i (Or.inl rfl) (gz0 (fun z => ?_))
      have h2' := (lgc_pos _ _).mp h2
      exact Int64.lt_irrefl (Int64.lt_of_lt_of_le h2' ((i64_le _ _).mpr z.2))
    · have h2' : ¬ b.toInt64 < v.toInt64 := fun z => h2 ((lgc_pos _ _).mpr z)
      exact gsd_i (Or.inr rfl) (gz1 ⟨(i64_le _ _).mp (Int64.not_lt.mp h1'), (i64_le _ _).mp (Int64.not_lt.mp h2')⟩)
theorem m_isSheet (E : gEnv) (u : gS) (x : Int32) : gCtr E 2 0 0 nX10_isSheet [.int x] u (fun v u' => u' = u ∧ v = some (.int (if 0 ≤ x ∧ x < 4 then 1 else 0))) := by
  refine gstart iX10_isSheet tX10_isSheet rfl rfl (fun K ca hK hca => ?_)
  refine hK [] 80 _ _ _ _ _ _ ?_
  clear hK
  refine gcall0 hca (m_in E u x 0 3) rfl ?_
  rintro w u' - ⟨rfl, rfl⟩
  by_cases h : 0 ≤ x ∧ x < 4
  · rw [if_pos h, if_pos (by clear hca; (simp only [Int32.lt_iff_toInt_lt, Int32.le_iff_toInt_le, ← Int32.toInt_inj, Int32.reduceToInt] at *; omega))]; exact gsd_i (Or.inr rfl) ⟨rfl, rfl⟩
  · rw [if_neg h, if_neg (by clear hca; (simp only [Int32.lt_iff_toInt_lt, Int32.le_iff_toInt_le, ← Int32.toInt_inj, Int32.reduceToInt] at *; omega))]; exact gsd_i (Or.inl rfl) ⟨rfl, rfl⟩
/-- inside: as the model asks it, as the class does -/
theorem le_m1 {r x : Int32} {n : Nat} (hx : x = nI n) (hn : n < 2 ^ 30) : (0 ≤ r ∧ r ≤ x - 1) ↔ (0 ≤ r ∧ r < x) := by
  subst hx
  have e : (nI n - 1).toInt = (n : Int) - 1 := pk_sub_toInt (b := 1) hn (by decide)
  rw [Int32.le_iff_toInt_le, Int32.le_iff_toInt_le, Int32.lt_iff_toInt_lt, e, nI_toInt (by omega)]
  simp only [Int32.reduceToInt]
  omega
theorem pw12 : ∀ nr, nr ≤ 12 → ((1 : Int32) <<< (nI nr &&& 31)) - 1 = nI (2 ^ nr - 1) := by decide +kernel
theorem grp_eq {g x : Int32} {nr : Nat} (hx : x = nI nr) (hnr : nr ≤ 12) : (1 ≤ g ∧ g ≤ (1 <<< (x &&& 31)) - 1) ↔ (0 < g ∧ g >>> (x &&& 31) = 0) := by
  subst hx
  rw [pw12 nr hnr]
  have hp : 0 < 2 ^ nr := Nat.pos_of_ne_zero (by simp)
  have hb : 2 ^ nr ≤ 4096 := Nat.le_trans (Nat.pow_le_pow_right (by decide) hnr) (by decide)
  have h01 : 1 ≤ g ↔ 0 < g := by clear hp hb hnr; (simp only [Int32.lt_iff_toInt_lt, Int32.le_iff_toInt_le, ← Int32.toInt_inj, Int32.reduceToInt] at *; omega)
  rw [h01]
  constructor
  · rintro ⟨h1, h2⟩
    refine ⟨h1, ?_⟩
    obtain ⟨m, hm, rfl⟩ := nI_of (x := g) (by clear hp hb hnr h2 h01; (simp only [Int32.lt_iff_toInt_lt, Int32.le_iff_toInt_le, ← Int32.toInt_inj, Int32.reduceToInt] at *; omega))
    rw [nI_leI hm (by omega)] at h2
    rw [pk_shrN hm _ nr (s_l nr (by omega)), Nat.div_eq_of_lt (by omega)]
    rfl
  · rintro ⟨h1, h2⟩
    refine ⟨h1, ?_⟩
    obtain ⟨m, hm, rfl⟩ := nI_of (x := g) (by clear hp hb hnr h2 h01; (simp only [Int32.lt_iff_toInt_lt, Int32.le_iff_toInt_le, ← Int32.toInt_inj, Int32.reduceToInt] at *; omega))
    rw [pk_shrN hm _ nr (s_l nr (by omega)), ← nI_0, nI_eq (Nat.lt_of_le_of_lt (Nat.div_le_self _ _) hm) (by decide)] at h2
    rw [nI_leI hm (by omega)]
    have := (Nat.div_eq_zero_iff_lt hp).mp h2
    omega
section
variable (E : gEnv) (I : Nat → Nat → Int32) (L : Nat → Nat → Int64)
theorem m_isTenth (t : Int32) (nt : Nat) (hnt : nt ≤ 40) (hct : I 0 11 = nI nt) : gCtr E 2 0 0 nX10_isTenth [.ref 0, .int t] (wM I L) (fun v u' => u' = (wM I L) ∧ v = some (.int (if 0 ≤ t ∧ t < I 0 11 then 1 else 0))) := by
  refine gstart iX10_isTenth tX10_isTenth rfl rfl (fun K ca hK hca => ?_)
  refine hK [] 80 _ _ _ _ _ _ ?_
  clear hK
  refine gcall0 hca (m_in E (wM I L) t 0 (I 0 11 - 1)) rfl ?_
  rintro w u' - ⟨rfl, rfl⟩
  have e := le_m1 (r := t) hct (by omega)
  by_cases h : 0 ≤ t ∧ t < I 0 11
  · rw [if_pos h, if_pos (e.mpr h)]; exact gsd_i (Or.inr rfl) ⟨rfl, rfl⟩
  · rw [if_neg h, if_neg (fun z => h (e.mp z))]; exact gsd_i (Or.inl rfl) ⟨rfl, rfl⟩
theorem m_isRider (r : Int32) (nr : Nat) (hnr : nr ≤ 12) (hcr : I 0 17 = nI nr) : gCtr E 2 0 0 nX10_isRider [.ref 0, .int r] (wM I L) (fun v u' => u' = (wM I L) ∧ v = some (.int (if 0 ≤ r ∧ r < I 0 17 then 1 else 0))) := by
  refine gstart iX10_isRider tX10_isRider rfl rfl (fun K ca hK hca => ?_)
  refine hK [] 80 _ _ _ _ _ _ ?_
  clear hK
  refine gcall0 hca (m_in E (wM I L) r 0 (I 0 17 - 1)) rfl ?_
  rintro w u' - ⟨rfl, rfl⟩
  have e := le_m1 (r := r) hcr (by omega)
  by_cases h : 0 ≤ r ∧ r < I 0 17
  · rw [if_pos h, if_pos (e.mpr h)]; exact gsd_i (Or.inr rfl) ⟨rfl, rfl⟩
  · rw [if_neg h, if_neg (fun z => h (e.mp z))]; exact gsd_i (Or.inl rfl) ⟨rfl, rfl⟩
theorem m_isGroup (g : Int32) (nr : Nat) (hnr : nr ≤ 12) (hcr : I 0 17 = nI nr) : gCtr E 2 0 0 nX10_isGroup [.ref 0, .int g] (wM I L) (fun v u' => u' = (wM I L) ∧ v = some (.int (if 0 < g ∧ g >>> (I 0 17 &&& 31) = 0 then 1 else 0))) := by
  refine gstart iX10_isGroup tX10_isGroup rfl rfl (fun K ca hK hca => ?_)
  refine hK [] 80 _ _ _ _ _ _ ?_
  clear hK
  refine gcall0 hca (m_in E (wM I L) g 1 ((1 <<< (I 0 17 &&& 31)) - 1)) rfl ?_
  rintro w u' - ⟨rfl, rfl⟩
  have e := grp_eq (g := g) hcr hnr
  by_cases h : 0 < g ∧ g >>> (I 0 17 &&& 31) = 0
  · rw [if_pos h, if_pos (e.mpr h)]; exact gsd_i (Or.inr rfl) ⟨rfl, rfl⟩
  · rw [if_neg h, if_neg (fun z => h (e.mp z))]; exact gsd_i (Or.inl rfl) ⟨rfl, rfl⟩
theorem m_areTenths (t : Int32) (nt : Nat) (hnt : nt ≤ 40) (hct : I 0 11 = nI nt) : gCtr E 3 0 0 nX10_areTenths [.ref 0, .int t] (wM I L) (fun v u' => u' = (wM I L) ∧ v = some (.int (if 0 ≤ t ∧ t / 100 ≤ t - t / 100 * 100 ∧ t - t / 100 * 100 < I 0 11 then 1 else 0))) := by
  refine gstart iX10_areTenths tX10_areTenths rfl rfl (fun K ca hK hca => ?_)
  refine hK [] 80 _ _ _ _ _ _ ?_
  clear hK
  refine gbr_i (fun h1 => gsd_i (Or.inl rfl) (gz0 (fun z => Int32.lt_irrefl (Int32.lt_of_lt_of_le h1 z.1)))) (fun h1 => ?_)
  have h1' := Int32.not_lt.mp h1
  refine gsd_i (by decide) ?_
  refine gcall0 hca (m_isTenth E I L (t / 100) nt hnt hct) rfl ?_
  rintro w u' - ⟨rfl, rfl⟩
  have hsp := fun z => spn (t := t) hnt (by rw [← hct]; exact z)
  refine gbr_p (fun h2 => ?_) (fun h2 => ?_)
  · refine gsd_i (Or.inl rfl) (gz0 (fun z => ?_))
    obtain ⟨a, b, e1, e2, e3, e4, _⟩ := hsp z
    rw [e1, hct] at h2
    exact h2 ⟨nI_pos' (by omega), nI_lt (by omega) (by omega)⟩
  refine gsd_i (by decide) ?_
  refine gcall0 hca (m_isTenth E I L (t - t / 100 * 100) nt hnt hct) rfl ?_
  rintro w u' - ⟨rfl, rfl⟩
  refine gbr_p (fun h3 => ?_) (fun h3 => ?_)
  · refine gsd_i (Or.inl rfl) (gz0 (fun z => ?_))
    obtain ⟨a, b, e1, e2, e3, e4, _⟩ := hsp z
    rw [e2, hct] at h3
    exact h3 ⟨nI_pos' (by omega), nI_lt (by omega) (by omega)⟩
  refine gsd_i (by decide) (gsd_i (by decide) ?_)
  refine gbr_i (fun h4 => ?_) (fun h4 => ?_)
  · exact gsd_i (Or.inl rfl) (gz0 (fun z => Int32.lt_irrefl (Int32.lt_of_lt_of_le h4 z.2.1)))
  · exact gsd_i (Or.inr rfl) (gz1 ⟨h1', Int32.not_lt.mp h4, h3.2⟩)
end
