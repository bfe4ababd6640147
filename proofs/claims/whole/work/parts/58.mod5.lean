-- the model: sheets (isThere 21, sorts 22, sizes 23, items 24)
theorem fours {s : Int32} (h : 0 ≤ s ∧ s < 4) : ∃ n, n < 4 ∧ s = nI n := by
  rcases four h with rfl | rfl | rfl | rfl
  · exact ⟨0, by omega, rfl⟩
  · exact ⟨1, by omega, rfl⟩
  · exact ⟨2, by omega, rfl⟩
  · exact ⟨3, by omega, rfl⟩
/-- n zeros from a on, where ok -/
def zer (f : Nat → Int32) (a n : Nat) : Nat → Int32 := fun p => if a ≤ p ∧ p < a + n then 0 else f p
theorem zer_0 (f : Nat → Int32) (a : Nat) : zer f a 0 = f := by funext p; exact if_neg (by omega)
theorem zer_s (f : Nat → Int32) (a n : Nat) : zer f a (n + 1) = gupd (zer f a n) (a + n) 0 := by
  funext p
  by_cases h : p = a + n
  · subst h; rw [gupd_s]; exact if_pos ⟨by omega, by omega⟩
  · rw [gupd_n h]; unfold zer
    by_cases h2 : a ≤ p ∧ p < a + n
    · rw [if_pos h2, if_pos (by omega)]
    · rw [if_neg h2, if_neg (by omega)]
def mshI (I : Nat → Nat → Int32) (s : Nat) (sort n : Int32) : Nat → Nat → Int32 :=
  gset (gset (gset (gset I 21 (gupd (I 21) s (if sort < 0 then 0 else 1))) 22 (gupd (I 22) s sort)) 23 (gupd (I 23) s n)) 24 (if sort < 0 then I 24 else zer (I 24) (40 * s) n.toNatClampNeg)
def msheX (I : Nat → Nat → Int32) (s sort n : Int32) : Int32 × (Nat → Nat → Int32) :=
  if ((0 ≤ s ∧ s < 4) ∧ -1 ≤ sort ∧ sort ≤ 2) ∧ ¬ (0 ≤ sort ∧ 40 < n) then (if 0 ≤ sort ∧ n < 0 then (-14, I) else (1, mshI I s.toNatClampNeg sort n)) else (-2, I)
def mcelX (I : Nat → Nat → Int32) (s i v : Int32) : Int32 × (Nat → Nat → Int32) :=
  if 0 ≤ s ∧ s < 4 then (if I 21 s.toNatClampNeg = 0 then (-11, I) else if 0 ≤ i ∧ i ≤ I 23 s.toNatClampNeg - 1 then (1, gset I 24 (gupd (I 24) (40 * s.toNatClampNeg + i.toNatClampNeg) (nar (I 22 s.toNatClampNeg) v))) else (-12, I)) else (-2, I)
section
variable (E : gEnv) (I : Nat → Nat → Int32) (L : Nat → Nat → Int64)
set_option maxHeartbeats 1000000 in
theorem m_sheet (s sort n : Int32) : gCtr E 4 0 0 nX10_sheet [.ref 0, .int s, .int sort, .int n] (wM I L) (fun w u' => u' = wM (msheX I s sort n).2 L ∧ w = some (.int (msheX I s sort n).1)) := by
  refine gstart iX10_sheet tX10_sheet rfl rfl (fun K ca hK hca => ?_)
  refine hK [77] 80 _ _ _ _ _ _ ?_
  have bad : ¬ (((0 ≤ s ∧ s < 4) ∧ -1 ≤ sort ∧ sort ≤ 2) ∧ ¬ (0 ≤ sort ∧ 40 < n)) → (wM I L) = wM (msheX I s sort n).2 L ∧ some (Value.int (-2)) = some (.int (msheX I s sort n).1) := fun h => by
    unfold msheX; rw [if_neg h]; exact ⟨rfl, rfl⟩
  refine gcall0 hca (m_isSheet E (wM I L) s) rfl ?_
  rintro w u' - ⟨rfl, rfl⟩
  refine gbr_p (fun h1 => bad (fun z => h1 z.1.1)) (fun h1 => ?_)
  refine gcall0 hca (m_in E (wM I L) sort (-1) 2) rfl ?_
  rintro w u' - ⟨rfl, rfl⟩
  refine gbr_p (fun h2 => bad (fun z => h2 z.1.2)) (fun h2 => ?_)
  obtain ⟨sn, hsn, rfl⟩ := fours h1
  have hcs : (nI sn).toNatClampNeg = sn := nI_clamp (by omega)
  have hv : vp_in (nI sn) 4 := vp_in_nI hsn (by omega)
  -- behind the refusals
  have tail : ¬ (0 ≤ sort ∧ 40 < n) → ¬ (0 ≤ sort ∧ n < 0) → ∀ b : Int32, b = (if sort < 0 then (0 : Int32) else 1) → K 0 0 77 [some (.ref 0), some (.int (nI sn)), some (.int sort), some (.int n), some (.int (nI 0))] [] (wM (gset (gset (gset I 21 (gupd (I 21) sn b)) 22 (gupd (I 22) sn sort)) 23 (gupd (I 23) sn n)) L) := by
    intro g1 g2 b hb
    have hX : msheX I (nI sn) sort n = (1, mshI I sn sort n) := by unfold msheX; rw [if_pos ⟨⟨h1, h2⟩, g1⟩, if_neg g2, hcs]
    rw [hX] at hK
    by_cases hneg : sort < 0
    · have fin : mshI I sn sort n = gset (gset (gset I 21 (gupd (I 21) sn b)) 22 (gupd (I 22) sn sort)) 23 (gupd (I 23) sn n) := by
        unfold mshI
        rw [hb]
        simp only [if_pos hneg]
        exact gset_self (gset (gset (gset I 21 (gupd (I 21) sn 0)) 22 (gupd (I 22) sn sort)) 23 (gupd (I 23) sn n)) 24
      refine hK [77] 40 _ _ _ _ _ _ ?_
      rw [← fin]
      exact gbr_i (fun _ => ⟨rfl, rfl⟩) (fun _ => gbr_i (fun _ => ⟨rfl, rfl⟩) (fun z => absurd hneg z))
    · have hpos : 0 ≤ sort := Int32.not_lt.mp hneg
      obtain ⟨m, hm, rfl⟩ := nI_of2 (M := 40) (n := 40) rfl (x := n) (fun z => g2 ⟨hpos, z⟩) (Int32.not_lt.mp (fun z => g1 ⟨hpos, z⟩))
      have hcm : (nI m).toNatClampNeg = m := nI_clamp (by omega)
      obtain ⟨B, hB⟩ : ∃ B, B = gset (gset (gset I 21 (gupd (I 21) sn b)) 22 (gupd (I 22) sn sort)) 23 (gupd (I 23) sn (nI m)) := ⟨_, rfl⟩
      have fin : mshI I sn sort (nI m) = gset B 24 (zer (I 24) (40 * sn) m) := by
        unfold mshI
        rw [if_neg hneg, if_neg hneg, hcm, hB, hb, if_neg hneg]
      rw [fin] at hK
      rw [← hB]
      have h24 : B 24 = I 24 := by rw [hB]; rfl
      have loop := gloop (P := fun i => K 0 0 77 [some (.ref 0), some (.int (nI sn)), some (.int sort), some (.int (nI m)), some (.int (nI i))] [] (wM (gset B 24 (zer (I 24) (40 * sn) i)) L)) (n := m) (by
        refine hK [77] 40 _ _ _ _ _ _ ?_
        exact gbr_lp rfl (by omega) (Nat.le_refl _) (fun _ => ⟨rfl, rfl⟩) (fun z => absurd z (Nat.lt_irrefl _))) (by
        intro i hi ih
        have hcl : ((40 : Int32) * nI sn + nI i).toNatClampNeg = 40 * sn + i := by rw [show (40 : Int32) = nI 40 from rfl, pk_mul, nI_add]; exact nI_clamp (by omega)
        have hvi : vp_in ((40 : Int32) * nI sn + nI i) 160 := by rw [show (40 : Int32) = nI 40 from rfl, pk_mul, nI_add]; exact vp_in_nI (by omega) (by omega)
        refine hK [77] 60 _ _ _ _ _ _ ?_
        refine gbr_lp rfl (by omega) (by omega) (fun e => by omega) (fun _ => ?_)
        refine gbr_i (fun z => absurd z hneg) (fun _ => gsd_i hvi ?_)
        rw [zer_s, ← nI_1] at ih
        rw [gss, hcl]
        exact ih)
      have := loop 0 (Nat.zero_le _)
      rw [zer_0, ← h24, gset_self] at this
      exact this
  have hvb : (vp_nar .boolean 0 = 0) ∧ (vp_nar .boolean 1 = 1) := by decide
  have store : ¬ (0 ≤ sort ∧ 40 < n) → ¬ (0 ≤ sort ∧ n < 0) → ∀ b : Int32, vp_nar .boolean b = (if sort < 0 then (0 : Int32) else 1) → K 0 0 77 [some (.ref 0), some (.int (nI sn)), some (.int sort), some (.int n), some (.int 0)] [] (wM (gset (gset (gset I 21 (gupd (I 21) (nI sn).toNatClampNeg (vp_nar .boolean b))) 22 (gupd (I 22) (nI sn).toNatClampNeg sort)) 23 (gupd (I 23) (nI sn).toNatClampNeg n)) L) := by
    intro g1 g2 b hb
    rw [hcs]
    exact tail g1 g2 _ hb
  refine gbr_i (fun hneg => ?_) (fun hneg => ?_)
  · have g1 : ¬ (0 ≤ sort ∧ 40 < n) := fun z => Int32.lt_irrefl (Int32.lt_of_lt_of_le hneg z.1)
    have g2 : ¬ (0 ≤ sort ∧ n < 0) := fun z => Int32.lt_irrefl (Int32.lt_of_lt_of_le hneg z.1)
    refine gbr_i (fun _ => ?_) (fun z => absurd hneg z)
    refine gbr_i (fun _ => ?_) (fun z => absurd hneg z)
    refine gsd_i hv (gsd_i hv (gsd_i hv ?_))
    exact store g1 g2 0 (by rw [if_pos hneg]; exact hvb.1)
  · have hpos := Int32.not_lt.mp hneg
    refine gbr_i (fun h3 => ?_) (fun h3 => bad (fun z => z.2 ⟨hpos, Int32.not_le.mp h3⟩))
    refine gbr_i (fun z => absurd z hneg) (fun _ => ?_)
    have g1 : ¬ (0 ≤ sort ∧ 40 < n) := fun z => Int32.lt_irrefl (Int32.lt_of_lt_of_le z.2 h3)
    refine gbr_i (fun h4 => ?_) (fun h4 => ?_)
    · have g2 : ¬ (0 ≤ sort ∧ n < 0) := fun z => Int32.lt_irrefl (Int32.lt_of_lt_of_le z.2 h4)
      refine gbr_i (fun z => absurd z hneg) (fun _ => ?_)
      refine gsd_i hv (gsd_i hv (gsd_i hv ?_))
      exact store g1 g2 1 (by rw [if_neg hneg]; exact hvb.2)
    · have hX : msheX I (nI sn) sort n = (-14, I) := by unfold msheX; rw [if_pos ⟨⟨h1, h2⟩, g1⟩, if_pos ⟨hpos, Int32.not_le.mp h4⟩]
      rw [hX]
      exact ⟨rfl, rfl⟩
theorem m_cell (s i v : Int32) (hz : ∀ s, s < 4 → ¬ I 21 s = 0 → ∃ z, z ≤ 40 ∧ I 23 s = nI z) : gCtr E 4 0 0 nX10_cell [.ref 0, .int s, .int i, .int v] (wM I L) (fun w u' => u' = wM (mcelX I s i v).2 L ∧ w = some (.int (mcelX I s i v).1)) := by
  refine gstart iX10_cell tX10_cell rfl rfl (fun K ca hK hca => ?_)
  refine hK [] 80 _ _ _ _ _ _ ?_
  clear hK
  refine gcall0 hca (m_isSheet E (wM I L) s) rfl ?_
  rintro w u' - ⟨rfl, rfl⟩
  unfold mcelX
  refine gbr_p (fun h1 => by rw [if_neg h1]; exact ⟨rfl, rfl⟩) (fun h1 => ?_)
  obtain ⟨sn, hsn, rfl⟩ := fours h1
  have hcs : (nI sn).toNatClampNeg = sn := nI_clamp (by omega)
  have hv : vp_in (nI sn) 4 := vp_in_nI hsn (by omega)
  simp only [if_pos h1]
  refine gsd_i hv (gbr_i (fun h2 => ?_) (fun h2 => ?_))
  · rw [if_pos h2]; exact ⟨rfl, rfl⟩
  rw [if_neg h2]
  have h2' : ¬ I 21 sn = 0 := by rw [← hcs]; exact h2
  obtain ⟨z, hz1, hz2⟩ := hz sn hsn h2'
  refine gsd_i hv ?_
  refine gcall0 hca (m_in E (wM I L) i 0 (I 23 (nI sn).toNatClampNeg - 1)) rfl ?_
  rintro w u' - ⟨rfl, rfl⟩
  refine gbr_p (fun h3 => ?_) (fun h3 => ?_)
  · rw [if_neg h3]; exact ⟨rfl, rfl⟩
  rw [if_pos h3]
  obtain ⟨m, hm, rfl⟩ := vp_in_of (gin40 (i := i) (x := I 23 (nI sn).toNatClampNeg) (by rw [hcs]; exact hz2) hz1 h3.1 h3.2) (by omega)
  have hcm : (nI m).toNatClampNeg = m := nI_clamp (by omega)
  have hcl : ((40 : Int32) * nI sn + nI m).toNatClampNeg = 40 * sn + m := by rw [show (40 : Int32) = nI 40 from rfl, pk_mul, nI_add]; exact nI_clamp (by omega)
  have hvi : vp_in ((40 : Int32) * nI sn + nI m) 160 := by rw [show (40 : Int32) = nI 40 from rfl, pk_mul, nI_add]; exact vp_in_nI (by omega) (by omega)
  rw [hcm, hcs, ← hcl]
  have e1 : I 22 (nI sn).toNatClampNeg = I 22 sn := by rw [hcs]
  refine gsd_i hv (gbr_i (fun h4 => ?_) (fun h4 => ?_))
  · have h4' : I 22 (nI sn).toNatClampNeg = 0 := h4
    rw [e1] at h4'
    refine gsd_i hvi ⟨?_, rfl⟩
    rw [show nar (I 22 sn) v = v.toInt8.toInt32 from if_pos h4']
  · have h4' : ¬ I 22 (nI sn).toNatClampNeg = 0 := h4
    rw [e1] at h4'
    refine gsd_i hv (gbr_i (fun h5 => ?_) (fun h5 => ?_))
    · have h5' : I 22 (nI sn).toNatClampNeg = 1 := h5
      rw [e1] at h5'
      refine gsd_i hvi ⟨?_, rfl⟩
      rw [show nar (I 22 sn) v = v.toInt16.toInt32 from (if_neg h4').trans (if_pos h5')]
    · have h5' : ¬ I 22 (nI sn).toNatClampNeg = 1 := h5
      rw [e1] at h5'
      refine gsd_i hvi ⟨?_, rfl⟩
      rw [show nar (I 22 sn) v = v from (if_neg h4').trans (if_neg h5')]
/-- n items from a on, as they were, come to b on -/
def mcp (f : Nat → Int32) (a b n : Nat) : Nat → Int32 := fun p => if b ≤ p ∧ p < b + n then f (a + (p - b)) else f p
theorem mcp_0 (f : Nat → Int32) (a b : Nat) : mcp f a b 0 = f := by funext p; exact if_neg (by omega)
theorem mcp_up (f : Nat → Int32) {a b k : Nat} (h : b ≤ a ∨ a + k < b) : mcp f a b (k + 1) = gupd (mcp f a b k) (b + k) (mcp f a b k (a + k)) := by
  funext p
  by_cases e : p = b + k
  · subst e
    rw [gupd_s]
    have e1 : mcp f a b (k + 1) (b + k) = f (a + (b + k - b)) := if_pos ⟨by omega, by omega⟩
    have e2 : mcp f a b k (a + k) = f (a + k) := if_neg (by omega)
    rw [e1, e2, show b + k - b = k by omega]
  · rw [gupd_n e]; unfold mcp
    by_cases h2 : b ≤ p ∧ p < b + k
    · rw [if_pos h2, if_pos (by omega)]
    · rw [if_neg h2, if_neg (by omega)]
/-- from the top down: k of n have come -/
def mcd (f : Nat → Int32) (a b n k : Nat) : Nat → Int32 := fun p => if b + (n - k) ≤ p ∧ p < b + n then f (a + (p - b)) else f p
theorem mcd_0 (f : Nat → Int32) (a b n : Nat) : mcd f a b n 0 = f := by funext p; exact if_neg (by omega)
theorem mcd_n (f : Nat → Int32) (a b n : Nat) : mcd f a b n n = mcp f a b n := by
  funext p; unfold mcd mcp
  rw [show b + (n - n) = b by omega]
theorem mcd_s (f : Nat → Int32) {a b n k : Nat} (hab : a < b) (hk : k < n) : mcd f a b n (k + 1) = gupd (mcd f a b n k) (b + (n - 1 - k)) (mcd f a b n k (a + (n - 1 - k))) := by
  funext p
  by_cases e : p = b + (n - 1 - k)
  · subst e
    rw [gupd_s]
    have e1 : mcd f a b n (k + 1) (b + (n - 1 - k)) = f (a + (b + (n - 1 - k) - b)) := if_pos ⟨by omega, by omega⟩
    have e2 : mcd f a b n k (a + (n - 1 - k)) = f (a + (n - 1 - k)) := if_neg (by omega)
    rw [e1, e2, show b + (n - 1 - k) - b = n - 1 - k by omega]
  · rw [gupd_n e]; unfold mcd
    by_cases h2 : b + (n - k) ≤ p ∧ p < b + n
    · rw [if_pos h2, if_pos (by omega)]
    · rw [if_neg h2, if_neg (by omega)]
def mcopX (I : Nat → Nat → Int32) (s i o j n : Int32) : Int32 × (Nat → Nat → Int32) :=
  if (0 ≤ s ∧ s < 4) ∧ 0 ≤ o ∧ o < 4 then
    if I 21 s.toNatClampNeg = 0 ∨ I 21 o.toNatClampNeg = 0 then (-11, I) else if ¬ I 22 s.toNatClampNeg = I 22 o.toNatClampNeg then (-13, I)
    else if 0 ≤ n ∧ 0 ≤ i ∧ 0 ≤ j ∧ i ≤ I 23 s.toNatClampNeg - n ∧ j ≤ I 23 o.toNatClampNeg - n then (n, gset I 24 (mcp (I 24) (40 * s.toNatClampNeg + i.toNatClampNeg) (40 * o.toNatClampNeg + j.toNatClampNeg) n.toNatClampNeg)) else (-12, I)
  else (-2, I)
set_option maxHeartbeats 2000000 in
theorem m_copy (s i o j n : Int32) (hz : ∀ s, s < 4 → ¬ I 21 s = 0 → ∃ z, z ≤ 40 ∧ I 23 s = nI z) : gCtr E 4 0 0 nX10_copy [.ref 0, .int s, .int i, .int o, .int j, .int n] (wM I L) (fun w u' => u' = wM (mcopX I s i o j n).2 L ∧ w = some (.int (mcopX I s i o j n).1)) := by
  refine gstart iX10_copy tX10_copy rfl rfl (fun K ca hK hca => ?_)
  refine hK [121] 80 _ _ _ _ _ _ ?_
  have bad : ¬ ((0 ≤ s ∧ s < 4) ∧ 0 ≤ o ∧ o < 4) → (wM I L) = wM (mcopX I s i o j n).2 L ∧ some (Value.int (-2)) = some (.int (mcopX I s i o j n).1) := fun h => by
    unfold mcopX; rw [if_neg h]; exact ⟨rfl, rfl⟩
  refine gcall0 hca (m_isSheet E (wM I L) s) rfl ?_
  rintro w u' - ⟨rfl, rfl⟩
  refine gbr_p (fun h1 => bad (fun z => h1 z.1)) (fun h1 => ?_)
  refine gcall0 hca (m_isSheet E (wM I L) o) rfl ?_
  rintro w u' - ⟨rfl, rfl⟩
  refine gbr_p (fun h2 => bad (fun z => h2 z.2)) (fun h2 => ?_)
  clear bad
  obtain ⟨sn, hsn, rfl⟩ := fours h1
  obtain ⟨on, hon, rfl⟩ := fours h2
  have hcs : (nI sn).toNatClampNeg = sn := nI_clamp (by omega)
  have hco : (nI on).toNatClampNeg = on := nI_clamp (by omega)
  have hvs : vp_in (nI sn) 4 := vp_in_nI hsn (by omega)
  have hvo : vp_in (nI on) 4 := vp_in_nI hon (by omega)
  have hX1 : (I 21 (nI sn).toNatClampNeg = 0 ∨ I 21 (nI on).toNatClampNeg = 0) → mcopX I (nI sn) i (nI on) j n = (-11, I) := fun z => (if_pos ⟨h1, h2⟩).trans (if_pos z)
  refine gsd_i hvs (gbr_i (fun h3 => ?_) (fun h3 => ?_))
  · rw [hX1 (Or.inl h3)]; exact ⟨rfl, rfl⟩
  refine gsd_i hvo (gbr_i (fun h4 => ?_) (fun h4 => ?_))
  · rw [hX1 (Or.inr h4)]; exact ⟨rfl, rfl⟩
  have h34 : ¬ (I 21 (nI sn).toNatClampNeg = 0 ∨ I 21 (nI on).toNatClampNeg = 0) := fun z => z.elim h3 h4
  clear hX1
  obtain ⟨zs, hzs1, hzs2⟩ := hz sn hsn (by rw [← hcs]; exact h3)
  obtain ⟨zo, hzo1, hzo2⟩ := hz on hon (by rw [← hco]; exact h4)
  refine gsd_i hvs (gsd_i hvo (gbr_i (fun h5 => ?_) (fun h5 => by
    have hX : mcopX I (nI sn) i (nI on) j n = (-13, I) := ((if_pos ⟨h1, h2⟩).trans (if_neg h34)).trans (if_pos h5)
    rw [hX]; exact ⟨rfl, rfl⟩)))
  have h5' : ¬ ¬ I 22 (nI sn).toNatClampNeg = I 22 (nI on).toNatClampNeg := fun z => z h5
  have bad : ¬ (0 ≤ n ∧ 0 ≤ i ∧ 0 ≤ j ∧ i ≤ I 23 (nI sn).toNatClampNeg - n ∧ j ≤ I 23 (nI on).toNatClampNeg - n) → (wM I L) = wM (mcopX I (nI sn) i (nI on) j n).2 L ∧ some (Value.int (-12)) = some (.int (mcopX I (nI sn) i (nI on) j n).1) := fun h => by
    rw [show mcopX I (nI sn) i (nI on) j n = (-12, I) from (((if_pos ⟨h1, h2⟩).trans (if_neg h34)).trans (if_neg h5')).trans (if_neg h)]
    exact ⟨rfl, rfl⟩
  have le0 : ∀ {x : Int32}, ¬ x < 0 → 0 ≤ x := fun h => Int32.not_lt.mp h
  refine gbr_i (fun z => bad (fun y => Int32.lt_irrefl (Int32.lt_of_lt_of_le z y.1))) (fun g1 => ?_)
  refine gbr_i (fun z => bad (fun y => Int32.lt_irrefl (Int32.lt_of_lt_of_le z y.2.1))) (fun g2 => ?_)
  refine gbr_i (fun z => bad (fun y => Int32.lt_irrefl (Int32.lt_of_lt_of_le z y.2.2.1))) (fun g3 => ?_)
  refine gsd_i hvs (gbr_i (fun z => bad (fun y => Int32.lt_irrefl (Int32.lt_of_lt_of_le z y.2.2.2.1))) (fun g4 => ?_))
  refine gsd_i hvo (gbr_i (fun g5 => ?_) (fun z => bad (fun y => z y.2.2.2.2)))
  clear bad
  have hX : mcopX I (nI sn) i (nI on) j n = _ := (((if_pos ⟨h1, h2⟩).trans (if_neg h34)).trans (if_neg h5')).trans (if_pos ⟨le0 g1, le0 g2, le0 g3, Int32.not_lt.mp g4, g5⟩)
  rw [hX] at hK ⊢
  obtain ⟨b1, b2, b3⟩ := gcp40 hzs2 hzs1 (i := i) (n := n) ⟨le0 g2, le0 g1, by rw [← hcs]; exact Int32.not_lt.mp g4⟩
  obtain ⟨d1, d2, d3⟩ := gcp40 hzo2 hzo1 (i := j) (n := n) ⟨le0 g3, le0 g1, by rw [← hco]; exact g5⟩
  obtain ⟨im, him, rfl⟩ := nI_of b1
  obtain ⟨jm, hjm, rfl⟩ := nI_of d1
  obtain ⟨nm, hnm, rfl⟩ := nI_of b2
  rw [nI_clamp him, nI_clamp hnm] at b3
  rw [nI_clamp hjm, nI_clamp hnm] at d3
  rw [hcs, hco, nI_clamp him, nI_clamp hjm, nI_clamp hnm] at hK ⊢
  have ix : ∀ {z y q : Nat}, z < 4 → y + q < 40 → ((40 : Int32) * nI z + nI y + nI q).toNatClampNeg = 40 * z + y + q ∧ vp_in ((40 : Int32) * nI z + nI y + nI q) 160 := fun {z y q} hz hq => by
    rw [show (40 : Int32) = nI 40 from rfl, pk_mul, nI_add, nI_add]
    exact ⟨nI_clamp (by omega), vp_in_nI (by omega) (by omega)⟩
  -- one item
  have one : ∀ (q : Nat) (up : Int32) (k : Nat) (F : Nat → Int32) (x8 : Option Value), q < nm → k < nm → (if up = 0 then nI k else nI nm - 1 - nI k) = nI q →
      (∀ y8, K 0 0 121 [some (.ref 0), some (.int (nI sn)), some (.int (nI im)), some (.int (nI on)), some (.int (nI jm)), some (.int (nI nm)), some (.int up), some (.int (nI (k + 1))), y8] [] (wM (gset I 24 (gupd F (40 * on + jm + q) (F (40 * sn + im + q)))) L)) →
      K 0 0 121 [some (.ref 0), some (.int (nI sn)), some (.int (nI im)), some (.int (nI on)), some (.int (nI jm)), some (.int (nI nm)), some (.int up), some (.int (nI k)), x8] [] (wM (gset I 24 F) L) := by
    intro q up k F x8 hq hk he hnext
    obtain ⟨c1, v1⟩ := ix (z := on) (y := jm) (q := q) hon (by omega)
    obtain ⟨c2, v2⟩ := ix (z := sn) (y := im) (q := q) hsn (by omega)
    have hn := hnext (some (.int (nI q)))
    rw [← c1, ← c2, ← nI_1] at hn
    have nx : K 0 0 145 [some (.ref 0), some (.int (nI sn)), some (.int (nI im)), some (.int (nI on)), some (.int (nI jm)), some (.int (nI nm)), some (.int up), some (.int (nI k)), x8] [.int (nI q)] (wM (gset I 24 F) L) := by
      refine hK [121] 80 _ _ _ _ _ _ ?_
      refine gsd_i v2 (gsd_i v1 ?_)
      rw [gss]
      exact hn
    rw [← he] at nx
    refine hK [121, 145] 80 _ _ _ _ _ _ ?_
    refine gbr_lp rfl (by omega) (by omega) (fun e => by omega) (fun _ => ?_)
    refine gbr_i (fun hu => ?_) (fun hu => ?_)
    · rw [if_pos hu] at nx
      exact nx
    · rw [if_neg hu] at nx
      exact nx
  have goUp : (40 * on + jm ≤ 40 * sn + im ∨ 40 * sn + im + nm ≤ 40 * on + jm) → K 0 0 121 [some (.ref 0), some (.int (nI sn)), some (.int (nI im)), some (.int (nI on)), some (.int (nI jm)), some (.int (nI nm)), some (.int 0), some (.int 0), none] [] (wM I L) := by
    intro hcase
    have loop := gloop (P := fun k => ∀ x8, K 0 0 121 [some (.ref 0), some (.int (nI sn)), some (.int (nI im)), some (.int (nI on)), some (.int (nI jm)), some (.int (nI nm)), some (.int 0), some (.int (nI k)), x8] [] (wM (gset I 24 (mcp (I 24) (40 * sn + im) (40 * on + jm) k)) L)) (n := nm) (by
      intro x8
      refine hK [121] 60 _ _ _ _ _ _ ?_
      exact gbr_lp rfl (by omega) (Nat.le_refl _) (fun _ => ⟨rfl, rfl⟩) (fun z => absurd z (Nat.lt_irrefl _))) (by
      intro k hk ih x8
      refine one k 0 k _ x8 hk hk (if_pos rfl) (fun y8 => ?_)
      rw [← mcp_up (I 24) (by omega)]
      exact ih y8)
    have := loop 0 (Nat.zero_le _) none
    rw [mcp_0, gset_self] at this
    exact this
  have goDown : 40 * sn + im < 40 * on + jm → K 0 0 121 [some (.ref 0), some (.int (nI sn)), some (.int (nI im)), some (.int (nI on)), some (.int (nI jm)), some (.int (nI nm)), some (.int 1), some (.int 0), none] [] (wM I L) := by
    intro hcase
    have loop := gloop (P := fun k => ∀ x8, K 0 0 121 [some (.ref 0), some (.int (nI sn)), some (.int (nI im)), some (.int (nI on)), some (.int (nI jm)), some (.int (nI nm)), some (.int 1), some (.int (nI k)), x8] [] (wM (gset I 24 (mcd (I 24) (40 * sn + im) (40 * on + jm) nm k)) L)) (n := nm) (by
      intro x8
      refine hK [121] 60 _ _ _ _ _ _ ?_
      rw [mcd_n]
      exact gbr_lp rfl (by omega) (Nat.le_refl _) (fun _ => ⟨rfl, rfl⟩) (fun z => absurd z (Nat.lt_irrefl _))) (by
      intro k hk ih x8
      refine one (nm - 1 - k) 1 k _ x8 (by omega) hk ?_ (fun y8 => ?_)
      · rw [if_neg (by decide), nI_pm1 (by omega), pk_sub (by omega)]
      · rw [← mcd_s (I 24) hcase hk]
        exact ih y8)
    have := loop 0 (Nat.zero_le _) none
    rw [mcd_0, gset_self] at this
    exact this
  refine gbr_eq (x := nI sn) (y := nI on) rfl (fun e => ?_) (fun e => ?_)
  · have e' : sn = on := (nI_eq (by omega) (by omega)).mp e
    refine gbr_lq (x := nI jm) (y := nI im) (n := jm) (i := im) rfl rfl hjm him (fun h => ?_) (fun h => ?_)
    · exact goUp (by omega)
    · exact goDown (by omega)
  · have e' : sn ≠ on := fun z => e (by rw [z])
    exact goUp (by omega)
end
