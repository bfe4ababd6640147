-- the model: the tape, counts of bits, what was filmed
def mby (b : Int64) (i : Nat) : Int32 := ((b >>> (((8 : Int32) * nI i).toInt64 &&& 63)) &&& 255).toInt32
def mfd (f : Nat → Int32) (tp : Nat) (b : Int64) : Nat → Nat → Int32
  | 0 => f
  | i + 1 => gupd (mfd f tp b i) (tp + i) (mby b i)
def mfdI (I : Nat → Nat → Int32) (tp : Nat) (b : Int64) (i : Nat) : Nat → Nat → Int32 := gset (gset I 3 (mfd (I 3) tp b i)) 0 (gupd (I 0) 6 (nI (tp + i)))
theorem mfdI_s (I : Nat → Nat → Int32) (tp : Nat) (b : Int64) (i : Nat) : mfdI I tp b (i + 1) = gset (gset (mfdI I tp b i) 3 (gupd (mfdI I tp b i 3) (tp + i) (mby b i))) 0 (gupd (mfdI I tp b i 0) 6 (nI (tp + i) + 1)) := by
  unfold mfdI
  rw [gset2 _ (by decide)]
  rw [gset_s, gset_n (show 3 ≠ 0 by decide), gset_s, gupd_gupd, nI_1]
  rfl
def mfeeX (I : Nat → Nat → Int32) (n : Int32) (b : Int64) (tp : Nat) : Int32 × (Nat → Nat → Int32) :=
  if 1 ≤ n ∧ n ≤ 8 then (if 160 < I 0 6 + n then (-4, I) else (nI (tp + n.toNatClampNeg), mfdI I tp b n.toNatClampNeg)) else (-2, I)
/-- ones in a number below 4096 -/
def krn : Nat → Nat → Nat
  | 0, _ => 0
  | f + 1, m => if m = 0 then 0 else 1 + krn f (m &&& (m - 1))
theorem krn_all : ∀ a, a < 64 → ∀ b, b < 64 → (64 * a + b ≠ 0 → krn 13 (64 * a + b) = 1 + krn 13 ((64 * a + b) &&& ((64 * a + b) - 1))) ∧ ibc (nI (64 * a + b)) = nI (krn 13 (64 * a + b)) ∧ krn 13 (64 * a + b) ≤ 12 := by decide +kernel
theorem krn_at {m : Nat} (hm : m < 4096) : (m ≠ 0 → krn 13 m = 1 + krn 13 (m &&& (m - 1))) ∧ ibc (nI m) = nI (krn 13 m) ∧ krn 13 m ≤ 12 := by
  have h := krn_all (m / 64) (by omega) (m % 64) (by omega)
  rwa [Nat.div_add_mod] at h
theorem krn_s (m : Nat) (hm : m < 4096) (h0 : m ≠ 0) : krn 13 m = 1 + krn 13 (m &&& (m - 1)) := (krn_at hm).1 h0
theorem krn_ibc (m : Nat) (hm : m < 4096) : ibc (nI m) = nI (krn 13 m) := (krn_at hm).2.1
theorem krn_le (m : Nat) (hm : m < 4096) : krn 13 m ≤ 12 := (krn_at hm).2.2
theorem and_m1 {m : Nat} (h : m ≠ 0) (hm : m < 4096) : nI m &&& (nI m - 1) = nI (m &&& (m - 1)) := by
  obtain ⟨k, rfl⟩ : ∃ k, m = k + 1 := ⟨m - 1, by omega⟩
  rw [nI_pred, Nat.add_sub_cancel]
  apply Int32.toBitVec_inj.1
  show BitVec.ofNat 32 (k + 1) &&& BitVec.ofNat 32 k = BitVec.ofNat 32 ((k + 1) &&& k)
  apply BitVec.eq_of_getLsbD_eq
  intro i hi
  simp [hi]
section
variable (E : gEnv) (I : Nat → Nat → Int32) (L : Nat → Nat → Int64)
theorem m_feed (n : Int32) (b : Int64) (tp : Nat) (htp : tp ≤ 160) (hs : I 0 6 = nI tp) : gCtr E 3 0 0 nX10_feed [.ref 0, .int n, .long b] (wM I L) (fun w u' => u' = wM (mfeeX I n b tp).2 L ∧ w = some (.int (mfeeX I n b tp).1)) := by
  refine gstart iX10_feed tX10_feed rfl rfl (fun K ca hK hca => ?_)
  refine hK [33] 60 _ _ _ _ _ _ ?_
  unfold mfeeX
  refine gcall0 hca (m_in E (wM I L) n 1 8) rfl ?_
  rintro w u' - ⟨rfl, rfl⟩
  refine gbr_p (fun h1 => by rw [if_neg h1]; exact ⟨rfl, rfl⟩) (fun h1 => ?_)
  obtain ⟨m, hm, rfl⟩ := nI_of2 (M := 8) (n := 8) rfl (x := n) (by clear hca hs hK; (simp only [Int32.lt_iff_toInt_lt, Int32.le_iff_toInt_le, ← Int32.toInt_inj, Int32.reduceToInt] at *; omega)) h1.2
  have hcl : (nI m).toNatClampNeg = m := nI_clamp (by omega)
  rw [if_pos h1]
  refine gbr_i (fun h2 => ?_) (fun h2 => by rw [if_pos (Int32.not_le.mp h2)]; exact ⟨rfl, rfl⟩)
  have h2' : I 0 6 + nI m ≤ 160 := h2
  have hfx : mfeeX I (nI m) b tp = (nI (tp + m), mfdI I tp b m) := by unfold mfeeX; rw [if_pos h1, if_neg (Int32.not_lt.mpr h2'), hcl]
  have hroom : tp + m ≤ 160 := by
    rw [hs, nI_add, show (160 : Int32) = nI 160 from rfl, nI_leI (by omega) (by omega)] at h2'
    exact h2'
  have loop := gloop (P := fun i => K 0 0 33 [some (.ref 0), some (.int (nI m)), some (.long b), none, some (.int (nI i))] [] (wM (mfdI I tp b i) L)) (n := m) (by
    refine hK [33] 60 _ _ _ _ _ _ ?_
    refine gbr_lp rfl (by omega) (Nat.le_refl _) (fun _ => ?_) (fun z => absurd z (Nat.lt_irrefl _))
    rw [hfx]
    exact ⟨rfl, rfl⟩) (by
    intro i hi ih
    have hcl2 : (nI (tp + i)).toNatClampNeg = tp + i := nI_clamp (by omega)
    have hv : vp_in (nI (tp + i)) 160 := vp_in_nI (by omega) (by omega)
    refine hK [33] 60 _ _ _ _ _ _ ?_
    refine gbr_lp rfl (by omega) (by omega) (fun e => by omega) (fun _ => ?_)
    refine gsd_i hv ?_
    rw [mfdI_s, ← nI_1] at ih
    rw [show mfdI I tp b i 3 = mfdI I tp b i 3 from rfl, ← hcl2] at ih
    simp only [hcl2] at ih
    have e : (mfdI I tp b i 0 6).toNatClampNeg = tp + i := hcl2
    show K 0 0 33 _ _ (wM (gset (gset (mfdI I tp b i) 3 (gupd (mfdI I tp b i 3) (mfdI I tp b i 0 6).toNatClampNeg (mby b i))) 0 (gupd (mfdI I tp b i 0) 6 (nI (tp + i) + 1))) L)
    rw [e]
    exact ih)
  have h0 : mfdI I tp b 0 = I := by
    unfold mfdI
    show gset (gset I 3 (I 3)) 0 (gupd (I 0) 6 (nI tp)) = I
    rw [gset_self, ← hs]
    funext k j
    by_cases hk : k = 0
    · subst hk
      rw [gset_s]
      by_cases hj : j = 6
      · subst hj; rw [gupd_s]
      · rw [gupd_n hj]
    · rw [gset_n hk]
  have := loop 0 (Nat.zero_le _)
  rw [h0] at this
  have hfx2 : (if 160 < I 0 6 + nI m then ((-4 : Int32), I) else (nI (tp + (nI m).toNatClampNeg), mfdI I tp b (nI m).toNatClampNeg)) = mfeeX I (nI m) b tp := by unfold mfeeX; rw [if_pos h1]
  exact this
theorem m_bitsOf (m : Nat) (hm : m < 4096) (u : gS) : gCtr E 1 0 0 nX10_bitsOf [.int (nI m)] u (fun w u' => u' = u ∧ w = some (.int (nI (krn 13 m)))) := by
  refine gstart iX10_bitsOf tX10_bitsOf rfl rfl (fun K ca hK hca => ?_)
  have loop : ∀ (f q c : Nat), q ≤ f → q ≤ m → c + krn 13 q = krn 13 m → K 0 0 4 [some (.int (nI m)), some (.int (nI c)), some (.int (nI q))] [] u := by
    intro f
    induction f with
    | zero =>
      intro q c hq hq2 he
      have : q = 0 := by omega
      subst this
      refine hK [4] 60 _ _ _ _ _ _ ?_
      refine gbr_i (fun _ => ⟨rfl, ?_⟩) (fun z => absurd rfl z)
      rw [← he]; rfl
    | succ f ih =>
      intro q c hq hq2 he
      refine hK [4] 60 _ _ _ _ _ _ ?_
      refine gbr_i (fun h => ?_) (fun h => ?_)
      · have h' : nI q = nI 0 := h
        have : q = 0 := (nI_eq (by omega) (by omega)).mp h'
        subst this
        refine ⟨rfl, ?_⟩
        rw [← he]; rfl
      · have hq0 : q ≠ 0 := fun z => h (by rw [z]; rfl)
        have hlt : q &&& (q - 1) ≤ q - 1 := Nat.and_le_right
        have := ih (q &&& (q - 1)) (c + 1) (by omega) (by omega) (by rw [← he, krn_s q (by omega) hq0]; omega)
        rw [← and_m1 hq0 (by omega), ← nI_1] at this
        exact this
  refine hK [4] 60 _ _ _ _ _ _ ?_
  exact loop m m 0 (Nat.le_refl _) (Nat.le_refl _) (Nat.zero_add _)
/-- a group's bits -/
theorem grp_m {g x : Int32} {nr : Nat} (hx : x = nI nr) (hnr : nr ≤ 12) (h : 0 < g ∧ g >>> (x &&& 31) = 0) : ∃ m, m < 4096 ∧ m < 2 ^ nr ∧ 0 < m ∧ g = nI m := by
  have h2 := (grp_eq hx hnr).mpr h
  subst hx
  rw [pw12 nr hnr] at h2
  have hp : 0 < 2 ^ nr := Nat.pos_of_ne_zero (by simp)
  have hb : 2 ^ nr ≤ 4096 := Nat.le_trans (Nat.pow_le_pow_right (by decide) hnr) (by decide)
  obtain ⟨m, hm, rfl⟩ := nI_of (x := g) (by intro z; exact Int32.lt_irrefl (Int32.lt_trans z h.1))
  have h3 := h2.2
  rw [nI_leI hm (by omega)] at h3
  refine ⟨m, by omega, by omega, ?_, rfl⟩
  rcases Nat.eq_zero_or_pos m with q | q
  · subst q; exact absurd h.1 (by decide)
  · exact q
theorem m_split (g t : Int32) (nr : Nat) (hnr : nr ≤ 12) (hcr : I 0 17 = nI nr) (nt : Nat) (hnt : nt ≤ 40) (hct : I 0 11 = nI nt) (hw : ∀ t, t < nt → 0 ≤ I 6 t) : gCtr E 3 0 0 nX10_split [.ref 0, .int g, .int t] (wM I L) (fun w u' => u' = (wM I L) ∧ w = some (.int (if (0 < g ∧ g >>> (xv I 6 6 &&& 31) = 0) ∧ (0 ≤ t ∧ t < xv I 1 4) then (if xv I 4 t.toNatClampNeg = 1 then (if 0 < ibc g - xv I 5 t.toNatClampNeg then ibc g - xv I 5 t.toNatClampNeg else 0) else 0) else -2))) := by
  refine gstart iX10_split tX10_split rfl rfl (fun K ca hK hca => ?_)
  refine hK [] 80 _ _ _ _ _ _ ?_
  clear hK
  refine gcall0 hca (m_isGroup E I L g nr hnr hcr) rfl ?_
  rintro w u' - ⟨rfl, rfl⟩
  refine gbr_p (fun h1 => ?_) (fun h1 => ?_)
  · rw [if_neg (fun z => h1 z.1)]; exact ⟨rfl, rfl⟩
  refine gcall0 hca (m_isTenth E I L t nt hnt hct) rfl ?_
  rintro w u' - ⟨rfl, rfl⟩
  refine gbr_p (fun h2 => ?_) (fun h2 => ?_)
  · rw [if_neg (fun z => h2 z.2)]; exact ⟨rfl, rfl⟩
  have hv : vp_in t 40 := gin_of (by rw [← hct]; exact h2) hnt (by omega)
  rw [if_pos (show (0 < g ∧ g >>> (xv I 6 6 &&& 31) = 0) ∧ (0 ≤ t ∧ t < xv I 1 4) from ⟨h1, h2⟩)]
  obtain ⟨m, hm, _, _, rfl⟩ := grp_m hcr hnr h1
  refine gcall0 hca (m_bitsOf E m hm (wM I L)) rfl ?_
  rintro w u' - ⟨rfl, rfl⟩
  rw [krn_ibc m hm]
  refine gsd_i hv (gsd_i (by decide) (gsd_i hv (gsd_i (by decide) ?_)))
  refine gbr_i (fun h3 => ?_) (fun h3 => ?_)
  · have h3' : xv I 4 t.toNatClampNeg = 1 := h3
    rw [if_pos h3']
    refine gbr_i (fun h4 => ?_) (fun h4 => ?_)
    · have h4' : nI (krn 13 m) - xv I 5 t.toNatClampNeg ≤ 0 := h4
      rw [if_neg (fun z => Int32.lt_irrefl (Int32.lt_of_lt_of_le z h4'))]; exact ⟨rfl, rfl⟩
    · have h4' : ¬ nI (krn 13 m) - xv I 5 t.toNatClampNeg ≤ 0 := h4
      rw [if_pos (Int32.not_le.mp h4')]; exact ⟨rfl, rfl⟩
  · have h3' : ¬ xv I 4 t.toNatClampNeg = 1 := h3
    rw [if_neg h3']; exact ⟨rfl, rfl⟩
theorem m_over (k : Int32) (u : gS) : gCtr E 1 0 0 nX10_over [.int k] u (fun w u' => u' = u ∧ w = some (.int (if k = 0 then -1 else if k = 3 then 2 else if k = 5 then 1 else 0))) := by
  refine gstart iX10_over tX10_over rfl rfl (fun K ca hK hca => ?_)
  refine hK [] 80 _ _ _ _ _ _ ?_
  clear hK
  refine gbr_i (fun h => ?_) (fun h => ?_)
  · rw [if_pos h]; exact ⟨rfl, rfl⟩
  rw [if_neg h]
  refine gbr_i (fun h => ?_) (fun h => ?_)
  · rw [if_pos h]; exact ⟨rfl, rfl⟩
  rw [if_neg h]
  refine gbr_i (fun h => ?_) (fun h => ?_)
  · rw [if_pos h]; exact ⟨rfl, rfl⟩
  rw [if_neg h]; exact ⟨rfl, rfl⟩
/-- what a kind comes to on the way to k -/
def ovr (k : Int32) : Nat → Int32 → Int32
  | 0, x => x
  | f + 1, x => if x = -1 ∨ x = k then x else ovr k f (if x = 0 then -1 else if x = 3 then 2 else if x = 5 then 1 else 0)
theorem ovr_und {x k : Int32} (hx : 0 ≤ x ∧ x ≤ 5) (hk : 0 ≤ k ∧ k ≤ 5) : (ovr k 4 x = -1 ∨ ovr k 4 x = k) ∧ (ovr k 4 x = k ↔ ¬ und x k = 0) := by
  rcases six hx with rfl | rfl | rfl | rfl | rfl | rfl <;> rcases six hk with rfl | rfl | rfl | rfl | rfl | rfl <;> decide
theorem m_taken (r k : Int32) (nr : Nat) (hnr : nr ≤ 12) (hcr : I 0 17 = nI nr) (hk : ∀ i, i < nr → 0 ≤ I 8 i ∧ I 8 i ≤ 5) : gCtr E 3 0 0 nX10_taken [.ref 0, .int r, .int k] (wM I L) (fun w u' => u' = (wM I L) ∧ w = some (.int (takenX (xv I) r k))) := by
  refine gstart iX10_taken tX10_taken rfl rfl (fun K ca hK hca => ?_)
  refine hK [33] 80 _ _ _ _ _ _ ?_
  unfold takenX
  refine gcall0 hca (m_in E (wM I L) k 0 5) rfl ?_
  rintro w u' - ⟨rfl, rfl⟩
  refine gbr_p (fun h1 => by rw [if_neg h1]; exact ⟨rfl, rfl⟩) (fun h1 => ?_)
  rw [if_pos h1]
  refine gcall0 hca (m_isRider E I L r nr hnr hcr) rfl ?_
  rintro w u' - ⟨rfl, rfl⟩
  refine gbr_p (fun h2 => ?_) (fun h2 => ?_)
  · have h2' : ¬ (0 ≤ r ∧ r < xv I 6 6) := h2
    rw [if_neg h2']; exact ⟨rfl, rfl⟩
  have h2' : 0 ≤ r ∧ r < xv I 6 6 := h2
  have hv : vp_in r 12 := gin_of (by rw [← hcr]; exact h2) hnr (by omega)
  obtain ⟨rn, hrn, hrr⟩ : ∃ rn, rn < nr ∧ r.toNatClampNeg = rn := by
    obtain ⟨rn, hrn, hrr⟩ := vp_in_of hv (by omega)
    rw [hrr, hcr] at h2
    exact ⟨rn, (nI_ltI (by omega) (by omega)).mp h2.2, by rw [hrr]; exact nI_clamp (by omega)⟩
  have hkd := hk rn hrn
  rw [← hrr] at hkd
  obtain ⟨o1, o2⟩ := ovr_und hkd h1
  have hX : takenX (xv I) r k = (if und (I 8 r.toNatClampNeg) k = 0 then -13 else I 10 r.toNatClampNeg) := (if_pos h1).trans (if_pos h2')
  rw [hX] at hK
  rw [if_pos h2']
  have loop : ∀ (f : Nat) (x : Int32), (ovr k f x = -1 ∨ ovr k f x = k) → ovr k f x = ovr k 4 (I 8 r.toNatClampNeg) → K 0 0 33 [some (.ref 0), some (.int r), some (.int k), some (.int x)] [] (wM I L) := by
    have done : ∀ x : Int32, (x = -1 ∨ x = k) → x = ovr k 4 (I 8 r.toNatClampNeg) → K 0 0 33 [some (.ref 0), some (.int r), some (.int k), some (.int x)] [] (wM I L) := by
      intro x hx he
      have fin : gbr (x = k) ((wM I L) = (wM I L) ∧ some (Value.int (I 10 r.toNatClampNeg)) = some (.int (if und (I 8 r.toNatClampNeg) k = 0 then -13 else I 10 r.toNatClampNeg))) ((wM I L) = (wM I L) ∧ some (Value.int (-13)) = some (.int (if und (I 8 r.toNatClampNeg) k = 0 then -13 else I 10 r.toNatClampNeg))) := by
        rw [he]
        refine gbr_i (fun z => ?_) (fun z => ?_)
        · rw [if_neg (o2.mp z)]; exact ⟨rfl, rfl⟩
        · rw [if_pos (Classical.byContradiction (fun y => z (o2.mpr y)))]; exact ⟨rfl, rfl⟩
      refine hK [33] 60 _ _ _ _ _ _ ?_
      refine gbr_i (fun z => ?_) (fun z => ?_)
      · exact gbr_i (fun y => gsd_i hv (fin.1 y)) (fun y => fin.2 y)
      · refine gbr_i (fun z2 => ?_) (fun z2 => absurd hx (fun y => y.elim z z2))
        exact gbr_i (fun y => gsd_i hv (fin.1 y)) (fun y => fin.2 y)
    intro f
    induction f with
    | zero => intro x h1 h2; exact done x h1 h2
    | succ f ih =>
      intro x g1 g2
      unfold ovr at g1 g2
      by_cases hx : x = -1 ∨ x = k
      · rw [if_pos hx] at g1 g2
        exact done x hx (by rw [g2]; rfl)
      · rw [if_neg hx] at g1 g2
        refine hK [33] 60 _ _ _ _ _ _ ?_
        refine gbr_i (fun z => absurd (Or.inl z) hx) (fun _ => ?_)
        refine gbr_i (fun z => absurd (Or.inr z) hx) (fun _ => ?_)
        refine gcall0 hca (m_over E x (wM I L)) rfl ?_
        rintro w u' - ⟨rfl, rfl⟩
        exact ih _ g1 (by rw [g2]; rfl)
  refine gsd_i hv ?_
  exact loop 4 _ o1 rfl
end
