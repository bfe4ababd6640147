-- the model: film, count, image, back
def mfilX (I : Nat → Nat → Int32) (r t is : Int32) : Int32 × (Nat → Nat → Int32) :=
  if (0 ≤ r ∧ r < I 0 17) ∧ (0 ≤ t ∧ t < I 0 11) ∧ 0 ≤ is ∧ is ≤ 1 then ((I 7 t.toNatClampNeg >>> (r &&& 31)) &&& 1, gset I 7 (gupd (I 7) t.toNatClampNeg ((I 7 t.toNatClampNeg &&& ((1 <<< (r &&& 31)) ^^^ -1)) ||| (is <<< (r &&& 31)))))
  else (-2, I)
def mct (I : Nat → Nat → Int32) (nt : Nat) : Int32 := ss (fun t => nI (krn 13 (I 7 t).toNatClampNeg)) nt
def mcouX (I : Nat → Nat → Int32) (nt nr : Nat) (what : Int32) : Int32 :=
  if what = 0 then I 0 11 else if what = 1 then I 0 17 else if what = 2 then I 0 3 else if what = 3 then I 0 6 else if what = 4 then I 0 4 else if what = 5 then mct I nt else if what = 6 then ss (I 12) nr else -2
theorem cpy_0 {α : Type} (f g : Nat → α) : va_cpy f g 0 0 0 = g := by
  funext j; exact pk_cpy_out (Or.inr (by omega))
theorem cpy_s {α : Type} (f g : Nat → α) (n : Nat) : va_cpy f g 0 0 (n + 1) = gupd (va_cpy f g 0 0 n) n (f n) := by
  funext j
  by_cases h : j = n
  · subst h
    rw [gupd_s, pk_cpy_in (Nat.zero_le _) (by omega), Nat.zero_add, Nat.sub_zero]
  · rw [gupd_n h]
    rcases Nat.lt_or_ge j n with q | q
    · rw [pk_cpy_in (Nat.zero_le _) (by omega), pk_cpy_in (Nat.zero_le _) (by omega)]
    · rw [pk_cpy_out (Or.inr (by omega)), pk_cpy_out (Or.inr (by omega))]
/-- what back makes of what was filmed, in the first n tenths -/
def bkf (f g : Nat → Int32) (mask : Int32) (it n : Nat) : Nat → Int32 := fun t => if t < n then (f t &&& (mask ^^^ -1)) ||| (if t < it then g t &&& mask else 0) else f t
theorem bkf_0 (f g : Nat → Int32) (mask : Int32) (it : Nat) : bkf f g mask it 0 = f := by funext t; exact if_neg (Nat.not_lt_zero _)
theorem bkf_s (f g : Nat → Int32) (mask : Int32) (it n : Nat) : bkf f g mask it (n + 1) = gupd (bkf f g mask it n) n ((bkf f g mask it n n &&& (mask ^^^ -1)) ||| (if n < it then g n &&& mask else 0)) := by
  funext t
  by_cases h : t = n
  · subst h
    rw [gupd_s]
    unfold bkf
    rw [if_pos (Nat.lt_succ_self _), if_neg (Nat.lt_irrefl _)]
  · rw [gupd_n h]
    unfold bkf
    by_cases h2 : t < n
    · rw [if_pos h2, if_pos (by omega)]
    · rw [if_neg h2, if_neg (by omega)]
section
variable (E : gEnv) (I : Nat → Nat → Int32) (L : Nat → Nat → Int64)
theorem m_film (r t is : Int32) (nr : Nat) (hnr : nr ≤ 12) (hcr : I 0 17 = nI nr) (nt : Nat) (hnt : nt ≤ 40) (hct : I 0 11 = nI nt) : gCtr E 3 0 0 nX10_film [.ref 0, .int r, .int t, .int is] (wM I L) (fun w u' => u' = wM (mfilX I r t is).2 L ∧ w = some (.int (mfilX I r t is).1)) := by
  refine gstart iX10_film tX10_film rfl rfl (fun K ca hK hca => ?_)
  refine hK [] 80 _ _ _ _ _ _ ?_
  clear hK
  have bad : ¬ ((0 ≤ r ∧ r < I 0 17) ∧ (0 ≤ t ∧ t < I 0 11) ∧ 0 ≤ is ∧ is ≤ 1) → (wM I L) = wM (mfilX I r t is).2 L ∧ some (Value.int (-2)) = some (.int (mfilX I r t is).1) := fun h => by
    unfold mfilX; rw [if_neg h]; exact ⟨rfl, rfl⟩
  refine gcall0 hca (m_isRider E I L r nr hnr hcr) rfl ?_
  rintro w u' - ⟨rfl, rfl⟩
  refine gbr_p (fun h1 => bad (fun z => h1 z.1)) (fun h1 => ?_)
  refine gcall0 hca (m_isTenth E I L t nt hnt hct) rfl ?_
  rintro w u' - ⟨rfl, rfl⟩
  refine gbr_p (fun h2 => bad (fun z => h2 z.2.1)) (fun h2 => ?_)
  refine gcall0 hca (m_in E (wM I L) is 0 1) rfl ?_
  rintro w u' - ⟨rfl, rfl⟩
  refine gbr_p (fun h3 => bad (fun z => h3 z.2.2)) (fun h3 => ?_)
  have hv : vp_in t 40 := gin_of (by rw [← hct]; exact h2) hnt (by omega)
  unfold mfilX
  rw [if_pos ⟨h1, h2, h3⟩]
  exact gsd_i hv (gsd_i hv (gsd_i hv ⟨rfl, rfl⟩))
theorem m_count (what : Int32) (nr : Nat) (hnr : nr ≤ 12) (hcr : I 0 17 = nI nr) (nt : Nat) (hnt : nt ≤ 40) (hct : I 0 11 = nI nt) (hf : ∀ t, t < nt → ∃ m, m < 4096 ∧ I 7 t = nI m) : gCtr E 3 0 0 nX10_count [.ref 0, .int what] (wM I L) (fun w u' => u' = (wM I L) ∧ w = some (.int (mcouX I nt nr what))) := by
  refine gstart iX10_count tX10_count rfl rfl (fun K ca hK hca => ?_)
  refine hK [71, 101] 80 _ _ _ _ _ _ ?_
  unfold mcouX
  refine gbr_i (fun e => ?_) (fun e0 => ?_)
  · rw [if_pos e]; exact ⟨rfl, rfl⟩
  rw [if_neg e0]
  refine gbr_i (fun e => ?_) (fun e1 => ?_)
  · rw [if_pos e]; exact ⟨rfl, rfl⟩
  rw [if_neg e1]
  refine gbr_i (fun e => ?_) (fun e2 => ?_)
  · rw [if_pos e]; exact ⟨rfl, rfl⟩
  rw [if_neg e2]
  refine gbr_i (fun e => ?_) (fun e3 => ?_)
  · rw [if_pos e]; exact ⟨rfl, rfl⟩
  rw [if_neg e3]
  refine gbr_i (fun e => ?_) (fun e4 => ?_)
  · rw [if_pos e]; exact ⟨rfl, rfl⟩
  rw [if_neg e4]
  refine gbr_i (fun e => ?_) (fun e5 => ?_)
  · have hX : mcouX I nt nr what = mct I nt := by unfold mcouX; rw [if_neg e0, if_neg e1, if_neg e2, if_neg e3, if_neg e4, if_pos e]
    rw [hX] at hK
    have loop := gloop (P := fun i => K 0 0 71 [some (.ref 0), some (.int what), some (.int (mct I i)), some (.int (nI i))] [] (wM I L)) (n := nt) (by
      refine hK [71] 40 _ _ _ _ _ _ ?_
      exact gbr_lp hct (by omega) (Nat.le_refl _) (fun _ => ⟨rfl, rfl⟩) (fun z => absurd z (Nat.lt_irrefl _))) (by
      intro i hi ih
      obtain ⟨m, hm, he⟩ := hf i hi
      have hcl : (nI i).toNatClampNeg = i := nI_clamp (by omega)
      have hq : I 7 (nI i).toNatClampNeg = nI m := by rw [hcl, he]
      refine hK [71] 40 _ _ _ _ _ _ ?_
      refine gbr_lp hct (by omega) (by omega) (fun e => by omega) (fun _ => ?_)
      refine gsd_i (vp_in_nI (by omega) (by omega)) ?_
      have hb := m_bitsOf E m hm (wM I L)
      rw [← hq] at hb
      refine gcall0 hca hb rfl ?_
      rintro w u' - ⟨rfl, rfl⟩
      rw [show mct I (i + 1) = mct I i + nI (krn 13 m) from by
        show mct I i + nI (krn 13 (I 7 i).toNatClampNeg) = _
        rw [he, nI_clamp (by omega)], ← nI_1] at ih
      exact ih)
    exact loop 0 (Nat.zero_le _)
  rw [if_neg e5]
  refine gbr_i (fun e => ?_) (fun e6 => ?_)
  · have hX : mcouX I nt nr what = ss (I 12) nr := by unfold mcouX; rw [if_neg e0, if_neg e1, if_neg e2, if_neg e3, if_neg e4, if_neg e5, if_pos e]
    rw [hX] at hK
    have loop := gloop (P := fun i => K 0 0 101 [some (.ref 0), some (.int what), some (.int (ss (I 12) i)), some (.int (nI i))] [] (wM I L)) (n := nr) (by
      refine hK [101] 40 _ _ _ _ _ _ ?_
      exact gbr_lp hcr (by omega) (Nat.le_refl _) (fun _ => ⟨rfl, rfl⟩) (fun z => absurd z (Nat.lt_irrefl _))) (by
      intro i hi ih
      refine hK [101] 40 _ _ _ _ _ _ ?_
      refine gbr_lp hcr (by omega) (by omega) (fun e => by omega) (fun _ => ?_)
      refine gsd_i (vp_in_nI (by omega) (by omega)) ?_
      rw [← nI_1, show ss (I 12) (i + 1) = ss (I 12) i + I 12 (nI i).toNatClampNeg by rw [nI_clamp (by omega)]; rfl] at ih
      exact ih)
    exact loop 0 (Nat.zero_le _)
  rw [if_neg e6]
  exact ⟨rfl, rfl⟩
set_option maxHeartbeats 1000000 in
theorem m_image (nr : Nat) (hnr : nr ≤ 12) (hcr : I 0 17 = nI nr) (nt : Nat) (hnt : nt ≤ 40) (hct : I 0 11 = nI nt) : gCtr E 3 0 0 nX10_image [.ref 0] (wM I L) (fun w u' => w = some (.int (nI nr)) ∧ ∃ I', u' = wM I' L ∧ (I' 0 47 = 1 ∧ I' 0 48 = nI nr ∧ I' 0 49 = nI nt ∧ I' 0 50 = I 0 4 ∧ ∀ j, j < 47 ∨ 50 < j → I' 0 j = I 0 j) ∧ I' 18 = va_cpy (I 11) (I 18) 0 0 nr ∧ I' 19 = va_cpy (I 12) (I 19) 0 0 nr ∧ I' 20 = va_cpy (I 7) (I 20) 0 0 nt ∧ ∀ k, k ≠ 0 → k ≠ 18 → k ≠ 19 → k ≠ 20 → I' k = I k) := by
  refine gstart iX10_image tX10_image rfl rfl (fun K ca hK hca => ?_)
  have loop2 := gloop (P := fun i => ∀ J, (J 0 47 = 1 ∧ J 0 48 = nI nr ∧ J 0 49 = nI nt ∧ J 0 50 = I 0 4 ∧ ∀ j, j < 47 ∨ 50 < j → J 0 j = I 0 j) → J 18 = va_cpy (I 11) (I 18) 0 0 nr → J 19 = va_cpy (I 12) (I 19) 0 0 nr → J 20 = va_cpy (I 7) (I 20) 0 0 i → (∀ k, k ≠ 0 → k ≠ 18 → k ≠ 19 → k ≠ 20 → J k = I k) → K 0 0 71 [some (.ref 0), some (.int (nI i))] [] (wM J L)) (n := nt) (by
    intro J h0 h18 h19 h20 hf
    refine hK [71] 40 _ _ _ _ _ _ ?_
    refine gbr_lp (n := nt) (by show J 0 11 = _; rw [h0.2.2.2.2 11 (by omega), hct]) (by omega) (Nat.le_refl _) (fun _ => ⟨?_, J, rfl, h0, h18, h19, h20, hf⟩) (fun z => absurd z (Nat.lt_irrefl _))
    show some (Value.int (J 0 17)) = _
    rw [h0.2.2.2.2 17 (by omega), hcr]) (by
    intro i hi ih J h0 h18 h19 h20 hf
    have hcl : (nI i).toNatClampNeg = i := nI_clamp (by omega)
    have hv : vp_in (nI i) 40 := vp_in_nI (by omega) (by omega)
    refine hK [71] 40 _ _ _ _ _ _ ?_
    refine gbr_lp (n := nt) (by show J 0 11 = _; rw [h0.2.2.2.2 11 (by omega), hct]) (by omega) (by omega) (fun e => by omega) (fun _ => ?_)
    refine gsd_i hv (gsd_i hv ?_)
    have := ih (gset J 20 (gupd (J 20) (nI i).toNatClampNeg (J 7 (nI i).toNatClampNeg))) h0 h18 h19 (by rw [gset_s, hcl, h20, hf 7 (by decide) (by decide) (by decide) (by decide), cpy_s]) (fun k a b d e => by rw [gset_n e, hf k a b d e])
    rw [← nI_1] at this
    exact this)
  have loop1 := gloop (P := fun i => ∀ J, (J 0 47 = 1 ∧ J 0 48 = nI nr ∧ J 0 49 = nI nt ∧ J 0 50 = I 0 4 ∧ ∀ j, j < 47 ∨ 50 < j → J 0 j = I 0 j) → J 18 = va_cpy (I 11) (I 18) 0 0 i → J 19 = va_cpy (I 12) (I 19) 0 0 i → J 20 = I 20 → (∀ k, k ≠ 0 → k ≠ 18 → k ≠ 19 → k ≠ 20 → J k = I k) → K 0 0 31 [some (.ref 0), some (.int (nI i))] [] (wM J L)) (n := nr) (by
    intro J h0 h18 h19 h20 hf
    refine hK [31, 71] 40 _ _ _ _ _ _ ?_
    refine gbr_lp (n := nr) (by show J 0 17 = _; rw [h0.2.2.2.2 17 (by omega), hcr]) (by omega) (Nat.le_refl _) (fun _ => ?_) (fun z => absurd z (Nat.lt_irrefl _))
    exact loop2 0 (Nat.zero_le _) J h0 h18 h19 (by rw [h20, cpy_0]) hf) (by
    intro i hi ih J h0 h18 h19 h20 hf
    have hcl : (nI i).toNatClampNeg = i := nI_clamp (by omega)
    have hv : vp_in (nI i) 12 := vp_in_nI (by omega) (by omega)
    refine hK [31] 60 _ _ _ _ _ _ ?_
    refine gbr_lp (n := nr) (by show J 0 17 = _; rw [h0.2.2.2.2 17 (by omega), hcr]) (by omega) (by omega) (fun e => by omega) (fun _ => ?_)
    refine gsd_i hv (gsd_i hv (gsd_i hv (gsd_i hv ?_)))
    have := ih (gset (gset J 18 (gupd (J 18) (nI i).toNatClampNeg (J 11 (nI i).toNatClampNeg))) 19 (gupd (J 19) (nI i).toNatClampNeg (J 12 (nI i).toNatClampNeg))) h0 (by
      rw [gset_n (by decide), gset_s, hcl, h18, hf 11 (by decide) (by decide) (by decide) (by decide), cpy_s]) (by
      rw [gset_s, hcl, h19, hf 12 (by decide) (by decide) (by decide) (by decide), cpy_s]) h20 (fun k a b d e => by rw [gset_n d, gset_n b, hf k a b d e])
    rw [← nI_1] at this
    exact this)
  refine hK [31] 60 _ _ _ _ _ _ ?_
  refine gsd_i (Or.inr rfl) ?_
  refine loop1 0 (Nat.zero_le _) _ ⟨rfl, ?_, ?_, rfl, fun j hj => ?_⟩ ?_ ?_ rfl (fun k a b d e => ?_)
  · exact hcr
  · exact hct
  · show gupd (gupd (gupd (gupd (I 0) 47 1) 48 _) 49 _) 50 _ j = I 0 j
    rw [gupd_n (by omega), gupd_n (by omega), gupd_n (by omega), gupd_n (by omega)]
  · exact (cpy_0 _ _).symm
  · exact (cpy_0 _ _).symm
  · show gset (gset (gset (gset I 0 (gupd (I 0) 47 1)) 0 _) 0 _) 0 _ k = I k
    rw [gset_n a, gset_n a, gset_n a, gset_n a]
set_option maxHeartbeats 1000000 in
theorem m_back (nr : Nat) (hnr : nr ≤ 12) (hcr : I 0 17 = nI nr) (nt : Nat) (hnt : nt ≤ 40) (hct : I 0 11 = nI nt) (ic : Nat) (hic : ic ≤ 12) (hci : I 0 48 = nI ic) (it : Nat) (hit : it ≤ 40) (hcit : I 0 49 = nI it) : gCtr E 3 0 0 nX10_back [.ref 0] (wM I L) (fun w u' => (I 0 47 = 0 ∧ w = some (.int (-3)) ∧ u' = (wM I L)) ∨ (¬ I 0 47 = 0 ∧ w = some (.int (nI nr)) ∧ ∃ I', u' = wM I' L ∧ (I' 0 4 = I 0 50 ∧ ∀ j, j ≠ 4 → I' 0 j = I 0 j) ∧ I' 11 = va_cpy (I 18) (I 11) 0 0 ic ∧ I' 12 = va_cpy (I 19) (I 12) 0 0 ic ∧ I' 7 = bkf (I 7) (I 20) (nI (2 ^ ic - 1)) it nt ∧ ∀ k, k ≠ 0 → k ≠ 11 → k ≠ 12 → k ≠ 7 → I' k = I k)) := by
  refine gstart iX10_back tX10_back rfl rfl (fun K ca hK hca => ?_)
  by_cases h47 : I 0 47 = 0
  · refine hK [20] 60 _ _ _ _ _ _ ?_
    exact gbr_i (fun _ => Or.inl ⟨h47, rfl, rfl⟩) (fun z => absurd h47 z)
  have loop2 := gloop (P := fun i => ∀ J, (J 0 4 = I 0 50 ∧ ∀ j, j ≠ 4 → J 0 j = I 0 j) → J 11 = va_cpy (I 18) (I 11) 0 0 ic → J 12 = va_cpy (I 19) (I 12) 0 0 ic → J 7 = bkf (I 7) (I 20) (nI (2 ^ ic - 1)) it i → (∀ k, k ≠ 0 → k ≠ 11 → k ≠ 12 → k ≠ 7 → J k = I k) → K 0 0 69 [some (.ref 0), some (.int (nI (2 ^ ic - 1))), some (.int (nI i))] [] (wM J L)) (n := nt) (by
    intro J h0 h11 h12 h7 hf
    refine hK [69] 40 _ _ _ _ _ _ ?_
    refine gbr_lp (n := nt) (by show J 0 11 = _; rw [h0.2 11 (by omega), hct]) (by omega) (Nat.le_refl _) (fun _ => Or.inr ⟨h47, ?_, J, rfl, h0, h11, h12, h7, hf⟩) (fun z => absurd z (Nat.lt_irrefl _))
    show some (Value.int (J 0 17)) = _
    rw [h0.2 17 (by omega), hcr]) (by
    intro i hi ih J h0 h11 h12 h7 hf
    have hcl : (nI i).toNatClampNeg = i := nI_clamp (by omega)
    have hv : vp_in (nI i) 40 := vp_in_nI (by omega) (by omega)
    have h20 : J 20 = I 20 := hf 20 (by decide) (by decide) (by decide) (by decide)
    have go : ∀ x : Int32, x = (if i < it then I 20 i &&& nI (2 ^ ic - 1) else 0) → K 0 0 69 [some (.ref 0), some (.int (nI (2 ^ ic - 1))), some (.int (nI i + 1))] [] (wM (gset J 7 (gupd (J 7) (nI i).toNatClampNeg ((J 7 (nI i).toNatClampNeg &&& (nI (2 ^ ic - 1) ^^^ -1)) ||| x))) L) := by
      intro x hx
      have := ih (gset J 7 (gupd (J 7) (nI i).toNatClampNeg ((J 7 (nI i).toNatClampNeg &&& (nI (2 ^ ic - 1) ^^^ -1)) ||| x))) h0 h11 h12 (by rw [gset_s, hcl, h7, bkf_s, hx]) (fun k a b d e => by rw [gset_n e, hf k a b d e])
      rw [← nI_1] at this
      exact this
    refine hK [69] 60 _ _ _ _ _ _ ?_
    refine gbr_lp (n := nt) (by show J 0 11 = _; rw [h0.2 11 (by omega), hct]) (by omega) (by omega) (fun e => by omega) (fun _ => ?_)
    refine gsd_i hv ?_
    refine gbr_lq (x := J 0 49) (y := nI i) (n := it) (i := i) (by rw [h0.2 49 (by omega), hcit]) rfl (by omega) (by omega) (fun h => ?_) (fun h => ?_)
    · refine gsd_i hv ?_
      exact go 0 (if_neg (by omega)).symm
    · refine gsd_i hv (gsd_i hv ?_)
      refine go (J 20 (nI i).toNatClampNeg &&& nI (2 ^ ic - 1)) ?_
      rw [if_pos h, h20, hcl])
  have loop1 := gloop (P := fun i => ∀ J, (J 0 4 = I 0 50 ∧ ∀ j, j ≠ 4 → J 0 j = I 0 j) → J 11 = va_cpy (I 18) (I 11) 0 0 i → J 12 = va_cpy (I 19) (I 12) 0 0 i → J 7 = I 7 → (∀ k, k ≠ 0 → k ≠ 11 → k ≠ 12 → k ≠ 7 → J k = I k) → K 0 0 20 [some (.ref 0), some (.int (nI i)), none] [] (wM J L)) (n := ic) (by
    intro J h0 h11 h12 h7 hf
    refine hK [20, 69] 60 _ _ _ _ _ _ ?_
    refine gbr_lp (n := ic) (by show J 0 48 = _; rw [h0.2 48 (by omega), hci]) (by omega) (Nat.le_refl _) (fun _ => ?_) (fun z => absurd z (Nat.lt_irrefl _))
    have hm : (1 <<< (J 0 48 &&& 31)) - 1 = nI (2 ^ ic - 1) := by rw [h0.2 48 (by omega), hci, pw12 ic hic]
    have := loop2 0 (Nat.zero_le _) J h0 h11 h12 (by rw [h7, bkf_0]) hf
    rw [← hm] at this
    exact this) (by
    intro i hi ih J h0 h11 h12 h7 hf
    have hcl : (nI i).toNatClampNeg = i := nI_clamp (by omega)
    have hv : vp_in (nI i) 12 := vp_in_nI (by omega) (by omega)
    refine hK [20] 60 _ _ _ _ _ _ ?_
    refine gbr_lp (n := ic) (by show J 0 48 = _; rw [h0.2 48 (by omega), hci]) (by omega) (by omega) (fun e => by omega) (fun _ => ?_)
    refine gsd_i hv (gsd_i hv (gsd_i hv (gsd_i hv ?_)))
    have := ih (gset (gset J 11 (gupd (J 11) (nI i).toNatClampNeg (J 18 (nI i).toNatClampNeg))) 12 (gupd (J 12) (nI i).toNatClampNeg (J 19 (nI i).toNatClampNeg))) h0 (by
      rw [gset_n (by decide), gset_s, hcl, h11, hf 18 (by decide) (by decide) (by decide) (by decide), cpy_s]) (by
      rw [gset_s, hcl, h12, hf 19 (by decide) (by decide) (by decide) (by decide), cpy_s]) h7 (fun k a b d e => by rw [gset_n d, gset_n b, hf k a b d e])
    rw [← nI_1] at this
    exact this)
  refine hK [20] 60 _ _ _ _ _ _ ?_
  refine gbr_i (fun z => absurd z h47) (fun _ => ?_)
  refine loop1 0 (Nat.zero_le _) _ ⟨rfl, fun j hj => ?_⟩ ?_ ?_ rfl (fun k a b d e => ?_)
  · show gset I 0 (gupd (I 0) 4 (I 0 50)) 0 j = I 0 j
    rw [gset_s, gupd_n hj]
  · exact (cpy_0 _ _).symm
  · exact (cpy_0 _ _).symm
  · show gset I 0 (gupd (I 0) 4 (I 0 50)) k = I k
    rw [gset_n a]
end
