-- the model: tenths by a sheet, games
def mtnX (f : Nat → Int32) (z fr : Int32) : Nat → Nat → Int32 → (Nat → Nat → Int32) → Int32 × (Nat → Nat → Int32)
  | 0, _, came, I => (came, I)
  | m + 1, k, came, I => if 0 ≤ fr.toInt ∧ fr.toInt + 3 * k + 3 ≤ z.toInt then
      mtnX f z fr m (k + 1) (if (mtenX I (f (fr.toNatClampNeg + 3 * k)) (f (fr.toNatClampNeg + 3 * k + 1)) (f (fr.toNatClampNeg + 3 * k + 2))).1 < 0 then came else came + 1) (mtenX I (f (fr.toNatClampNeg + 3 * k)) (f (fr.toNatClampNeg + 3 * k + 1)) (f (fr.toNatClampNeg + 3 * k + 2))).2
    else (-12, I)
theorem mtn_c {fr : Int32} {z k : Nat} (hz : z ≤ 40) (hk : k < 12) : (¬ fr < 0 ∧ fr ≤ nI z - 3 * nI k - 3) ↔ (0 ≤ fr.toInt ∧ fr.toInt + 3 * k + 3 ≤ (nI z).toInt) := by
  have e0 : (3 : Int32) * nI k = nI (3 * k) := by rw [show (3 : Int32) = nI 3 from rfl, pk_mul]
  have e1 : (nI z - 3 * nI k - 3).toInt = (z : Int) - 3 * k - 3 := by
    rw [e0]
    have a : (nI z - nI (3 * k)).toInt = (z : Int) - (3 * k : Nat) := pk_sub_toInt (by omega) (by omega)
    have b : (nI z - nI (3 * k) - 3).toInt = ((nI z - nI (3 * k)).toInt - 3).bmod (2 ^ 32) := Int32.toInt_sub _ _
    rw [b, a, Int.bmod_eq_of_le (by omega) (by omega)]
    omega
  rw [nI_toInt (by omega), Int32.le_iff_toInt_le, e1, Int32.lt_iff_toInt_lt]
  simp only [Int32.reduceToInt]
  omega
theorem mten_nt {I : Nat → Nat → Int32} {a b z : Int32} {nt : Nat} (hnt : nt ≤ 40) (h : I 0 11 = nI nt) : ∃ nt', nt' ≤ 40 ∧ (mtenX I a b z).2 0 11 = nI nt' := by
  unfold mtenX
  by_cases h1 : (-9 ≤ a ∧ a ≤ 9) ∧ (0 ≤ b ∧ b ≤ 9) ∧ 2 ≤ z ∧ z ≤ 41
  · rw [if_pos h1]
    by_cases h2 : I 0 11 = 40
    · rw [if_pos h2]; exact ⟨nt, hnt, h⟩
    · rw [if_neg h2]
      refine ⟨nt + 1, ?_, ?_⟩
      · rcases Nat.lt_or_ge nt 40 with q | q
        · omega
        · exfalso; exact h2 (by rw [h, show nt = 40 by omega]; rfl)
      · show I 0 11 + 1 = _
        rw [h, nI_1]
  · rw [if_neg h1]; exact ⟨nt, hnt, h⟩
theorem mten_fr {I : Nat → Nat → Int32} {a b z : Int32} {k : Nat} (h0 : k ≠ 0) (hk : k < 4 ∨ 7 < k) : (mtenX I a b z).2 k = I k := by
  unfold mtenX
  by_cases h1 : (-9 ≤ a ∧ a ≤ 9) ∧ (0 ≤ b ∧ b ≤ 9) ∧ 2 ≤ z ∧ z ≤ 41
  · rw [if_pos h1]
    by_cases h2 : I 0 11 = 40
    · rw [if_pos h2]
    · rw [if_neg h2]
      show gset _ _ _ _ = _
      rw [gset_n (by omega), gset_n (by omega), gset_n (by omega), gset_n (by omega), gset_n (by omega)]
  · rw [if_neg h1]
def mtesX (I : Nat → Nat → Int32) (s sort fr n : Int32) : Int32 × (Nat → Nat → Int32) :=
  if (0 ≤ s ∧ s < 4) ∧ (0 ≤ sort ∧ sort ≤ 2) ∧ 0 ≤ n ∧ n ≤ 12 then
    if ¬ I 21 s.toNatClampNeg = 0 ∧ ¬ I 22 s.toNatClampNeg = sort then (-13, I) else if I 21 s.toNatClampNeg = 0 then (-11, I)
    else mtnX (fun j => I 24 (40 * s.toNatClampNeg + j)) (I 23 s.toNatClampNeg) fr n.toNatClampNeg 0 0 I
  else (-2, I)
theorem rsi01 {f : Nat → Int32} {n ch : Nat} : ∀ i, rsi f n ch i = 0 ∨ rsi f n ch i = 1 := by
  intro i
  induction i with
  | zero => exact Or.inr rfl
  | succ i ih =>
    show rsi f n ch i &&& (if f ((ch ^^^ (1 <<< i)) * n + i) ≤ f (ch * n + i) then 1 else 0) = 0 ∨ rsi f n ch i &&& (if f ((ch ^^^ (1 <<< i)) * n + i) ≤ f (ch * n + i) then 1 else 0) = 1
    rcases ih with h | h <;> rw [h] <;> split <;> decide
theorem gdo_ne {f : Nat → Int32} {n : Nat} : ∀ ch, ch < 100 → ¬ (gdo f n (ch + 1)).1 = -1 := by
  intro ch
  induction ch with
  | zero => intro _; rw [show gdo f n 1 = (nI 0, gsm f n 0 n) from if_pos (Or.inl rfl)]; exact (by decide : ¬ nI 0 = -1)
  | succ ch ih =>
    intro h
    show ¬ (if (gdo f n (ch + 1)).1 = -1 ∨ ¬ lg_cmp (gsm f n (ch + 1) n) (gdo f n (ch + 1)).2 ≤ 0 then (nI (ch + 1), gsm f n (ch + 1) n) else gdo f n (ch + 1)).1 = -1
    split
    · intro z
      have z' : nI (ch + 1) = -1 := z
      have := congrArg Int32.toInt z'
      rw [nI_toInt (by omega)] at this
      simp only [Int32.reduceToInt] at this
      omega
    · exact ih (by omega)
def mgamX (I : Nat → Nat → Int32) (g s what : Int32) : Int32 :=
  if (0 < g ∧ g >>> (I 0 17 &&& 31) = 0) ∧ (2 ≤ ibc g ∧ ibc g ≤ 3) ∧ (0 ≤ s ∧ s < 4) ∧ 0 ≤ what ∧ what ≤ 1 then
    if I 21 s.toNatClampNeg = 0 then -11 else if I 23 s.toNatClampNeg = ibc g <<< (ibc g &&& 31) then
      (if what = 0 then rso (fun j => I 24 (40 * s.toNatClampNeg + j)) (ibc g).toNatClampNeg (2 ^ (ibc g).toNatClampNeg) else (gdo (fun j => I 24 (40 * s.toNatClampNeg + j)) (ibc g).toNatClampNeg (2 ^ (ibc g).toNatClampNeg)).1)
    else -2
  else -2
section
variable (E : gEnv) (I : Nat → Nat → Int32) (L : Nat → Nat → Int64)
set_option maxHeartbeats 1000000 in
theorem m_tenths (s sort fr n : Int32) (nt : Nat) (hnt : nt ≤ 40) (hct : I 0 11 = nI nt) (hz : ∀ s, s < 4 → ¬ I 21 s = 0 → ∃ z, z ≤ 40 ∧ I 23 s = nI z) : gCtr E 4 0 0 nX10_tenths [.ref 0, .int s, .int sort, .int fr, .int n] (wM I L) (fun w u' => u' = (wM (mtesX I s sort fr n).2 L) ∧ w = some (.int (mtesX I s sort fr n).1)) := by
  refine gstart iX10_tenths tX10_tenths rfl rfl (fun K ca hK hca => ?_)
  refine hK [75] 60 _ _ _ _ _ _ ?_
  have bad : ¬ ((0 ≤ s ∧ s < 4) ∧ (0 ≤ sort ∧ sort ≤ 2) ∧ 0 ≤ n ∧ n ≤ 12) → (wM I L) = (wM (mtesX I s sort fr n).2 L) ∧ some (Value.int (-2)) = some (.int (mtesX I s sort fr n).1) := fun h => by
    unfold mtesX; rw [if_neg h]; exact ⟨rfl, rfl⟩
  refine gcall0 hca (m_isSheet E (wM I L) s) rfl ?_
  rintro w u' - ⟨rfl, rfl⟩
  refine gbr_p (fun h1 => bad (fun z => h1 z.1)) (fun h1 => ?_)
  refine gcall0 hca (m_in E (wM I L) sort 0 2) rfl ?_
  rintro w u' - ⟨rfl, rfl⟩
  refine gbr_p (fun h2 => bad (fun z => h2 z.2.1)) (fun h2 => ?_)
  refine gcall0 hca (m_in E (wM I L) n 0 12) rfl ?_
  rintro w u' - ⟨rfl, rfl⟩
  refine gbr_p (fun h3 => bad (fun z => h3 z.2.2)) (fun h3 => ?_)
  clear bad
  have hX0 : mtesX I s sort fr n = _ := if_pos ⟨h1, h2, h3⟩
  rw [hX0] at hK ⊢
  obtain ⟨m, hm, rfl⟩ := nI_of2 (M := 12) (n := 12) rfl (x := n) (fun z => Int32.lt_irrefl (Int32.lt_of_lt_of_le z h3.1)) h3.2
  obtain ⟨sn, hsn, rfl⟩ := fours h1
  have hcs : (nI sn).toNatClampNeg = sn := nI_clamp (by omega)
  have hv : vp_in (nI sn) 4 := vp_in_nI hsn (by omega)
  rw [nI_clamp (show m < 2 ^ 31 by omega)] at hK ⊢
  -- the loop
  have main : ∀ z, z ≤ 40 → I 23 sn = nI z → ¬ (¬ I 21 (nI sn).toNatClampNeg = 0 ∧ ¬ I 22 (nI sn).toNatClampNeg = sort) → ¬ I 21 (nI sn).toNatClampNeg = 0 → K 0 0 75 [some (.ref 0), some (.int (nI sn)), some (.int sort), some (.int fr), some (.int (nI m)), some (.int 0), some (.int 0), none] [] (wM I L) := by
    intro z hz1 hz2 n13 n11
    rw [if_neg n13, if_neg n11, hcs, hz2] at hK
    obtain ⟨f, hf⟩ : ∃ f : Nat → Int32, f = (fun j => I 24 (40 * sn + j)) := ⟨_, rfl⟩
    rw [← hf] at hK
    have loop : ∀ (m' k' : Nat) (came : Int32) (J : Nat → Nat → Int32) (x7 : Option Value) (nt' : Nat), k' + m' = m → nt' ≤ 40 → J 0 11 = nI nt' → (∀ k, k ≠ 0 → (k < 4 ∨ 7 < k) → J k = I k) → mtnX f (nI z) fr m' k' came J = mtnX f (nI z) fr m 0 0 I → K 0 0 75 [some (.ref 0), some (.int (nI sn)), some (.int sort), some (.int fr), some (.int (nI m)), some (.int came), some (.int (nI k')), x7] [] (wM J L) := by
      intro m'
      induction m' with
      | zero =>
        intro k' came J x7 nt' hi hnt' hJ hfr he
        refine hK [75] 60 _ _ _ _ _ _ ?_
        refine gbr_lp rfl (by omega) (by omega) (fun _ => ?_) (fun z => by omega)
        rw [← he]
        exact ⟨rfl, rfl⟩
      | succ m' ih =>
        intro k' came J x7 nt' hi hnt' hJ hfr he
        have tc := mtn_c (fr := fr) (z := z) (k := k') hz1 (by omega)
        have bad : ¬ (0 ≤ fr.toInt ∧ fr.toInt + 3 * k' + 3 ≤ (nI z).toInt) → wM J L = wM (mtnX f (nI z) fr m 0 0 I).2 L ∧ some (Value.int (-12)) = some (.int (mtnX f (nI z) fr m 0 0 I).1) := fun h => by
          rw [← he, show mtnX f (nI z) fr (m' + 1) k' came J = (-12, J) from if_neg h]; exact ⟨rfl, rfl⟩
        have e23 : J 23 (nI sn).toNatClampNeg = nI z := by rw [hcs, hfr 23 (by decide) (by decide), hz2]
        have e24 : J 24 = I 24 := hfr 24 (by decide) (by decide)
        refine hK [75] 80 _ _ _ _ _ _ ?_
        refine gbr_lp rfl (by omega) (by omega) (fun e => by omega) (fun _ => ?_)
        refine gbr_i (fun g1 => bad (fun y => (tc.mpr y).1 g1)) (fun g1 => ?_)
        refine gsd_i hv ?_
        refine gbr_i (fun g2 => ?_) (fun g2 => bad (fun y => g2 (by
          have := (tc.mpr y).2
          rw [← e23] at this
          exact this)))
        have g2' : fr ≤ J 23 (nI sn).toNatClampNeg - 3 * nI k' - 3 := g2
        rw [e23] at g2'
        have good := tc.mp ⟨g1, g2'⟩
        obtain ⟨fm, hfm, rfl⟩ := nI_of g1
        have hcf : (nI fm).toNatClampNeg = fm := nI_clamp hfm
        have hle : fm + 3 * k' + 3 ≤ z := by
          have := good.2
          rw [nI_toInt hfm, nI_toInt (by omega)] at this
          omega
        have ex : (40 : Int32) * nI sn + nI fm + 3 * nI k' = nI (40 * sn + (fm + 3 * k')) := by
          rw [show (40 : Int32) = nI 40 from rfl, show (3 : Int32) = nI 3 from rfl, pk_mul, pk_mul, nI_add, nI_add]
          congr 1; omega
        have ix : ∀ q, q < 3 → ((40 : Int32) * nI sn + nI fm + 3 * nI k' + nI q).toNatClampNeg = 40 * sn + (fm + 3 * k' + q) ∧ vp_in ((40 : Int32) * nI sn + nI fm + 3 * nI k' + nI q) 160 := fun q hq => by
          rw [ex, nI_add]
          exact ⟨(nI_clamp (by omega)).trans (by omega), vp_in_nI (by omega) (by omega)⟩
        have ex0 : ((40 : Int32) * nI sn + nI fm + 3 * nI k').toNatClampNeg = 40 * sn + (fm + 3 * k') ∧ vp_in ((40 : Int32) * nI sn + nI fm + 3 * nI k') 160 := by
          rw [ex]
          exact ⟨nI_clamp (by omega), vp_in_nI (by omega) (by omega)⟩
        have f0 : J 24 ((40 : Int32) * nI sn + nI fm + 3 * nI k').toNatClampNeg = f (fm + 3 * k') := by rw [ex0.1, e24, hf]
        have f1 : J 24 ((40 : Int32) * nI sn + nI fm + 3 * nI k' + 1).toNatClampNeg = f (fm + 3 * k' + 1) := by rw [show (1 : Int32) = nI 1 from rfl, (ix 1 (by omega)).1, e24, hf]
        have f2 : J 24 ((40 : Int32) * nI sn + nI fm + 3 * nI k' + 2).toNatClampNeg = f (fm + 3 * k' + 2) := by rw [show (2 : Int32) = nI 2 from rfl, (ix 2 (by omega)).1, e24, hf]
        refine gsd_i ex0.2 (gsd_i (ix 1 (by omega)).2 (gsd_i (ix 2 (by omega)).2 ?_))
        refine gcall0 hca (m_tenth E J L (J 24 ((40 : Int32) * nI sn + nI fm + 3 * nI k').toNatClampNeg) (J 24 ((40 : Int32) * nI sn + nI fm + 3 * nI k' + 1).toNatClampNeg) (J 24 ((40 : Int32) * nI sn + nI fm + 3 * nI k' + 2).toNatClampNeg) nt' hnt' hJ) rfl ?_
        rintro w u' - ⟨rfl, rfl⟩
        rw [f0, f1, f2]
        rw [show mtnX f (nI z) (nI fm) (m' + 1) k' came J = _ from if_pos good, hcf] at he
        obtain ⟨nt2, hnt2, hJ2⟩ := mten_nt (a := f (fm + 3 * k')) (b := f (fm + 3 * k' + 1)) (z := f (fm + 3 * k' + 2)) hnt' hJ
        have hfr2 := fun k h0 hk => (mten_fr (I := J) (a := f (fm + 3 * k')) (b := f (fm + 3 * k' + 1)) (z := f (fm + 3 * k' + 2)) (k := k) h0 hk).trans (hfr k h0 hk)
        generalize mtenX J (f (fm + 3 * k')) (f (fm + 3 * k' + 1)) (f (fm + 3 * k' + 2)) = q at he hJ2 hfr2 ⊢
        obtain ⟨q1, q2⟩ := q
        dsimp only at he hJ2 hfr2 ⊢
        refine gbr_i (fun h12 => ?_) (fun h12 => ?_)
        · have h12' : q1 < 0 := h12
          rw [if_pos h12'] at he
          have := ih (k' + 1) came q2 (some (.int ((40 : Int32) * nI sn + nI fm + 3 * nI k'))) nt2 (by omega) hnt2 hJ2 hfr2 he
          rw [← nI_1, ← Int32.add_zero came] at this
          exact this
        · have h12' : ¬ q1 < 0 := h12
          rw [if_neg h12'] at he
          have := ih (k' + 1) (came + 1) q2 (some (.int ((40 : Int32) * nI sn + nI fm + 3 * nI k'))) nt2 (by omega) hnt2 hJ2 hfr2 he
          rw [← nI_1] at this
          exact this
    exact loop m 0 0 I none nt (by omega) hnt hct (fun _ _ _ => rfl) rfl
  refine gsd_i hv (gbr_i (fun h4 => ?_) (fun h4 => ?_))
  · have h4' : I 21 (nI sn).toNatClampNeg = 0 := h4
    refine gsd_i hv (gbr_i (fun _ => ?_) (fun z => absurd h4 z))
    rw [if_neg (fun z => z.1 h4'), if_pos h4']
    exact ⟨rfl, rfl⟩
  · have h4' : ¬ I 21 (nI sn).toNatClampNeg = 0 := h4
    obtain ⟨z, hz1, hz2⟩ := hz sn hsn (by rw [← hcs]; exact h4')
    refine gsd_i hv (gbr_i (fun h5 => ?_) (fun h5 => ?_))
    · have h5' : I 22 (nI sn).toNatClampNeg = sort := h5
      refine gsd_i hv (gbr_i (fun z => absurd z h4) (fun _ => ?_))
      exact main z hz1 hz2 (fun y => y.2 h5') h4'
    · have h5' : ¬ I 22 (nI sn).toNatClampNeg = sort := h5
      rw [if_pos ⟨h4', h5'⟩]
      exact ⟨rfl, rfl⟩
set_option maxHeartbeats 2000000 in
theorem m_game (g s what : Int32) (nr : Nat) (hnr : nr ≤ 12) (hcr : I 0 17 = nI nr) : gCtr E 4 0 0 nX10_game [.ref 0, .int g, .int s, .int what] (wM I L) (fun w u' => u' = (wM I L) ∧ w = some (.int (mgamX I g s what))) := by
  refine gstart iX10_game tX10_game rfl rfl (fun K ca hK hca => ?_)
  refine hK [98] 80 _ _ _ _ _ _ ?_
  have bad : ¬ ((0 < g ∧ g >>> (I 0 17 &&& 31) = 0) ∧ (2 ≤ ibc g ∧ ibc g ≤ 3) ∧ (0 ≤ s ∧ s < 4) ∧ 0 ≤ what ∧ what ≤ 1) → (wM I L) = (wM I L) ∧ some (Value.int (-2)) = some (.int (mgamX I g s what)) := fun h => by
    unfold mgamX; rw [if_neg h]; exact ⟨rfl, rfl⟩
  refine gcall0 hca (m_isGroup E I L g nr hnr hcr) rfl ?_
  rintro w u' - ⟨rfl, rfl⟩
  refine gbr_p (fun h1 => bad (fun z => h1 z.1)) (fun h1 => ?_)
  obtain ⟨gm, hgm, _, _, rfl⟩ := grp_m hcr hnr h1
  have hib := krn_ibc gm hgm
  refine gcall0 hca (m_bitsOf E gm hgm (wM I L)) rfl ?_
  rintro w u' - ⟨rfl, rfl⟩
  rw [← hib]
  refine gcall0 hca (m_in E (wM I L) (ibc (nI gm)) 2 3) rfl ?_
  rintro w u' - ⟨rfl, rfl⟩
  refine gbr_p (fun h2 => bad (fun z => h2 z.2.1)) (fun h2 => ?_)
  refine gcall0 hca (m_isSheet E (wM I L) s) rfl ?_
  rintro w u' - ⟨rfl, rfl⟩
  refine gbr_p (fun h3 => bad (fun z => h3 z.2.2.1)) (fun h3 => ?_)
  refine gcall0 hca (m_in E (wM I L) what 0 1) rfl ?_
  rintro w u' - ⟨rfl, rfl⟩
  refine gbr_p (fun h4 => bad (fun z => h4 z.2.2.2)) (fun h4 => ?_)
  clear bad
  have hX0 : mgamX I (nI gm) s what = _ := if_pos ⟨h1, h2, h3, h4⟩
  rw [hX0] at hK ⊢
  clear hX0
  obtain ⟨sn, hsn, rfl⟩ := fours h3
  have hcs : (nI sn).toNatClampNeg = sn := nI_clamp (by omega)
  have hv : vp_in (nI sn) 4 := vp_in_nI hsn (by omega)
  obtain ⟨n, hn, hbn⟩ : ∃ n, (n = 2 ∨ n = 3) ∧ ibc (nI gm) = nI n := by
    rcases two3 h2 with q | q
    · exact ⟨2, Or.inl rfl, q⟩
    · exact ⟨3, Or.inr rfl, q⟩
  have hcn : (nI n).toNatClampNeg = n := nI_clamp (by omega)
  have hp8 : 2 ^ n ≤ 8 := by rcases hn with rfl | rfl <;> decide
  refine gsd_i hv (gbr_i (fun h5 => ?_) (fun h5 => ?_))
  · have h5' : I 21 (nI sn).toNatClampNeg = 0 := h5
    rw [if_pos h5']; exact ⟨rfl, rfl⟩
  have h5' : ¬ I 21 (nI sn).toNatClampNeg = 0 := h5
  rw [if_neg h5'] at hK ⊢
  refine gcall0 hca (m_bitsOf E gm hgm (wM I L)) rfl ?_
  rintro w u' - ⟨rfl, rfl⟩
  rw [← hib]
  refine gsd_i hv (gbr_i (fun h6 => ?_) (fun h6 => ?_))
  · have h6' : I 23 (nI sn).toNatClampNeg = ibc (nI gm) <<< (ibc (nI gm) &&& 31) := h6
    rw [if_pos h6', hbn, hcn, hcs] at hK
    rw [hbn]
    obtain ⟨f, hf⟩ : ∃ f : Nat → Int32, f = (fun j => I 24 (40 * sn + j)) := ⟨_, rfl⟩
    rw [← hf] at hK
    have e40 : (40 : Int32) * nI sn = nI (40 * sn) := by rw [show (40 : Int32) = nI 40 from rfl, pk_mul]
    have ixI : ∀ {ch i : Nat}, ch < 8 → i < n → (nI (40 * sn) + nI n * nI ch + nI i).toNatClampNeg = 40 * sn + (ch * n + i) ∧ vp_in (nI (40 * sn) + nI n * nI ch + nI i) 160 := fun {ch i} hc hi => by
      rw [pk_mul, nI_add, nI_add]
      have : n * ch = ch * n := Nat.mul_comm _ _
      have : ch * n ≤ 7 * n := Nat.mul_le_mul_right _ (by omega)
      have : n ≤ 3 := by omega
      exact ⟨(nI_clamp (by omega)).trans (by omega), vp_in_nI (by omega) (by omega)⟩
    have ixO : ∀ {ch i : Nat}, ch < 8 → i < n → (nI (40 * sn) + nI n * (nI ch ^^^ ((1 : Int32) <<< (nI i &&& 31))) + nI i).toNatClampNeg = 40 * sn + ((ch ^^^ (1 <<< i)) * n + i) ∧ vp_in (nI (40 * sn) + nI n * (nI ch ^^^ ((1 : Int32) <<< (nI i &&& 31))) + nI i) 160 := fun {ch i} hc hi => by
      obtain ⟨q1, q2⟩ := xr8 ch hc i (by omega)
      rw [q1]
      exact ixI q2 hi
    have inner := fun (ch : Nat) (hch : ch < 2 ^ n) (st be : Int32) (mo : Int64) (hend : K 0 0 116 [some (.ref 0), some (.int (nI gm)), some (.int (nI sn)), some (.int what), some (.int (nI n)), some (.int (nI (40 * sn))), some (.int st), some (.int be), some (.long mo), none, some (.int (nI ch)), some (.int (rsi f n ch n)), some (.long (gsm f n ch n)), none, some (.int (nI n))] [] (wM I L)) =>
      gloop (P := fun i => K 0 0 116 [some (.ref 0), some (.int (nI gm)), some (.int (nI sn)), some (.int what), some (.int (nI n)), some (.int (nI (40 * sn))), some (.int st), some (.int be), some (.long mo), none, some (.int (nI ch)), some (.int (rsi f n ch i)), some (.long (gsm f n ch i)), none, some (.int (nI i))] [] (wM I L)) (n := n) hend (by
      intro i hi ih
      obtain ⟨q1, q2⟩ := ixI (ch := ch) (i := i) (by omega) hi
      obtain ⟨q3, q4⟩ := ixO (ch := ch) (i := i) (by omega) hi
      -- the sum, behind what rests has become
      have sum : ∀ x : Int32, x = rsi f n ch (i + 1) → K 0 0 173 [some (.ref 0), some (.int (nI gm)), some (.int (nI sn)), some (.int what), some (.int (nI n)), some (.int (nI (40 * sn))), some (.int st), some (.int be), some (.long mo), none, some (.int (nI ch)), some (.int (rsi f n ch i)), some (.long (gsm f n ch i)), none, some (.int (nI i))] [.int x] (wM I L) := by
        intro x hx
        refine hK [116] 60 _ _ _ _ _ _ ?_
        refine gsd_i q2 ?_
        rw [show gsm f n ch (i + 1) = gsm f n ch i + (I 24 (nI (40 * sn) + nI n * nI ch + nI i).toNatClampNeg).toInt64 from by rw [q1]; show gsm f n ch i + (f (ch * n + i)).toInt64 = _; rw [hf], ← nI_1, ← hx] at ih
        exact ih
      refine hK [116, 173] 80 _ _ _ _ _ _ ?_
      refine gbr_lp rfl (by omega) (by omega) (fun e => by omega) (fun _ => ?_)
      refine gbr_i (fun h => ?_) (fun h => ?_)
      · refine sum 0 ?_
        show 0 = rsi f n ch i &&& _
        rw [show rsi f n ch i = 0 from h]
        split <;> rfl
      · have h1 : rsi f n ch i = 1 := (rsi01 i).resolve_left h
        refine gsd_i q4 (gsd_i q2 (gbr_i (fun h7 => ?_) (fun h7 => ?_)))
        · have h7' : I 24 (nI (40 * sn) + nI n * nI ch + nI i).toNatClampNeg < I 24 (nI (40 * sn) + nI n * (nI ch ^^^ ((1 : Int32) <<< (nI i &&& 31))) + nI i).toNatClampNeg := h7
          rw [q1, q3] at h7'
          refine sum 0 ?_
          show 0 = rsi f n ch i &&& (if f ((ch ^^^ (1 <<< i)) * n + i) ≤ f (ch * n + i) then 1 else 0)
          rw [h1, hf, if_neg (Int32.not_le.mpr h7')]; rfl
        · have h7' : ¬ I 24 (nI (40 * sn) + nI n * nI ch + nI i).toNatClampNeg < I 24 (nI (40 * sn) + nI n * (nI ch ^^^ ((1 : Int32) <<< (nI i &&& 31))) + nI i).toNatClampNeg := h7
          rw [q1, q3] at h7'
          refine sum 1 ?_
          show 1 = rsi f n ch i &&& (if f ((ch ^^^ (1 <<< i)) * n + i) ≤ f (ch * n + i) then 1 else 0)
          rw [h1, hf, if_pos (Int32.not_lt.mp h7')]; rfl)
    have outer := gloop (P := fun ch => ∀ (be : Int32) (mo : Int64) (x11 x12 x13 x14 : Option Value), (ch = 0 → be = 0 ∧ mo = 0) → (0 < ch → (be, mo) = gdo f n ch) → K 0 0 98 [some (.ref 0), some (.int (nI gm)), some (.int (nI sn)), some (.int what), some (.int (nI n)), some (.int (nI (40 * sn))), some (.int (rso f n ch)), some (.int be), some (.long mo), none, some (.int (nI ch)), x11, x12, x13, x14] [] (wM I L)) (n := 2 ^ n) (by
      intro be mo x11 x12 x13 x14 hb0 hb1
      have hpos : 0 < 2 ^ n := by rcases hn with rfl | rfl <;> decide
      have hbe : be = (gdo f n (2 ^ n)).1 := by rw [← hb1 hpos]
      refine hK [98] 60 _ _ _ _ _ _ ?_
      refine gbr_lp (shl2 hn) (by omega) (Nat.le_refl _) (fun _ => ?_) (fun z => absurd z (Nat.lt_irrefl _))
      refine gbr_i (fun h => ?_) (fun h => ?_)
      · rw [if_pos h]; exact ⟨rfl, rfl⟩
      · rw [if_neg h, ← hbe]; exact ⟨rfl, rfl⟩) (by
      intro ch hch ih be mo x11 x12 x13 x14 hb0 hb1
      refine hK [98, 116] 60 _ _ _ _ _ _ ?_
      refine gbr_lp (shl2 hn) (by omega) (by omega) (fun e => by omega) (fun _ => ?_)
      refine inner ch hch (rso f n ch) be mo ?_ 0 (Nat.zero_le _)
      -- which is best
      have best : K 0 0 221 [some (.ref 0), some (.int (nI gm)), some (.int (nI sn)), some (.int what), some (.int (nI n)), some (.int (nI (40 * sn))), some (.int (rso f n (ch + 1))), some (.int be), some (.long mo), none, some (.int (nI ch)), some (.int (rsi f n ch n)), some (.long (gsm f n ch n)), none, some (.int (nI n))] [] (wM I L) := by
        have take : gdo f n (ch + 1) = (nI ch, gsm f n ch n) → K 0 0 234 [some (.ref 0), some (.int (nI gm)), some (.int (nI sn)), some (.int what), some (.int (nI n)), some (.int (nI (40 * sn))), some (.int (rso f n (ch + 1))), some (.int be), some (.long mo), none, some (.int (nI ch)), some (.int (rsi f n ch n)), some (.long (gsm f n ch n)), none, some (.int (nI n))] [] (wM I L) := by
          intro hg
          refine hK [98] 60 _ _ _ _ _ _ ?_
          have := ih (nI ch) (gsm f n ch n) (some (.int (rsi f n ch n))) (some (.long (gsm f n ch n))) none (some (.int (nI n))) (fun z => absurd z (Nat.succ_ne_zero _)) (fun _ => hg.symm)
          rw [← nI_1] at this
          exact this
        refine hK [98, 234] 60 _ _ _ _ _ _ ?_
        rcases Nat.eq_zero_or_pos ch with hc0 | hc0
        · subst hc0
          refine gbr_i (fun _ => ?_) (fun z => absurd rfl z)
          exact take (if_pos (Or.inl rfl))
        · have hne : ¬ nI ch = 0 := nI_ne0 hc0 (by omega)
          have hgd := hb1 hc0
          obtain ⟨c1, rfl⟩ : ∃ c1, ch = c1 + 1 := ⟨ch - 1, by omega⟩
          have hn1 := gdo_ne (f := f) (n := n) c1 (by omega)
          have hmo : (gdo f n (c1 + 1)).2 = mo := by rw [← hgd]
          refine gbr_i (fun z => absurd z hne) (fun _ => ?_)
          refine gbr_i (fun h => ?_) (fun h => ?_)
          · have h' : lg_cmp (gsm f n (c1 + 1) n) mo ≤ 0 := h
            have hg : gdo f n (c1 + 1 + 1) = gdo f n (c1 + 1) := if_neg (fun z => z.elim hn1 (fun y => y (by rw [hmo]; exact h')))
            have := ih be mo (some (.int (rsi f n (c1 + 1) n))) (some (.long (gsm f n (c1 + 1) n))) none (some (.int (nI n))) (fun z => absurd z (Nat.succ_ne_zero _)) (fun _ => by rw [hg]; exact hgd)
            rw [← nI_1] at this
            exact this
          · have h' : ¬ lg_cmp (gsm f n (c1 + 1) n) mo ≤ 0 := h
            exact take (if_pos (Or.inr (by rw [hmo]; exact h')))
      refine hK [98, 221] 60 _ _ _ _ _ _ ?_
      refine gbr_lp rfl (by omega) (Nat.le_refl _) (fun _ => ?_) (fun z => absurd z (Nat.lt_irrefl _))
      refine gbr_i (fun h => ?_) (fun h => ?_)
      · rw [show rso f n (ch + 1) = rso f n ch ||| 0 from (if_pos h).trans (Int32.or_zero).symm] at best
        exact best
      · rw [show rso f n (ch + 1) = rso f n ch ||| (1 <<< (nI ch &&& 31)) from if_neg h] at best
        exact best)
    have go := outer 0 (Nat.zero_le _) 0 0 none none none none (fun _ => ⟨rfl, rfl⟩) (fun z => absurd z (Nat.lt_irrefl _))
    rw [← e40] at go
    exact go
  · have h6' : ¬ I 23 (nI sn).toNatClampNeg = ibc (nI gm) <<< (ibc (nI gm) &&& 31) := h6
    rw [if_neg h6']; exact ⟨rfl, rfl⟩
end
