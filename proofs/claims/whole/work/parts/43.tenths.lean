-- tenths by a sheet; says
def tnX (f : Nat → Int32) (z fr : Int32) : Nat → Nat → Int32 → (Nat → Nat → Int32) → Int32 × (Nat → Nat → Int32)
  | 0, _, came, I => (came, I)
  | m + 1, k, came, I => if 0 ≤ fr.toInt ∧ fr.toInt + 3 * k + 3 ≤ z.toInt then
      tnX f z fr m (k + 1) (if (radd I (f (fr.toNatClampNeg + 3 * k)) (f (fr.toNatClampNeg + 3 * k + 1)) (f (fr.toNatClampNeg + 3 * k + 2))).1 < 0 then came else came + 1) (radd I (f (fr.toNatClampNeg + 3 * k)) (f (fr.toNatClampNeg + 3 * k + 1)) (f (fr.toNatClampNeg + 3 * k + 2))).2
    else (-12, I)
theorem tn_c {fr : Int32} {z k : Nat} (hz : z ≤ 40) (hk : k < 12) : ((0 ≤ fr ∧ (0 : Int32) ≤ 3 ∧ fr ≤ nI z - 3) ∧ 0 ≤ fr + 3 * nI k ∧ (0 : Int32) ≤ 3 ∧ fr + 3 * nI k ≤ nI z - 3) ↔ (0 ≤ fr.toInt ∧ fr.toInt + 3 * k + 3 ≤ (nI z).toInt) := by
  have e1 : (nI z - 3).toInt = (z : Int) - 3 := pk_sub_toInt (b := 3) (by omega) (by decide)
  rw [nI_toInt (by omega)]
  constructor
  · rintro ⟨⟨h1, _, h2⟩, h3, _, h4⟩
    rw [Int32.le_iff_toInt_le] at h1 h2 h4
    rw [e1] at h2 h4
    simp only [Int32.reduceToInt] at h1
    obtain ⟨a, ha, rfl⟩ := nI_of (x := fr) (by intro q; rw [Int32.lt_iff_toInt_lt] at q; simp only [Int32.reduceToInt] at q; omega)
    rw [nI_toInt ha] at h1 h2 ⊢
    rw [show (3 : Int32) = nI 3 from rfl, pk_mul, nI_add, nI_toInt (by omega)] at h4
    omega
  · rintro ⟨h1, h2⟩
    obtain ⟨a, ha, rfl⟩ := nI_of (x := fr) (by intro q; rw [Int32.lt_iff_toInt_lt] at q; simp only [Int32.reduceToInt] at q; omega)
    rw [nI_toInt ha] at h1 h2
    have e2 : nI a + 3 * nI k = nI (a + 3 * k) := by rw [show (3 : Int32) = nI 3 from rfl, pk_mul, nI_add]
    rw [e2]
    refine ⟨⟨nI_pos' ha, by decide, ?_⟩, nI_pos' (by omega), by decide, ?_⟩
    · rw [Int32.le_iff_toInt_le, e1, nI_toInt ha]; omega
    · rw [Int32.le_iff_toInt_le, e1, nI_toInt (by omega)]; omega
theorem tn_at {fr : Int32} {z k : Nat} (hz : z ≤ 40) (hk : k < 12) (h : 0 ≤ fr.toInt ∧ fr.toInt + 3 * k + 3 ≤ (nI z).toInt) : (vp_in (fr + 3 * nI k) 40 ∧ vp_in (fr + 3 * nI k + 1) 40 ∧ vp_in (fr + 3 * nI k + 2) 40) ∧ (fr + 3 * nI k).toNatClampNeg = fr.toNatClampNeg + 3 * k ∧ (fr + 3 * nI k + 1).toNatClampNeg = fr.toNatClampNeg + 3 * k + 1 ∧ (fr + 3 * nI k + 2).toNatClampNeg = fr.toNatClampNeg + 3 * k + 2 := by
  obtain ⟨h1, h2⟩ := h
  rw [nI_toInt (by omega)] at h2
  obtain ⟨a, ha, rfl⟩ := nI_of (x := fr) (by intro q; rw [Int32.lt_iff_toInt_lt] at q; simp only [Int32.reduceToInt] at q; omega)
  rw [nI_toInt ha] at h1 h2
  have e2 : nI a + 3 * nI k = nI (a + 3 * k) := by rw [show (3 : Int32) = nI 3 from rfl, pk_mul, nI_add]
  have e3 : nI (a + 3 * k) + 1 = nI (a + 3 * k + 1) := nI_1 _
  have e4 : nI (a + 3 * k) + 2 = nI (a + 3 * k + 2) := nI_add _ 2
  rw [e2, e3, e4, nI_clamp ha, nI_clamp (by omega), nI_clamp (by omega), nI_clamp (by omega)]
  exact ⟨⟨vp_in_nI (by omega) (by omega), vp_in_nI (by omega) (by omega), vp_in_nI (by omega) (by omega)⟩, rfl, rfl, rfl⟩
theorem radd_nt {I : Nat → Nat → Int32} {a b z : Int32} {nt : Nat} (hnt : nt ≤ 40) (h : I 1 4 = nI nt) : ∃ nt', nt' ≤ 40 ∧ (radd I a b z).2 1 4 = nI nt' := by
  unfold radd
  by_cases h1 : -9 ≤ a ∧ a ≤ 9 ∧ 0 ≤ b ∧ b ≤ 9 ∧ 2 ≤ z ∧ z ≤ 41
  · rw [if_pos h1]
    by_cases h2 : 40 ≤ I 1 4
    · rw [if_pos h2]; exact ⟨nt, hnt, h⟩
    · rw [if_neg h2]
      refine ⟨nt + 1, ?_, ?_⟩
      · rw [h, show (40 : Int32) = nI 40 from rfl, nI_leI (by omega) (by omega)] at h2; omega
      · show I 1 4 + 1 = _
        rw [h, nI_1]
  · rw [if_neg h1]; exact ⟨nt, hnt, h⟩
theorem radd_fr {I : Nat → Nat → Int32} {a b z : Int32} {k : Nat} (hk : 5 < k ∨ k = 0) : (radd I a b z).2 k = I k := by
  unfold radd
  by_cases h1 : -9 ≤ a ∧ a ≤ 9 ∧ 0 ≤ b ∧ b ≤ 9 ∧ 2 ≤ z ∧ z ≤ 41
  · rw [if_pos h1]
    by_cases h2 : 40 ≤ I 1 4
    · rw [if_pos h2]
    · rw [if_neg h2]
      show gset _ _ _ _ = _
      rw [gset_n (by omega), gset_n (by omega), gset_n (by omega), gset_n (by omega), gset_n (by omega)]
  · rw [if_neg h1]
theorem nt_vp {x : Int32} {nt : Nat} (hnt : nt ≤ 40) (h : x = nI nt) : ¬ 40 ≤ x → vp_in x 40 := fun h2 => by
  rw [h, show (40 : Int32) = nI 40 from rfl, nI_leI (by omega) (by omega)] at h2
  rw [h]; exact vp_in_nI (by omega) (by omega)
def tenthsX (I : Nat → Nat → Int32) (s sort fr n : Int32) : Int32 × (Nat → Nat → Int32) :=
  if (0 ≤ s ∧ s < 4) ∧ (0 ≤ sort ∧ sort ≤ 2) ∧ 0 ≤ n ∧ n ≤ 12 then
    if I (kS s) 1 = -1 then (-11, I) else if I (kS s) 1 = sort then tnX (I (kS s + 1)) (I (kS s) 2) fr n.toNatClampNeg 0 0 I else (-13, I)
  else (-2, I)
def saysX (I : Nat → Nat → Int32) (sv : Say) (r t p key : Int32) : Int32 :=
  if ((0 ≤ r ∧ r < I 6 6) ∧ (0 ≤ t ∧ t < I 1 4) ∧ 0 ≤ p ∧ p < 12) ∧ 0 ≤ key ∧ key ≤ 2 then sv key r (I 11 r.toNatClampNeg) t p else -2
theorem three {s : Int32} (h : 0 ≤ s ∧ s ≤ 2) : s = 0 ∨ s = 1 ∨ s = 2 := by
  (simp only [Int32.lt_iff_toInt_lt, Int32.le_iff_toInt_le, ← Int32.toInt_inj, Int32.reduceToInt] at *; omega)
section
variable (E : gEnv) (c : Nat) (ln : Nat → Nat) (I : Nat → Nat → Int32) (L : Nat → Nat → Int64)
theorem p_says (ru : Nat) (hru : ru < c) (hc : c ≤ 6) (hrl : I 17 6 = nI ru) (hok : ruleOk I ln ru) (nr : Nat) (hnr : nr ≤ 12) (hcr : I 6 6 = nI nr) (nt : Nat) (hnt : nt ≤ 40) (hct : I 1 4 = nI nt) (r t p key : Int32) :
    gCtr E 8 0 0 nX9_says [.ref 0, .int r, .int t, .int p, .int key] (wX c ln I L) (fun v u' => v = some (.int (saysX I (svX I ln ru) r t p key)) ∧ ∃ I', u' = wX c ln I' L ∧ frh I I') := by
  refine gstart iX9_says tX9_says rfl rfl (fun K ca hK hca => ?_)
  refine hK [] 80 _ _ _ _ _ _ ?_
  clear hK
  have bad : ¬ (((0 ≤ r ∧ r < I 6 6) ∧ (0 ≤ t ∧ t < I 1 4) ∧ 0 ≤ p ∧ p < 12) ∧ 0 ≤ key ∧ key ≤ 2) → some (Value.int (-2)) = some (.int (saysX I (svX I ln ru) r t p key)) ∧ ∃ I', wX c ln I L = wX c ln I' L ∧ frh I I' := fun h => by
    unfold saysX; rw [if_neg h]; exact ⟨rfl, I, rfl, frh_refl I⟩
  refine gcall0 hca (c_isSeat E c ln I L r t p) rfl ?_
  rintro w u' - ⟨rfl, rfl⟩
  refine gbr_p (fun h1 => bad (fun z => h1 z.1)) (fun h1 => ?_)
  refine gbr_i (fun h2 => bad (fun z => Int32.lt_irrefl (Int32.lt_of_lt_of_le h2 z.2.1))) (fun h2 => ?_)
  refine gbr_i (fun h3 => ?_) (fun h3 => bad (fun z => h3 z.2.2))
  have hX : saysX I (svX I ln ru) r t p key = _ := if_pos ⟨h1, Int32.not_lt.mp h2, h3⟩
  rw [hX]
  have hv : vp_in r 12 := gin_of (by rw [← hcr]; exact h1.1) hnr (by omega)
  have ht : vp_in t 40 := gin_of (by rw [← hct]; exact h1.2.1) hnt (by omega)
  refine gsd_i hv ?_
  refine gcall0 hca (c_comesTo E c ln I L ru hru hc hrl hok key r (I 11 r.toNatClampNeg) t p (three ⟨Int32.not_lt.mp h2, h3⟩) hv ht) rfl ?_
  rintro w u' - ⟨⟨f1, g1, rfl⟩, rfl⟩
  exact ⟨rfl, _, rfl, frh_19 I f1 g1⟩
set_option maxHeartbeats 2000000 in
theorem p_tenths (s sort fr n : Int32) (nt : Nat) (hnt : nt ≤ 40) (hct : I 1 4 = nI nt) (hz : ∀ s, 0 ≤ s ∧ s < 4 → ¬ I (kS s) 1 = -1 → ∃ z, z ≤ 40 ∧ I (kS s) 2 = nI z) : gCtr E 4 0 0 nX9_tenths [.ref 0, .int s, .int sort, .int fr, .int n] (wX c ln I L) (fun w u' => u' = (wX c ln (tenthsX I s sort fr n).2 L) ∧ w = some (.int (tenthsX I s sort fr n).1)) := by
  refine gstart iX9_tenths tX9_tenths rfl rfl (fun K ca hK hca => ?_)
  refine hK [68] 60 _ _ _ _ _ _ ?_
  have bad : ¬ ((0 ≤ s ∧ s < 4) ∧ (0 ≤ sort ∧ sort ≤ 2) ∧ 0 ≤ n ∧ n ≤ 12) → (wX c ln I L) = (wX c ln (tenthsX I s sort fr n).2 L) ∧ some (Value.int (-2)) = some (.int (tenthsX I s sort fr n).1) := fun h => by
    unfold tenthsX; rw [if_neg h]; exact ⟨rfl, rfl⟩
  refine gcall0 hca (c_isSheet E (wX c ln I L) s) rfl ?_
  rintro w u' - ⟨rfl, rfl⟩
  refine gbr_p (fun h1 => bad (fun z => h1 z.1)) (fun h1 => ?_)
  refine gbr_i (fun h2 => bad (fun z => Int32.lt_irrefl (Int32.lt_of_lt_of_le h2 z.2.1.1))) (fun h2 => ?_)
  refine gbr_i (fun h3 => bad (fun z => Int32.lt_irrefl (Int32.lt_of_lt_of_le h3 z.2.1.2))) (fun h3 => ?_)
  refine gbr_i (fun h4 => bad (fun z => Int32.lt_irrefl (Int32.lt_of_lt_of_le h4 z.2.2.1))) (fun h4 => ?_)
  refine gbr_i (fun h5 => ?_) (fun h5 => bad (fun z => h5 z.2.2.2))
  have hX : tenthsX I s sort fr n = _ := if_pos ⟨h1, ⟨Int32.not_lt.mp h2, Int32.not_lt.mp h3⟩, Int32.not_lt.mp h4, h5⟩
  rw [hX] at hK ⊢
  clear bad hX
  obtain ⟨m, hm, rfl⟩ := nI_of2 (M := 12) (n := 12) rfl (x := n) h4 h5
  rw [nI_clamp (show m < 2 ^ 31 by omega)] at hK ⊢
  have hzs := hz s h1
  rcases four h1 with rfl | rfl | rfl | rfl
  · refine gsd_i (by unfold vp_in; decide) ?_
    have ek : kS 0 = 33 := rfl
    simp only [ek] at hzs hK ⊢
    refine gcall0 hca (c_isMissing E c ln I L 33 (by decide)) rfl ?_
    rintro w u' - ⟨rfl, rfl⟩
    refine gbr_p (fun h7 => ?_) (fun h7 => by rw [if_pos h7]; exact ⟨rfl, rfl⟩)
    obtain ⟨z, hz1, hz2⟩ := hzs h7
    rw [if_neg h7] at hK ⊢
    refine gbr_i (fun h8 => ?_) (fun h8 => by rw [if_neg h8]; exact ⟨rfl, rfl⟩)
    have h8' : I 33 1 = sort := h8
    rw [if_pos h8'] at hK
    rw [hz2] at hK
    have loop : ∀ (m' k' : Nat) (came : Int32) (J : Nat → Nat → Int32) (x8 : Option Value) (nt' : Nat), k' + m' = m → nt' ≤ 40 → J 1 4 = nI nt' → (∀ k, 5 < k ∨ k = 0 → J k = I k) → tnX (I 34) (nI z) fr m' k' came J = tnX (I 34) (nI z) fr m 0 0 I → K 0 0 68 [some (.ref 0), some (.int 0), some (.int sort), some (.int fr), some (.int (nI m)), some (.ref 33), some (.int came), some (.int (nI k')), x8] [] (wX c ln J L) := by
      intro m'
      induction m' with
      | zero =>
        intro k' came J x8 nt' hi hnt' hJ hf he
        refine hK [68] 60 _ _ _ _ _ _ ?_
        refine gbr_lp rfl (by omega) (by omega) (fun _ => ?_) (fun z => by omega)
        rw [← he]
        exact ⟨rfl, rfl⟩
      | succ m' ih =>
        intro k' came J x8 nt' hi hnt' hJ hf he
        have hJk : J 33 = I 33 := hf 33 (by omega)
        have hJf : J 34 = I 34 := hf 34 (by omega)
        have hz2' : J 33 2 = nI z := by rw [hJk, hz2]
        refine hK [68] 80 _ _ _ _ _ _ ?_
        refine gbr_lp rfl (by omega) (by omega) (fun e => by omega) (fun _ => ?_)
        have tc := tn_c (fr := fr) (z := z) (k := k') hz1 (by omega)
        have bad : ¬ (0 ≤ fr.toInt ∧ fr.toInt + 3 * k' + 3 ≤ (nI z).toInt) → wX c ln J L = wX c ln (tnX (I 34) (nI z) fr m 0 0 I).2 L ∧ some (Value.int (-12)) = some (.int (tnX (I 34) (nI z) fr m 0 0 I).1) := fun h => by
          rw [← he, show tnX (I 34) (nI z) fr (m' + 1) k' came J = (-12, J) from if_neg h]; exact ⟨rfl, rfl⟩
        refine gcall0 hca (c_reaches E c ln J L 33 (by decide) fr 3) rfl ?_
        rintro w u' - ⟨rfl, rfl⟩
        rw [hz2']
        refine gbr_p (fun h9 => bad (fun y => h9 (tc.mpr y).1)) (fun h9 => ?_)
        refine gcall0 hca (c_reaches E c ln J L 33 (by decide) (fr + 3 * nI k') 3) rfl ?_
        rintro w u' - ⟨rfl, rfl⟩
        rw [hz2']
        refine gbr_i (fun h10 => bad (fun y => ?_)) (fun h10 => ?_)
        · rw [if_pos (tc.mpr y).2] at h10; exact absurd h10 (by decide)
        have h11 : 0 ≤ fr + 3 * nI k' ∧ (0 : Int32) ≤ 3 ∧ fr + 3 * nI k' ≤ nI z - 3 := Classical.byContradiction (fun y => h10 (if_neg y))
        have good := tc.mp ⟨h9, h11⟩
        obtain ⟨⟨v0, v1, v2⟩, a0, a1, a2⟩ := tn_at hz1 (show k' < 12 by omega) good
        refine gsd_i v0 (gsd_i v1 (gsd_i v2 ?_))
        refine gcall0 hca (c_radd E c ln J L (J 34 (fr + 3 * nI k').toNatClampNeg) (J 34 (fr + 3 * nI k' + 1).toNatClampNeg) (J 34 (fr + 3 * nI k' + 2).toNatClampNeg) (nt_vp hnt' hJ)) rfl ?_
        rintro w u' - ⟨rfl, rfl⟩
        rw [hJf, a0, a1, a2]
        rw [show tnX (I 34) (nI z) fr (m' + 1) k' came J = _ from if_pos good] at he
        obtain ⟨nt2, hnt2, hJ2⟩ := radd_nt (a := (I 34) (fr.toNatClampNeg + 3 * k')) (b := (I 34) (fr.toNatClampNeg + 3 * k' + 1)) (z := (I 34) (fr.toNatClampNeg + 3 * k' + 2)) hnt' hJ
        have hfr := fun k hk => (radd_fr (I := J) (a := (I 34) (fr.toNatClampNeg + 3 * k')) (b := (I 34) (fr.toNatClampNeg + 3 * k' + 1)) (z := (I 34) (fr.toNatClampNeg + 3 * k' + 2)) (k := k) hk).trans (hf k hk)
        generalize radd J ((I 34) (fr.toNatClampNeg + 3 * k')) ((I 34) (fr.toNatClampNeg + 3 * k' + 1)) ((I 34) (fr.toNatClampNeg + 3 * k' + 2)) = q at he hJ2 hfr ⊢
        obtain ⟨q1, q2⟩ := q
        dsimp only at he hJ2 hfr ⊢
        refine gbr_i (fun h12 => ?_) (fun h12 => ?_)
        · rw [if_pos h12] at he
          have := ih (k' + 1) came q2 (some (.int (fr + 3 * nI k'))) nt2 (by omega) hnt2 hJ2 hfr he
          rw [← nI_1] at this
          exact this
        · rw [if_neg h12] at he
          have := ih (k' + 1) (came + 1) q2 (some (.int (fr + 3 * nI k'))) nt2 (by omega) hnt2 hJ2 hfr he
          rw [← nI_1] at this
          exact this
    exact loop m 0 0 I none nt (by omega) hnt hct (fun _ _ => rfl) rfl
  · refine gsd_i (by unfold vp_in; decide) ?_
    have ek : kS 1 = 35 := rfl
    simp only [ek] at hzs hK ⊢
    refine gcall0 hca (c_isMissing E c ln I L 35 (by decide)) rfl ?_
    rintro w u' - ⟨rfl, rfl⟩
    refine gbr_p (fun h7 => ?_) (fun h7 => by rw [if_pos h7]; exact ⟨rfl, rfl⟩)
    obtain ⟨z, hz1, hz2⟩ := hzs h7
    rw [if_neg h7] at hK ⊢
    refine gbr_i (fun h8 => ?_) (fun h8 => by rw [if_neg h8]; exact ⟨rfl, rfl⟩)
    have h8' : I 35 1 = sort := h8
    rw [if_pos h8'] at hK
    rw [hz2] at hK
    have loop : ∀ (m' k' : Nat) (came : Int32) (J : Nat → Nat → Int32) (x8 : Option Value) (nt' : Nat), k' + m' = m → nt' ≤ 40 → J 1 4 = nI nt' → (∀ k, 5 < k ∨ k = 0 → J k = I k) → tnX (I 36) (nI z) fr m' k' came J = tnX (I 36) (nI z) fr m 0 0 I → K 0 0 68 [some (.ref 0), some (.int 1), some (.int sort), some (.int fr), some (.int (nI m)), some (.ref 35), some (.int came), some (.int (nI k')), x8] [] (wX c ln J L) := by
      intro m'
      induction m' with
      | zero =>
        intro k' came J x8 nt' hi hnt' hJ hf he
        refine hK [68] 60 _ _ _ _ _ _ ?_
        refine gbr_lp rfl (by omega) (by omega) (fun _ => ?_) (fun z => by omega)
        rw [← he]
        exact ⟨rfl, rfl⟩
      | succ m' ih =>
        intro k' came J x8 nt' hi hnt' hJ hf he
        have hJk : J 35 = I 35 := hf 35 (by omega)
        have hJf : J 36 = I 36 := hf 36 (by omega)
        have hz2' : J 35 2 = nI z := by rw [hJk, hz2]
        refine hK [68] 80 _ _ _ _ _ _ ?_
        refine gbr_lp rfl (by omega) (by omega) (fun e => by omega) (fun _ => ?_)
        have tc := tn_c (fr := fr) (z := z) (k := k') hz1 (by omega)
        have bad : ¬ (0 ≤ fr.toInt ∧ fr.toInt + 3 * k' + 3 ≤ (nI z).toInt) → wX c ln J L = wX c ln (tnX (I 36) (nI z) fr m 0 0 I).2 L ∧ some (Value.int (-12)) = some (.int (tnX (I 36) (nI z) fr m 0 0 I).1) := fun h => by
          rw [← he, show tnX (I 36) (nI z) fr (m' + 1) k' came J = (-12, J) from if_neg h]; exact ⟨rfl, rfl⟩
        refine gcall0 hca (c_reaches E c ln J L 35 (by decide) fr 3) rfl ?_
        rintro w u' - ⟨rfl, rfl⟩
        rw [hz2']
        refine gbr_p (fun h9 => bad (fun y => h9 (tc.mpr y).1)) (fun h9 => ?_)
        refine gcall0 hca (c_reaches E c ln J L 35 (by decide) (fr + 3 * nI k') 3) rfl ?_
        rintro w u' - ⟨rfl, rfl⟩
        rw [hz2']
        refine gbr_i (fun h10 => bad (fun y => ?_)) (fun h10 => ?_)
        · rw [if_pos (tc.mpr y).2] at h10; exact absurd h10 (by decide)
        have h11 : 0 ≤ fr + 3 * nI k' ∧ (0 : Int32) ≤ 3 ∧ fr + 3 * nI k' ≤ nI z - 3 := Classical.byContradiction (fun y => h10 (if_neg y))
        have good := tc.mp ⟨h9, h11⟩
        obtain ⟨⟨v0, v1, v2⟩, a0, a1, a2⟩ := tn_at hz1 (show k' < 12 by omega) good
        refine gsd_i v0 (gsd_i v1 (gsd_i v2 ?_))
        refine gcall0 hca (c_radd E c ln J L (J 36 (fr + 3 * nI k').toNatClampNeg) (J 36 (fr + 3 * nI k' + 1).toNatClampNeg) (J 36 (fr + 3 * nI k' + 2).toNatClampNeg) (nt_vp hnt' hJ)) rfl ?_
        rintro w u' - ⟨rfl, rfl⟩
        rw [hJf, a0, a1, a2]
        rw [show tnX (I 36) (nI z) fr (m' + 1) k' came J = _ from if_pos good] at he
        obtain ⟨nt2, hnt2, hJ2⟩ := radd_nt (a := (I 36) (fr.toNatClampNeg + 3 * k')) (b := (I 36) (fr.toNatClampNeg + 3 * k' + 1)) (z := (I 36) (fr.toNatClampNeg + 3 * k' + 2)) hnt' hJ
        have hfr := fun k hk => (radd_fr (I := J) (a := (I 36) (fr.toNatClampNeg + 3 * k')) (b := (I 36) (fr.toNatClampNeg + 3 * k' + 1)) (z := (I 36) (fr.toNatClampNeg + 3 * k' + 2)) (k := k) hk).trans (hf k hk)
        generalize radd J ((I 36) (fr.toNatClampNeg + 3 * k')) ((I 36) (fr.toNatClampNeg + 3 * k' + 1)) ((I 36) (fr.toNatClampNeg + 3 * k' + 2)) = q at he hJ2 hfr ⊢
        obtain ⟨q1, q2⟩ := q
        dsimp only at he hJ2 hfr ⊢
        refine gbr_i (fun h12 => ?_) (fun h12 => ?_)
        · rw [if_pos h12] at he
          have := ih (k' + 1) came q2 (some (.int (fr + 3 * nI k'))) nt2 (by omega) hnt2 hJ2 hfr he
          rw [← nI_1] at this
          exact this
        · rw [if_neg h12] at he
          have := ih (k' + 1) (came + 1) q2 (some (.int (fr + 3 * nI k'))) nt2 (by omega) hnt2 hJ2 hfr he
          rw [← nI_1] at this
          exact this
    exact loop m 0 0 I none nt (by omega) hnt hct (fun _ _ => rfl) rfl
  · refine gsd_i (by unfold vp_in; decide) ?_
    have ek : kS 2 = 37 := rfl
    simp only [ek] at hzs hK ⊢
    refine gcall0 hca (c_isMissing E c ln I L 37 (by decide)) rfl ?_
    rintro w u' - ⟨rfl, rfl⟩
    refine gbr_p (fun h7 => ?_) (fun h7 => by rw [if_pos h7]; exact ⟨rfl, rfl⟩)
    obtain ⟨z, hz1, hz2⟩ := hzs h7
    rw [if_neg h7] at hK ⊢
    refine gbr_i (fun h8 => ?_) (fun h8 => by rw [if_neg h8]; exact ⟨rfl, rfl⟩)
    have h8' : I 37 1 = sort := h8
    rw [if_pos h8'] at hK
    rw [hz2] at hK
    have loop : ∀ (m' k' : Nat) (came : Int32) (J : Nat → Nat → Int32) (x8 : Option Value) (nt' : Nat), k' + m' = m → nt' ≤ 40 → J 1 4 = nI nt' → (∀ k, 5 < k ∨ k = 0 → J k = I k) → tnX (I 38) (nI z) fr m' k' came J = tnX (I 38) (nI z) fr m 0 0 I → K 0 0 68 [some (.ref 0), some (.int 2), some (.int sort), some (.int fr), some (.int (nI m)), some (.ref 37), some (.int came), some (.int (nI k')), x8] [] (wX c ln J L) := by
      intro m'
      induction m' with
      | zero =>
        intro k' came J x8 nt' hi hnt' hJ hf he
        refine hK [68] 60 _ _ _ _ _ _ ?_
        refine gbr_lp rfl (by omega) (by omega) (fun _ => ?_) (fun z => by omega)
        rw [← he]
        exact ⟨rfl, rfl⟩
      | succ m' ih =>
        intro k' came J x8 nt' hi hnt' hJ hf he
        have hJk : J 37 = I 37 := hf 37 (by omega)
        have hJf : J 38 = I 38 := hf 38 (by omega)
        have hz2' : J 37 2 = nI z := by rw [hJk, hz2]
        refine hK [68] 80 _ _ _ _ _ _ ?_
        refine gbr_lp rfl (by omega) (by omega) (fun e => by omega) (fun _ => ?_)
        have tc := tn_c (fr := fr) (z := z) (k := k') hz1 (by omega)
        have bad : ¬ (0 ≤ fr.toInt ∧ fr.toInt + 3 * k' + 3 ≤ (nI z).toInt) → wX c ln J L = wX c ln (tnX (I 38) (nI z) fr m 0 0 I).2 L ∧ some (Value.int (-12)) = some (.int (tnX (I 38) (nI z) fr m 0 0 I).1) := fun h => by
          rw [← he, show tnX (I 38) (nI z) fr (m' + 1) k' came J = (-12, J) from if_neg h]; exact ⟨rfl, rfl⟩
        refine gcall0 hca (c_reaches E c ln J L 37 (by decide) fr 3) rfl ?_
        rintro w u' - ⟨rfl, rfl⟩
        rw [hz2']
        refine gbr_p (fun h9 => bad (fun y => h9 (tc.mpr y).1)) (fun h9 => ?_)
        refine gcall0 hca (c_reaches E c ln J L 37 (by decide) (fr + 3 * nI k') 3) rfl ?_
        rintro w u' - ⟨rfl, rfl⟩
        rw [hz2']
        refine gbr_i (fun h10 => bad (fun y => ?_)) (fun h10 => ?_)
        · rw [if_pos (tc.mpr y).2] at h10; exact absurd h10 (by decide)
        have h11 : 0 ≤ fr + 3 * nI k' ∧ (0 : Int32) ≤ 3 ∧ fr + 3 * nI k' ≤ nI z - 3 := Classical.byContradiction (fun y => h10 (if_neg y))
        have good := tc.mp ⟨h9, h11⟩
        obtain ⟨⟨v0, v1, v2⟩, a0, a1, a2⟩ := tn_at hz1 (show k' < 12 by omega) good
        refine gsd_i v0 (gsd_i v1 (gsd_i v2 ?_))
        refine gcall0 hca (c_radd E c ln J L (J 38 (fr + 3 * nI k').toNatClampNeg) (J 38 (fr + 3 * nI k' + 1).toNatClampNeg) (J 38 (fr + 3 * nI k' + 2).toNatClampNeg) (nt_vp hnt' hJ)) rfl ?_
        rintro w u' - ⟨rfl, rfl⟩
        rw [hJf, a0, a1, a2]
        rw [show tnX (I 38) (nI z) fr (m' + 1) k' came J = _ from if_pos good] at he
        obtain ⟨nt2, hnt2, hJ2⟩ := radd_nt (a := (I 38) (fr.toNatClampNeg + 3 * k')) (b := (I 38) (fr.toNatClampNeg + 3 * k' + 1)) (z := (I 38) (fr.toNatClampNeg + 3 * k' + 2)) hnt' hJ
        have hfr := fun k hk => (radd_fr (I := J) (a := (I 38) (fr.toNatClampNeg + 3 * k')) (b := (I 38) (fr.toNatClampNeg + 3 * k' + 1)) (z := (I 38) (fr.toNatClampNeg + 3 * k' + 2)) (k := k) hk).trans (hf k hk)
        generalize radd J ((I 38) (fr.toNatClampNeg + 3 * k')) ((I 38) (fr.toNatClampNeg + 3 * k' + 1)) ((I 38) (fr.toNatClampNeg + 3 * k' + 2)) = q at he hJ2 hfr ⊢
        obtain ⟨q1, q2⟩ := q
        dsimp only at he hJ2 hfr ⊢
        refine gbr_i (fun h12 => ?_) (fun h12 => ?_)
        · rw [if_pos h12] at he
          have := ih (k' + 1) came q2 (some (.int (fr + 3 * nI k'))) nt2 (by omega) hnt2 hJ2 hfr he
          rw [← nI_1] at this
          exact this
        · rw [if_neg h12] at he
          have := ih (k' + 1) (came + 1) q2 (some (.int (fr + 3 * nI k'))) nt2 (by omega) hnt2 hJ2 hfr he
          rw [← nI_1] at this
          exact this
    exact loop m 0 0 I none nt (by omega) hnt hct (fun _ _ => rfl) rfl
  · refine gsd_i (by unfold vp_in; decide) ?_
    have ek : kS 3 = 39 := rfl
    simp only [ek] at hzs hK ⊢
    refine gcall0 hca (c_isMissing E c ln I L 39 (by decide)) rfl ?_
    rintro w u' - ⟨rfl, rfl⟩
    refine gbr_p (fun h7 => ?_) (fun h7 => by rw [if_pos h7]; exact ⟨rfl, rfl⟩)
    obtain ⟨z, hz1, hz2⟩ := hzs h7
    rw [if_neg h7] at hK ⊢
    refine gbr_i (fun h8 => ?_) (fun h8 => by rw [if_neg h8]; exact ⟨rfl, rfl⟩)
    have h8' : I 39 1 = sort := h8
    rw [if_pos h8'] at hK
    rw [hz2] at hK
    have loop : ∀ (m' k' : Nat) (came : Int32) (J : Nat → Nat → Int32) (x8 : Option Value) (nt' : Nat), k' + m' = m → nt' ≤ 40 → J 1 4 = nI nt' → (∀ k, 5 < k ∨ k = 0 → J k = I k) → tnX (I 40) (nI z) fr m' k' came J = tnX (I 40) (nI z) fr m 0 0 I → K 0 0 68 [some (.ref 0), some (.int 3), some (.int sort), some (.int fr), some (.int (nI m)), some (.ref 39), some (.int came), some (.int (nI k')), x8] [] (wX c ln J L) := by
      intro m'
      induction m' with
      | zero =>
        intro k' came J x8 nt' hi hnt' hJ hf he
        refine hK [68] 60 _ _ _ _ _ _ ?_
        refine gbr_lp rfl (by omega) (by omega) (fun _ => ?_) (fun z => by omega)
        rw [← he]
        exact ⟨rfl, rfl⟩
      | succ m' ih =>
        intro k' came J x8 nt' hi hnt' hJ hf he
        have hJk : J 39 = I 39 := hf 39 (by omega)
        have hJf : J 40 = I 40 := hf 40 (by omega)
        have hz2' : J 39 2 = nI z := by rw [hJk, hz2]
        refine hK [68] 80 _ _ _ _ _ _ ?_
        refine gbr_lp rfl (by omega) (by omega) (fun e => by omega) (fun _ => ?_)
        have tc := tn_c (fr := fr) (z := z) (k := k') hz1 (by omega)
        have bad : ¬ (0 ≤ fr.toInt ∧ fr.toInt + 3 * k' + 3 ≤ (nI z).toInt) → wX c ln J L = wX c ln (tnX (I 40) (nI z) fr m 0 0 I).2 L ∧ some (Value.int (-12)) = some (.int (tnX (I 40) (nI z) fr m 0 0 I).1) := fun h => by
          rw [← he, show tnX (I 40) (nI z) fr (m' + 1) k' came J = (-12, J) from if_neg h]; exact ⟨rfl, rfl⟩
        refine gcall0 hca (c_reaches E c ln J L 39 (by decide) fr 3) rfl ?_
        rintro w u' - ⟨rfl, rfl⟩
        rw [hz2']
        refine gbr_p (fun h9 => bad (fun y => h9 (tc.mpr y).1)) (fun h9 => ?_)
        refine gcall0 hca (c_reaches E c ln J L 39 (by decide) (fr + 3 * nI k') 3) rfl ?_
        rintro w u' - ⟨rfl, rfl⟩
        rw [hz2']
        refine gbr_i (fun h10 => bad (fun y => ?_)) (fun h10 => ?_)
        · rw [if_pos (tc.mpr y).2] at h10; exact absurd h10 (by decide)
        have h11 : 0 ≤ fr + 3 * nI k' ∧ (0 : Int32) ≤ 3 ∧ fr + 3 * nI k' ≤ nI z - 3 := Classical.byContradiction (fun y => h10 (if_neg y))
        have good := tc.mp ⟨h9, h11⟩
        obtain ⟨⟨v0, v1, v2⟩, a0, a1, a2⟩ := tn_at hz1 (show k' < 12 by omega) good
        refine gsd_i v0 (gsd_i v1 (gsd_i v2 ?_))
        refine gcall0 hca (c_radd E c ln J L (J 40 (fr + 3 * nI k').toNatClampNeg) (J 40 (fr + 3 * nI k' + 1).toNatClampNeg) (J 40 (fr + 3 * nI k' + 2).toNatClampNeg) (nt_vp hnt' hJ)) rfl ?_
        rintro w u' - ⟨rfl, rfl⟩
        rw [hJf, a0, a1, a2]
        rw [show tnX (I 40) (nI z) fr (m' + 1) k' came J = _ from if_pos good] at he
        obtain ⟨nt2, hnt2, hJ2⟩ := radd_nt (a := (I 40) (fr.toNatClampNeg + 3 * k')) (b := (I 40) (fr.toNatClampNeg + 3 * k' + 1)) (z := (I 40) (fr.toNatClampNeg + 3 * k' + 2)) hnt' hJ
        have hfr := fun k hk => (radd_fr (I := J) (a := (I 40) (fr.toNatClampNeg + 3 * k')) (b := (I 40) (fr.toNatClampNeg + 3 * k' + 1)) (z := (I 40) (fr.toNatClampNeg + 3 * k' + 2)) (k := k) hk).trans (hf k hk)
        generalize radd J ((I 40) (fr.toNatClampNeg + 3 * k')) ((I 40) (fr.toNatClampNeg + 3 * k' + 1)) ((I 40) (fr.toNatClampNeg + 3 * k' + 2)) = q at he hJ2 hfr ⊢
        obtain ⟨q1, q2⟩ := q
        dsimp only at he hJ2 hfr ⊢
        refine gbr_i (fun h12 => ?_) (fun h12 => ?_)
        · rw [if_pos h12] at he
          have := ih (k' + 1) came q2 (some (.int (fr + 3 * nI k'))) nt2 (by omega) hnt2 hJ2 hfr he
          rw [← nI_1] at this
          exact this
        · rw [if_neg h12] at he
          have := ih (k' + 1) (came + 1) q2 (some (.int (fr + 3 * nI k'))) nt2 (by omega) hnt2 hJ2 hfr he
          rw [← nI_1] at this
          exact this
    exact loop m 0 0 I none nt (by omega) hnt hct (fun _ _ => rfl) rfl
end
