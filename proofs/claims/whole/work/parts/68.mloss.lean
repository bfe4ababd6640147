-- the model: says, losses
/-- nothing but what is read, rides, the train has changed -/
def mgf (I J : Nat → Nat → Int32) : Prop := (∀ k, k ≠ 0 → (k < 13 ∨ 17 < k) → J k = I k) ∧ ∀ j, (j < 18 ∨ 43 < j) → J 0 j = I 0 j
theorem mgf_refl (I : Nat → Nat → Int32) : mgf I I := ⟨fun _ _ _ => rfl, fun _ _ => rfl⟩
theorem mgf_trans {I J H : Nat → Nat → Int32} (h1 : mgf I J) (h2 : mgf J H) : mgf I H := ⟨fun k a b => (h2.1 k a b).trans (h1.1 k a b), fun j a => (h2.2 j a).trans (h1.2 j a)⟩
theorem mgf_msf {I J : Nat → Nat → Int32} {L M : Nat → Nat → Int64} (h : msf I J L M) : mgf I J := ⟨fun k a _ => h.1 k a, fun j hj => h.2.1 j (by omega)⟩
theorem xv_mgf {I J : Nat → Nat → Int32} (h : mgf I J) : xv J = xv I := by
  funext k j
  unfold xv
  rw [h.2 11 (by omega), h.2 17 (by omega), h.1 4 (by decide) (by decide), h.1 5 (by decide) (by decide), h.1 6 (by decide) (by decide), h.1 8 (by decide) (by decide), h.1 9 (by decide) (by decide), h.1 10 (by decide) (by decide), h.1 11 (by decide) (by decide), h.1 12 (by decide) (by decide)]
/-- the rule is a good text that comes to T -/
def mR (I : Nat → Nat → Int32) (T : Tx) : Prop := ∃ ru b n, I 0 4 = nI ru ∧ mtl I b ru n ∧ pTxt (lex b n) = T ∧ T.1 = true
theorem mR_mgf {I J : Nat → Nat → Int32} {T : Tx} (h : mR I T) (hf : mgf I J) : mR J T := by
  obtain ⟨ru, b, n, h1, h2, h3, h4⟩ := h
  exact ⟨ru, b, n, by rw [hf.2 4 (by omega)]; exact h1, ⟨by rw [hf.1 2 (by decide) (by decide)]; exact h2.1, h2.2.1, h2.2.2.1, fun j hj => by rw [hf.1 1 (by decide) (by decide)]; exact h2.2.2.2 j hj⟩, h3, h4⟩
theorem bit01 {g : Int32} {r : Nat} : ¬ (g >>> (nI r &&& 31)) &&& 1 = 0 ↔ (g >>> (nI r &&& 31)) &&& 1 = 1 := by
  constructor
  · intro h; exact (and1 _).resolve_left h
  · intro h z; rw [h] at z; exact absurd z (by decide)
section
variable (E : gEnv) (I : Nat → Nat → Int32) (L : Nat → Nat → Int64)
theorem m_saysR (T : Tx) (hR : mR I T) (key r st t p : Int32) (hk : key = 0 ∨ key = 1 ∨ key = 2) (hr : vp_in r 12) (htv : vp_in t 40) :
    gCtr E 43 0 0 nX10_saysOf [.ref 0, .int r, .int t, .int p, .int st, .int key] (wM I L) (fun v u' => v = some (.int (svT T (xv I) key r st t p)) ∧ ∃ I' L', u' = wM I' L' ∧ msf I I' L L') := by
  obtain ⟨ru, b, n, h1, h2, h3, h4⟩ := hR
  subst h3
  exact m_saysOf E I L ru b n h1 h2 h4 key r st t p hk hr htv
theorem m_says (T : Tx) (hR : mR I T) (nr : Nat) (hnr : nr ≤ 12) (hcr : I 0 17 = nI nr) (nt : Nat) (hnt : nt ≤ 40) (hct : I 0 11 = nI nt) (r t p key : Int32) :
    gCtr E 44 0 0 nX10_says [.ref 0, .int r, .int t, .int p, .int key] (wM I L) (fun v u' => v = some (.int (saysX (xv I) (svT T (xv I)) r t p key)) ∧ ∃ I' L', u' = wM I' L' ∧ mgf I I') := by
  refine gstart iX10_says tX10_says rfl rfl (fun K ca hK hca => ?_)
  refine hK [] 80 _ _ _ _ _ _ ?_
  clear hK
  have bad : ¬ (((0 ≤ r ∧ r < xv I 6 6) ∧ (0 ≤ t ∧ t < xv I 1 4) ∧ 0 ≤ p ∧ p < 12) ∧ 0 ≤ key ∧ key ≤ 2) → some (Value.int (-2)) = some (.int (saysX (xv I) (svT T (xv I)) r t p key)) ∧ ∃ I' L', (wM I L) = wM I' L' ∧ mgf I I' := fun h => by
    unfold saysX; rw [if_neg h]; exact ⟨rfl, I, L, rfl, mgf_refl I⟩
  refine gcall0 hca (m_isRider E I L r nr hnr hcr) rfl ?_
  rintro w u' - ⟨rfl, rfl⟩
  refine gbr_p (fun h1 => bad (fun z => h1 z.1.1)) (fun h1 => ?_)
  refine gcall0 hca (m_isTenth E I L t nt hnt hct) rfl ?_
  rintro w u' - ⟨rfl, rfl⟩
  refine gbr_p (fun h2 => bad (fun z => h2 z.1.2.1)) (fun h2 => ?_)
  refine gcall0 hca (m_in E (wM I L) p 0 11) rfl ?_
  rintro w u' - ⟨rfl, rfl⟩
  have e11 : (0 ≤ p ∧ p ≤ 11) ↔ (0 ≤ p ∧ p < 12) := by clear bad hca hcr hct h1 h2 hR; constructor <;> intro z <;> (simp only [Int32.lt_iff_toInt_lt, Int32.le_iff_toInt_le, ← Int32.toInt_inj, Int32.reduceToInt] at *; omega)
  refine gbr_p (fun h3 => bad (fun z => h3 (e11.mpr z.1.2.2))) (fun h3 => ?_)
  refine gcall0 hca (m_in E (wM I L) key 0 2) rfl ?_
  rintro w u' - ⟨rfl, rfl⟩
  refine gbr_p (fun h4 => bad (fun z => h4 z.2)) (fun h4 => ?_)
  have hv : vp_in r 12 := gin_of (by rw [← hcr]; exact h1) hnr (by omega)
  have ht : vp_in t 40 := gin_of (by rw [← hct]; exact h2) hnt (by omega)
  have hX : saysX (xv I) (svT T (xv I)) r t p key = _ := if_pos ⟨⟨h1, h2, e11.mp h3⟩, h4⟩
  rw [hX]
  refine gsd_i hv ?_
  refine gcall0 hca (m_saysR E I L T hR key r (I 12 r.toNatClampNeg) t p (three h4) hv ht) rfl ?_
  rintro w u' - ⟨rfl, J, M, rfl, hf⟩
  exact ⟨rfl, J, M, rfl, mgf_msf hf⟩
theorem m_lossOf (T : Tx) (hR : mR I T) (r : Nat) (hr : r < 12) (t p : Int32) (ht : vp_in t 40) :
    gCtr E 44 0 0 nX10_lossOf [.ref 0, .int (nI r), .int t, .int p] (wM I L) (fun v u' => v = some (.int (lossV (xv I) (svT T (xv I)) r t p)) ∧ ∃ I' L', u' = wM I' L' ∧ mgf I I') := by
  refine gstart iX10_lossOf tX10_lossOf rfl rfl (fun K ca hK hca => ?_)
  refine hK [] 80 _ _ _ _ _ _ ?_
  clear hK
  have hcl : (nI r).toNatClampNeg = r := nI_clamp (by omega)
  have hv : vp_in (nI r) 12 := vp_in_nI hr (by omega)
  refine gsd_i hv ?_
  refine gcall0 hca (m_saysR E I L T hR 0 (nI r) (I 12 (nI r).toNatClampNeg) t p (by decide) hv ht) rfl ?_
  rintro w u' - ⟨rfl, J, M, rfl, hf⟩
  have hf1 := mgf_msf hf
  refine gsd_i hv ?_
  refine gcall0 hca (m_saysR E J M T (mR_mgf hR hf1) 1 (nI r) (J 12 (nI r).toNatClampNeg) t p (by decide) hv ht) rfl ?_
  rintro w u' - ⟨rfl, J2, M2, rfl, hf2⟩
  refine ⟨?_, J2, M2, rfl, mgf_trans hf1 (mgf_msf hf2)⟩
  rw [xv_mgf hf1, hf1.1 12 (by decide) (by decide), hcl]
  rfl
theorem m_worth (T : Tx) (hR : mR I T) (nr : Nat) (hnr : nr ≤ 12) (hcr : I 0 17 = nI nr) (nt : Nat) (hnt : nt ≤ 40) (hct : I 0 11 = nI nt) (r t p : Int32) :
    gCtr E 46 0 0 nX10_worth [.ref 0, .int r, .int t, .int p] (wM I L) (fun v u' => v = some (.long (worthX (xv I) (svT T (xv I)) r t p)) ∧ ∃ I' L', u' = wM I' L' ∧ mgf I I') := by
  refine gstart iX10_worth tX10_worth rfl rfl (fun K ca hK hca => ?_)
  refine hK [] 80 _ _ _ _ _ _ ?_
  clear hK
  have bad : ¬ ((0 ≤ r ∧ r < xv I 6 6) ∧ (0 ≤ t ∧ t < xv I 1 4) ∧ 0 ≤ p ∧ p < 12) → some (Value.long (-4611686018427387904)) = some (.long (worthX (xv I) (svT T (xv I)) r t p)) ∧ ∃ I' L', (wM I L) = wM I' L' ∧ mgf I I' := fun h => by
    unfold worthX; rw [if_neg h]; exact ⟨rfl, I, L, rfl, mgf_refl I⟩
  refine gcall0 hca (m_isRider E I L r nr hnr hcr) rfl ?_
  rintro w u' - ⟨rfl, rfl⟩
  refine gbr_p (fun h1 => bad (fun z => h1 z.1)) (fun h1 => ?_)
  refine gcall0 hca (m_isTenth E I L t nt hnt hct) rfl ?_
  rintro w u' - ⟨rfl, rfl⟩
  refine gbr_p (fun h2 => bad (fun z => h2 z.2.1)) (fun h2 => ?_)
  refine gcall0 hca (m_in E (wM I L) p 0 11) rfl ?_
  rintro w u' - ⟨rfl, rfl⟩
  have e11 : (0 ≤ p ∧ p ≤ 11) ↔ (0 ≤ p ∧ p < 12) := by clear bad hca hcr hct h1 h2 hR; constructor <;> intro z <;> (simp only [Int32.lt_iff_toInt_lt, Int32.le_iff_toInt_le, ← Int32.toInt_inj, Int32.reduceToInt] at *; omega)
  refine gbr_p (fun h3 => bad (fun z => h3 (e11.mpr z.2.2))) (fun h3 => ?_)
  have hX : worthX (xv I) (svT T (xv I)) r t p = _ := if_pos ⟨h1, h2, e11.mp h3⟩
  rw [hX]
  have ht : vp_in t 40 := gin_of (by rw [← hct]; exact h2) hnt (by omega)
  obtain ⟨rn, hrn, rfl⟩ := vp_in_of (gin_of (r := r) (by rw [← hcr]; exact h1) hnr (by omega)) (by omega)
  refine gcall0 hca (m_lossOf E I L T hR rn hrn t 0 ht) rfl ?_
  rintro w u' - ⟨rfl, J, M, rfl, hf⟩
  refine gcall0 hca (m_lossOf E J M T (mR_mgf hR hf) rn hrn t p ht) rfl ?_
  rintro w u' - ⟨rfl, J2, M2, rfl, hf2⟩
  rw [xv_mgf hf, nI_clamp (by omega)]
  exact ⟨rfl, J2, M2, rfl, mgf_trans hf hf2⟩
set_option maxHeartbeats 1000000 in
theorem m_lossBy (T : Tx) (hR : mR I T) (nr : Nat) (hnr : nr ≤ 12) (hcr : I 0 17 = nI nr) (f : Nat) (hfn : f < nr) (g t : Int32) (ht : vp_in t 40) :
    gCtr E 45 0 0 nX10_lossBy [.ref 0, .int g, .int t, .int (nI f)] (wM I L) (fun v u' => v = some (.int (lbh (xv I) (svT T (xv I)) g t f nr).1) ∧ ∃ I' L', u' = wM I' L' ∧ mgf I I') := by
  refine gstart iX10_lossBy tX10_lossBy rfl rfl (fun K ca hK hca => ?_)
  refine hK [15] 60 _ _ _ _ _ _ ?_
  have loop := gloop (P := fun i => ∀ J M, mgf I J → K 0 0 15 [some (.ref 0), some (.int g), some (.int t), some (.int (nI f)), some (.int (lbh (xv I) (svT T (xv I)) g t f i).1), some (.int (nI (lbh (xv I) (svT T (xv I)) g t f i).2)), some (.int (nI i))] [] (wM J M)) (n := nr) (by
    intro J M hf
    refine hK [15] 60 _ _ _ _ _ _ ?_
    refine gbr_lp (n := nr) (by show J 0 17 = _; rw [hf.2 17 (by omega), hcr]) (by omega) (Nat.le_refl _) (fun _ => ⟨rfl, J, M, rfl, hf⟩) (fun z => absurd z (Nat.lt_irrefl _))) (by
    intro i hi ih J M hf
    refine hK [15] 60 _ _ _ _ _ _ ?_
    refine gbr_lp (n := nr) (by show J 0 17 = _; rw [hf.2 17 (by omega), hcr]) (by omega) (by omega) (fun e => by omega) (fun _ => ?_)
    refine gbr_i (fun h1 => ?_) (fun h1 => ?_)
    · have e : i = f := (nI_eq (by omega) (by omega)).mp h1
      have := ih J M hf
      rw [show lbh (xv I) (svT T (xv I)) g t f (i + 1) = lbh (xv I) (svT T (xv I)) g t f i from if_neg (fun z => z.1 e), ← nI_1] at this
      exact this
    have ne : ¬ i = f := fun z => h1 (by rw [z])
    refine gbr_i (fun h2 => ?_) (fun h2 => ?_)
    · have := ih J M hf
      rw [show lbh (xv I) (svT T (xv I)) g t f (i + 1) = lbh (xv I) (svT T (xv I)) g t f i from if_neg (fun z => bit01.mpr z.2 h2), ← nI_1] at this
      exact this
    · refine gcall0 hca (m_lossOf E J M T (mR_mgf hR hf) i (by omega) t (nI (lbh (xv I) (svT T (xv I)) g t f i).2) ht) rfl ?_
      rintro w u' - ⟨rfl, J2, M2, rfl, hf2⟩
      rw [xv_mgf hf]
      have := ih J2 M2 (mgf_trans hf hf2)
      rw [show lbh (xv I) (svT T (xv I)) g t f (i + 1) = ((lbh (xv I) (svT T (xv I)) g t f i).1 + lossV (xv I) (svT T (xv I)) i t (nI (lbh (xv I) (svT T (xv I)) g t f i).2), (lbh (xv I) (svT T (xv I)) g t f i).2 + 1) from if_pos ⟨ne, bit01.mp h2⟩, ← nI_1, ← nI_1] at this
      exact this)
  refine gcall0 hca (m_lossOf E I L T hR f (by omega) t 0 ht) rfl ?_
  rintro w u' - ⟨rfl, J, M, rfl, hf⟩
  exact loop 0 (Nat.zero_le _) J M hf
/-- the best so far: none, or one and its loss -/
theorem trn_inv {V : Nat → Nat → Int32} {sv : Say} {nr : Nat} {g t : Int32} : ∀ i, i ≤ nr → nr ≤ 12 → ((trn V sv nr g t i).1 = -1 ∧ ∀ r, r < i → ¬ (g >>> (nI r &&& 31)) &&& 1 = 1) ∨ ∃ q, q < i ∧ trn V sv nr g t i = (nI q, (lbh V sv g t q nr).1) := by
  intro i
  induction i with
  | zero => intro _ _; exact Or.inl ⟨rfl, fun r hr => absurd hr (Nat.not_lt_zero _)⟩
  | succ i ih =>
    intro hi h12
    by_cases h : (g >>> (nI i &&& 31)) &&& 1 = 1 ∧ ((trn V sv nr g t i).1 = -1 ∨ (lbh V sv g t i nr).1 < (trn V sv nr g t i).2)
    · exact Or.inr ⟨i, Nat.lt_succ_self _, if_pos h⟩
    · have e : trn V sv nr g t (i + 1) = trn V sv nr g t i := if_neg h
      rcases ih (by omega) h12 with ⟨h1, h2⟩ | ⟨q, h1, h2⟩
      · refine Or.inl ⟨by rw [e]; exact h1, fun r hr => ?_⟩
        rcases Nat.lt_or_ge r i with z | z
        · exact h2 r z
        · have : r = i := by omega
          subst this
          exact fun y => h ⟨y, Or.inl h1⟩
      · exact Or.inr ⟨q, by omega, by rw [e]; exact h2⟩
/-- a group has someone -/
theorem grp_some {g x : Int32} {nr : Nat} (hx : x = nI nr) (hnr : nr ≤ 12) (h : 0 < g ∧ g >>> (x &&& 31) = 0) : ∃ r, r < nr ∧ (g >>> (nI r &&& 31)) &&& 1 = 1 := by
  obtain ⟨m, _, hm, h0, rfl⟩ := grp_m hx hnr h
  have hlt : m < 2 ^ 31 := Nat.lt_of_lt_of_le hm (Nat.pow_le_pow_right (by decide) (by omega))
  refine Classical.byContradiction (fun hno => ?_)
  have hb : ∀ r, r < nr → m.testBit r = false := fun r hr => by
    cases hbt : m.testBit r with
    | false => rfl
    | true =>
      exfalso
      refine hno ⟨r, hr, (b_in (by omega)).mpr ?_⟩
      unfold bt
      show (BitVec.ofNat 32 m).getLsbD r = true
      rw [BitVec.getLsbD_ofNat, hbt]
      simp; omega
  have : m = 0 := by
    apply Nat.eq_of_testBit_eq
    intro r
    rw [Nat.zero_testBit]
    rcases Nat.lt_or_ge r nr with q | q
    · exact hb r q
    · exact Nat.testBit_lt_two_pow (Nat.lt_of_lt_of_le hm (Nat.pow_le_pow_right (by decide) q))
  omega
set_option maxHeartbeats 1000000 in
theorem m_turns (T : Tx) (hR : mR I T) (nr : Nat) (hnr : nr ≤ 12) (hcr : I 0 17 = nI nr) (nt : Nat) (hnt : nt ≤ 40) (hct : I 0 11 = nI nt) (g t what : Int32) :
    gCtr E 46 0 0 nX10_turns [.ref 0, .int g, .int t, .int what] (wM I L) (fun v u' => v = some (.long (turnX (xv I) (svT T (xv I)) nr g t what)) ∧ ∃ I' L', u' = wM I' L' ∧ mgf I I') := by
  refine gstart iX10_turns tX10_turns rfl rfl (fun K ca hK hca => ?_)
  refine hK [36] 80 _ _ _ _ _ _ ?_
  have bad : ¬ (isG (xv I) g ∧ (0 ≤ t ∧ t < xv I 1 4) ∧ 0 ≤ what ∧ what ≤ 1) → some (Value.long (-4611686018427387904)) = some (.long (turnX (xv I) (svT T (xv I)) nr g t what)) ∧ ∃ I' L', (wM I L) = wM I' L' ∧ mgf I I' := fun h => by
    unfold turnX; rw [if_neg h]; exact ⟨rfl, I, L, rfl, mgf_refl I⟩
  refine gcall0 hca (m_isGroup E I L g nr hnr hcr) rfl ?_
  rintro w u' - ⟨rfl, rfl⟩
  refine gbr_p (fun h1 => bad (fun z => h1 z.1)) (fun h1 => ?_)
  refine gcall0 hca (m_isTenth E I L t nt hnt hct) rfl ?_
  rintro w u' - ⟨rfl, rfl⟩
  refine gbr_p (fun h2 => bad (fun z => h2 z.2.1)) (fun h2 => ?_)
  refine gcall0 hca (m_in E (wM I L) what 0 1) rfl ?_
  rintro w u' - ⟨rfl, rfl⟩
  refine gbr_p (fun h3 => bad (fun z => h3 z.2.2)) (fun h3 => ?_)
  have ht : vp_in t 40 := gin_of (by rw [← hct]; exact h2) hnt (by omega)
  have hX : turnX (xv I) (svT T (xv I)) nr g t what = _ := if_pos ⟨h1, h2, h3⟩
  rw [hX] at hK
  clear bad hX
  have loop := gloop (P := fun i => ∀ J M, mgf I J → K 0 0 36 [some (.ref 0), some (.int g), some (.int t), some (.int what), some (.int (trn (xv I) (svT T (xv I)) nr g t i).1), some (.int (nI i))] [] (wM J M)) (n := nr) (by
    intro J M hf
    refine hK [36] 60 _ _ _ _ _ _ ?_
    refine gbr_lp (n := nr) (by show J 0 17 = _; rw [hf.2 17 (by omega), hcr]) (by omega) (Nat.le_refl _) (fun _ => ?_) (fun z => absurd z (Nat.lt_irrefl _))
    refine gbr_i (fun h5 => ?_) (fun h5 => ?_)
    · rw [if_pos h5]; exact ⟨rfl, J, M, rfl, hf⟩
    · rw [if_neg h5]
      rcases trn_inv (V := xv I) (sv := svT T (xv I)) (g := g) (t := t) nr (Nat.le_refl _) hnr with ⟨-, hno⟩ | ⟨q, hq, he⟩
      · exfalso
        obtain ⟨r, hr, hb⟩ := grp_some hcr hnr h1
        exact hno r hr hb
      · rw [he]
        refine gcall0 hca (m_lossBy E J M T (mR_mgf hR hf) nr hnr (by rw [hf.2 17 (by omega), hcr]) q hq g t ht) rfl ?_
        rintro w u' - ⟨rfl, J2, M2, rfl, hf2⟩
        rw [xv_mgf hf]
        exact ⟨rfl, J2, M2, rfl, mgf_trans hf hf2⟩) (by
    intro i hi ih J M hf
    refine hK [36] 60 _ _ _ _ _ _ ?_
    refine gbr_lp (n := nr) (by show J 0 17 = _; rw [hf.2 17 (by omega), hcr]) (by omega) (by omega) (fun e => by omega) (fun _ => ?_)
    refine gbr_i (fun h5 => ?_) (fun h5 => ?_)
    · have yes : ((trn (xv I) (svT T (xv I)) nr g t i).1 = -1 ∨ (lbh (xv I) (svT T (xv I)) g t i nr).1 < (trn (xv I) (svT T (xv I)) nr g t i).2) → trn (xv I) (svT T (xv I)) nr g t (i + 1) = (nI i, (lbh (xv I) (svT T (xv I)) g t i nr).1) := fun z => if_pos ⟨h5, z⟩
      have no : ¬ ((trn (xv I) (svT T (xv I)) nr g t i).1 = -1 ∨ (lbh (xv I) (svT T (xv I)) g t i nr).1 < (trn (xv I) (svT T (xv I)) nr g t i).2) → trn (xv I) (svT T (xv I)) nr g t (i + 1) = trn (xv I) (svT T (xv I)) nr g t i := fun z => if_neg (fun y => z y.2)
      refine gbr_i (fun h6 => ?_) (fun h6 => ?_)
      · have := ih J M hf
        rw [yes (Or.inl h6), ← nI_1] at this
        exact this
      · rcases trn_inv (V := xv I) (sv := svT T (xv I)) (g := g) (t := t) i (by omega) hnr with ⟨hm1, -⟩ | ⟨q, hq, he⟩
        · exact absurd hm1 h6
        have he1 : (trn (xv I) (svT T (xv I)) nr g t i).1 = nI q := by rw [he]
        have he2 : (trn (xv I) (svT T (xv I)) nr g t i).2 = (lbh (xv I) (svT T (xv I)) g t q nr).1 := by rw [he]
        refine gcall0 hca (m_lossBy E J M T (mR_mgf hR hf) nr hnr (by rw [hf.2 17 (by omega), hcr]) i hi g t ht) rfl ?_
        rintro w u' - ⟨rfl, J2, M2, rfl, hf2⟩
        have hf3 := mgf_trans hf hf2
        have hlb := m_lossBy E J2 M2 T (mR_mgf hR hf3) nr hnr (by rw [hf3.2 17 (by omega), hcr]) q (by omega) g t ht
        rw [← he1] at hlb
        refine gcall0 hca hlb rfl ?_
        rintro w u' - ⟨rfl, J3, M3, rfl, hf4⟩
        rw [xv_mgf hf, xv_mgf hf3]
        have hf5 := mgf_trans hf3 hf4
        refine gbr_i (fun h7 => ?_) (fun h7 => ?_)
        · have := ih J3 M3 hf5
          rw [no (fun z => z.elim h6 (fun y => by rw [he2] at y; exact Int32.lt_irrefl (Int32.lt_of_lt_of_le y h7))), ← nI_1] at this
          exact this
        · have := ih J3 M3 hf5
          rw [yes (Or.inr (by rw [he2]; exact Int32.not_le.mp h7)), ← nI_1] at this
          exact this
    · have := ih J M hf
      rw [show trn (xv I) (svT T (xv I)) nr g t (i + 1) = trn (xv I) (svT T (xv I)) nr g t i from if_neg (fun z => h5 z.1), ← nI_1] at this
      exact this)
  exact loop 0 (Nat.zero_le _) I L (mgf_refl I)
end
