-- losses: worth, turns
def lossV (I : Nat → Nat → Int32) (sv : Say) (r : Nat) (t p : Int32) : Int32 := sv 0 (nI r) (I 11 r) t p - sv 1 (nI r) (I 11 r) t p
/-- what front and the first n of the group behind it spend; the next place -/
def lbh (I : Nat → Nat → Int32) (sv : Say) (g t : Int32) (f : Nat) : Nat → Int32 × Nat
  | 0 => (lossV I sv f t 0, 1)
  | n + 1 => if ¬ n = f ∧ (g >>> (nI n &&& 31)) &&& 1 = 1 then ((lbh I sv g t f n).1 + lossV I sv n t (nI (lbh I sv g t f n).2), (lbh I sv g t f n).2 + 1) else lbh I sv g t f n
theorem lbh_place {I : Nat → Nat → Int32} {sv : Say} {g t : Int32} {f : Nat} : ∀ n, (lbh I sv g t f n).2 ≤ n + 1 := by
  intro n
  induction n with
  | zero => exact Nat.le_refl _
  | succ n ih =>
    unfold lbh
    by_cases h : ¬ n = f ∧ (g >>> (nI n &&& 31)) &&& 1 = 1
    · rw [if_pos h]; show (lbh I sv g t f n).2 + 1 ≤ n + 1 + 1; omega
    · rw [if_neg h]; omega
/-- the front of least loss among the first n, its loss -/
def trn (I : Nat → Nat → Int32) (sv : Say) (nr : Nat) (g t : Int32) : Nat → Int32 × Int32
  | 0 => (-1, 0)
  | n + 1 => if (g >>> (nI n &&& 31)) &&& 1 = 1 ∧ ((trn I sv nr g t n).1 = -1 ∨ (lbh I sv g t n nr).1 < (trn I sv nr g t n).2) then (nI n, (lbh I sv g t n nr).1) else trn I sv nr g t n
def worthX (I : Nat → Nat → Int32) (sv : Say) (r t p : Int32) : Int64 :=
  if (0 ≤ r ∧ r < I 6 6) ∧ (0 ≤ t ∧ t < I 1 4) ∧ 0 ≤ p ∧ p < 12 then (lossV I sv r.toNatClampNeg t 0 - lossV I sv r.toNatClampNeg t p).toInt64 else -4611686018427387904
def turnX (I : Nat → Nat → Int32) (sv : Say) (nr : Nat) (g t what : Int32) : Int64 :=
  if isG I g ∧ (0 ≤ t ∧ t < I 1 4) ∧ 0 ≤ what ∧ what ≤ 1 then (if what = 0 then (trn I sv nr g t nr).1.toInt64 else (trn I sv nr g t nr).2.toInt64) else -4611686018427387904
section
variable (E : gEnv) (c : Nat) (ln : Nat → Nat) (I : Nat → Nat → Int32) (L : Nat → Nat → Int64)
theorem frh_19 (I : Nat → Nat → Int32) (f g : Nat → Int32) : frh I (gset (gset I 19 f) 20 g) := fun k a b _ => by rw [gset_n b, gset_n a]
theorem c_loss (J : Nat → Nat → Int32) (hf : frh I J) (ru : Nat) (hru : ru < c) (hc : c ≤ 6) (hrl : I 17 6 = nI ru) (hok : ruleOk I ln ru) (r : Nat) (hr : r < 12) (t p : Int32) (ht : vp_in t 40) :
    gCtr E 5 0 0 nX3_loss [.ref 17, .int (nI r), .int t, .int p] (wX c ln J L) (fun v u' => v = some (.int (lossV I (svX I ln ru) r t p)) ∧ ∃ I', u' = wX c ln I' L ∧ frh I I') := by
  refine gstart iX3_loss tX3_loss rfl rfl (fun K ca hK hca => ?_)
  refine hK [] 80 _ _ _ _ _ _ ?_
  clear hK
  have hcl : (nI r).toNatClampNeg = r := nI_clamp (by omega)
  have hv : vp_in (nI r) 12 := vp_in_nI hr (by omega)
  have h11 : J 11 (nI r).toNatClampNeg = I 11 r := by rw [hcl, hf 11 (by decide) (by decide) (by decide)]
  refine gsd_i hv ?_
  have okf : ∀ {H : Nat → Nat → Int32}, frh I H → ruleOk H ln ru := fun hH => ruleOk_congr (fun k hk => hH k (by omega) (by omega) (by omega)) hok
  have rlf : ∀ {H : Nat → Nat → Int32}, frh I H → H 17 6 = nI ru := fun hH => by rw [hH 17 (by decide) (by decide) (by decide), hrl]
  refine gcall0 hca (c_comesTo E c ln J L ru hru hc (rlf hf) (okf hf) 0 (nI r) (J 11 (nI r).toNatClampNeg) t p (by decide) hv ht) rfl ?_
  rintro w u' - ⟨⟨f1, g1, rfl⟩, rfl⟩
  have hf2 := frh_trans hf (frh_19 J f1 g1)
  refine gcall0 hca (c_comesTo E c ln _ L ru hru hc (rlf hf2) (okf hf2) 1 (nI r) (J 11 (nI r).toNatClampNeg) t p (by decide) hv ht) rfl ?_
  rintro w u' - ⟨⟨f2, g2, rfl⟩, rfl⟩
  rw [svX_eq hf, svX_eq hf2, h11]
  exact ⟨rfl, _, rfl, frh_trans hf2 (frh_19 _ f2 g2)⟩
theorem p_worth (ru : Nat) (hru : ru < c) (hc : c ≤ 6) (hrl : I 17 6 = nI ru) (hok : ruleOk I ln ru) (nr : Nat) (hnr : nr ≤ 12) (hcr : I 6 6 = nI nr) (nt : Nat) (hnt : nt ≤ 40) (hct : I 1 4 = nI nt) (r t p : Int32) :
    gCtr E 8 0 0 nX9_worth [.ref 0, .int r, .int t, .int p] (wX c ln I L) (fun v u' => v = some (.long (worthX I (svX I ln ru) r t p)) ∧ ∃ I', u' = wX c ln I' L ∧ frh I I') := by
  refine gstart iX9_worth tX9_worth rfl rfl (fun K ca hK hca => ?_)
  refine hK [] 80 _ _ _ _ _ _ ?_
  clear hK
  unfold worthX
  refine gcall0 hca (c_isSeat E c ln I L r t p) rfl ?_
  rintro w u' - ⟨rfl, rfl⟩
  refine gbr_p (fun h1 => ?_) (fun h1 => ?_)
  · rw [if_neg h1]; exact ⟨rfl, I, rfl, frh_refl I⟩
  rw [if_pos h1]
  obtain ⟨rn, hrn, rfl⟩ := vp_in_of (gin_of (r := r) (by rw [← hcr]; exact h1.1) hnr (by omega)) (by omega)
  have ht : vp_in t 40 := gin_of (by rw [← hct]; exact h1.2.1) hnt (by omega)
  refine gcall0 hca (c_loss E c ln I L I (frh_refl I) ru hru hc hrl hok rn hrn t 0 ht) rfl ?_
  rintro w u' - ⟨rfl, J, rfl, hf⟩
  refine gcall0 hca (c_loss E c ln I L J hf ru hru hc hrl hok rn hrn t p ht) rfl ?_
  rintro w u' - ⟨rfl, J2, rfl, hf2⟩
  rw [nI_clamp (by omega)]
  exact ⟨rfl, J2, rfl, hf2⟩
set_option maxHeartbeats 1000000 in
theorem c_lossBehind (J0 : Nat → Nat → Int32) (hf0 : frh I J0) (ru : Nat) (hru : ru < c) (hc : c ≤ 6) (hrl : I 17 6 = nI ru) (hok : ruleOk I ln ru) (nr : Nat) (hnr : nr ≤ 12) (hcr : I 6 6 = nI nr) (f : Nat) (hfn : f < nr) (g t : Int32) (ht : vp_in t 40) :
    gCtr E 6 0 0 nX9_lossBehind [.ref 0, .int (nI f), .int g, .int t] (wX c ln J0 L) (fun v u' => v = some (.int (lbh I (svX I ln ru) g t f nr).1) ∧ ∃ I', u' = wX c ln I' L ∧ frh I I') := by
  refine gstart iX9_lossBehind tX9_lossBehind rfl rfl (fun K ca hK hca => ?_)
  refine hK [18] 60 _ _ _ _ _ _ ?_
  have loop := gloop (P := fun i => ∀ J, frh I J → K 0 0 18 [some (.ref 0), some (.int (nI f)), some (.int g), some (.int t), some (.int (lbh I (svX I ln ru) g t f i).1), some (.int (nI (lbh I (svX I ln ru) g t f i).2)), some (.int (nI i))] [] (wX c ln J L)) (n := nr) (by
    intro J hf
    refine hK [18] 60 _ _ _ _ _ _ ?_
    refine gbr_lp (n := nr) (by show J 6 6 = _; rw [hf 6 (by decide) (by decide) (by decide), hcr]) (by omega) (Nat.le_refl _) (fun _ => ⟨rfl, J, rfl, hf⟩) (fun z => absurd z (Nat.lt_irrefl _))) (by
    intro i hi ih J hf
    refine hK [18] 60 _ _ _ _ _ _ ?_
    refine gbr_lp (n := nr) (by show J 6 6 = _; rw [hf 6 (by decide) (by decide) (by decide), hcr]) (by omega) (by omega) (fun e => by omega) (fun _ => ?_)
    refine gbr_i (fun h1 => ?_) (fun h1 => ?_)
    · have e : i = f := (nI_eq (by omega) (by omega)).mp h1
      have := ih J hf
      rw [show lbh I (svX I ln ru) g t f (i + 1) = lbh I (svX I ln ru) g t f i from if_neg (fun z => z.1 e), ← nI_1] at this
      exact this
    have ne : ¬ i = f := fun z => h1 (by rw [z])
    refine gbr_i (fun h2 => ?_) (fun h2 => ?_)
    · refine gcall0 hca (c_loss E c ln I L J hf ru hru hc hrl hok i (by omega) t (nI (lbh I (svX I ln ru) g t f i).2) ht) rfl ?_
      rintro w u' - ⟨rfl, J2, rfl, hf2⟩
      have := ih J2 hf2
      rw [show lbh I (svX I ln ru) g t f (i + 1) = ((lbh I (svX I ln ru) g t f i).1 + lossV I (svX I ln ru) i t (nI (lbh I (svX I ln ru) g t f i).2), (lbh I (svX I ln ru) g t f i).2 + 1) from if_pos ⟨ne, h2⟩, ← nI_1, ← nI_1] at this
      exact this
    · have := ih J hf
      rw [show lbh I (svX I ln ru) g t f (i + 1) = lbh I (svX I ln ru) g t f i from if_neg (fun z => h2 z.2), ← nI_1] at this
      exact this)
  refine gcall0 hca (c_loss E c ln I L J0 hf0 ru hru hc hrl hok f (by omega) t 0 ht) rfl ?_
  rintro w u' - ⟨rfl, J, rfl, hf⟩
  exact loop 0 (Nat.zero_le _) J hf
set_option maxHeartbeats 1000000 in
theorem p_turns (ru : Nat) (hru : ru < c) (hc : c ≤ 6) (hrl : I 17 6 = nI ru) (hok : ruleOk I ln ru) (nr : Nat) (hnr : nr ≤ 12) (hcr : I 6 6 = nI nr) (nt : Nat) (hnt : nt ≤ 40) (hct : I 1 4 = nI nt) (g t what : Int32) :
    gCtr E 8 0 0 nX9_turns [.ref 0, .int g, .int t, .int what] (wX c ln I L) (fun v u' => v = some (.long (turnX I (svX I ln ru) nr g t what)) ∧ ∃ I', u' = wX c ln I' L ∧ frh I I') := by
  refine gstart iX9_turns tX9_turns rfl rfl (fun K ca hK hca => ?_)
  refine hK [44] 80 _ _ _ _ _ _ ?_
  have bad : ¬ (isG I g ∧ (0 ≤ t ∧ t < I 1 4) ∧ 0 ≤ what ∧ what ≤ 1) → some (Value.long (-4611686018427387904)) = some (.long (turnX I (svX I ln ru) nr g t what)) ∧ ∃ I', wX c ln I L = wX c ln I' L ∧ frh I I' := fun h => by
    unfold turnX; rw [if_neg h]; exact ⟨rfl, I, rfl, frh_refl I⟩
  refine gcall0 hca (c_isGroup E c ln I L g) rfl ?_
  rintro w u' - ⟨rfl, rfl⟩
  refine gbr_p (fun h1 => bad (fun z => h1 z.1)) (fun h1 => ?_)
  refine gcall0 hca (c_has E c ln I L t) rfl ?_
  rintro w u' - ⟨rfl, rfl⟩
  refine gbr_p (fun h2 => bad (fun z => h2 z.2.1)) (fun h2 => ?_)
  refine gbr_i (fun h3 => bad (fun z => by have := z.2.2.1; clear z bad hca hcr hct hrl h1 h2 hK; (simp only [Int32.lt_iff_toInt_lt, Int32.le_iff_toInt_le, ← Int32.toInt_inj, Int32.reduceToInt] at *; omega))) (fun h3 => ?_)
  refine gbr_i (fun h4 => ?_) (fun h4 => bad (fun z => h4 z.2.2.2))
  have ht : vp_in t 40 := gin_of (by rw [← hct]; exact h2) hnt (by omega)
  have hX : turnX I (svX I ln ru) nr g t what = _ := if_pos ⟨h1, h2, by clear bad hca hcr hct hrl h1 h2 hK ht; (simp only [Int32.lt_iff_toInt_lt, Int32.le_iff_toInt_le, ← Int32.toInt_inj, Int32.reduceToInt] at *; omega), h4⟩
  rw [hX] at hK
  clear bad
  have loop := gloop (P := fun i => ∀ J x, frh I J → K 0 0 44 [some (.ref 0), some (.int g), some (.int t), some (.int what), some (.int (trn I (svX I ln ru) nr g t i).1), some (.int (trn I (svX I ln ru) nr g t i).2), some (.int (nI i)), x] [] (wX c ln J L)) (n := nr) (by
    intro J x hf
    refine hK [44] 60 _ _ _ _ _ _ ?_
    refine gbr_lp (n := nr) (by show J 6 6 = _; rw [hf 6 (by decide) (by decide) (by decide), hcr]) (by omega) (Nat.le_refl _) (fun _ => ?_) (fun z => absurd z (Nat.lt_irrefl _))
    refine gbr_i (fun h5 => ?_) (fun h5 => ?_)
    · rw [if_pos h5]; exact ⟨rfl, J, rfl, hf⟩
    · rw [if_neg h5]; exact ⟨rfl, J, rfl, hf⟩) (by
    intro i hi ih J x hf
    refine hK [44] 60 _ _ _ _ _ _ ?_
    refine gbr_lp (n := nr) (by show J 6 6 = _; rw [hf 6 (by decide) (by decide) (by decide), hcr]) (by omega) (by omega) (fun e => by omega) (fun _ => ?_)
    refine gbr_i (fun h5 => ?_) (fun h5 => ?_)
    · refine gcall0 hca (c_lossBehind E c ln I L J hf ru hru hc hrl hok nr hnr hcr i hi g t ht) rfl ?_
      rintro w u' - ⟨rfl, J2, rfl, hf2⟩
      have ih2 := ih J2 (some (.int (lbh I (svX I ln ru) g t i nr).1)) hf2
      have yes : ((trn I (svX I ln ru) nr g t i).1 = -1 ∨ (lbh I (svX I ln ru) g t i nr).1 < (trn I (svX I ln ru) nr g t i).2) → trn I (svX I ln ru) nr g t (i + 1) = (nI i, (lbh I (svX I ln ru) g t i nr).1) := fun z => if_pos ⟨h5, z⟩
      have no : ¬ ((trn I (svX I ln ru) nr g t i).1 = -1 ∨ (lbh I (svX I ln ru) g t i nr).1 < (trn I (svX I ln ru) nr g t i).2) → trn I (svX I ln ru) nr g t (i + 1) = trn I (svX I ln ru) nr g t i := fun z => if_neg (fun y => z y.2)
      refine gbr_i (fun h6 => ?_) (fun h6 => ?_)
      · rw [yes (Or.inl h6), ← nI_1] at ih2
        exact ih2
      · refine gbr_i (fun h7 => ?_) (fun h7 => ?_)
        · rw [no (fun z => z.elim h6 (fun y => Int32.lt_irrefl (Int32.lt_of_lt_of_le y h7))), ← nI_1] at ih2
          exact ih2
        · rw [yes (Or.inr (Int32.not_le.mp h7)), ← nI_1] at ih2
          exact ih2
    · have := ih J x hf
      rw [show trn I (svX I ln ru) nr g t (i + 1) = trn I (svX I ln ru) nr g t i from if_neg (fun z => h5 z.1), ← nI_1] at this
      exact this)
  exact loop 0 (Nat.zero_le _) I none (frh_refl I)
end
