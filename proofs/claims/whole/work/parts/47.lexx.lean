-- the tape's lexer: cell 13 (size 3, steps made 4, next 5, at 6, token 7, number 8), bytes 14, steps 15, begins 16
theorem isLt_i {x : Int32} : isLt x = true ↔ 97 ≤ x ∧ x ≤ 122 := decide_eq_true_iff
theorem isDg_i {x : Int32} : isDg x = true ↔ 48 ≤ x ∧ x ≤ 57 := decide_eq_true_iff
theorem isBl_i {x : Int32} : isBl x = true ↔ x = 32 ∨ x = 10 := decide_eq_true_iff
theorem isSg_i {x : Int32} : isSg x = true ↔ x = 40 ∨ x = 41 ∨ x = 42 ∨ x = 43 ∨ x = 45 ∨ x = 59 ∨ x = 60 ∨ x = 61 := decide_eq_true_iff
theorem sbl_eq {l : List Int32} {b : Nat → Int32} {a e : Nat} : l = sbl b a e ↔ l.length = e - a ∧ ∀ j, j < l.length → l.getD j 0 = b (a + j) := by
  constructor
  · rintro rfl
    have hl : (sbl b a e).length = e - a := by simp [sbl]
    refine ⟨hl, fun j hj => ?_⟩
    rw [hl] at hj
    simp [sbl, hj]
  · rintro ⟨h1, h2⟩
    apply List.ext_getElem
    · simp [sbl, h1]
    · intro j hj hj2
      have := h2 j hj
      simp only [List.getD_eq_getElem?_getD, List.getElem?_eq_getElem hj, Option.getD_some] at this
      rw [this]
      simp [sbl]
/-- nothing but the token has changed -/
def tkf (I I' : Nat → Nat → Int32) : Prop := (∀ k, k ≠ 13 → I' k = I k) ∧ I' 13 3 = I 13 3 ∧ I' 13 4 = I 13 4
theorem tkf_refl (I : Nat → Nat → Int32) : tkf I I := ⟨fun _ _ => rfl, rfl, rfl⟩
theorem tkf_trans {I J H : Nat → Nat → Int32} (h1 : tkf I J) (h2 : tkf J H) : tkf I H := ⟨fun k hk => (h2.1 k hk).trans (h1.1 k hk), h2.2.1.trans h1.2.1, h2.2.2.trans h1.2.2⟩
theorem tkf_set (I : Nat → Nat → Int32) {j : Nat} (h3 : j ≠ 3) (h4 : j ≠ 4) (x : Int32) : tkf I (gset I 13 (gupd (I 13) j x)) := ⟨fun k hk => gset_n hk, by rw [gset_s, gupd_n (Ne.symm h3)], by rw [gset_s, gupd_n (Ne.symm h4)]⟩
theorem gbr_lq {x y : Int32} {i n : Nat} {A B : Prop} (hx : x = nI n) (hy : y = nI i) (hn : n < 2 ^ 31) (hi : i < 2 ^ 31) (h1 : n ≤ i → A) (h2 : i < n → B) : gbr (x ≤ y) A B := by
  subst hx; subst hy
  exact ⟨fun z => h1 ((nI_leI hn hi).mp z), fun z => h2 (Nat.lt_of_not_le (fun y => z ((nI_leI hn hi).mpr y)))⟩
theorem gbr_lt2 {x y : Int32} {i n : Nat} {A B : Prop} (hx : x = nI n) (hy : y = nI i) (hn : n < 2 ^ 31) (hi : i < 2 ^ 31) (h1 : n < i → A) (h2 : i ≤ n → B) : gbr (x < y) A B := by
  subst hx; subst hy
  exact ⟨fun z => h1 ((nI_ltI hn hi).mp z), fun z => h2 (Nat.le_of_not_lt (fun y => z ((nI_ltI hn hi).mpr y)))⟩
theorem gbr_eq {x y z : Int32} {A B : Prop} (hx : x = z) (h1 : z = y → A) (h2 : ¬ z = y → B) : gbr (x = y) A B := by
  subst hx; exact ⟨h1, h2⟩
theorem k12 {k : Nat} (h : k < 12) : k = 0 ∨ k = 1 ∨ k = 2 ∨ k = 3 ∨ k = 4 ∨ k = 5 ∨ k = 6 ∨ k = 7 ∨ k = 8 ∨ k = 9 ∨ k = 10 ∨ k = 11 := by omega
section
variable (E : gEnv) (c : Nat) (ln : Nat → Nat) (I : Nat → Nat → Int32) (L : Nat → Nat → Int64)
theorem c_isLetter (p : Nat) (hp : p < 160) (y : Int32) (hy : y = nI p) : gCtr E 1 0 0 nX5_isLetter [.ref 13, .int y] (wX c ln I L) (fun v u' => u' = (wX c ln I L) ∧ v = some (.int (if isLt (I 14 p) = true then 1 else 0))) := by
  subst hy
  have hv := vp_in_nI (N := 160) hp (by omega)
  have hcl : (nI p).toNatClampNeg = p := nI_clamp (by omega)
  refine gstart iX5_isLetter tX5_isLetter rfl rfl (fun K ca hK hca => ?_)
  refine hK [] 80 _ _ _ _ _ _ ?_
  clear hK
  refine gsd_i hv ?_
  refine gbr_i (fun h1 => ?_) (fun h1 => ?_)
  · have h1' : I 14 (nI p).toNatClampNeg < 97 := h1
    rw [hcl] at h1'
    exact gsd_i (Or.inl rfl) (gz0 (fun z => Int32.lt_irrefl (Int32.lt_of_lt_of_le h1' (isLt_i.mp z).1)))
  · have h1' : ¬ I 14 (nI p).toNatClampNeg < 97 := h1
    rw [hcl] at h1'
    refine gsd_i hv (gbr_i (fun h2 => ?_) (fun h2 => ?_))
    · have h2' : 122 < I 14 (nI p).toNatClampNeg := h2
      rw [hcl] at h2'
      exact gsd_i (Or.inl rfl) (gz0 (fun z => Int32.lt_irrefl (Int32.lt_of_lt_of_le h2' (isLt_i.mp z).2)))
    · have h2' : ¬ 122 < I 14 (nI p).toNatClampNeg := h2
      rw [hcl] at h2'
      exact gsd_i (Or.inr rfl) (gz1 (isLt_i.mpr ⟨Int32.not_lt.mp h1', Int32.not_lt.mp h2'⟩))
theorem c_isDigit (p : Nat) (hp : p < 160) (y : Int32) (hy : y = nI p) : gCtr E 1 0 0 nX5_isDigit [.ref 13, .int y] (wX c ln I L) (fun v u' => u' = (wX c ln I L) ∧ v = some (.int (if isDg (I 14 p) = true then 1 else 0))) := by
  subst hy
  have hv := vp_in_nI (N := 160) hp (by omega)
  have hcl : (nI p).toNatClampNeg = p := nI_clamp (by omega)
  refine gstart iX5_isDigit tX5_isDigit rfl rfl (fun K ca hK hca => ?_)
  refine hK [] 80 _ _ _ _ _ _ ?_
  clear hK
  refine gsd_i hv ?_
  refine gbr_i (fun h1 => ?_) (fun h1 => ?_)
  · have h1' : I 14 (nI p).toNatClampNeg < 48 := h1
    rw [hcl] at h1'
    exact gsd_i (Or.inl rfl) (gz0 (fun z => Int32.lt_irrefl (Int32.lt_of_lt_of_le h1' (isDg_i.mp z).1)))
  · have h1' : ¬ I 14 (nI p).toNatClampNeg < 48 := h1
    rw [hcl] at h1'
    refine gsd_i hv (gbr_i (fun h2 => ?_) (fun h2 => ?_))
    · have h2' : 57 < I 14 (nI p).toNatClampNeg := h2
      rw [hcl] at h2'
      exact gsd_i (Or.inl rfl) (gz0 (fun z => Int32.lt_irrefl (Int32.lt_of_lt_of_le h2' (isDg_i.mp z).2)))
    · have h2' : ¬ 57 < I 14 (nI p).toNatClampNeg := h2
      rw [hcl] at h2'
      exact gsd_i (Or.inr rfl) (gz1 (isDg_i.mpr ⟨Int32.not_lt.mp h1', Int32.not_lt.mp h2'⟩))
theorem c_isSign (x : Int32) : gCtr E 1 0 0 nX5_isSign [.int x] (wX c ln I L) (fun v u' => u' = (wX c ln I L) ∧ v = some (.int (if isSg x = true then 1 else 0))) := by
  refine gstart iX5_isSign tX5_isSign rfl rfl (fun K ca hK hca => ?_)
  refine hK [] 80 _ _ _ _ _ _ ?_
  clear hK
  repeat' refine gbr_i (fun _ => ?_) (fun _ => ?_)
  all_goals clear hca
  all_goals first
    | exact gsd_i (Or.inr rfl) (gz1 (isSg_i.mpr (by simp_all)))
    | exact gsd_i (Or.inl rfl) (gz0 (fun z => by have := isSg_i.mp z; simp_all))
theorem c_wordOf (k : Nat) (hk : k < 12) : gCtr E 1 0 0 nX5_wordOf [.int (nI k)] (wX c ln I L) (fun v u' => u' = (wX c ln I L) ∧ v = some (.ref (1001 + k))) := by
  rcases k12 hk with rfl | rfl | rfl | rfl | rfl | rfl | rfl | rfl | rfl | rfl | rfl | rfl
  all_goals refine gstart iX5_wordOf tX5_wordOf rfl rfl (fun K ca hK hca => ?_)
  all_goals refine hK [] 80 _ _ _ _ _ _ ?_
  all_goals clear hK hca
  all_goals repeat' first
    | exact ⟨rfl, rfl⟩
    | refine gbr_i (fun z => absurd z (by decide)) (fun _ => ?_)
    | refine gbr_i (fun _ => ?_) (fun z => absurd rfl z)
set_option maxHeartbeats 1000000 in
theorem c_isSpelt (k : Nat) (hk : k < 12) (a e : Nat) (hae : a ≤ e) (he : e ≤ 160) (h5 : I 13 5 = nI e) (h6 : I 13 6 = nI a) : gCtr E 5 0 0 nX5_isSpelt [.ref 13, .ref (1001 + k)] (wX c ln I L) (fun v u' => u' = (wX c ln I L) ∧ v = some (.int (if gStrB.getD (k + 1) [] = sbl (I 14) a e then 1 else 0))) := by
  have hs : shX c ln (1001 + k) = .inl 20 := by rcases k12 hk with rfl | rfl | rfl | rfl | rfl | rfl | rfl | rfl | rfl | rfl | rfl | rfl <;> rfl
  have hlen := c_len E c ln I L (k + 1) (by omega)
  have hchr := c_char E c ln I L (k + 1) (by omega)
  have hl := str_l (k + 1) (by omega)
  rw [show 1000 + (k + 1) = 1001 + k by omega] at hlen hchr
  generalize gStrB.getD (k + 1) [] = w at hl hchr ⊢
  generalize gStrL.getD (k + 1) 0 = m at hl hlen hchr
  obtain ⟨hm, hw⟩ := hl
  refine gstart iX5_isSpelt tX5_isSpelt rfl rfl (fun K ca hK hca => ?_)
  have sq := sbl_eq (l := w) (b := I 14) (a := a) (e := e)
  have loop := gloop (P := fun i => m = e - a → (∀ j, j < i → w.getD j 0 = I 14 (a + j)) → K 0 0 20 [some (.ref 13), some (.ref (1001 + k)), some (.int (nI i))] [] (wX c ln I L)) (n := m) (by
    intro hme hall
    refine hK [20] 60 _ _ _ _ _ _ ?_
    refine gobj_i hs ?_
    refine gcall0 hca hlen rfl ?_
    rintro w u' - ⟨rfl, rfl⟩
    refine gbr_lp rfl (by omega) (Nat.le_refl _) (fun _ => ?_) (fun z => absurd z (Nat.lt_irrefl _))
    exact gsd_i (Or.inr rfl) (gz1 (sq.mpr ⟨by omega, fun j hj => hall j (by omega)⟩))) (by
    intro i hi ih hme hall
    have hv : vp_in (I 13 6 + nI i) 160 := by rw [h6, nI_add]; exact vp_in_nI (by omega) (by omega)
    have hcl : (I 13 6 + nI i).toNatClampNeg = a + i := by rw [h6, nI_add]; exact nI_clamp (by omega)
    refine hK [20] 60 _ _ _ _ _ _ ?_
    refine gobj_i hs ?_
    refine gcall0 hca hlen rfl ?_
    rintro w u' - ⟨rfl, rfl⟩
    refine gbr_lp rfl (by omega) (by omega) (fun e => by omega) (fun _ => ?_)
    refine gobj_i hs ?_
    refine gcall0 hca (hchr i hi) rfl ?_
    rintro w u' - ⟨rfl, rfl⟩
    refine gsd_i hv (gbr_i (fun h7 => ?_) (fun h7 => ?_))
    · have h7' : _ = I 14 (I 13 6 + nI i).toNatClampNeg := h7
      rw [hcl] at h7'
      have := ih hme (fun j hj => by
        rcases Nat.lt_or_ge j i with q | q
        · exact hall j q
        · have : j = i := by omega
          subst this; exact h7')
      rw [← nI_1] at this
      exact this
    · have h7' : ¬ _ = I 14 (I 13 6 + nI i).toNatClampNeg := h7
      rw [hcl] at h7'
      exact gsd_i (Or.inl rfl) (gz0 (fun z => h7' ((sq.mp z).2 i (by omega)))))
  refine hK [20] 60 _ _ _ _ _ _ ?_
  refine gobj_i hs ?_
  refine gcall0 hca hlen rfl ?_
  rintro w u' - ⟨rfl, rfl⟩
  have hdf : I 13 5 - I 13 6 = nI (e - a) := by rw [h5, h6, pk_sub hae]
  refine gbr_i (fun h7 => ?_) (fun h7 => ?_)
  · have h7' : nI m = I 13 5 - I 13 6 := h7
    rw [hdf] at h7'
    exact loop 0 (Nat.zero_le _) ((nI_eq (by omega) (by omega)).mp h7') (fun j hj => absurd hj (Nat.not_lt_zero _))
  · have h7' : ¬ nI m = I 13 5 - I 13 6 := h7
    rw [hdf] at h7'
    exact gsd_i (Or.inl rfl) (gz0 (fun z => h7' (by rw [← (sq.mp z).1, hw])))
set_option maxHeartbeats 1000000 in
theorem c_takeNumber (n a : Nat) (hn : n ≤ 160) (ha : a ≤ n) (h3 : I 13 3 = nI n) (h5 : I 13 5 = nI a) (h6 : I 13 6 = nI a) : gCtr E 2 0 0 nX5_takeNumber [.ref 13] (wX c ln I L) (fun v u' => v = none ∧ ∃ I', u' = wX c ln I' L ∧ tkf I I' ∧ I' 13 6 = nI a ∧ I' 13 5 = nI (eat isDg (I 14) n a) ∧ I' 13 7 = (if eat isDg (I 14) n a - a ≤ 4 then 2 else 1) ∧ I' 13 8 = nvl (I 14) a (eat isDg (I 14) n a - a)) := by
  refine gstart iX5_takeNumber tX5_takeNumber rfl rfl (fun K ca hK hca => ?_)
  obtain ⟨q1, q2, q3, q4⟩ := eat_spec (q := isDg) (b := I 14) (n := n) (n - a) a rfl
  have q2 := q2 ha
  have tail : ∀ (p : Nat) (J : Nat → Nat → Int32), a ≤ p → p ≤ n → tkf I J → J 13 6 = nI a → J 13 5 = nI p → J 13 8 = nvl (I 14) a (p - a) → p = eat isDg (I 14) n a → K 0 0 64 [some (.ref 13)] [] (wX c ln J L) := by
    intro p J hp1 hp2 hf j6 j5 j8 he
    have hdf : J 13 5 - J 13 6 = nI (p - a) := by rw [j5, j6, pk_sub hp1]
    refine hK [5] 60 _ _ _ _ _ _ ?_
    refine gbr_lq (x := J 13 5 - J 13 6) (y := 4) (n := p - a) (i := 4) hdf rfl (by omega) (by omega) (fun h4 => ?_) (fun h4 => ?_)
    · refine ⟨rfl, _, rfl, tkf_trans hf (tkf_set J (by decide) (by decide) 2), j6, ?_, ?_, ?_⟩
      · rw [← he]; exact j5
      · rw [← he, if_pos h4]; rfl
      · rw [← he]; exact j8
    · refine ⟨rfl, _, rfl, tkf_trans hf (tkf_set J (by decide) (by decide) 1), j6, ?_, ?_, ?_⟩
      · rw [← he]; exact j5
      · rw [← he, if_neg (by omega)]; rfl
      · rw [← he]; exact j8
  have loop : ∀ (m p : Nat) (J : Nat → Nat → Int32), n - p = m → a ≤ p → p ≤ n → tkf I J → J 13 6 = nI a → J 13 5 = nI p → J 13 8 = nvl (I 14) a (p - a) → eat isDg (I 14) n p = eat isDg (I 14) n a → K 0 0 5 [some (.ref 13)] [] (wX c ln J L) := by
    intro m
    induction m with
    | zero =>
      intro p J hm hp1 hp2 hf j6 j5 j8 he
      have hpe : p = eat isDg (I 14) n a := by rw [← he, eat_n (fun z => by have := z.1; omega)]
      refine hK [5, 64] 60 _ _ _ _ _ _ ?_
      refine gbr_lq (x := J 13 3) (y := J 13 5) (n := n) (i := p) (by rw [hf.2.1, h3]) j5 (by omega) (by omega) (fun _ => tail p J hp1 hp2 hf j6 j5 j8 hpe) (fun z => by omega)
    | succ m ih =>
      intro p J hm hp1 hp2 hf j6 j5 j8 he
      have hcl : (J 13 5).toNatClampNeg = p := by rw [j5]; exact nI_clamp (by omega)
      refine hK [5, 64] 60 _ _ _ _ _ _ ?_
      refine gbr_lq (x := J 13 3) (y := J 13 5) (n := n) (i := p) (by rw [hf.2.1, h3]) j5 (by omega) (by omega) (fun z => by omega) (fun _ => ?_)
      refine gcall0 hca (c_isDigit E c ln J L p (by omega) (J 13 5) j5) rfl ?_
      rintro w u' - ⟨rfl, rfl⟩
      rw [hf.1 14 (by decide)]
      refine gbr_p (fun h => ?_) (fun h => ?_)
      · exact tail p J hp1 hp2 hf j6 j5 j8 (by rw [← he, eat_n (fun z => h z.2)])
      · refine gsd_i (gvp j5 (by omega) (by omega)) ?_
        refine ih (p + 1) _ (by omega) (by omega) (by omega) (tkf_trans hf (tkf_trans (tkf_set J (j := 8) (by decide) (by decide) (J 13 8 * 10 + J 14 (J 13 5).toNatClampNeg - 48)) (tkf_set _ (j := 5) (by decide) (by decide) (J 13 5 + 1)))) j6 ?_ ?_ ?_
        · show J 13 5 + 1 = _
          rw [j5, nI_1]
        · show J 13 8 * 10 + J 14 (J 13 5).toNatClampNeg - 48 = _
          rw [j8, hcl, hf.1 14 (by decide), show p + 1 - a = (p - a) + 1 by omega]
          show _ = nvl (I 14) a (p - a) * 10 + I 14 (a + (p - a)) - 48
          rw [show a + (p - a) = p by omega]
        · rw [← he, eat_y ⟨by omega, h⟩]
  refine hK [5] 60 _ _ _ _ _ _ ?_
  exact loop (n - a) a _ rfl (Nat.le_refl _) ha (tkf_set I (j := 8) (by decide) (by decide) 0) h6 h5 (by rw [Nat.sub_self]; rfl) rfl
set_option maxHeartbeats 1000000 in
theorem c_takeWord (n a : Nat) (hn : n ≤ 160) (ha : a ≤ n) (h3 : I 13 3 = nI n) (h5 : I 13 5 = nI a) (h6 : I 13 6 = nI a) : gCtr E 6 0 0 nX5_takeWord [.ref 13] (wX c ln I L) (fun v u' => v = none ∧ ∃ I', u' = wX c ln I' L ∧ tkf I I' ∧ I' 13 6 = nI a ∧ I' 13 5 = nI (eat isLt (I 14) n a) ∧ I' 13 7 = wtk (sbl (I 14) a (eat isLt (I 14) n a)) 12) := by
  refine gstart iX5_takeWord tX5_takeWord rfl rfl (fun K ca hK hca => ?_)
  obtain ⟨q1, q2, q3, q4⟩ := eat_spec (q := isLt) (b := I 14) (n := n) (n - a) a rfl
  have q2 := q2 ha
  generalize hE : eat isLt (I 14) n a = e at *
  have l2 := gloop (P := fun k => ∀ J, tkf I J → J 13 6 = nI a → J 13 5 = nI e → J 13 7 = wtk (sbl (I 14) a e) k → K 0 0 42 [some (.ref 13), some (.int (nI k))] [] (wX c ln J L)) (n := 12) (by
    intro J hf j6 j5 j7
    refine hK [42] 60 _ _ _ _ _ _ ?_
    exact gbr_lp (n := 12) rfl (by omega) (Nat.le_refl _) (fun _ => ⟨rfl, J, rfl, hf, j6, j5, j7⟩) (fun z => absurd z (Nat.lt_irrefl _))) (by
    intro k hk ih J hf j6 j5 j7
    refine hK [42] 60 _ _ _ _ _ _ ?_
    refine gbr_lp (n := 12) rfl (by omega) (by omega) (fun e => by omega) (fun _ => ?_)
    refine gcall0 hca (c_wordOf E c ln J L k hk) rfl ?_
    rintro w u' - ⟨rfl, rfl⟩
    have hs : shX c ln (1001 + k) = .inl 20 := by rcases k12 hk with rfl | rfl | rfl | rfl | rfl | rfl | rfl | rfl | rfl | rfl | rfl | rfl <;> rfl
    refine gcall0 hca (c_isSpelt E c ln J L k hk a e q1 (by omega) j5 j6) rfl ?_
    rintro w u' - ⟨rfl, rfl⟩
    rw [hf.1 14 (by decide)]
    refine gbr_p (fun h => ?_) (fun h => ?_)
    · have := ih J hf j6 j5 (by rw [j7]; exact (if_neg h).symm)
      rw [← nI_1] at this
      exact this
    · have := ih (gset J 13 (gupd (J 13) 7 (128 + nI k))) (tkf_trans hf (tkf_set J (j := 7) (by decide) (by decide) (128 + nI k))) j6 j5 (by
        show 128 + nI k = _
        exact (if_pos h).symm)
      rw [← nI_1] at this
      exact this)
  have tail : ∀ J, tkf I J → J 13 6 = nI a → J 13 5 = nI e → K 0 0 35 [some (.ref 13), none] [] (wX c ln J L) := by
    intro J hf j6 j5
    refine hK [42] 60 _ _ _ _ _ _ ?_
    exact l2 0 (Nat.zero_le _) (gset J 13 (gupd (J 13) 7 1)) (tkf_trans hf (tkf_set J (j := 7) (by decide) (by decide) 1)) j6 j5 rfl
  have loop : ∀ (m p : Nat) (J : Nat → Nat → Int32), n - p = m → a ≤ p → p ≤ n → tkf I J → J 13 6 = nI a → J 13 5 = nI p → eat isLt (I 14) n p = e → K 0 0 0 [some (.ref 13), none] [] (wX c ln J L) := by
    intro m
    induction m with
    | zero =>
      intro p J hm hp1 hp2 hf j6 j5 he
      have hpe : p = e := by rw [← he, eat_n (fun z => by have := z.1; omega)]
      refine hK [0, 35] 60 _ _ _ _ _ _ ?_
      refine gbr_lq (x := J 13 3) (y := J 13 5) (n := n) (i := p) (by rw [hf.2.1, h3]) j5 (by omega) (by omega) (fun _ => tail J hf j6 (by rw [j5, hpe])) (fun z => by omega)
    | succ m ih =>
      intro p J hm hp1 hp2 hf j6 j5 he
      refine hK [0, 35] 60 _ _ _ _ _ _ ?_
      refine gbr_lq (x := J 13 3) (y := J 13 5) (n := n) (i := p) (by rw [hf.2.1, h3]) j5 (by omega) (by omega) (fun z => by omega) (fun _ => ?_)
      refine gcall0 hca (c_isLetter E c ln J L p (by omega) (J 13 5) j5) rfl ?_
      rintro w u' - ⟨rfl, rfl⟩
      rw [hf.1 14 (by decide)]
      refine gbr_p (fun h => ?_) (fun h => ?_)
      · exact tail J hf j6 (by rw [j5, ← he, eat_n (fun z => h z.2)])
      · refine ih (p + 1) _ (by omega) (by omega) (by omega) (tkf_trans hf (tkf_set J (j := 5) (by decide) (by decide) (J 13 5 + 1))) j6 ?_ ?_
        · show J 13 5 + 1 = _
          rw [j5, nI_1]
        · rw [← he, eat_y ⟨by omega, h⟩]
  exact loop (n - a) a I rfl (Nat.le_refl _) ha (tkf_refl I) h6 h5 hE
/-- the tape's token is so -/
def tkS (I : Nat → Nat → Int32) (t : Lx) : Prop := I 13 5 = nI t.nx ∧ I 13 6 = nI t.at_ ∧ I 13 7 = t.tk ∧ (t.tk = 2 → I 13 8 = t.nm)
set_option maxHeartbeats 1000000 in
theorem c_advance (n p : Nat) (hn : n ≤ 160) (hp : p ≤ n) (h3 : I 13 3 = nI n) (h5 : I 13 5 = nI p) : gCtr E 7 0 0 nX5_advance [.ref 13] (wX c ln I L) (fun v u' => v = none ∧ ∃ I', u' = wX c ln I' L ∧ tkf I I' ∧ tkS I' (lex (I 14) n p)) := by
  refine gstart iX5_advance tX5_advance rfl rfl (fun K ca hK hca => ?_)
  obtain ⟨q1, q2, q3, q4⟩ := eat_spec (q := isBl) (b := I 14) (n := n) (n - p) p rfl
  have q2 := q2 hp
  obtain ⟨T, hT⟩ : ∃ T, lex (I 14) n p = T := ⟨_, rfl⟩
  rw [hT] at hK
  unfold lex at hT
  generalize hA : eat isBl (I 14) n p = a at *
  have tail2 : ∀ (J : Nat → Nat → Int32) (x : Option Value), tkf I J → J 13 5 = nI a → J 13 6 = nI a → K 0 0 56 [some (.ref 13), x] [] (wX c ln J L) := by
    intro J x hf j5 j6
    have j3 : J 13 3 = nI n := by rw [hf.2.1, h3]
    have h14 := hf.1 14 (by decide)
    refine hK [56] 80 _ _ _ _ _ _ ?_
    refine gbr_lt2 (x := J 13 6) (y := J 13 3) (n := a) (i := n) j6 j3 (by omega) (by omega) (fun h1 => ?_) (fun h1 => ?_)
    · simp only [if_neg (show ¬ n ≤ a by omega)] at hT
      have hcl : (J 13 6).toNatClampNeg = a := by rw [j6]; exact nI_clamp (by omega)
      refine gcall0 hca (c_isLetter E c ln J L a (by omega) (J 13 6) j6) rfl ?_
      rintro w u' - ⟨rfl, rfl⟩
      rw [h14]
      refine gbr_p (fun h2 => ?_) (fun h2 => ?_)
      · simp only [if_neg h2] at hT
        refine gcall0 hca (c_isDigit E c ln J L a (by omega) (J 13 6) j6) rfl ?_
        rintro w u' - ⟨rfl, rfl⟩
        rw [h14]
        refine gbr_p (fun h4 => ?_) (fun h4 => ?_)
        · simp only [if_neg h4] at hT
          refine gsd_i (gvp j6 (by omega) (by omega)) ?_
          refine gcall0 hca (c_isSign E c ln J L (J 14 (J 13 6).toNatClampNeg)) rfl ?_
          rintro w u' - ⟨rfl, rfl⟩
          rw [h14, hcl]
          refine gbr_p (fun h6 => ?_) (fun h6 => ?_)
          · subst hT
            refine ⟨rfl, _, rfl, tkf_trans hf (tkf_trans (tkf_set J (j := 7) (by decide) (by decide) 1) (tkf_set _ (j := 5) (by decide) (by decide) (J 13 6 + 1))), ?_, j6, ?_, fun z => ?_⟩
            · show J 13 6 + 1 = _
              rw [j6, nI_1]
            · show (1 : Int32) = _
              exact (if_neg h6).symm
            · exfalso
              have z' : (if isSg (I 14 a) = true then I 14 a else 1) = 2 := z
              rw [if_neg h6] at z'
              exact absurd z' (by decide)
          · subst hT
            refine gsd_i (gvp j6 (by omega) (by omega)) ?_
            refine ⟨rfl, _, rfl, tkf_trans hf (tkf_trans (tkf_set J (j := 7) (by decide) (by decide) (J 14 (J 13 6).toNatClampNeg)) (tkf_set _ (j := 5) (by decide) (by decide) (J 13 6 + 1))), ?_, j6, ?_, fun z => ?_⟩
            · show J 13 6 + 1 = _
              rw [j6, nI_1]
            · show J 14 (J 13 6).toNatClampNeg = _
              rw [h14, hcl]
              exact (if_pos h6).symm
            · exfalso
              have z' : (if isSg (I 14 a) = true then I 14 a else 1) = 2 := z
              rw [if_pos h6] at z'
              rw [z'] at h6
              exact absurd h6 (by decide)
        · simp only [if_pos h4] at hT
          refine gcall0 hca (c_takeNumber E c ln J L n a hn (by omega) j3 j5 j6) rfl ?_
          rintro w u' - ⟨rfl, J2, rfl, hf2, g6, g5, g7, g8⟩
          rw [h14] at g5 g7 g8
          subst hT
          exact ⟨rfl, J2, rfl, tkf_trans hf hf2, g5, g6, g7, fun _ => g8⟩
      · simp only [if_pos h2] at hT
        refine gcall0 hca (c_takeWord E c ln J L n a hn (by omega) j3 j5 j6) rfl ?_
        rintro w u' - ⟨rfl, J2, rfl, hf2, g6, g5, g7⟩
        rw [h14] at g5 g7
        subst hT
        refine ⟨rfl, J2, rfl, tkf_trans hf hf2, g5, g6, g7, fun z => ?_⟩
        exfalso
        have z' : wtk (sbl (I 14) a (eat isLt (I 14) n a)) 12 = 2 := z
        have := (wtk_le (l := sbl (I 14) a (eat isLt (I 14) n a)) 12 (Nat.le_refl _)).2
        rw [z'] at this
        exact absurd this (by decide)
    · simp only [if_pos h1] at hT
      subst hT
      refine ⟨rfl, _, rfl, tkf_trans hf (tkf_set J (j := 7) (by decide) (by decide) 0), j5, j6, rfl, fun z => absurd (show (0 : Int32) = 2 from z) (by decide)⟩
  have tail : ∀ (J : Nat → Nat → Int32) (x : Option Value), tkf I J → J 13 5 = nI a → K 0 0 48 [some (.ref 13), x] [] (wX c ln J L) := by
    intro J x hf j5
    refine hK [56] 80 _ _ _ _ _ _ ?_
    exact tail2 (gset J 13 (gupd (J 13) 6 (J 13 5))) x (tkf_trans hf (tkf_set J (j := 6) (by decide) (by decide) (J 13 5))) j5 j5
  have loop : ∀ (m p' : Nat) (J : Nat → Nat → Int32), n - p' = m → p ≤ p' → p' ≤ n → tkf I J → J 13 5 = nI p' → eat isBl (I 14) n p' = a → K 0 0 5 [some (.ref 13), some (.int (nI p'))] [] (wX c ln J L) := by
    intro m
    induction m with
    | zero =>
      intro p' J hm hp1 hp2 hf j5 he
      have hpe : p' = a := by rw [← he, eat_n (fun z => by have := z.1; omega)]
      refine hK [5, 48] 60 _ _ _ _ _ _ ?_
      refine gbr_lq (x := J 13 3) (y := nI p') (n := n) (i := p') (by rw [hf.2.1, h3]) rfl (by omega) (by omega) (fun _ => tail J _ hf (by rw [j5, hpe])) (fun z => by omega)
    | succ m ih =>
      intro p' J hm hp1 hp2 hf j5 he
      have h14 := hf.1 14 (by decide)
      have hcl : (nI p').toNatClampNeg = p' := nI_clamp (by omega)
      have hv : vp_in (nI p') 160 := vp_in_nI (by omega) (by omega)
      refine hK [5, 48, 35] 60 _ _ _ _ _ _ ?_
      refine gbr_lq (x := J 13 3) (y := nI p') (n := n) (i := p') (by rw [hf.2.1, h3]) rfl (by omega) (by omega) (fun z => by omega) (fun _ => ?_)
      have yes : isBl (I 14 p') = true → K 0 0 35 [some (.ref 13), some (.int (nI p'))] [] (wX c ln J L) := by
        intro hb
        refine hK [5] 60 _ _ _ _ _ _ ?_
        have := ih (p' + 1) (gset J 13 (gupd (J 13) 5 (nI p' + 1))) (by omega) (by omega) (by omega) (tkf_trans hf (tkf_set J (j := 5) (by decide) (by decide) (nI p' + 1))) (by show nI p' + 1 = _; rw [nI_1]) (by rw [← he, eat_y ⟨by omega, hb⟩])
        rw [← nI_1] at this
        exact this
      refine gsd_i hv ?_
      refine gbr_i (fun h => yes ?_) (fun h => ?_)
      · have h' : J 14 (nI p').toNatClampNeg = 32 := h
        rw [h14, hcl] at h'
        exact isBl_i.mpr (Or.inl h')
      · have h' : ¬ J 14 (nI p').toNatClampNeg = 32 := h
        rw [h14, hcl] at h'
        refine gsd_i hv (gbr_i (fun h2 => yes ?_) (fun h2 => ?_))
        · have h2' : J 14 (nI p').toNatClampNeg = 10 := h2
          rw [h14, hcl] at h2'
          exact isBl_i.mpr (Or.inr h2')
        · have h2' : ¬ J 14 (nI p').toNatClampNeg = 10 := h2
          rw [h14, hcl] at h2'
          have hpe : p' = a := by rw [← he, eat_n (fun z => (isBl_i.mp z.2).elim h' h2')]
          exact tail J _ hf (by rw [j5, hpe])
  refine hK [5] 60 _ _ _ _ _ _ ?_
  have := loop (n - p) p I rfl (Nat.le_refl _) hp (tkf_refl I) h5 hA
  rw [← h5] at this
  exact this
end
