-- the model's lexer: from 18, size 19, token 20 (0 end, 1 a word, 2 a number, 3 a sign, 4 none), tokenAt 21, tokenWorth L 22, here 23, open 24, bad 25, fault 26
def wcd (k : Nat) : Int64 := match k with
  | 0 => 10416334
  | 1 => 124995
  | 2 => 315743
  | 3 => 423
  | 4 => 1111
  | 5 => 10631
  | 6 => 8815221
  | 7 => 8740067
  | 8 => 10344947
  | 9 => 459652
  | 10 => 10502465
  | _ => 240023
def V27 (d : Nat → Nat) : Nat → Nat
  | 0 => 0
  | k + 1 => 27 * V27 d k + d k
theorem V27_inj {d e : Nat → Nat} : ∀ k m, (∀ j, j < k → 1 ≤ d j ∧ d j ≤ 26) → (∀ j, j < m → 1 ≤ e j ∧ e j ≤ 26) → V27 d k = V27 e m → k = m ∧ ∀ j, j < k → d j = e j := by
  intro k
  induction k with
  | zero =>
    intro m hd he h
    cases m with
    | zero => exact ⟨rfl, fun j hj => absurd hj (Nat.not_lt_zero _)⟩
    | succ m =>
      exfalso
      have h' : 0 = 27 * V27 e m + e m := h
      have := (he m (Nat.lt_succ_self _)).1
      omega
  | succ k ih =>
    intro m hd he h
    cases m with
    | zero =>
      exfalso
      have h' : 27 * V27 d k + d k = 0 := h
      have := (hd k (Nat.lt_succ_self _)).1
      omega
    | succ m =>
      have h' : 27 * V27 d k + d k = 27 * V27 e m + e m := h
      have h1 := hd k (Nat.lt_succ_self _)
      have h2 := he m (Nat.lt_succ_self _)
      have h3 : V27 d k = V27 e m := by omega
      obtain ⟨e1, e2⟩ := ih m (fun j hj => hd j (by omega)) (fun j hj => he j (by omega)) h3
      refine ⟨by omega, fun j hj => ?_⟩
      rcases Nat.lt_or_ge j k with q | q
      · exact e2 j q
      · have : j = k := by omega
        subst this
        have hdk : d j = e m := by omega
        rw [hdk, e1]
theorem V27_lt {d : Nat → Nat} : ∀ k, (∀ j, j < k → d j ≤ 26) → V27 d k < 27 ^ k := by
  intro k
  induction k with
  | zero => intro _; exact Nat.zero_lt_one
  | succ k ih =>
    intro h
    have h1 := ih (fun j hj => h j (by omega))
    have h2 := h k (Nat.lt_succ_self _)
    show 27 * V27 d k + d k < 27 ^ (k + 1)
    rw [Nat.pow_succ]
    omega
/-- the letters of word k, from 1 on -/
def wdg (k j : Nat) : Nat := ((gStrB.getD (k + 1) []).getD j 0).toNatClampNeg - 96
theorem wd_ok : ∀ k, k < 12 → (∀ j, j < (gStrB.getD (k + 1) []).length → 1 ≤ wdg k j ∧ wdg k j ≤ 26 ∧ (gStrB.getD (k + 1) []).getD j 0 = nI (wdg k j + 96)) ∧ wcd k = lN (V27 (wdg k) (gStrB.getD (k + 1) []).length) ∧ (gStrB.getD (k + 1) []).length ≤ 8 ∧ ¬ wcd k = -1 := by decide +kernel
/-- what a word of letters comes to -/
def whs (b : Nat → Int32) (a : Nat) : Nat → Int64
  | 0 => 0
  | k + 1 => if k < 8 then 27 * whs b a k + (b (a + k)).toInt64 - 96 else -1
theorem isLt_n {x : Int32} (h : isLt x = true) : ∃ v, 1 ≤ v ∧ v ≤ 26 ∧ x = nI (v + 96) := by
  have h := isLt_i.mp h
  obtain ⟨m, hm, rfl⟩ := nI_of2 (M := 122) (n := 122) rfl (x := x) (by intro z; have := h.1; clear h; (simp only [Int32.lt_iff_toInt_lt, Int32.le_iff_toInt_le, ← Int32.toInt_inj, Int32.reduceToInt] at *; omega)) h.2
  have h1 : 97 ≤ m := (nI_leI (a := 97) (by omega) (by omega)).mp h.1
  exact ⟨m - 96, by omega, by omega, by congr 1; omega⟩
theorem whs_V {b : Nat → Int32} {a : Nat} {d : Nat → Nat} : ∀ k, k ≤ 8 → (∀ j, j < k → b (a + j) = nI (d j + 96) ∧ d j ≤ 26) → whs b a k = lN (V27 d k) := by
  intro k
  induction k with
  | zero => intro _ _; rfl
  | succ k ih =>
    intro hk h
    have h1 := ih (by omega) (fun j hj => h j (by omega))
    have hb := h k (Nat.lt_succ_self _)
    have hlt : V27 d k < 27 ^ 8 := Nat.lt_of_lt_of_le (V27_lt k (fun j hj => (h j (by omega)).2)) (Nat.pow_le_pow_right (by decide) (by omega))
    have h27 : (27 : Nat) ^ 8 = 282429536481 := by decide
    show (if k < 8 then 27 * whs b a k + (b (a + k)).toInt64 - 96 else -1) = _
    rw [if_pos (by omega), h1, hb.1, nI_l (by omega)]
    rw [← Int64.toInt_inj]
    have hb2 := hb.2
    have e0 : (lN (V27 d (k + 1))).toInt = ((27 * V27 d k + d k : Nat) : Int) := pk_lT (show 27 * V27 d k + d k < 2 ^ 63 by omega)
    have e1 : (27 * lN (V27 d k)).toInt = 27 * (V27 d k : Int) := by
      rw [Int64.toInt_mul, show (27 : Int64).toInt = 27 from rfl, pk_lT (by omega), Int.bmod_eq_of_le (by omega) (by omega)]
    have e2 : (27 * lN (V27 d k) + lN (d k + 96)).toInt = 27 * (V27 d k : Int) + (d k + 96 : Nat) := by
      rw [Int64.toInt_add, e1, pk_lT (by omega), Int.bmod_eq_of_le (by omega) (by omega)]
    rw [Int64.toInt_sub, e2, e0, show (96 : Int64).toInt = 96 from rfl, Int.bmod_eq_of_le (by omega) (by omega)]
    omega
theorem whs_big {b : Nat → Int32} {a k : Nat} (h : 8 < k) : whs b a k = -1 := by
  obtain ⟨j, rfl⟩ : ∃ j, k = j + 1 := ⟨k - 1, by omega⟩
  exact if_neg (by omega)
/-- the model's number of a word is that of its letters -/
theorem whs_word {b : Nat → Int32} {a e : Nat} (hae : a ≤ e) (hl : ∀ j, a ≤ j → j < e → isLt (b j) = true) {k : Nat} (hk : k < 12) : whs b a (e - a) = wcd k ↔ gStrB.getD (k + 1) [] = sbl b a e := by
  obtain ⟨w1, w2, w3, w4⟩ := wd_ok k hk
  have hd : ∀ j, j < e - a → ∃ v, 1 ≤ v ∧ v ≤ 26 ∧ b (a + j) = nI (v + 96) := fun j hj => isLt_n (hl (a + j) (by omega) (by omega))
  obtain ⟨d, hd⟩ : ∃ d : Nat → Nat, ∀ j, j < e - a → 1 ≤ d j ∧ d j ≤ 26 ∧ b (a + j) = nI (d j + 96) := by
    refine ⟨fun j => if h : j < e - a then (hd j h).choose else 0, fun j hj => ?_⟩
    simp only [dif_pos hj]
    exact (hd j hj).choose_spec
  rw [sbl_eq]
  constructor
  · intro h
    have h8 : e - a ≤ 8 := by
      rcases Nat.lt_or_ge 8 (e - a) with q | q
      · rw [whs_big q] at h; exact absurd h.symm w4
      · exact q
    rw [whs_V (d := d) _ h8 (fun j hj => ⟨(hd j hj).2.2, (hd j hj).2.1⟩), w2] at h
    have b1 : V27 d (e - a) < 27 ^ 8 := Nat.lt_of_lt_of_le (V27_lt _ (fun j hj => (hd j hj).2.1)) (Nat.pow_le_pow_right (by decide) h8)
    have b2 : V27 (wdg k) (gStrB.getD (k + 1) []).length < 27 ^ 8 := Nat.lt_of_lt_of_le (V27_lt _ (fun j hj => (w1 j hj).2.1)) (Nat.pow_le_pow_right (by decide) w3)
    have h27 : (27 : Nat) ^ 8 = 282429536481 := by decide
    have h' := congrArg Int64.toInt h
    rw [pk_lT (by omega), pk_lT (by omega)] at h'
    obtain ⟨c1, c2⟩ := V27_inj _ _ (fun j hj => ⟨(hd j hj).1, (hd j hj).2.1⟩) (fun j hj => ⟨(w1 j hj).1, (w1 j hj).2.1⟩) (Int.ofNat_inj.mp h')
    refine ⟨c1.symm, fun j hj => ?_⟩
    have hj' : j < e - a := by omega
    rw [(w1 j hj).2.2, (hd j hj').2.2, c2 j hj']
  · rintro ⟨c1, c2⟩
    rw [w2, whs_V (d := wdg k) _ (by omega) (fun j hj => ⟨?_, (w1 j (by omega)).2.1⟩), c1]
    rw [← c2 j (by omega)]
    exact (w1 j (by omega)).2.2
theorem wd_ne : ∀ k, k < 12 → ∀ j, j < 12 → gStrB.getD (k + 1) [] = gStrB.getD (j + 1) [] → k = j := by decide +kernel
theorem wtk_iff {l : List Int32} : ∀ n, n ≤ 12 → ∀ k, k < n → (wtk l n = 128 + nI k ↔ gStrB.getD (k + 1) [] = l) := by
  intro n
  induction n with
  | zero => intro _ k hk; exact absurd hk (Nat.not_lt_zero _)
  | succ n ih =>
    intro hn k hk
    have e128 : ∀ j, (128 : Int32) + nI j = nI (128 + j) := fun j => by rw [show (128 : Int32) = nI 128 from rfl, nI_add]
    show (if gStrB.getD (n + 1) [] = l then 128 + nI n else wtk l n) = 128 + nI k ↔ _
    by_cases h : gStrB.getD (n + 1) [] = l
    · rw [if_pos h, e128, e128, nI_eq (by omega) (by omega)]
      constructor
      · intro z
        have : n = k := by omega
        subst this; exact h
      · intro z
        have := wd_ne n (by omega) k (by omega) (h.trans z.symm)
        omega
    · rw [if_neg h]
      rcases Nat.lt_or_ge k n with q | q
      · exact ih (by omega) k q
      · have hkn : k = n := by omega
        subst hkn
        refine ⟨fun z => ?_, fun z => absurd z h⟩
        exfalso
        have key : ∀ m, m ≤ k → wtk l m ≠ 128 + nI k := by
          intro m
          induction m with
          | zero => intro _ z; rw [e128] at z; have := (nI_eq (a := 1) (by omega) (by omega)).mp z; omega
          | succ m ihm =>
            intro hm z
            have z' : (if gStrB.getD (m + 1) [] = l then 128 + nI m else wtk l m) = 128 + nI k := z
            by_cases h2 : gStrB.getD (m + 1) [] = l
            · rw [if_pos h2, e128, e128, nI_eq (by omega) (by omega)] at z'; omega
            · rw [if_neg h2] at z'; exact ihm (by omega) z'
        exact key k (Nat.le_refl _) z
/-- a number as the model has it -/
def mnv (b : Nat → Int32) (a : Nat) : Nat → Int64
  | 0 => 0
  | k + 1 => if k < 4 then 10 * mnv b a k + (b (a + k)).toInt64 - 48 else mnv b a k
theorem mnv_v {b : Nat → Int32} {a : Nat} : ∀ k, k ≤ 4 → (∀ j, a ≤ j → j < a + k → isDg (b j) = true) → ∃ v, v < 10 ^ k ∧ mnv b a k = lN v ∧ nvl b a k = nI v := by
  intro k
  induction k with
  | zero => intro _ _; exact ⟨0, by decide, rfl, rfl⟩
  | succ k ih =>
    intro hk h
    obtain ⟨v, hv, he, he2⟩ := ih (by omega) (fun j h1 h2 => h j h1 (by omega))
    have hd := isDg_i.mp (h (a + k) (by omega) (by omega))
    obtain ⟨m, hm, hb⟩ := nI_of2 (M := 57) (n := 57) rfl (x := b (a + k)) (by intro z; have := hd.1; clear he he2 h ih hd; (simp only [Int32.lt_iff_toInt_lt, Int32.le_iff_toInt_le, ← Int32.toInt_inj, Int32.reduceToInt] at *; omega)) hd.2
    have hm48 : 48 ≤ m := by
      have := hd.1
      rw [hb, show (48 : Int32) = nI 48 from rfl, nI_leI (by omega) (by omega)] at this
      exact this
    have h10 : (10 : Nat) ^ k ≤ 10 ^ 4 := Nat.pow_le_pow_right (by decide) (by omega)
    have h104 : (10 : Nat) ^ 4 = 10000 := by decide
    refine ⟨v * 10 + (m - 48), ?_, ?_, ?_⟩
    · rw [Nat.pow_succ]; omega
    · show (if k < 4 then 10 * mnv b a k + (b (a + k)).toInt64 - 48 else mnv b a k) = _
      rw [if_pos (by omega), he, hb, nI_l (by omega), ← Int64.toInt_inj]
      have e1 : (10 * lN v).toInt = 10 * (v : Int) := by
        rw [Int64.toInt_mul, show (10 : Int64).toInt = 10 from rfl, pk_lT (by omega), Int.bmod_eq_of_le (by omega) (by omega)]
      have e2 : (10 * lN v + lN m).toInt = 10 * (v : Int) + (m : Nat) := by
        rw [Int64.toInt_add, e1, pk_lT (by omega), Int.bmod_eq_of_le (by omega) (by omega)]
      rw [Int64.toInt_sub, e2, show (48 : Int64).toInt = 48 from rfl, Int.bmod_eq_of_le (by omega) (by omega), pk_lT (by omega)]
      omega
    · show nvl b a k * 10 + b (a + k) - 48 = _
      rw [he2, hb, show (10 : Int32) = nI 10 from rfl, show (48 : Int32) = nI 48 from rfl, pk_mul, nI_add, pk_sub (by omega)]
      congr 1
      omega
/-- the model's token is so -/
def mtS (I : Nat → Nat → Int32) (L : Nat → Nat → Int64) (t : Lx) : Prop :=
  I 0 21 = nI t.at_ ∧ (t.tk ≠ 1 → I 0 23 = nI t.nx) ∧ (∀ k, k < 12 → ((I 0 20 = 1 ∧ L 0 22 = wcd k) ↔ t.tk = 128 + nI k)) ∧
  (∀ s, isSg s = true → ((I 0 20 = 3 ∧ L 0 22 = s.toInt64) ↔ t.tk = s)) ∧ (I 0 20 = 2 ↔ t.tk = 2) ∧ (t.tk = 2 → (L 0 22).toInt32 = t.nm) ∧ (I 0 20 = 0 ↔ t.tk = 0)
/-- the text that is read: text x, of n bytes b -/
def mtx (I : Nat → Nat → Int32) (b : Nat → Int32) (x n : Nat) : Prop := I 0 18 = nI (160 * x) ∧ I 0 19 = nI n ∧ n ≤ 160 ∧ x ≤ 5 ∧ ∀ j, j < n → I 1 (160 * x + j) = b j ∧ 0 ≤ b j
/-- nothing but the token has changed -/
def mkf (I I' : Nat → Nat → Int32) (L L' : Nat → Nat → Int64) : Prop := (∀ k, k ≠ 0 → I' k = I k) ∧ (∀ j, j ≠ 20 → j ≠ 21 → j ≠ 23 → I' 0 j = I 0 j) ∧ (∀ k, k ≠ 0 → L' k = L k) ∧ ∀ j, j ≠ 22 → L' 0 j = L 0 j
theorem mkf_refl (I : Nat → Nat → Int32) (L : Nat → Nat → Int64) : mkf I I L L := ⟨fun _ _ => rfl, fun _ _ _ _ => rfl, fun _ _ => rfl, fun _ _ => rfl⟩
theorem mkf_trans {I J H : Nat → Nat → Int32} {L M N : Nat → Nat → Int64} (h1 : mkf I J L M) (h2 : mkf J H M N) : mkf I H L N :=
  ⟨fun k a => (h2.1 k a).trans (h1.1 k a), fun j a b d => (h2.2.1 j a b d).trans (h1.2.1 j a b d), fun k a => (h2.2.2.1 k a).trans (h1.2.2.1 k a), fun j a => (h2.2.2.2 j a).trans (h1.2.2.2 j a)⟩
theorem mkf_I {I : Nat → Nat → Int32} {L : Nat → Nat → Int64} {j : Nat} (hj : j = 20 ∨ j = 21 ∨ j = 23) (x : Int32) : mkf I (gset I 0 (gupd (I 0) j x)) L L :=
  ⟨fun k a => gset_n a, fun i a b d => by rw [gset_s, gupd_n (by omega)], fun _ _ => rfl, fun _ _ => rfl⟩
theorem mkf_L {I : Nat → Nat → Int32} {L : Nat → Nat → Int64} (x : Int64) : mkf I I L (gset L 0 (gupd (L 0) 22 x)) :=
  ⟨fun _ _ => rfl, fun _ _ _ _ => rfl, fun k a => gset_n a, fun i a => by rw [gset_s, gupd_n a]⟩
theorem mtx_mkf {I J : Nat → Nat → Int32} {L M : Nat → Nat → Int64} {b : Nat → Int32} {x n : Nat} (h : mtx I b x n) (hf : mkf I J L M) : mtx J b x n :=
  ⟨(hf.2.1 18 (by decide) (by decide) (by decide)).trans h.1, (hf.2.1 19 (by decide) (by decide) (by decide)).trans h.2.1, h.2.2.1, h.2.2.2.1, fun j hj => by rw [hf.1 1 (by decide)]; exact h.2.2.2.2 j hj⟩
section
variable (E : gEnv) (I : Nat → Nat → Int32) (L : Nat → Nat → Int64)
theorem m_byteAt (b : Nat → Int32) (x n p : Nat) (ht : mtx I b x n) (hp : p ≤ n) (y : Int32) (hy : y = nI p) : gCtr E 1 0 0 nX10_byteAt [.ref 0, .int y] (wM I L) (fun v u' => u' = (wM I L) ∧ v = some (.int (if p < n then b p else -1))) := by
  subst hy
  obtain ⟨t1, t2, t3, t4, t5⟩ := ht
  refine gstart iX10_byteAt tX10_byteAt rfl rfl (fun K ca hK hca => ?_)
  refine hK [] 80 _ _ _ _ _ _ ?_
  clear hK
  refine gbr_lq (x := I 0 19) (y := nI p) (n := n) (i := p) t2 rfl (by omega) (by omega) (fun h => ?_) (fun h => ?_)
  · rw [if_neg (by omega)]; exact ⟨rfl, rfl⟩
  · have e : I 0 18 + nI p = nI (160 * x + p) := by rw [t1, nI_add]
    have hv : vp_in (I 0 18 + nI p) 960 := by rw [e]; exact vp_in_nI (by omega) (by omega)
    refine gsd_i hv ⟨rfl, ?_⟩
    rw [if_pos h]
    show some (Value.int (I 1 (I 0 18 + nI p).toNatClampNeg)) = _
    rw [e, nI_clamp (by omega), (t5 p h).1]
end
