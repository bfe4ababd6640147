/-- a feed's byte i -/
def fby (b : Int64) (i : Nat) : Int32 := ((b >>> (((8 : Int32) * nI i).toInt64 &&& 63)).toInt32).toInt8.toInt32
/-- the tape's bytes with i more from place tp on -/
def fdb (f : Nat → Int32) (tp : Nat) (b : Int64) : Nat → Nat → Int32
  | 0 => f
  | i + 1 => gupd (fdb f tp b i) (tp + i) (fby b i)
def fdI (I : Nat → Nat → Int32) (tp : Nat) (b : Int64) (i : Nat) : Nat → Nat → Int32 := gset (gset I 14 (fdb (I 14) tp b i)) 13 (gupd (I 13) 3 (nI (tp + i)))
theorem gset2 {α : Type} (I : Nat → Nat → α) {a b : Nat} (h : a ≠ b) (f g f' g' : Nat → α) : gset (gset (gset (gset I a f) b g) a f') b g' = gset (gset I a f') b g' := by
  funext k
  by_cases hb : k = b
  · subst hb; rw [gset_s, gset_s]
  · rw [gset_n hb, gset_n hb]
    by_cases ha : k = a
    · subst ha; rw [gset_s, gset_s]
    · rw [gset_n ha, gset_n hb, gset_n ha, gset_n ha]
theorem gupd_gupd {α : Type} (f : Nat → α) (j : Nat) (v w : α) : gupd (gupd f j v) j w = gupd f j w := by
  funext q
  by_cases h : q = j
  · subst h; rw [gupd_s, gupd_s]
  · rw [gupd_n h, gupd_n h, gupd_n h]
theorem fdI_s (I : Nat → Nat → Int32) (tp : Nat) (b : Int64) (i : Nat) : fdI I tp b (i + 1) = gset (gset (fdI I tp b i) 14 (gupd (fdI I tp b i 14) (tp + i) (fby b i))) 13 (gupd (fdI I tp b i 13) 3 (nI (tp + i) + 1)) := by
  unfold fdI
  rw [gset2 _ (by decide)]
  rw [gset_s, gset_n (show 14 ≠ 13 by decide), gset_s, gupd_gupd, nI_1]
  rfl
section
variable (E : gEnv) (c : Nat) (ln : Nat → Nat) (I : Nat → Nat → Int32) (L : Nat → Nat → Int64)
theorem c_room : gCtr E 1 0 0 nX5_room [.ref 13] (wX c ln I L) (fun v u' => u' = (wX c ln I L) ∧ v = some (.int (160 - I 13 3))) := by
  refine gstart iX5_room tX5_room rfl rfl (fun K ca hK hca => ?_)
  refine hK [] 80 _ _ _ _ _ _ ?_
  clear hK
  exact ⟨rfl, rfl⟩
theorem c_empty : gCtr E 1 0 0 nX5_empty [.ref 13] (wX c ln I L) (fun v u' => u' = (wX c ln (gset I 13 (gupd (I 13) 3 0)) L) ∧ v = none) := by
  refine gstart iX5_empty tX5_empty rfl rfl (fun K ca hK hca => ?_)
  refine hK [] 80 _ _ _ _ _ _ ?_
  clear hK
  exact ⟨rfl, rfl⟩
theorem c_tput (x : Int32) (tp : Nat) (htp : tp < 160) (hs : I 13 3 = nI tp) : gCtr E 1 0 0 nX5_put [.ref 13, .int x.toInt8.toInt32] (wX c ln I L) (fun v u' => u' = (wX c ln (gset (gset I 14 (gupd (I 14) tp x.toInt8.toInt32)) 13 (gupd (I 13) 3 (nI tp + 1))) L) ∧ v = none) := by
  refine gstart iX5_put tX5_put rfl rfl (fun K ca hK hca => ?_)
  refine hK [] 80 _ _ _ _ _ _ ?_
  clear hK
  refine gbr_i (fun z => ?_) (fun _ => ?_)
  · have z1 : (160 : Int32) ≤ I 13 3 := z
    rw [hs, show (160 : Int32) = nI 160 from rfl] at z1
    exact absurd z1 (nI_ge htp (by omega))
  · have hv : vp_in (I 13 3) 160 := gvp hs htp (by omega)
    refine gsd_i hv ⟨?_, rfl⟩
    have hcl : (I 13 3).toNatClampNeg = tp := by rw [hs]; exact nI_clamp (by omega)
    show wX c ln (gset (gset I 14 (gupd (I 14) (I 13 3).toNatClampNeg (vp_nar .byte x.toInt8.toInt32))) 13 (gupd (I 13) 3 (I 13 3 + 1))) L = _
    rw [pk_vb, hcl, hs]
def feedX (I : Nat → Nat → Int32) (n : Int32) (b : Int64) (tp : Nat) : Int32 × (Nat → Nat → Int32) :=
  if 1 ≤ n ∧ n ≤ 8 then (if 160 - I 13 3 < n then (-4, I) else (nI (tp + n.toNatClampNeg), fdI I tp b n.toNatClampNeg)) else (-2, I)
theorem p_feed (n : Int32) (b : Int64) (tp : Nat) (htp : tp ≤ 160) (hs : I 13 3 = nI tp) : gCtr E 3 0 0 nX9_feed [.ref 0, .int n, .long b] (wX c ln I L) (fun w u' => u' = (wX c ln (feedX I n b tp).2 L) ∧ w = some (.int (feedX I n b tp).1)) := by
  refine gstart iX9_feed tX9_feed rfl rfl (fun K ca hK hca => ?_)
  refine hK [31] 60 _ _ _ _ _ _ ?_
  unfold feedX
  refine gbr_i (fun h1 => ?_) (fun h1 => ?_)
  · rw [if_neg (by clear hca hs hK; (simp only [Int32.lt_iff_toInt_lt, Int32.le_iff_toInt_le, ← Int32.toInt_inj, Int32.reduceToInt] at *; omega))]; exact ⟨rfl, rfl⟩
  refine gbr_i (fun h2 => ?_) (fun h2 => ?_)
  · have good : 1 ≤ n ∧ n ≤ 8 := by clear hca hs hK; (simp only [Int32.lt_iff_toInt_lt, Int32.le_iff_toInt_le, ← Int32.toInt_inj, Int32.reduceToInt] at *; omega)
    refine gcall0 hca (c_room E c ln I L) rfl ?_
    rintro w u' - ⟨rfl, rfl⟩
    refine gbr_i (fun h3 => ?_) (fun h3 => ?_)
    · have hfit : ¬ 160 - I 13 3 < n := by clear hca hs hK; (simp only [Int32.lt_iff_toInt_lt, Int32.le_iff_toInt_le, ← Int32.toInt_inj, Int32.reduceToInt] at *; omega)
      obtain ⟨m, hm, rfl⟩ := nI_of2 (M := 8) (n := 8) rfl (x := n) (by clear hca hs hK hfit h3; (simp only [Int32.lt_iff_toInt_lt, Int32.le_iff_toInt_le, ← Int32.toInt_inj, Int32.reduceToInt] at *; omega)) h2
      have hcl : (nI m).toNatClampNeg = m := nI_clamp (by omega)
      have hroom : tp + m ≤ 160 := by
        rw [hs, show (160 : Int32) = nI 160 from rfl, pk_sub htp] at hfit
        rcases Nat.lt_or_ge (160 - tp) m with q | q
        · exact absurd (nI_lt q (by omega)) hfit
        · omega
      have loop := gloop (P := fun i => K 0 0 31 [some (.ref 0), some (.int (nI m)), some (.long b), none, some (.int (nI i))] [] (wX c ln (fdI I tp b i) L)) (n := m) (by
        refine hK [31] 60 _ _ _ _ _ _ ?_
        refine gbr_lp rfl (by omega) (Nat.le_refl _) (fun _ => ?_) (fun z => absurd z (Nat.lt_irrefl _))
        have hfx : feedX I (nI m) b tp = (nI (tp + m), fdI I tp b m) := by unfold feedX; rw [if_pos good, if_neg hfit, hcl]
        rw [hfx]
        exact ⟨rfl, rfl⟩) (by
        intro i hi ih
        refine hK [31] 60 _ _ _ _ _ _ ?_
        refine gbr_lp rfl (by omega) (by omega) (fun e => by omega) (fun _ => ?_)
        refine gcall0 hca (c_tput E c ln (fdI I tp b i) L ((b >>> (((8 : Int32) * nI i).toInt64 &&& 63)).toInt32) (tp + i) (by omega) rfl) rfl ?_
        rintro w u' - ⟨rfl, rfl⟩
        rw [fdI_s, ← nI_1] at ih
        exact ih)
      have h0 : fdI I tp b 0 = I := by
        unfold fdI
        show gset (gset I 14 (I 14)) 13 (gupd (I 13) 3 (nI tp)) = I
        rw [gset_self, ← hs]
        funext k j
        by_cases hk : k = 13
        · subst hk
          rw [gset_s]
          by_cases hj : j = 3
          · subst hj; rw [gupd_s]
          · rw [gupd_n hj]
        · rw [gset_n hk]
      have := loop 0 (Nat.zero_le _)
      rw [h0] at this
      exact this
    · rw [if_pos good, if_pos (by clear hca hs hK; (simp only [Int32.lt_iff_toInt_lt, Int32.le_iff_toInt_le, ← Int32.toInt_inj, Int32.reduceToInt] at *; omega))]; exact ⟨rfl, rfl⟩
  · rw [if_neg (by clear hca hs hK; (simp only [Int32.lt_iff_toInt_lt, Int32.le_iff_toInt_le, ← Int32.toInt_inj, Int32.reduceToInt] at *; omega))]; exact ⟨rfl, rfl⟩
-- IMAGE: cell 28 (count 3, rule 4, is 5), power 29, store 30, filmed L 31
theorem p_image (nr : Nat) (hnr : nr ≤ 12) (hc : I 6 6 = nI nr) : gCtr E 3 0 0 nX9_image [.ref 0] (wX c ln I L) (fun w u' => w = some (.int (nI nr)) ∧ ∃ I' L', u' = (wX c ln I' L') ∧ (I' 28 5 = 1 ∧ I' 28 3 = nI nr ∧ I' 28 4 = I 17 6) ∧ I' 29 = va_cpy (I 10) (I 29) 0 0 nr ∧ I' 30 = va_cpy (I 11) (I 30) 0 0 nr ∧ L' 31 = va_cpy (L 12) (L 31) 0 0 nr ∧ (∀ k, k ≠ 28 → k ≠ 29 → k ≠ 30 → I' k = I k) ∧ ∀ k, k ≠ 31 → L' k = L k) := by
  have hcl : (I 6 6).toNatClampNeg = nr := by rw [hc]; exact nI_clamp (by omega)
  have hcp : (¬ (0 : Int32) < 0) ∧ (¬ (0 : Int32) < 0) ∧ (¬ I 6 6 < 0) ∧ (0 : Int32).toNatClampNeg + (I 6 6).toNatClampNeg ≤ 12 ∧ (0 : Int32).toNatClampNeg + (I 6 6).toNatClampNeg ≤ 12 := by
    rw [hcl]; refine ⟨by decide, by decide, ?_, ?_, ?_⟩
    · rw [hc]; exact nI_pos (by omega)
    · show 0 + nr ≤ 12; omega
    · show 0 + nr ≤ 12; omega
  have keep : gCtr E 2 0 0 nX0_keep [.ref 28, .ref 6, .ref 17] (wX c ln I L) (fun w u' => w = none ∧ ∃ I' L', u' = (wX c ln I' L') ∧ (I' 28 5 = 1 ∧ I' 28 3 = nI nr ∧ I' 28 4 = I 17 6) ∧ I' 29 = va_cpy (I 10) (I 29) 0 0 nr ∧ I' 30 = va_cpy (I 11) (I 30) 0 0 nr ∧ L' 31 = va_cpy (L 12) (L 31) 0 0 nr ∧ (∀ k, k ≠ 28 → k ≠ 29 → k ≠ 30 → I' k = I k) ∧ ∀ k, k ≠ 31 → L' k = L k) := by
    refine gstart iX0_keep tX0_keep rfl rfl (fun K ca hK hca => ?_)
    refine hK [] 80 _ _ _ _ _ _ ?_
    clear hK
    refine gsd_i (Or.inr rfl) (gsd_i hcp (gsd_i hcp (gsd_i hcp ?_)))
    refine ⟨rfl, _, _, rfl, ⟨rfl, hc, rfl⟩, ?_, ?_, ?_, fun k h1 h2 h3 => ?_, fun k h1 => ?_⟩
    · show va_cpy (I 10) (I 29) 0 0 (I 6 6).toNatClampNeg = _; rw [hcl]
    · show va_cpy (I 11) (I 30) 0 0 (I 6 6).toNatClampNeg = _; rw [hcl]
    · show va_cpy (L 12) (L 31) 0 0 (I 6 6).toNatClampNeg = _; rw [hcl]
    · dsimp only; rw [gset_n h3, gset_n h2, gset_n h1, gset_n h1, gset_n h1]
    · dsimp only; rw [gset_n h1]
  refine gstart iX9_image tX9_image rfl rfl (fun K ca hK hca => ?_)
  refine hK [] 80 _ _ _ _ _ _ ?_
  clear hK
  refine gcall0 hca keep rfl ?_
  rintro w u' - ⟨rfl, I', L', rfl, h1, h2, h3, h4, h5, h6⟩
  refine ⟨?_, I', L', rfl, h1, h2, h3, h4, h5, h6⟩
  show some (Value.int (I' 6 6)) = _
  rw [h5 6 (by decide) (by decide) (by decide), hc]
theorem p_back (ic : Nat) (hic : ic ≤ 12) (hc : I 28 3 = nI ic) : gCtr E 3 0 0 nX9_back [.ref 0] (wX c ln I L) (fun w u' => (I 28 5 = 0 ∧ w = some (.int (-3)) ∧ u' = (wX c ln I L)) ∨ (¬ I 28 5 = 0 ∧ w = some (.int (I 6 6)) ∧ ∃ I' L', u' = (wX c ln I' L') ∧ (I' 17 6 = I 28 4 ∧ ∀ j, j ≠ 6 → I' 17 j = I 17 j) ∧ I' 10 = va_cpy (I 29) (I 10) 0 0 ic ∧ I' 11 = va_cpy (I 30) (I 11) 0 0 ic ∧ L' 12 = va_cpy (L 31) (L 12) 0 0 ic ∧ (∀ k, k ≠ 17 → k ≠ 10 → k ≠ 11 → I' k = I k) ∧ ∀ k, k ≠ 12 → L' k = L k)) := by
  have hcl : (I 28 3).toNatClampNeg = ic := by rw [hc]; exact nI_clamp (by omega)
  have hcp : (¬ (0 : Int32) < 0) ∧ (¬ (0 : Int32) < 0) ∧ (¬ I 28 3 < 0) ∧ (0 : Int32).toNatClampNeg + (I 28 3).toNatClampNeg ≤ 12 ∧ (0 : Int32).toNatClampNeg + (I 28 3).toNatClampNeg ≤ 12 := by
    rw [hcl]; refine ⟨by decide, by decide, ?_, ?_, ?_⟩
    · rw [hc]; exact nI_pos (by omega)
    · show 0 + ic ≤ 12; omega
    · show 0 + ic ≤ 12; omega
  have lay : gCtr E 2 0 0 nX0_layBack [.ref 28, .ref 6, .ref 17] (wX c ln I L) (fun w u' => w = none ∧ ∃ I' L', u' = (wX c ln I' L') ∧ (I' 17 6 = I 28 4 ∧ ∀ j, j ≠ 6 → I' 17 j = I 17 j) ∧ I' 10 = va_cpy (I 29) (I 10) 0 0 ic ∧ I' 11 = va_cpy (I 30) (I 11) 0 0 ic ∧ L' 12 = va_cpy (L 31) (L 12) 0 0 ic ∧ (∀ k, k ≠ 17 → k ≠ 10 → k ≠ 11 → I' k = I k) ∧ ∀ k, k ≠ 12 → L' k = L k) := by
    refine gstart iX0_layBack tX0_layBack rfl rfl (fun K ca hK hca => ?_)
    refine hK [] 80 _ _ _ _ _ _ ?_
    clear hK
    refine gsd_i hcp (gsd_i hcp (gsd_i hcp ?_))
    refine ⟨rfl, _, _, rfl, ⟨rfl, fun j hj => ?_⟩, ?_, ?_, ?_, fun k h1 h2 h3 => ?_, fun k h1 => ?_⟩
    · show gupd (I 17) 6 (I 28 4) j = I 17 j; rw [gupd_n hj]
    · show va_cpy (I 29) (I 10) 0 0 (I 28 3).toNatClampNeg = _; rw [hcl]
    · show va_cpy (I 30) (I 11) 0 0 (I 28 3).toNatClampNeg = _; rw [hcl]
    · show va_cpy (L 31) (L 12) 0 0 (I 28 3).toNatClampNeg = _; rw [hcl]
    · dsimp only; rw [gset_n h3, gset_n h2, gset_n h1]
    · dsimp only; rw [gset_n h1]
  refine gstart iX9_back tX9_back rfl rfl (fun K ca hK hca => ?_)
  refine hK [] 80 _ _ _ _ _ _ ?_
  clear hK
  refine gbr_i (fun h => ?_) (fun h => ?_)
  · exact Or.inl ⟨h, rfl, rfl⟩
  · refine gcall0 hca lay rfl ?_
    rintro w u' - ⟨rfl, I', L', rfl, h1, h2, h3, h4, h5, h6⟩
    refine Or.inr ⟨h, ?_, I', L', rfl, h1, h2, h3, h4, h5, h6⟩
    show some (Value.int (I' 6 6)) = _
    rw [h5 6 (by decide) (by decide) (by decide)]
-- whether calls are asked rightly
theorem c_isSeat (r t p : Int32) : gCtr E 2 0 0 nX9_isSeat [.ref 0, .int r, .int t, .int p] (wX c ln I L) (fun v u' => u' = (wX c ln I L) ∧ v = some (.int (if (0 ≤ r ∧ r < I 6 6) ∧ (0 ≤ t ∧ t < I 1 4) ∧ 0 ≤ p ∧ p < 12 then 1 else 0))) := by
  refine gstart iX9_isSeat tX9_isSeat rfl rfl (fun K ca hK hca => ?_)
  refine hK [] 80 _ _ _ _ _ _ ?_
  clear hK
  refine gcall0 hca (c_thas E c ln I L r) rfl ?_
  rintro w u' - ⟨rfl, rfl⟩
  refine gbr_p (fun h1 => gsd_i (Or.inl rfl) (gz0 (fun z => h1 z.1))) (fun h1 => ?_)
  refine gcall0 hca (c_has E c ln I L t) rfl ?_
  rintro w u' - ⟨rfl, rfl⟩
  refine gbr_p (fun h2 => gsd_i (Or.inl rfl) (gz0 (fun z => h2 z.2.1))) (fun h2 => ?_)
  repeat' refine gbr_i (fun _ => ?_) (fun _ => ?_)
  all_goals clear hca
  all_goals first
    | exact gsd_i (Or.inl rfl) (gz0 (by (simp only [Int32.lt_iff_toInt_lt, Int32.le_iff_toInt_le, ← Int32.toInt_inj, Int32.reduceToInt] at *; omega)))
    | exact gsd_i (Or.inr rfl) (gz1 (by (simp only [Int32.lt_iff_toInt_lt, Int32.le_iff_toInt_le, ← Int32.toInt_inj, Int32.reduceToInt] at *; omega)))
theorem c_isRide (g t : Int32) : gCtr E 3 0 0 nX9_isRide [.ref 0, .int g, .int t] (wX c ln I L) (fun v u' => u' = (wX c ln I L) ∧ v = some (.int (if (0 < g ∧ g >>> (I 6 6 &&& 31) = 0) ∧ (0 ≤ t ∧ t / 100 ≤ t - t / 100 * 100 ∧ t - t / 100 * 100 < I 1 4) then 1 else 0))) := by
  refine gstart iX9_isRide tX9_isRide rfl rfl (fun K ca hK hca => ?_)
  refine hK [] 80 _ _ _ _ _ _ ?_
  clear hK
  refine gcall0 hca (c_isGroup E c ln I L g) rfl ?_
  rintro w u' - ⟨rfl, rfl⟩
  refine gbr_p (fun h1 => gsd_i (Or.inl rfl) (gz0 (fun z => h1 z.1))) (fun h1 => ?_)
  refine gcall0 hca (c_isSpan E c ln I L t) rfl ?_
  rintro w u' - ⟨rfl, rfl⟩
  exact gbr_p (fun h2 => gsd_i (Or.inl rfl) (gz0 (fun z => h2 z.2))) (fun h2 => gsd_i (Or.inr rfl) (gz1 ⟨h1, h2⟩))
theorem c_isChase (g o t gap : Int32) : gCtr E 4 0 0 nX9_isChase [.ref 0, .int g, .int o, .int t, .int gap] (wX c ln I L) (fun v u' => u' = (wX c ln I L) ∧ v = some (.int (if ((0 < g ∧ g >>> (I 6 6 &&& 31) = 0) ∧ (0 ≤ t ∧ t / 100 ≤ t - t / 100 * 100 ∧ t - t / 100 * 100 < I 1 4)) ∧ (0 < o ∧ o >>> (I 6 6 &&& 31) = 0) ∧ g &&& o = 0 ∧ 0 ≤ gap ∧ gap ≤ 9999 then 1 else 0))) := by
  refine gstart iX9_isChase tX9_isChase rfl rfl (fun K ca hK hca => ?_)
  refine hK [] 80 _ _ _ _ _ _ ?_
  clear hK
  refine gcall0 hca (c_isRide E c ln I L g t) rfl ?_
  rintro w u' - ⟨rfl, rfl⟩
  refine gbr_p (fun h1 => gsd_i (Or.inl rfl) (gz0 (fun z => h1 z.1))) (fun h1 => ?_)
  refine gcall0 hca (c_isGroup E c ln I L o) rfl ?_
  rintro w u' - ⟨rfl, rfl⟩
  refine gbr_p (fun h2 => gsd_i (Or.inl rfl) (gz0 (fun z => h2 z.2.1))) (fun h2 => ?_)
  refine gbr_i (fun h3 => ?_) (fun h3 => gsd_i (Or.inl rfl) (gz0 (fun z => h3 z.2.2.1)))
  refine gbr_i (fun h4 => gsd_i (Or.inl rfl) (gz0 (fun z => by have := z.2.2.2.1; clear z h1 h2 h3 hca; (simp only [Int32.lt_iff_toInt_lt, Int32.le_iff_toInt_le, ← Int32.toInt_inj, Int32.reduceToInt] at *; omega)))) (fun h4 => ?_)
  refine gbr_i (fun h5 => gsd_i (Or.inl rfl) (gz0 (fun z => by have := z.2.2.2.2; clear z h1 h2 h3 hca; (simp only [Int32.lt_iff_toInt_lt, Int32.le_iff_toInt_le, ← Int32.toInt_inj, Int32.reduceToInt] at *; omega)))) (fun h5 => ?_)
  exact gsd_i (Or.inr rfl) (gz1 ⟨h1, h2, h3, by clear h1 h2 h3 hca; (simp only [Int32.lt_iff_toInt_lt, Int32.le_iff_toInt_le, ← Int32.toInt_inj, Int32.reduceToInt] at *; omega)⟩)
end
