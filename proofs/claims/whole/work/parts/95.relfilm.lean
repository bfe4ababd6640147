-- film, on both sides
theorem s_l64 : ∀ n, n < 64 → (((nI n).toInt64 &&& 63).toBitVec.smod 64).toNat = n := by decide +kernel
theorem lb_ext {x y : Int64} (h : ∀ i, i < 64 → lbt x i = lbt y i) : x = y := Int64.toBitVec_inj.mp (BitVec.eq_of_getLsbD_eq (fun i hi => h i hi))
theorem lb_xor (x y : Int64) (i : Nat) : lbt (x ^^^ y) i = (lbt x i ^^ lbt y i) := by unfold lbt; rw [Int64.toBitVec_xor, BitVec.getLsbD_xor]
theorem lb_and (x y : Int64) (i : Nat) : lbt (x &&& y) i = (lbt x i && lbt y i) := by unfold lbt; rw [Int64.toBitVec_and, BitVec.getLsbD_and]
theorem lb_1 : ∀ i, i < 64 → lbt 1 i = decide (i = 0) := by decide +kernel
theorem lb_shl (n : Nat) (hn : n < 64) (x : Int64) {i : Nat} (hi : i < 64) : lbt (x <<< ((nI n).toInt64 &&& 63)) i = (decide (n ≤ i) && lbt x (i - n)) := by
  unfold lbt
  rw [Int64.toBitVec_shiftLeft]
  show (x.toBitVec <<< (((nI n).toInt64 &&& 63).toBitVec.smod 64).toNat).getLsbD i = _
  rw [s_l64 n hn, BitVec.getLsbD_shiftLeft]
  rcases Nat.lt_or_ge i n with h | h
  · simp [h, Nat.not_le.mpr h]
  · simp [hi, h, Nat.not_lt.mpr h]
theorem lb_sshr (n : Nat) (hn : n < 64) (x : Int64) {i : Nat} (hi : i < 64) : lbt (x >>> ((nI n).toInt64 &&& 63)) i = if n + i < 64 then lbt x (n + i) else lbt x 63 := by
  unfold lbt
  rw [Int64.toBitVec_shiftRight]
  show (x.toBitVec.sshiftRight (((nI n).toInt64 &&& 63).toBitVec.smod 64).toNat).getLsbD i = _
  rw [s_l64 n hn, BitVec.getLsbD_sshiftRight, BitVec.msb_eq_getLsbD_last]
  simp [hi]
theorem lb_at (n : Nat) (hn : n < 64) (x : Int64) : (x >>> ((nI n).toInt64 &&& 63)) &&& 1 = if lbt x n = true then 1 else 0 := by
  refine lb_ext (fun i hi => ?_)
  rw [lb_and, lb_1 i hi, lb_sshr n hn x hi]
  by_cases h0 : i = 0
  · subst h0
    rw [if_pos (by omega), Nat.add_zero]
    cases h : lbt x n
    · rw [if_neg (by decide)]; rw [lbt_0]; rfl
    · rw [if_pos rfl, lb_1 0 (by omega)]; rfl
  · rw [decide_eq_false h0, Bool.and_false]
    cases h : lbt x n
    · rw [if_neg (by decide), lbt_0]
    · rw [if_pos rfl, lb_1 i hi, decide_eq_false h0]
theorem b_at {n : Nat} (hn : n < 31) (x : Int32) : (x >>> (nI n &&& 31)) &&& 1 = if bt x n = true then 1 else 0 := by
  by_cases h : bt x n = true
  · rw [if_pos h]; exact (b_in hn).mpr h
  · rw [if_neg h]; exact (and1 _).resolve_right (fun z => h ((b_in hn).mp z))
theorem b12 {m : Nat} (hm : m < 4096) {i : Nat} (hi : 12 ≤ i) : bt (nI m) i = false := by
  unfold bt
  show (BitVec.ofNat 32 m).getLsbD i = false
  rw [BitVec.getLsbD_ofNat, Nat.testBit_lt_two_pow (Nat.lt_of_lt_of_le hm (Nat.pow_le_pow_right (n := 2) (by decide) hi)), Bool.and_false]
theorem b12_of {x : Int32} (h : ∀ i, 12 ≤ i → i < 32 → bt x i = false) : ∃ m, m < 4096 ∧ x = nI m := by
  refine ⟨x.toBitVec.toNat, ?_, ?_⟩
  · refine Nat.lt_pow_two_of_testBit (n := 12) _ (fun i hi => ?_)
    rcases Nat.lt_or_ge i 32 with c | c
    · exact h i hi c
    · exact Nat.testBit_lt_two_pow (Nat.lt_of_lt_of_le x.toBitVec.isLt (Nat.pow_le_pow_right (by decide) c))
  · refine Int32.toBitVec_inj.mp (BitVec.eq_of_toNat_eq ?_)
    show _ = (BitVec.ofNat 32 x.toBitVec.toNat).toNat
    rw [BitVec.toNat_ofNat, Nat.mod_eq_of_lt x.toBitVec.isLt]
/-- one bit set anew -/
theorem b_put {x s : Int32} {r : Nat} (hr : r < 12) (hs : s = 0 ∨ s = 1) {i : Nat} (hi : i < 32) : bt ((x &&& ((1 <<< (nI r &&& 31)) ^^^ -1)) ||| (s <<< (nI r &&& 31))) i = if i = r then decide (s = 1) else bt x i := by
  rw [b_or, b_wo (by omega) hi, b_shl r (by omega) s hi]
  by_cases e : i = r
  · subst e
    rw [if_pos rfl, decide_eq_true (rfl : i = i), Nat.sub_self, decide_eq_true (Nat.le_refl i)]
    rcases hs with rfl | rfl
    · rw [b_0]; simp
    · rw [b_1 0 (by omega)]; simp
  · rw [if_neg e, decide_eq_false e]
    have : (decide (r ≤ i) && bt s (i - r)) = false := by
      rcases Nat.lt_or_ge i r with c | c
      · rw [decide_eq_false (by omega)]; rfl
      · rcases hs with rfl | rfl
        · rw [b_0, Bool.and_false]
        · rw [b_1 (i - r) (by omega), decide_eq_false (show ¬ i - r = 0 by omega), Bool.and_false]
    rw [this]; simp
theorem Rel_film {c : Nat} {ln : Nat → Nat} {I J : Nat → Nat → Int32} {L : Nat → Nat → Int64} (h : Rel c ln I L J) (r t is : Int32) : (filmX I L r t is).1 = (mfilX J r t is).1 ∧ Rel c ln I (filmX I L r t is).2 (mfilX J r t is).2 := by
  have h0 := h
  obtain ⟨nr, nt, ru, n, TT, hA, hT, hP, ⟨f1, f2⟩, hI, hS⟩ := h
  have e66 : I 6 6 = J 0 17 := hA.1.nr
  have e14 : I 1 4 = J 0 11 := hA.1.nt
  have e17 : J 0 17 = nI nr := by rw [← e66]; exact hA.2.2.1.1
  have e11 : J 0 11 = nI nt := by rw [← e14]; exact hA.2.1.1
  have hnr := hA.2.2.1.2
  have hnt := hA.2.1.2
  unfold filmX mfilX
  rw [e66, e14, e17, e11]
  by_cases c1 : (0 ≤ r ∧ r < nI nr) ∧ (0 ≤ t ∧ t < nI nt) ∧ 0 ≤ is ∧ is ≤ 1
  · rw [if_pos c1, if_pos c1]
    obtain ⟨⟨r1, r2⟩, ⟨q1, q2⟩, s1, s2⟩ := c1
    obtain ⟨rn, hrn, rfl⟩ := vp_in_of (gin_of (r := r) ⟨r1, r2⟩ hnr (by omega)) (by omega)
    obtain ⟨tn, htn, rfl⟩ := vp_in_of (gin_of (r := t) ⟨q1, q2⟩ hnt (by omega)) (by omega)
    have hrn' : rn < nr := (nI_ltI (by omega) (by omega)).mp r2
    have htn' : tn < nt := (nI_ltI (by omega) (by omega)).mp q2
    have hcr : (nI rn).toNatClampNeg = rn := nI_clamp (by omega)
    have hct : (nI tn).toNatClampNeg = tn := nI_clamp (by omega)
    have his : is = 0 ∨ is = 1 := by
      obtain ⟨k, hk, rfl⟩ := le_nI (M := 1) (by decide) s1 s2
      have : k = 0 ∨ k = 1 := by omega
      rcases this with rfl | rfl
      · exact Or.inl rfl
      · exact Or.inr rfl
    have hw : fwas L (nI rn) (nI tn) = if bt (J 7 tn) rn = true then 1 else 0 := by
      unfold fwas
      rw [hcr, lb_at tn (by omega), f2 rn (by omega) tn (by omega), decide_eq_true htn', Bool.true_and]
      cases bt (J 7 tn) rn <;> rfl
    rw [hw, hcr, hct, b_at (by omega)]
    refine ⟨rfl, nr, nt, ru, n, TT, hA, hT, hP, ⟨fun x hx => ?_, fun q hq x hx => ?_⟩, ?_, hS⟩
    · show ∃ m, m < 4096 ∧ gupd (J 7) tn _ x = nI m
      by_cases e : x = tn
      · subst e
        rw [gupd_s]
        refine b12_of (fun i h1 h2 => ?_)
        rw [b_put (by omega) his h2, if_neg (by omega)]
        obtain ⟨m, hm, e⟩ := f1 x hx
        rw [e]; exact b12 hm h1
      · rw [gupd_n e]; exact f1 x hx
    · show lbt (gupd (L 12) rn _ q) x = (decide (x < nt) && bt (gupd (J 7) tn _ x) q)
      by_cases e : q = rn
      · subst e
        have hz : ∃ w : Int64, (w = 0 ∨ w = 1) ∧ ((if bt (J 7 tn) q = true then 1 else 0) ^^^ is : Int32).toInt64 = w ∧ (bt (J 7 tn) q ^^ lbt w 0) = decide (is = 1) := by
          cases bt (J 7 tn) q <;> rcases his with rfl | rfl
          · exact ⟨0, Or.inl rfl, rfl, by decide⟩
          · exact ⟨1, Or.inr rfl, rfl, by decide⟩
          · exact ⟨1, Or.inr rfl, rfl, by decide⟩
          · exact ⟨0, Or.inl rfl, rfl, by decide⟩
        obtain ⟨w, hw01, hww, hwb⟩ := hz
        rw [gupd_s, hww, lb_xor, lb_shl tn (by omega) _ hx, f2 q hq x hx]
        by_cases e2 : x = tn
        · subst e2
          rw [gupd_s, b_put (by omega) his (by omega), if_pos rfl, decide_eq_true htn', Nat.sub_self, decide_eq_true (Nat.le_refl x), Bool.true_and, Bool.true_and, Bool.true_and]
          exact hwb
        · rw [gupd_n e2]
          have : (decide (tn ≤ x) && lbt w (x - tn)) = false := by
            rcases Nat.lt_or_ge x tn with k | k
            · rw [decide_eq_false (show ¬ tn ≤ x by omega)]; rfl
            · rcases hw01 with rfl | rfl
              · rw [lbt_0, Bool.and_false]
              · rw [lb_1 _ (by omega), decide_eq_false (show ¬ x - tn = 0 by omega), Bool.and_false]
          rw [this, Bool.xor_false]
      · rw [gupd_n e, f2 q hq x hx]
        by_cases e2 : x = tn
        · subst e2
          rw [gupd_s, b_put (by omega) his (by omega), if_neg e]
        · rw [gupd_n e2]
    · exact hI
  · rw [if_neg c1, if_neg c1]
    exact ⟨rfl, h0⟩
