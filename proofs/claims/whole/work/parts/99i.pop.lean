-- a long's ones, byte by byte
def vb : List Nat → Nat
  | [] => 0
  | b :: l => b + 256 * vb l
def vmk (c : Nat) : List Nat → Nat
  | [] => 0
  | _ :: l => c + 256 * vmk c l
theorem and_b {h b m c : Nat} (hb : b < 256) (hc : c < 256) : (b + 256 * h) &&& (c + 256 * m) = (b &&& c) + 256 * (h &&& m) := by
  have e : ∀ (i x y : Nat), x < 256 → (x + 256 * y).testBit i = if i < 8 then x.testBit i else y.testBit (i - 8) := fun i x y hx => by
    rw [Nat.add_comm, show 256 * y = 2 ^ 8 * y from rfl, Nat.testBit_two_pow_mul_add y (show x < 2 ^ 8 from hx) i]
  apply Nat.eq_of_testBit_eq
  intro i
  rw [Nat.testBit_and, e i b h hb, e i c m hc, e i (b &&& c) (h &&& m) (Nat.lt_of_le_of_lt Nat.and_le_left hb)]
  by_cases h : i < 8
  · rw [if_pos h, if_pos h, if_pos h, Nat.testBit_and]
  · rw [if_neg h, if_neg h, if_neg h, Nat.testBit_and]
def L1b (b : Nat) : Nat := b - (b / 2 &&& 85)
def L2b (b : Nat) : Nat := (b &&& 51) + (b / 4 &&& 51)
def L3b (b : Nat) : Nat := (b + b / 16) &&& 15
theorem fin2 {P : Nat → Nat → Prop} {n m : Nat} (h : ∀ a : Fin n, ∀ b : Fin m, P a.val b.val) : ∀ a, a < n → ∀ b, b < m → P a b := fun a ha b hb => h ⟨a, ha⟩ ⟨b, hb⟩
theorem fin1 {P : Nat → Prop} {n : Nat} (h : ∀ a : Fin n, P a.val) : ∀ a, a < n → P a := fun a ha => h ⟨a, ha⟩
theorem d_s1 : ∀ p, p < 128 → ∀ e, e < 2 → (p + 128 * e) &&& 85 = p &&& 85 := fin2 (by decide +kernel)
theorem d_s2 : ∀ p, p < 64 → ∀ e, e < 4 → (p + 64 * e) &&& 51 = p &&& 51 := fin2 (by decide +kernel)
theorem d_s3 : ∀ b, b < 256 → ∀ e, e < 5 → (b + b / 16 + 16 * e) &&& 15 = (b + b / 16) &&& 15 := fin2 (by decide +kernel)
theorem vb_s1 : ∀ l : List Nat, (∀ b ∈ l, b < 256) → (vb l / 2 &&& vmk 85 l) ≤ vb l ∧ vb l - (vb l / 2 &&& vmk 85 l) = vb (l.map L1b) := by
  intro l
  induction l with
  | nil => intro _; exact ⟨Nat.le_refl _, rfl⟩
  | cons b l ih =>
    intro h
    have hb := h b List.mem_cons_self
    obtain ⟨i1, i2⟩ := ih (fun x hx => h x (List.mem_cons_of_mem _ hx))
    have e : vb (b :: l) / 2 &&& vmk 85 (b :: l) = (b / 2 &&& 85) + 256 * (vb l / 2 &&& vmk 85 l) := by
      show (b + 256 * vb l) / 2 &&& (85 + 256 * vmk 85 l) = _
      rw [show (b + 256 * vb l) / 2 = (b / 2 + 128 * (vb l % 2)) + 256 * (vb l / 2) by omega, and_b (by omega) (by decide), d_s1 (b / 2) (by omega) (vb l % 2) (by omega)]
    have hle : (b / 2 &&& 85) ≤ b / 2 := Nat.and_le_left
    rw [e]
    refine ⟨?_, ?_⟩
    · show _ ≤ b + 256 * vb l; omega
    · show b + 256 * vb l - _ = L1b b + 256 * vb (l.map L1b)
      rw [← i2]
      unfold L1b
      omega
theorem vb_s2 : ∀ l : List Nat, (∀ b ∈ l, b < 256) → (vb l &&& vmk 51 l) + (vb l / 4 &&& vmk 51 l) = vb (l.map L2b) := by
  intro l
  induction l with
  | nil => intro _; rfl
  | cons b l ih =>
    intro h
    have hb := h b List.mem_cons_self
    have i2 := ih (fun x hx => h x (List.mem_cons_of_mem _ hx))
    show ((b + 256 * vb l) &&& (51 + 256 * vmk 51 l)) + ((b + 256 * vb l) / 4 &&& (51 + 256 * vmk 51 l)) = L2b b + 256 * vb (l.map L2b)
    rw [show (b + 256 * vb l) / 4 = (b / 4 + 64 * (vb l % 4)) + 256 * (vb l / 4) by omega, and_b (by omega) (by decide), and_b (by omega) (by decide), d_s2 (b / 4) (by omega) (vb l % 4) (by omega), ← i2]
    unfold L2b
    omega
theorem vb_s3 : ∀ l : List Nat, (∀ b ∈ l, b % 16 ≤ 4 ∧ b / 16 ≤ 4) → vb l % 16 ≤ 4 ∧ (vb l + vb l / 16) &&& vmk 15 l = vb (l.map L3b) := by
  intro l
  induction l with
  | nil => intro _; exact ⟨by decide, rfl⟩
  | cons b l ih =>
    intro h
    obtain ⟨h1, h2⟩ := h b List.mem_cons_self
    obtain ⟨i1, i2⟩ := ih (fun x hx => h x (List.mem_cons_of_mem _ hx))
    refine ⟨by show (b + 256 * vb l) % 16 ≤ 4; omega, ?_⟩
    show (b + 256 * vb l + (b + 256 * vb l) / 16) &&& (15 + 256 * vmk 15 l) = L3b b + 256 * vb (l.map L3b)
    rw [show b + 256 * vb l + (b + 256 * vb l) / 16 = (b + b / 16 + 16 * (vb l % 16)) + 256 * (vb l + vb l / 16) by omega, and_b (by omega) (by decide), d_s3 b (by omega) (vb l % 16) (by omega), i2]
    rfl
theorem d_l1 : ∀ b, b < 256 → L1b b < 256 := fin1 (by decide +kernel)
theorem d_l2 : ∀ b, b < 256 → L2b (L1b b) % 16 ≤ 4 ∧ L2b (L1b b) / 16 ≤ 4 := fin1 (by decide +kernel)
theorem d_l3 : ∀ b, b < 256 → L3b (L2b (L1b b)) = pcn b 8 ∧ pcn b 8 ≤ 8 := fin1 (by decide +kernel)
/-- the steps, as numbers -/
theorem n_s1 (x : Int64) : (lbc1 x).toBitVec = x.toBitVec - ((x.toBitVec >>> 1) &&& 6148914691236517205#64) := by rfl
theorem n_s2 (x : Int64) : (lbc2 x).toBitVec = (x.toBitVec &&& 3689348814741910323#64) + ((x.toBitVec >>> 2) &&& 3689348814741910323#64) := by rfl
theorem n_s3 (x : Int64) : (lbc3 x).toBitVec = (x.toBitVec + (x.toBitVec >>> 4)) &&& 1085102592571150095#64 := by rfl
theorem n_s8 (x : Int64) : (lbcs 8 x).toBitVec = x.toBitVec + (x.toBitVec >>> 8) := by rfl
theorem n_s16 (x : Int64) : (lbcs 16 x).toBitVec = x.toBitVec + (x.toBitVec >>> 16) := by rfl
theorem n_s32 (x : Int64) : (lbcs 32 x).toBitVec = x.toBitVec + (x.toBitVec >>> 32) := by rfl
theorem big8 {c0 z : Nat} (h0 : c0 < 128) (hz : z < 36028797018963968) : c0 + 256 * z < 9223372036854775808 := by omega
theorem big7 {c0 z : Nat} (h0 : c0 < 128) (hz : z < 140737488355328) : c0 + 256 * z < 36028797018963968 := by omega
theorem big6 {c0 z : Nat} (h0 : c0 < 128) (hz : z < 549755813888) : c0 + 256 * z < 140737488355328 := by omega
theorem big5 {c0 z : Nat} (h0 : c0 < 128) (hz : z < 2147483648) : c0 + 256 * z < 549755813888 := by omega
theorem big4 {a b c d : Nat} (h0 : a < 128) (h1 : b < 128) (h2 : c < 128) (h3 : d < 128) : a + 256 * (b + 256 * (c + 256 * d)) < 2147483648 := by omega
theorem vmk8 (c b0 b1 b2 b3 b4 b5 b6 b7 : Nat) : vmk c [b0, b1, b2, b3, b4, b5, b6, b7] = c + 256 * (c + 256 * (c + 256 * (c + 256 * (c + 256 * (c + 256 * (c + 256 * (c + 256 * 0))))))) := rfl
theorem tn_s1 {x : Int64} {b0 b1 b2 b3 b4 b5 b6 b7 : Nat} (hb : ∀ b ∈ [b0, b1, b2, b3, b4, b5, b6, b7], b < 256) (h : x.toBitVec.toNat = vb [b0, b1, b2, b3, b4, b5, b6, b7]) : (lbc1 x).toBitVec.toNat = vb ([b0, b1, b2, b3, b4, b5, b6, b7].map L1b) := by
  obtain ⟨h1, h2⟩ := vb_s1 [b0, b1, b2, b3, b4, b5, b6, b7] hb
  have hm : vmk 85 [b0, b1, b2, b3, b4, b5, b6, b7] = 6148914691236517205 := (vmk8 85 b0 b1 b2 b3 b4 b5 b6 b7).trans (by decide +kernel)
  rw [hm] at h1 h2
  have e : ((x.toBitVec >>> 1) &&& 6148914691236517205#64).toNat = (vb [b0, b1, b2, b3, b4, b5, b6, b7] / 2 &&& 6148914691236517205) := by
    rw [BitVec.toNat_and, BitVec.toNat_ushiftRight, h, Nat.shiftRight_eq_div_pow]
    rfl
  rw [n_s1, BitVec.toNat_sub_of_le (by rw [BitVec.le_def, e, h]; exact h1), e, h, h2]
theorem tn_s2 {x : Int64} {b0 b1 b2 b3 b4 b5 b6 b7 : Nat} (hb : ∀ b ∈ [b0, b1, b2, b3, b4, b5, b6, b7], b < 256) (h : x.toBitVec.toNat = vb [b0, b1, b2, b3, b4, b5, b6, b7]) : (lbc2 x).toBitVec.toNat = vb ([b0, b1, b2, b3, b4, b5, b6, b7].map L2b) := by
  have h2 := vb_s2 [b0, b1, b2, b3, b4, b5, b6, b7] hb
  have hm : vmk 51 [b0, b1, b2, b3, b4, b5, b6, b7] = 3689348814741910323 := (vmk8 51 b0 b1 b2 b3 b4 b5 b6 b7).trans (by decide +kernel)
  rw [hm] at h2
  have l1 : (vb [b0, b1, b2, b3, b4, b5, b6, b7] &&& 3689348814741910323) ≤ 3689348814741910323 := Nat.and_le_right
  have l2 : (vb [b0, b1, b2, b3, b4, b5, b6, b7] / 4 &&& 3689348814741910323) ≤ 3689348814741910323 := Nat.and_le_right
  rw [n_s2, BitVec.toNat_add, BitVec.toNat_and, BitVec.toNat_and, BitVec.toNat_ushiftRight, h, Nat.shiftRight_eq_div_pow, ← h2]
  show ((vb [b0, b1, b2, b3, b4, b5, b6, b7] &&& 3689348814741910323) + (vb [b0, b1, b2, b3, b4, b5, b6, b7] / 4 &&& 3689348814741910323)) % 18446744073709551616 = _
  exact Nat.mod_eq_of_lt (by omega)
theorem tn_s3 {x : Int64} {b0 b1 b2 b3 b4 b5 b6 b7 : Nat} (hb : ∀ b ∈ [b0, b1, b2, b3, b4, b5, b6, b7], b % 16 ≤ 4 ∧ b / 16 ≤ 4) (h : x.toBitVec.toNat = vb [b0, b1, b2, b3, b4, b5, b6, b7]) : (lbc3 x).toBitVec.toNat = vb ([b0, b1, b2, b3, b4, b5, b6, b7].map L3b) := by
  have h2 := (vb_s3 [b0, b1, b2, b3, b4, b5, b6, b7] hb).2
  have hm : vmk 15 [b0, b1, b2, b3, b4, b5, b6, b7] = 1085102592571150095 := (vmk8 15 b0 b1 b2 b3 b4 b5 b6 b7).trans (by decide +kernel)
  have hv : vb [b0, b1, b2, b3, b4, b5, b6, b7] < 9223372036854775808 := by
    have q : ∀ a, (a % 16 ≤ 4 ∧ a / 16 ≤ 4) → a < 128 := fun a h => by omega
    exact big8 (q b0 (hb b0 (by simp))) (big7 (q b1 (hb b1 (by simp))) (big6 (q b2 (hb b2 (by simp))) (big5 (q b3 (hb b3 (by simp))) (big4 (q b4 (hb b4 (by simp))) (q b5 (hb b5 (by simp))) (q b6 (hb b6 (by simp))) (q b7 (hb b7 (by simp)))))))
  rw [hm] at h2
  rw [n_s3, BitVec.toNat_and, BitVec.toNat_add, BitVec.toNat_ushiftRight, h, Nat.shiftRight_eq_div_pow, ← h2]
  show (vb [b0, b1, b2, b3, b4, b5, b6, b7] + vb [b0, b1, b2, b3, b4, b5, b6, b7] / 16) % 18446744073709551616 &&& 1085102592571150095 = _
  rw [Nat.mod_eq_of_lt (by have := Nat.div_le_self (vb [b0, b1, b2, b3, b4, b5, b6, b7]) 16; omega)]
theorem tn_sh {v : BitVec 64} {k : Nat} (h : v.toNat + v.toNat / 2 ^ k < 2 ^ 64) : (v + (v >>> k)).toNat = v.toNat + v.toNat / 2 ^ k := by
  rw [BitVec.toNat_add, BitVec.toNat_ushiftRight, Nat.shiftRight_eq_div_pow]
  exact Nat.mod_eq_of_lt h
theorem div8 {a z : Nat} (h : a < 256) : (a + 256 * z) / 2 ^ 8 = z := by omega
theorem div16 {a b z : Nat} (h : a < 256) (h2 : b < 256) : (a + 256 * (b + 256 * z)) / 2 ^ 16 = z := by omega
theorem div32 {a b c d z : Nat} (h : a < 256) (h2 : b < 256) (h3 : c < 256) (h4 : d < 256) : (a + 256 * (b + 256 * (c + 256 * (d + 256 * z)))) / 2 ^ 32 = z := by
  have e : a + 256 * (b + 256 * (c + 256 * (d + 256 * z))) = (a + 256 * (b + 256 * (c + 256 * d))) + 4294967296 * z := by omega
  rw [e, show (2 : Nat) ^ 32 = 4294967296 from rfl, Nat.add_mul_div_left _ _ (by decide), Nat.div_eq_of_lt (by omega), Nat.zero_add]
theorem tn_sh2 {x y : Nat} {v : BitVec 64} {k : Nat} (hv : v.toNat = x) (hy : x / 2 ^ k = y) (h : x < 9223372036854775808) : (v + (v >>> k)).toNat = x + y := by
  have hle : x / 2 ^ k ≤ x := Nat.div_le_self _ _
  rw [tn_sh (by rw [hv]; show x + x / 2 ^ k < 18446744073709551616; omega), hv, hy]
theorem fin128 {a b w z : Nat} (h : a + b < 128) : (a + 256 * w + (b + 256 * z)) % 128 = a + b := by omega
theorem lin8 (c0 c1 c2 c3 c4 c5 c6 c7 : Nat) : c0 + 256 * (c1 + 256 * (c2 + 256 * (c3 + 256 * (c4 + 256 * (c5 + 256 * (c6 + 256 * c7)))))) + (c1 + 256 * (c2 + 256 * (c3 + 256 * (c4 + 256 * (c5 + 256 * (c6 + 256 * c7)))))) = (c0 + c1) + 256 * ((c1 + c2) + 256 * ((c2 + c3) + 256 * ((c3 + c4) + 256 * ((c4 + c5) + 256 * ((c5 + c6) + 256 * ((c6 + c7) + 256 * c7)))))) := by
  simp only [Nat.mul_add]
  ac_rfl
theorem lin16 (c0 c1 c2 c3 c4 c5 c6 c7 : Nat) : c0 + 256 * (c1 + 256 * (c2 + 256 * (c3 + 256 * (c4 + 256 * (c5 + 256 * (c6 + 256 * c7)))))) + (c2 + 256 * (c3 + 256 * (c4 + 256 * (c5 + 256 * (c6 + 256 * c7))))) = (c0 + c2) + 256 * ((c1 + c3) + 256 * ((c2 + c4) + 256 * ((c3 + c5) + 256 * ((c4 + c6) + 256 * ((c5 + c7) + 256 * (c6 + 256 * c7)))))) := by
  simp only [Nat.mul_add]
  ac_rfl
theorem l8 {a : Nat} (h : a ≤ 8) : a < 128 := by omega
theorem l16 {a b : Nat} (h : a ≤ 8) (h2 : b ≤ 8) : a + b ≤ 16 := by omega
theorem l32 {a b : Nat} (h : a ≤ 16) (h2 : b ≤ 16) : a + b ≤ 32 := by omega
theorem lt1 {a : Nat} (h : a ≤ 32) : a < 128 := by omega
theorem lt2 {a : Nat} (h : a ≤ 32) : a < 256 := by omega
theorem lt3 {a b : Nat} (h : a ≤ 32) (h2 : b ≤ 32) : a + b < 128 := by omega
theorem le3 {a : Nat} (h : a ≤ 8) : a ≤ 32 := by omega
theorem le4 {a : Nat} (h : a ≤ 16) : a ≤ 32 := by omega
theorem sum_a {d0 d1 d2 d3 d4 d5 d6 d7 : Nat} {v : BitVec 64} {k z : Nat} (h0 : d0 ≤ 32) (h1 : d1 ≤ 32) (h2 : d2 ≤ 32) (h3 : d3 ≤ 32) (h4 : d4 ≤ 32) (h5 : d5 ≤ 32) (h6 : d6 ≤ 32) (h7 : d7 ≤ 32) (h : v.toNat = d0 + 256 * (d1 + 256 * (d2 + 256 * (d3 + 256 * (d4 + 256 * (d5 + 256 * (d6 + 256 * d7))))))) (hz : (d0 + 256 * (d1 + 256 * (d2 + 256 * (d3 + 256 * (d4 + 256 * (d5 + 256 * (d6 + 256 * d7))))))) / 2 ^ k = z) : (v + (v >>> k)).toNat = (d0 + 256 * (d1 + 256 * (d2 + 256 * (d3 + 256 * (d4 + 256 * (d5 + 256 * (d6 + 256 * d7))))))) + z :=
  tn_sh2 h hz (big8 (lt1 h0) (big7 (lt1 h1) (big6 (lt1 h2) (big5 (lt1 h3) (big4 (lt1 h4) (lt1 h5) (lt1 h6) (lt1 h7))))))
theorem sums8 {c0 c1 c2 c3 c4 c5 c6 c7 : Nat} (h0 : c0 ≤ 8) (h1 : c1 ≤ 8) (h2 : c2 ≤ 8) (h3 : c3 ≤ 8) (h4 : c4 ≤ 8) (h5 : c5 ≤ 8) (h6 : c6 ≤ 8) (h7 : c7 ≤ 8) {x : Int64} (h : x.toBitVec.toNat = vb [c0, c1, c2, c3, c4, c5, c6, c7]) : (lbcs 32 (lbcs 16 (lbcs 8 x))).toBitVec.toNat % 128 = c0 + c1 + c2 + c3 + c4 + c5 + c6 + c7 := by
  have h : x.toBitVec.toNat = c0 + 256 * (c1 + 256 * (c2 + 256 * (c3 + 256 * (c4 + 256 * (c5 + 256 * (c6 + 256 * c7)))))) := h
  have q01 := l16 h0 h1
  have q12 := l16 h1 h2
  have q23 := l16 h2 h3
  have q34 := l16 h3 h4
  have q45 := l16 h4 h5
  have q56 := l16 h5 h6
  have q67 := l16 h6 h7
  have e1 : (lbcs 8 x).toBitVec.toNat = (c0 + c1) + 256 * ((c1 + c2) + 256 * ((c2 + c3) + 256 * ((c3 + c4) + 256 * ((c4 + c5) + 256 * ((c5 + c6) + 256 * ((c6 + c7) + 256 * c7)))))) := by
    rw [n_s8, sum_a (le3 h0) (le3 h1) (le3 h2) (le3 h3) (le3 h4) (le3 h5) (le3 h6) (le3 h7) h (div8 (lt2 (le3 h0)))]
    exact lin8 _ _ _ _ _ _ _ _
  have e2 : (lbcs 16 (lbcs 8 x)).toBitVec.toNat = (c0 + c1 + (c2 + c3)) + 256 * ((c1 + c2 + (c3 + c4)) + 256 * ((c2 + c3 + (c4 + c5)) + 256 * ((c3 + c4 + (c5 + c6)) + 256 * ((c4 + c5 + (c6 + c7)) + 256 * ((c5 + c6 + c7) + 256 * ((c6 + c7) + 256 * c7)))))) := by
    rw [n_s16, sum_a (le4 q01) (le4 q12) (le4 q23) (le4 q34) (le4 q45) (le4 q56) (le4 q67) (le3 h7) e1 (div16 (lt2 (le4 q01)) (lt2 (le4 q12)))]
    exact lin16 _ _ _ _ _ _ _ _
  have r0 := l32 q01 q23
  have r1 := l32 q12 q34
  have r2 := l32 q23 q45
  have r3 := l32 q34 q56
  have r4 := l32 q45 q67
  have r5 : c5 + c6 + c7 ≤ 32 := l32 q56 (Nat.le_trans h7 (by decide))
  rw [n_s32, sum_a r0 r1 r2 r3 r4 r5 (le4 q67) (le3 h7) e2 (div32 (lt2 r0) (lt2 r1) (lt2 r2) (lt2 r3)), fin128 (lt3 r0 r4)]
  clear h e1 e2
  omega
def pcs : List Nat → Nat
  | [] => 0
  | b :: l => pcn b 8 + pcs l
theorem lbc_vb {x : Int64} {b0 b1 b2 b3 b4 b5 b6 b7 : Nat} (hb : ∀ b ∈ [b0, b1, b2, b3, b4, b5, b6, b7], b < 256) (h : x.toBitVec.toNat = vb [b0, b1, b2, b3, b4, b5, b6, b7]) : lbc x = nI (pcs [b0, b1, b2, b3, b4, b5, b6, b7]) := by
  have s1 : (lbc1 x).toBitVec.toNat = vb [L1b b0, L1b b1, L1b b2, L1b b3, L1b b4, L1b b5, L1b b6, L1b b7] := tn_s1 hb h
  have m1 : ∀ b ∈ [L1b b0, L1b b1, L1b b2, L1b b3, L1b b4, L1b b5, L1b b6, L1b b7], b < 256 := fun b hm => by
    obtain ⟨a, ha, rfl⟩ := List.mem_map.mp (show b ∈ [b0, b1, b2, b3, b4, b5, b6, b7].map L1b from hm)
    exact d_l1 a (hb a ha)
  have s2 : (lbc2 (lbc1 x)).toBitVec.toNat = vb [L2b (L1b b0), L2b (L1b b1), L2b (L1b b2), L2b (L1b b3), L2b (L1b b4), L2b (L1b b5), L2b (L1b b6), L2b (L1b b7)] := tn_s2 m1 s1
  have m2 : ∀ b ∈ [L2b (L1b b0), L2b (L1b b1), L2b (L1b b2), L2b (L1b b3), L2b (L1b b4), L2b (L1b b5), L2b (L1b b6), L2b (L1b b7)], b % 16 ≤ 4 ∧ b / 16 ≤ 4 := fun b hm => by
    obtain ⟨a, ha, rfl⟩ := List.mem_map.mp (show b ∈ [b0, b1, b2, b3, b4, b5, b6, b7].map (fun z => L2b (L1b z)) from hm)
    exact d_l2 a (hb a ha)
  have s3 : (lbc3 (lbc2 (lbc1 x))).toBitVec.toNat = vb [L3b (L2b (L1b b0)), L3b (L2b (L1b b1)), L3b (L2b (L1b b2)), L3b (L2b (L1b b3)), L3b (L2b (L1b b4)), L3b (L2b (L1b b5)), L3b (L2b (L1b b6)), L3b (L2b (L1b b7))] := tn_s3 m2 s2
  have g : ∀ b, b ∈ [b0, b1, b2, b3, b4, b5, b6, b7] → L3b (L2b (L1b b)) = pcn b 8 ∧ pcn b 8 ≤ 8 := fun b hm => d_l3 b (hb b hm)
  have s4 : (lbc3 (lbc2 (lbc1 x))).toBitVec.toNat = vb [pcn b0 8, pcn b1 8, pcn b2 8, pcn b3 8, pcn b4 8, pcn b5 8, pcn b6 8, pcn b7 8] := by
    rw [s3]
    rw [(g b0 (by simp)).1, (g b1 (by simp)).1, (g b2 (by simp)).1, (g b3 (by simp)).1, (g b4 (by simp)).1, (g b5 (by simp)).1, (g b6 (by simp)).1, (g b7 (by simp)).1]
  have s5 := sums8 (g b0 (by simp)).2 (g b1 (by simp)).2 (g b2 (by simp)).2 (g b3 (by simp)).2 (g b4 (by simp)).2 (g b5 (by simp)).2 (g b6 (by simp)).2 (g b7 (by simp)).2 s4
  have u0 := (g b0 (by simp)).2
  have u1 := (g b1 (by simp)).2
  have u2 := (g b2 (by simp)).2
  have u3 := (g b3 (by simp)).2
  have u4 := (g b4 (by simp)).2
  have u5 := (g b5 (by simp)).2
  have u6 := (g b6 (by simp)).2
  have u7 := (g b7 (by simp)).2
  have ep : pcs [b0, b1, b2, b3, b4, b5, b6, b7] = pcn b0 8 + pcn b1 8 + pcn b2 8 + pcn b3 8 + pcn b4 8 + pcn b5 8 + pcn b6 8 + pcn b7 8 := by
    show pcn b0 8 + (pcn b1 8 + (pcn b2 8 + (pcn b3 8 + (pcn b4 8 + (pcn b5 8 + (pcn b6 8 + (pcn b7 8 + 0))))))) = _
    omega
  rw [ep, ← s5]
  unfold lbc
  generalize hy : lbcs 32 (lbcs 16 (lbcs 8 (lbc3 (lbc2 (lbc1 x))))) = y
  apply Int32.toBitVec_inj.mp
  apply BitVec.eq_of_toNat_eq
  rw [Int32.toBitVec_and, Int64.toBitVec_toInt32, BitVec.signExtend_eq_setWidth_of_le _ (by decide)]
  show ((y.toBitVec.setWidth 32) &&& 127#32).toNat = (BitVec.ofNat 32 (y.toBitVec.toNat % 128)).toNat
  rw [BitVec.toNat_and, BitVec.toNat_setWidth]
  show y.toBitVec.toNat % 2 ^ 32 &&& (2 ^ 7 - 1) = (y.toBitVec.toNat % 128) % 2 ^ 32
  rw [Nat.and_two_pow_sub_one_eq_mod]
  generalize y.toBitVec.toNat = w
  omega
theorem sm_app {f : Nat → Nat} (n : Nat) : ∀ k, sm f (n + k) = sm f n + sm (fun j => f (n + j)) k := by
  intro k
  induction k with
  | zero => rfl
  | succ k ih =>
    show sm f (n + k) + f (n + k) = _
    rw [ih]
    show _ = sm f n + (sm (fun j => f (n + j)) k + f (n + k))
    omega
def digs : Nat → Nat → List Nat
  | 0, _ => []
  | k + 1, X => X % 256 :: digs k (X / 256)
theorem digs_vb : ∀ k X, X < 256 ^ k → vb (digs k X) = X := by
  intro k
  induction k with
  | zero => intro X h; have h1 : X < 1 := h; show 0 = X; omega
  | succ k ih =>
    intro X h
    show X % 256 + 256 * vb (digs k (X / 256)) = X
    rw [ih (X / 256) (by rw [Nat.pow_succ] at h; exact Nat.div_lt_of_lt_mul (by rw [Nat.mul_comm]; exact h))]
    omega
theorem digs_lt : ∀ k X, ∀ b ∈ digs k X, b < 256 := by
  intro k
  induction k with
  | zero => intro X b h; cases h
  | succ k ih =>
    intro X b h
    rcases List.mem_cons.mp h with rfl | h
    · omega
    · exact ih _ b h
theorem digs_pc : ∀ k X, sm (fun t => if X.testBit t = true then 1 else 0) (8 * k) = pcs (digs k X) := by
  intro k
  induction k with
  | zero => intro X; rfl
  | succ k ih =>
    intro X
    show _ = pcn (X % 256) 8 + pcs (digs k (X / 256))
    rw [show 8 * (k + 1) = 8 + 8 * k by omega, sm_app, ← ih (X / 256), pcn_sm]
    congr 1
    · refine sm_ag 8 (fun j hj => ?_)
      show _ = (if (X % 2 ^ 8).testBit j = true then 1 else 0)
      rw [Nat.testBit_mod_two_pow, decide_eq_true hj, Bool.true_and]
    · refine sm_ag (8 * k) (fun j hj => ?_)
      show _ = (if (X / 2 ^ 8).testBit j = true then 1 else 0)
      rw [Nat.testBit_div_two_pow, Nat.add_comm]
theorem pop (x : Int64) (hx : ∀ t, 40 ≤ t → t < 64 → lbt x t = false) : lbc x = nI (sm (fun t => if lbt x t = true then 1 else 0) 40) := by
  have hlt : x.toBitVec.toNat < 256 ^ 8 := x.toBitVec.isLt
  have h64 : sm (fun t => if lbt x t = true then 1 else 0) 64 = sm (fun t => if lbt x t = true then 1 else 0) 40 := sm_cut 24 (fun i h1 h2 => by
    show (if lbt x i = true then 1 else 0) = 0
    rw [hx i h1 (by omega)]
    rfl)
  have hs : sm (fun t => if lbt x t = true then 1 else 0) 64 = pcs (digs 8 x.toBitVec.toNat) := digs_pc 8 x.toBitVec.toNat
  rw [← h64, hs]
  exact lbc_vb (digs_lt 8 _) (digs_vb 8 _ hlt).symm
/-- count(5) -/
theorem count5' {c nr nt n ru : Nat} {ln : Nat → Nat} {I J : Nat → Nat → Int32} {L : Nat → Nat → Int64} {TT : Nat → Tx} (hA : relA I J nr nt) (hF : relF L J nt) (hZ : relZ I L) : ss (fun r => lbc (L 12 r)) nr = mct J nt := count5 (c := c) (n := n) (ru := ru) (ln := ln) (TT := TT) hA hF hZ pop
