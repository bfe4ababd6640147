-- back, on both sides
theorem b_mask {n i : Nat} (hi : i < 32) : bt (nI (2 ^ n - 1)) i = decide (i < n) := by
  unfold bt
  show (BitVec.ofNat 32 (2 ^ n - 1)).getLsbD i = _
  rw [BitVec.getLsbD_ofNat, decide_eq_true hi, Bool.true_and, Nat.testBit_two_pow_sub_one]
theorem b_bkf {f g : Nat → Int32} {ic it nt t i : Nat} (ht : t < nt) (hi : i < 32) : bt (bkf f g (nI (2 ^ ic - 1)) it nt t) i = if i < ic then (decide (t < it) && bt (g t) i) else bt (f t) i := by
  unfold bkf
  rw [if_pos ht, b_or, b_and, b_xor, b_mask hi, b_m1 i hi, Bool.xor_true]
  by_cases c1 : i < ic
  · rw [if_pos c1, decide_eq_true c1]
    by_cases c2 : t < it
    · rw [if_pos c2, decide_eq_true c2, b_and, b_mask hi, decide_eq_true c1]; simp
    · rw [if_neg c2, decide_eq_false c2, b_0]; simp
  · rw [if_neg c1, decide_eq_false c1]
    by_cases c2 : t < it
    · rw [if_pos c2, b_and, b_mask hi, decide_eq_false c1]; simp
    · rw [if_neg c2, b_0]; simp
theorem Rel_back {c nr nt ru n ic it iru : Nat} {ln : Nat → Nat} {I I' J J' : Nat → Nat → Int32} {L L' : Nat → Nat → Int64} {TT : Nat → Tx} (hA : relA I J nr nt) (hT : relT c ln I J ru TT) (hP : relP I J n) (hF : relF L J nt) (hI : relI I L J c nr nt) (hS : relS I J)
    (h1 : ic ≤ nr) (h2 : it ≤ nt) (h3 : iru < c) (h4 : I 28 4 = nI iru ∧ J 0 50 = nI iru)
    (h5 : ∀ r, r < ic → I 29 r = J 18 r ∧ I 30 r = J 19 r ∧ (∃ p, p < 1000 ∧ J 18 r = nI p) ∧ ∃ s, s ≤ 999 ∧ J 19 r = nI s)
    (h6 : ∀ t, t < it → ∃ m, m < 4096 ∧ J 20 t = nI m) (h7 : ∀ r, r < ic → ∀ t, t < 64 → lbt (L 31 r) t = (decide (t < it) && bt (J 20 t) r))
    (x17 : I' 17 6 = I 28 4 ∧ ∀ j, j ≠ 6 → I' 17 j = I 17 j) (x10 : I' 10 = va_cpy (I 29) (I 10) 0 0 ic) (x11 : I' 11 = va_cpy (I 30) (I 11) 0 0 ic) (x12 : L' 12 = va_cpy (L 31) (L 12) 0 0 ic) (xI : ∀ k, k ≠ 17 → k ≠ 10 → k ≠ 11 → I' k = I k) (xL : ∀ k, k ≠ 12 → L' k = L k)
    (m0 : J' 0 4 = J 0 50 ∧ ∀ j, j ≠ 4 → J' 0 j = J 0 j) (m11 : J' 11 = va_cpy (J 18) (J 11) 0 0 ic) (m12 : J' 12 = va_cpy (J 19) (J 12) 0 0 ic) (m7 : J' 7 = bkf (J 7) (J 20) (nI (2 ^ ic - 1)) it nt) (mJ : ∀ k, k ≠ 0 → k ≠ 11 → k ≠ 12 → k ≠ 7 → J' k = J k) : Rel c ln I' L' J' := by
  have hnr := hA.2.2.1.2
  refine ⟨nr, nt, iru, n, TT, ?_, ?_, ?_, ⟨fun t ht => ?_, fun r hr t ht => ?_⟩, ?_, relS_tr hS (fun k a b => xI k (by omega) (by omega) (by omega)) (fun k a => mJ k (by omega) (by omega) (by omega) (by omega))⟩
  · obtain ⟨a1, a2, a3, a4, a5⟩ := hA
    refine ⟨?_, by rw [xI 1 (by decide) (by decide) (by decide)]; exact a2, by rw [xI 6 (by decide) (by decide) (by decide)]; exact a3, by rw [mJ 6 (by decide) (by decide) (by decide) (by decide)]; exact a4, fun r hr => ?_⟩
    · unfold agX
      rw [xI 1 (by decide) (by decide) (by decide), xI 2 (by decide) (by decide) (by decide), xI 3 (by decide) (by decide) (by decide), xI 4 (by decide) (by decide) (by decide), xI 5 (by decide) (by decide) (by decide), xI 6 (by decide) (by decide) (by decide), xI 7 (by decide) (by decide) (by decide), xI 8 (by decide) (by decide) (by decide), xI 9 (by decide) (by decide) (by decide)]
      refine ⟨?_, ?_, ?_, ?_, ?_, ?_, ?_, ?_, ?_, ?_, ?_⟩
      · show I 1 4 = J' 0 11; rw [m0.2 11 (by decide)]; exact a1.nt
      · show I 6 6 = J' 0 17; rw [m0.2 17 (by decide)]; exact a1.nr
      · show I 2 = fun j => J' 4 j; rw [mJ 4 (by decide) (by decide) (by decide) (by decide)]; exact a1.a2
      · show I 3 = fun j => J' 5 j; rw [mJ 5 (by decide) (by decide) (by decide) (by decide)]; exact a1.a3
      · show I 4 = fun j => J' 6 j - J' 6 j / 2 * 2; rw [mJ 6 (by decide) (by decide) (by decide) (by decide)]; exact a1.a4
      · show I 5 = fun j => J' 6 j / 2; rw [mJ 6 (by decide) (by decide) (by decide) (by decide)]; exact a1.a5
      · show I 7 = fun j => J' 8 j; rw [mJ 8 (by decide) (by decide) (by decide) (by decide)]; exact a1.a7
      · show I 8 = fun j => J' 9 j; rw [mJ 9 (by decide) (by decide) (by decide) (by decide)]; exact a1.a8
      · show I 9 = fun j => J' 10 j; rw [mJ 10 (by decide) (by decide) (by decide) (by decide)]; exact a1.a9
      · show I' 10 = fun j => J' 11 j
        rw [x10, m11]
        funext j
        rcases Nat.lt_or_ge j ic with e | e
        · rw [cpy_in ic j e, cpy_in ic j e]; exact (h5 j e).1
        · rw [cpy_hi ic j e, cpy_hi ic j e, a1.a10]; rfl
      · show I' 11 = fun j => J' 12 j
        rw [x11, m12]
        funext j
        rcases Nat.lt_or_ge j ic with e | e
        · rw [cpy_in ic j e, cpy_in ic j e]; exact (h5 j e).2.1
        · rw [cpy_hi ic j e, cpy_hi ic j e, a1.a11]; rfl
    · rw [mJ 8 (by decide) (by decide) (by decide) (by decide), mJ 10 (by decide) (by decide) (by decide) (by decide), m11, m12]
      obtain ⟨z0, ⟨pa, pb, z1, z2, z3, z4⟩, z5⟩ := a5 r hr
      refine ⟨z0, ?_, ?_⟩
      · rcases Nat.lt_or_ge r ic with e | e
        · rw [cpy_in ic r e]
          obtain ⟨p, hp, ep⟩ := (h5 r e).2.2.1
          exact ⟨p, pb, ep, z2, hp, z4⟩
        · rw [cpy_hi ic r e]; exact ⟨pa, pb, z1, z2, z3, z4⟩
      · rcases Nat.lt_or_ge r ic with e | e
        · rw [cpy_in ic r e]; exact (h5 r e).2.2.2
        · rw [cpy_hi ic r e]; exact z5
  · obtain ⟨t1, t2, t3, t4⟩ := hT
    refine ⟨⟨t1.1, t1.2.1, h3⟩, ⟨by rw [x17.2 5 (by decide)]; exact t2.1, by rw [x17.1]; exact h4.1⟩, ⟨by rw [m0.2 3 (by decide)]; exact t3.1, by rw [m0.1]; exact h4.2⟩, fun x hx => ?_⟩
    obtain ⟨y1, y2, y3, b, m, y4, y5⟩ := t4 x hx
    refine ⟨y1, ?_, y3, b, m, ?_, y5⟩
    · unfold laid
      rw [xI (42 + 2 * x) (by omega) (by omega) (by omega), xI (41 + 2 * x) (by omega) (by omega) (by omega)]
      exact y2
    · unfold mtl
      rw [mJ 1 (by decide) (by decide) (by decide) (by decide), mJ 2 (by decide) (by decide) (by decide) (by decide)]
      exact y4
  · unfold relP
    rw [xI 13 (by decide) (by decide) (by decide), xI 14 (by decide) (by decide) (by decide), m0.2 6 (by decide), mJ 3 (by decide) (by decide) (by decide) (by decide)]
    exact hP
  · rw [m7]
    refine b12_of (fun i a b => ?_)
    rw [b_bkf ht b, if_neg (by omega)]
    obtain ⟨m, hm, e⟩ := hF.1 t ht
    rw [e]; exact b12 hm a
  · rw [x12, m7]
    rcases Nat.lt_or_ge r ic with e | e
    · rw [cpy_in ic r e, h7 r e t ht]
      by_cases c1 : t < nt
      · rw [b_bkf c1 (by omega), if_pos e, decide_eq_true c1, Bool.true_and]
      · rw [decide_eq_false c1, decide_eq_false (show ¬ t < it by omega)]; rfl
    · rw [cpy_hi ic r e, hF.2 r hr t ht]
      by_cases c1 : t < nt
      · rw [b_bkf c1 (by omega), if_neg (by omega)]
      · rw [decide_eq_false c1]; rfl
  · exact relI_tr hI (Nat.le_refl _) ⟨xI 28 (by decide) (by decide) (by decide), xI 29 (by decide) (by decide) (by decide), xI 30 (by decide) (by decide) (by decide)⟩ (xL 31 (by decide)) ⟨⟨m0.2 47 (by decide), m0.2 48 (by decide), m0.2 49 (by decide), m0.2 50 (by decide)⟩, mJ 18 (by decide) (by decide) (by decide) (by decide), mJ 19 (by decide) (by decide) (by decide) (by decide), mJ 20 (by decide) (by decide) (by decide) (by decide)⟩
