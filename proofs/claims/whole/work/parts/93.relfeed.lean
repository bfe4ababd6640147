-- feed, on both sides
theorem byte_n (x : Int64) : ∃ m, m < 256 ∧ (x &&& 255).toInt32 = nI m ∧ x.toInt32.toInt8 = (nI m).toInt8 := by
  refine ⟨(x.toBitVec &&& 255#64).toNat, ?_, ?_, ?_⟩
  · have := Nat.and_le_right (n := x.toBitVec.toNat) (m := 255)
    rw [BitVec.toNat_and]
    exact Nat.lt_succ_of_le this
  · have hlt : (x.toBitVec &&& 255#64).toNat < 256 := by
      have := Nat.and_le_right (n := x.toBitVec.toNat) (m := 255)
      rw [BitVec.toNat_and]
      exact Nat.lt_succ_of_le this
    refine Int32.toBitVec_inj.mp (BitVec.eq_of_toNat_eq ?_)
    rw [Int64.toBitVec_toInt32, BitVec.signExtend_eq_setWidth_of_le _ (by decide)]
    show ((x &&& 255).toBitVec.setWidth 32).toNat = (BitVec.ofNat 32 (x.toBitVec &&& 255#64).toNat).toNat
    rw [BitVec.toNat_setWidth, BitVec.toNat_ofNat, Int64.toBitVec_and]
    rfl
  · refine Int8.toBitVec_inj.mp (BitVec.eq_of_getLsbD_eq (fun i hi => ?_))
    rw [Int32.toBitVec_toInt8, Int32.toBitVec_toInt8, Int64.toBitVec_toInt32, BitVec.signExtend_eq_setWidth_of_le _ (by decide), BitVec.signExtend_eq_setWidth_of_le _ (by decide), BitVec.signExtend_eq_setWidth_of_le _ (by decide)]
    show ((x.toBitVec.setWidth 32).setWidth 8).getLsbD i = ((BitVec.ofNat 32 (x.toBitVec &&& 255#64).toNat).setWidth 8).getLsbD i
    rw [BitVec.getLsbD_setWidth, BitVec.getLsbD_setWidth, BitVec.getLsbD_setWidth, BitVec.getLsbD_ofNat]
    have e : (x.toBitVec &&& 255#64).toNat.testBit i = (x.toBitVec &&& 255#64).getLsbD i := rfl
    rw [e, BitVec.getLsbD_and]
    have e2 : (255#64).getLsbD i = true := by
      have : ∀ i : Fin 8, (255#64).getLsbD i.val = true := by decide
      exact this ⟨i, hi⟩
    rw [e2, decide_eq_true hi, decide_eq_true (by omega : i < 32)]
    simp
theorem fed_by {f g : Nat → Int32} {tp : Nat} {b : Int64} (h : ∀ j, j < tp → f j = (g j).toInt8.toInt32 ∧ 0 ≤ g j ∧ g j ≤ 255) : ∀ i, ∀ j, j < tp + i → fdb f tp b i j = (mfd g tp b i j).toInt8.toInt32 ∧ 0 ≤ mfd g tp b i j ∧ mfd g tp b i j ≤ 255 := by
  intro i
  induction i with
  | zero => exact h
  | succ i ih =>
    intro j hj
    show gupd (fdb f tp b i) (tp + i) (fby b i) j = (gupd (mfd g tp b i) (tp + i) (mby b i) j).toInt8.toInt32 ∧ 0 ≤ gupd (mfd g tp b i) (tp + i) (mby b i) j ∧ gupd (mfd g tp b i) (tp + i) (mby b i) j ≤ 255
    by_cases e : j = tp + i
    · rw [e, gupd_s, gupd_s]
      obtain ⟨m, hm, e1, e2⟩ := byte_n (b >>> (((8 : Int32) * nI i).toInt64 &&& 63))
      unfold fby mby
      rw [e1, e2]
      exact ⟨rfl, by rw [show (0 : Int32) = nI 0 from rfl, nI_leI (by omega) (by omega)]; omega, by rw [show (255 : Int32) = nI 255 from rfl, nI_leI (by omega) (by omega)]; omega⟩
    · rw [gupd_n e, gupd_n e]
      exact ih j (by omega)
theorem Rel_feed {c : Nat} {ln : Nat → Nat} {I J : Nat → Nat → Int32} {L : Nat → Nat → Int64} (h : Rel c ln I L J) (n : Int32) (b : Int64) : ∃ tp, tp ≤ 160 ∧ I 13 3 = nI tp ∧ J 0 6 = nI tp ∧ (feedX I n b tp).1 = (mfeeX J n b tp).1 ∧ Rel c ln (feedX I n b tp).2 L (mfeeX J n b tp).2 := by
  have h0 := h
  obtain ⟨nr, nt, ru, tp, TT, hA, hT, ⟨p1, p2, p3, p4⟩, hF, hI, hS⟩ := h
  refine ⟨tp, p1, p2, p3, ?_⟩
  unfold feedX mfeeX
  by_cases c1 : 1 ≤ n ∧ n ≤ 8
  · rw [if_pos c1, if_pos c1]
    obtain ⟨k, hk, rfl⟩ := le_nI (M := 8) (by decide) (Int32.le_trans (by decide) c1.1) c1.2
    have hck : (nI k).toNatClampNeg = k := nI_clamp (by omega)
    have e1 : 160 - I 13 3 < nI k ↔ 160 < tp + k := by
      have : (160 - nI tp : Int32).toInt = 160 - (tp : Int) := by rw [show (160 : Int32) = nI 160 from rfl, pk_sub_toInt (by omega) (by omega)]; rfl
      rw [p2, Int32.lt_iff_toInt_lt, this, nI_toInt (by omega)]
      omega
    have e2 : 160 < J 0 6 + nI k ↔ 160 < tp + k := by
      rw [p3, nI_add, show (160 : Int32) = nI 160 from rfl, nI_ltI (by omega) (by omega)]
    by_cases c2 : 160 < tp + k
    · rw [if_pos (e1.mpr c2), if_pos (e2.mpr c2)]
      exact ⟨rfl, h0⟩
    · rw [if_neg (fun z => c2 (e1.mp z)), if_neg (fun z => c2 (e2.mp z)), hck]
      refine ⟨rfl, nr, nt, ru, tp + k, TT, hA, relT_tr hT (fun q hq => ?_) ⟨rfl, rfl⟩ ⟨rfl, rfl, rfl, rfl⟩, ⟨by omega, ?_, ?_, fed_by p4 k⟩, hF, hI, relS_tr hS (fun q hq hq' => ?_) (fun q hq => ?_)⟩
      · show gset (gset I 14 _) 13 _ q = _
        rw [gset_n (by omega), gset_n (by omega)]
      · show gupd (I 13) 3 (nI (tp + k)) 3 = _
        exact gupd_s
      · show gupd (J 0) 6 (nI (tp + k)) 6 = _
        exact gupd_s
      · show gset (gset I 14 _) 13 _ q = _
        rw [gset_n (by omega), gset_n (by omega)]
      · show gset (gset J 3 _) 0 _ q = _
        rw [gset_n (by omega), gset_n (by omega)]
  · rw [if_neg c1, if_neg c1]
    exact ⟨rfl, h0⟩
