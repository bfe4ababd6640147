-- sheets, on both sides
theorem Rel_sheets {c : Nat} {ln : Nat → Nat} {I I' J J' : Nat → Nat → Int32} {L : Nat → Nat → Int64} (h : Rel c ln I L J) (hI : ∀ k, (k < 33 ∨ 40 < k) → I' k = I k) (hJ : ∀ k, (k < 21 ∨ 24 < k) → J' k = J k) (hS : relS I' J') : Rel c ln I' L J' := by
  obtain ⟨nr, nt, ru, n, TT, hA, hT, hP, hF, hi, -⟩ := h
  have e0 : J' 0 = J 0 := hJ 0 (by omega)
  refine ⟨nr, nt, ru, n, TT, relA_tr hA (fun k a b => hI k (by omega)) ⟨by rw [e0], by rw [e0]⟩ (fun k a b => hJ k (by omega)), relT_tr hT (fun k a => hI k (by omega)) ⟨by rw [hI 17 (by omega)], by rw [hI 17 (by omega)]⟩ ⟨hJ 1 (by omega), hJ 2 (by omega), by rw [e0], by rw [e0]⟩, ?_, ?_, relI_tr hi (Nat.le_refl _) ⟨hI 28 (by omega), hI 29 (by omega), hI 30 (by omega)⟩ rfl ⟨⟨by rw [e0], by rw [e0], by rw [e0], by rw [e0]⟩, hJ 18 (by omega), hJ 19 (by omega), hJ 20 (by omega)⟩, hS⟩
  · unfold relP
    rw [hI 13 (by omega), hI 14 (by omega), e0, hJ 3 (by omega)]
    exact hP
  · unfold relF
    rw [hJ 7 (by omega)]
    exact hF
theorem Rel_relS {c : Nat} {ln : Nat → Nat} {I J : Nat → Nat → Int32} {L : Nat → Nat → Int64} (h : Rel c ln I L J) : relS I J := by
  obtain ⟨nr, nt, ru, n, TT, hA, hT, hP, hF, hi, hS⟩ := h
  exact hS
theorem Rel_cell {c : Nat} {ln : Nat → Nat} {I J : Nat → Nat → Int32} {L : Nat → Nat → Int64} (h : Rel c ln I L J) (s i v : Int32) : (cellX I s i v).1 = (mcelX J s i v).1 ∧ Rel c ln (cellX I s i v).2 L (mcelX J s i v).2 := by
  have hS := Rel_relS h
  unfold cellX mcelX
  by_cases c1 : 0 ≤ s ∧ s < 4
  · rw [if_pos c1, if_pos c1]
    obtain ⟨sn, hsn, rfl⟩ := fours c1
    have hcs : (nI sn).toNatClampNeg = sn := nI_clamp (by omega)
    unfold kS
    rw [hcs]
    obtain ⟨q1, q2⟩ := hS sn hsn
    by_cases c2 : J 21 sn = 0
    · rw [if_pos (q1.mpr c2), if_pos c2]; exact ⟨rfl, h⟩
    · rw [if_neg (fun z => c2 (q1.mp z)), if_neg c2]
      obtain ⟨e1, z, hz, e2, e3, e4⟩ := q2 c2
      rw [e1, e2, e3]
      by_cases c3 : 0 ≤ i ∧ i ≤ nI z - 1
      · rw [if_pos (show 0 ≤ i ∧ (0 : Int32) ≤ 1 ∧ i ≤ nI z - 1 from ⟨c3.1, by decide, c3.2⟩), if_pos c3]
        obtain ⟨k, hk, rfl⟩ := vp_in_of (gin40 (x := nI z) rfl hz c3.1 c3.2) (by omega)
        have hck : (nI k).toNatClampNeg = k := nI_clamp (by omega)
        rw [hck]
        refine ⟨rfl, Rel_sheets h (fun q hq => gset_n (by omega)) (fun q hq => gset_n (by omega)) (fun x hx => ?_)⟩
        obtain ⟨w1, w2⟩ := hS x hx
        show (gset I (33 + 2 * sn + 1) _ (33 + 2 * x) 1 = -1 ↔ J 21 x = 0) ∧ (¬ J 21 x = 0 → gset I (33 + 2 * sn + 1) _ (33 + 2 * x) 1 = J 22 x ∧ ∃ z, z ≤ 40 ∧ gset I (33 + 2 * sn + 1) _ (33 + 2 * x) 2 = nI z ∧ J 23 x = nI z ∧ ∀ j, j < z → gset I (33 + 2 * sn + 1) (gupd (I (33 + 2 * sn + 1)) k (nar (J 22 sn) v)) (34 + 2 * x) j = gupd (J 24) (40 * sn + k) (nar (J 22 sn) v) (40 * x + j))
        rw [gset_n (show 33 + 2 * x ≠ 33 + 2 * sn + 1 by omega)]
        refine ⟨w1, fun hne => ?_⟩
        obtain ⟨v1, y, hy, v2, v3, v4⟩ := w2 hne
        refine ⟨v1, y, hy, v2, v3, fun j hj => ?_⟩
        by_cases e : x = sn
        · subst e
          rw [show 34 + 2 * x = 33 + 2 * x + 1 by omega, gset_s]
          by_cases e5 : j = k
          · rw [e5, gupd_s, gupd_s]
          · rw [gupd_n e5, gupd_n (by omega), show 33 + 2 * x + 1 = 34 + 2 * x by omega]
            exact v4 j hj
        · rw [gset_n (by omega), gupd_n (by omega)]
          exact v4 j hj
      · rw [if_neg (fun z => c3 ⟨z.1, z.2.2⟩), if_neg c3]; exact ⟨rfl, h⟩
  · rw [if_neg c1, if_neg c1]; exact ⟨rfl, h⟩
