-- copy, on both sides
theorem cpz {i n : Int32} {z : Nat} (hz : z ≤ 40) (h : 0 ≤ i ∧ 0 ≤ n ∧ i ≤ nI z - n) : ∃ a b, i = nI a ∧ n = nI b ∧ a + b ≤ z := by
  obtain ⟨h1, h2, h3⟩ := h
  obtain ⟨a, ha, rfl⟩ := nI_of (Int32.not_lt.mpr h1)
  obtain ⟨b, hb, rfl⟩ := nI_of (Int32.not_lt.mpr h2)
  refine ⟨a, b, rfl, rfl, ?_⟩
  rw [Int32.le_iff_toInt_le, nI_toInt ha] at h3
  have e : (nI z - nI b).toInt = (z : Int) - b := by
    have hs : (nI z - nI b).toInt = ((nI z).toInt - (nI b).toInt).bmod (2 ^ 32) := Int32.toInt_sub _ _
    rw [hs, nI_toInt (by omega), nI_toInt hb, Int.bmod_eq_of_le (by omega) (by omega)]
  rw [e] at h3
  omega
theorem Rel_copy {c : Nat} {ln : Nat → Nat} {I J : Nat → Nat → Int32} {L : Nat → Nat → Int64} (h : Rel c ln I L J) (s i o j n : Int32) : (copyX I s i o j n).1 = (mcopX J s i o j n).1 ∧ Rel c ln (copyX I s i o j n).2 L (mcopX J s i o j n).2 := by
  have hS := Rel_relS h
  unfold copyX mcopX
  by_cases c1 : (0 ≤ s ∧ s < 4) ∧ 0 ≤ o ∧ o < 4
  · rw [if_pos c1, if_pos c1]
    obtain ⟨sn, hsn, rfl⟩ := fours c1.1
    obtain ⟨on, hon, rfl⟩ := fours c1.2
    have hcs : (nI sn).toNatClampNeg = sn := nI_clamp (by omega)
    have hco : (nI on).toNatClampNeg = on := nI_clamp (by omega)
    unfold kS
    rw [hcs, hco]
    obtain ⟨q1, q2⟩ := hS sn hsn
    obtain ⟨r1, r2⟩ := hS on hon
    by_cases c2 : J 21 sn = 0 ∨ J 21 on = 0
    · rw [if_pos (c2.elim (fun z => Or.inl (q1.mpr z)) (fun z => Or.inr (r1.mpr z))), if_pos c2]
      exact ⟨rfl, h⟩
    rw [if_neg (fun z => c2 (z.elim (fun y => Or.inl (q1.mp y)) (fun y => Or.inr (r1.mp y)))), if_neg c2]
    obtain ⟨e1, zs, hzs, e2, e3, e4⟩ := q2 (fun z => c2 (Or.inl z))
    obtain ⟨g1, zo, hzo, g2, g3, g4⟩ := r2 (fun z => c2 (Or.inr z))
    rw [e1, g1, e2, e3, g2, g3]
    by_cases c3 : ¬ J 22 sn = J 22 on
    · rw [if_pos c3, if_pos c3]; exact ⟨rfl, h⟩
    rw [if_neg c3, if_neg c3]
    by_cases c4 : (0 ≤ i ∧ 0 ≤ n ∧ i ≤ nI zs - n) ∧ 0 ≤ j ∧ 0 ≤ n ∧ j ≤ nI zo - n
    · rw [if_pos c4, if_pos (show 0 ≤ n ∧ 0 ≤ i ∧ 0 ≤ j ∧ i ≤ nI zs - n ∧ j ≤ nI zo - n from ⟨c4.1.2.1, c4.1.1, c4.2.1, c4.1.2.2, c4.2.2.2⟩)]
      have k1 := cpz hzs c4.1
      have k2 := cpz hzo c4.2
      obtain ⟨a, b, rfl, rfl, hab⟩ := k1
      obtain ⟨d, b', rfl, hb', hdb⟩ := k2
      have hbb : b = b' ∨ (2 ^ 31 ≤ b ∨ 2 ^ 31 ≤ b') := by
        rcases Nat.lt_or_ge b (2 ^ 31) with u | u
        · rcases Nat.lt_or_ge b' (2 ^ 31) with v | v
          · exact Or.inl ((nI_eq u v).mp hb')
          · exact Or.inr (Or.inr v)
        · exact Or.inr (Or.inl u)
      have hbe : b = b' := by omega
      subst hbe
      rw [nI_clamp (by omega), nI_clamp (by omega), nI_clamp (by omega)]
      refine ⟨rfl, Rel_sheets h (fun q hq => gset_n (by omega)) (fun q hq => gset_n (by omega)) (fun x hx => ?_)⟩
      obtain ⟨w1, w2⟩ := hS x hx
      show (gset I (33 + 2 * on + 1) _ (33 + 2 * x) 1 = -1 ↔ J 21 x = 0) ∧ (¬ J 21 x = 0 → gset I (33 + 2 * on + 1) _ (33 + 2 * x) 1 = J 22 x ∧ ∃ z, z ≤ 40 ∧ gset I (33 + 2 * on + 1) _ (33 + 2 * x) 2 = nI z ∧ J 23 x = nI z ∧ ∀ y, y < z → gset I (33 + 2 * on + 1) (va_cpy (I (33 + 2 * sn + 1)) (I (33 + 2 * on + 1)) a d b) (34 + 2 * x) y = mcp (J 24) (40 * sn + a) (40 * on + d) b (40 * x + y))
      rw [gset_n (show 33 + 2 * x ≠ 33 + 2 * on + 1 by omega)]
      refine ⟨w1, fun hne => ?_⟩
      obtain ⟨v1, z, hz, v2, v3, v4⟩ := w2 hne
      refine ⟨v1, z, hz, v2, v3, fun y hy => ?_⟩
      unfold mcp
      by_cases e : x = on
      · subst e
        rw [show 34 + 2 * x = 33 + 2 * x + 1 by omega, gset_s]
        by_cases e5 : d ≤ y ∧ y < d + b
        · rw [pk_cpy_in e5.1 e5.2, if_pos (by omega), show 33 + 2 * sn + 1 = 34 + 2 * sn by omega, e4 (a + (y - d)) (by omega), show 40 * sn + a + (40 * x + y - (40 * x + d)) = 40 * sn + (a + (y - d)) by omega]
        · rw [pk_cpy_out (by omega), if_neg (by omega), show 33 + 2 * x + 1 = 34 + 2 * x by omega]
          exact v4 y hy
      · rw [gset_n (by omega), if_neg (by omega)]
        exact v4 y hy
    · rw [if_neg c4, if_neg (fun z : 0 ≤ n ∧ 0 ≤ i ∧ 0 ≤ j ∧ i ≤ nI zs - n ∧ j ≤ nI zo - n => c4 ⟨⟨z.2.1, z.1, z.2.2.2.1⟩, z.2.2.1, z.1, z.2.2.2.2⟩)]
      exact ⟨rfl, h⟩
  · rw [if_neg c1, if_neg c1]; exact ⟨rfl, h⟩
