-- sheet, on both sides
theorem sort_pos {x : Int32} (h : -1 ≤ x) : ¬ x = -1 ↔ 0 ≤ x := by
  constructor
  · intro z; (simp only [Int32.lt_iff_toInt_lt, Int32.le_iff_toInt_le, ← Int32.toInt_inj, Int32.reduceToInt] at *; omega)
  · intro z; (simp only [Int32.lt_iff_toInt_lt, Int32.le_iff_toInt_le, ← Int32.toInt_inj, Int32.reduceToInt] at *; omega)
theorem Rel_sheet {c : Nat} {ln : Nat → Nat} {I J : Nat → Nat → Int32} {L : Nat → Nat → Int64} (h : Rel c ln I L J) (s sort n : Int32) : (sheetX I s sort n).1 = (msheX J s sort n).1 ∧ Rel c ln (sheetX I s sort n).2 L (msheX J s sort n).2 := by
  have hS := Rel_relS h
  unfold sheetX msheX
  by_cases c1 : (0 ≤ s ∧ s < 4) ∧ -1 ≤ sort ∧ sort ≤ 2
  · rw [if_pos c1]
    have sp := sort_pos c1.2.1
    by_cases c2 : 0 ≤ sort ∧ 40 < n
    · rw [if_pos (show ¬ sort = -1 ∧ 40 < n from ⟨sp.mpr c2.1, c2.2⟩), if_neg (fun z : (((0 ≤ s ∧ s < 4) ∧ -1 ≤ sort ∧ sort ≤ 2) ∧ ¬ (0 ≤ sort ∧ 40 < n)) => z.2 c2)]
      exact ⟨rfl, h⟩
    · rw [if_neg (fun z : ¬ sort = -1 ∧ 40 < n => c2 ⟨sp.mp z.1, z.2⟩), if_pos (show ((0 ≤ s ∧ s < 4) ∧ -1 ≤ sort ∧ sort ≤ 2) ∧ ¬ (0 ≤ sort ∧ 40 < n) from ⟨c1, c2⟩)]
      by_cases c3 : 0 ≤ sort ∧ n < 0
      · rw [if_pos (show ¬ sort = -1 ∧ n < 0 from ⟨sp.mpr c3.1, c3.2⟩), if_pos c3]
        exact ⟨rfl, h⟩
      · rw [if_neg (fun z : ¬ sort = -1 ∧ n < 0 => c3 ⟨sp.mp z.1, z.2⟩), if_neg c3]
        obtain ⟨sn, hsn, rfl⟩ := fours c1.1
        have hcs : (nI sn).toNatClampNeg = sn := nI_clamp (by omega)
        unfold kS
        rw [hcs]
        refine ⟨rfl, Rel_sheets h (fun q hq => ?_) (fun q hq => ?_) (fun x hx => ?_)⟩
        · show gset (gset I _ _) _ _ q = _
          rw [gset_n (by omega), gset_n (by omega)]
        · show gset (gset (gset (gset J 21 _) 22 _) 23 _) 24 _ q = _
          rw [gset_n (by omega), gset_n (by omega), gset_n (by omega), gset_n (by omega)]
        obtain ⟨w1, w2⟩ := hS x hx
        obtain ⟨I', hI'⟩ : ∃ I', I' = gset (gset I (33 + 2 * sn) (gupd (gupd (I (33 + 2 * sn)) 1 sort) 2 (if sort = -1 then 0 else n))) (33 + 2 * sn + 1) (ffil (I (33 + 2 * sn + 1)) 0 40) := ⟨_, rfl⟩
        show (gset (gset I (33 + 2 * sn) (gupd (gupd (I (33 + 2 * sn)) 1 sort) 2 (if sort = -1 then 0 else n))) (33 + 2 * sn + 1) (ffil (I (33 + 2 * sn + 1)) 0 40) (33 + 2 * x) 1 = -1 ↔ gupd (J 21) sn (if sort < 0 then 0 else 1) x = 0) ∧ (¬ gupd (J 21) sn (if sort < 0 then 0 else 1) x = 0 → gset (gset I (33 + 2 * sn) (gupd (gupd (I (33 + 2 * sn)) 1 sort) 2 (if sort = -1 then 0 else n))) (33 + 2 * sn + 1) (ffil (I (33 + 2 * sn + 1)) 0 40) (33 + 2 * x) 1 = gupd (J 22) sn sort x ∧ ∃ z, z ≤ 40 ∧ gset (gset I (33 + 2 * sn) (gupd (gupd (I (33 + 2 * sn)) 1 sort) 2 (if sort = -1 then 0 else n))) (33 + 2 * sn + 1) (ffil (I (33 + 2 * sn + 1)) 0 40) (33 + 2 * x) 2 = nI z ∧ gupd (J 23) sn n x = nI z ∧ ∀ j, j < z → gset (gset I (33 + 2 * sn) (gupd (gupd (I (33 + 2 * sn)) 1 sort) 2 (if sort = -1 then 0 else n))) (33 + 2 * sn + 1) (ffil (I (33 + 2 * sn + 1)) 0 40) (34 + 2 * x) j = (if sort < 0 then J 24 else zer (J 24) (40 * sn) n.toNatClampNeg) (40 * x + j))
        rw [← hI']
        by_cases e : x = sn
        · subst e
          have a33 : I' (33 + 2 * x) = gupd (gupd (I (33 + 2 * x)) 1 sort) 2 (if sort = -1 then 0 else n) := by rw [hI', gset_n (by omega), gset_s]
          have a34 : I' (34 + 2 * x) = ffil (I (33 + 2 * x + 1)) 0 40 := by rw [hI', show 34 + 2 * x = 33 + 2 * x + 1 by omega, gset_s]
          rw [a33, a34, gupd_n (show (1 : Nat) ≠ 2 by decide), gupd_s, gupd_s, gupd_s, gupd_s, gupd_s]
          by_cases neg : sort < 0
          · have hm1 : sort = -1 := Classical.byContradiction (fun z => absurd (sp.mp z) (Int32.not_le.mpr neg))
            rw [if_pos neg]
            exact ⟨⟨fun _ => rfl, fun _ => hm1⟩, fun z => absurd rfl z⟩
          · have hpos : 0 ≤ sort := Int32.not_lt.mp neg
            have hne : ¬ sort = -1 := sp.mpr hpos
            rw [if_neg neg]
            refine ⟨⟨fun z => absurd z hne, fun z => absurd z (by decide)⟩, fun _ => ⟨rfl, ?_⟩⟩
            obtain ⟨z, hz, rfl⟩ := le_nI (M := 40) (by decide) (Int32.not_lt.mp (fun q => c3 ⟨hpos, q⟩)) (Int32.not_lt.mp (fun q => c2 ⟨hpos, q⟩))
            refine ⟨z, hz, if_neg hne, rfl, fun j hj => ?_⟩
            rw [if_neg neg, nI_clamp (by omega)]
            unfold ffil zer
            rw [if_pos (by omega), if_pos (by omega)]
        · have a33 : I' (33 + 2 * x) = I (33 + 2 * x) := by rw [hI', gset_n (by omega), gset_n (by omega)]
          have a34 : I' (34 + 2 * x) = I (34 + 2 * x) := by rw [hI', gset_n (by omega), gset_n (by omega)]
          rw [a33, a34, gupd_n e, gupd_n e, gupd_n e]
          refine ⟨w1, fun hne => ?_⟩
          obtain ⟨v1, y, hy, v2, v3, v4⟩ := w2 hne
          refine ⟨v1, y, hy, v2, v3, fun j hj => ?_⟩
          rw [v4 j hj]
          by_cases neg : sort < 0
          · rw [if_pos neg]
          · have hpos : 0 ≤ sort := Int32.not_lt.mp neg
            rw [if_neg neg]
            obtain ⟨z, hz, rfl⟩ := le_nI (M := 40) (by decide) (Int32.not_lt.mp (fun q => c3 ⟨hpos, q⟩)) (Int32.not_lt.mp (fun q => c2 ⟨hpos, q⟩))
            unfold zer
            rw [nI_clamp (by omega), if_neg (by omega)]
  · rw [if_neg c1, if_neg (fun z : (((0 ≤ s ∧ s < 4) ∧ -1 ≤ sort ∧ sort ≤ 2) ∧ ¬ (0 ≤ sort ∧ 40 < n)) => c1 z.1)]
    exact ⟨rfl, h⟩
