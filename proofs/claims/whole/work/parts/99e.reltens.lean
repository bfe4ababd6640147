-- tenths by a sheet, on both sides
theorem tn_rel {c : Nat} {ln : Nat → Nat} {L : Nat → Nat → Int64} {f f' : Nat → Int32} {z : Nat} {fr : Int32} (hz : z ≤ 40) (hf : ∀ j, j < z → f j = f' j) : ∀ (m k : Nat) (came : Int32) (I J : Nat → Nat → Int32), Rel c ln I L J → (tnX f (nI z) fr m k came I).1 = (mtnX f' (nI z) fr m k came J).1 ∧ Rel c ln (tnX f (nI z) fr m k came I).2 L (mtnX f' (nI z) fr m k came J).2 := by
  intro m
  induction m with
  | zero => intro k came I J h; exact ⟨rfl, h⟩
  | succ m ih =>
    intro k came I J h
    unfold tnX mtnX
    by_cases c1 : 0 ≤ fr.toInt ∧ fr.toInt + 3 * k + 3 ≤ (nI z).toInt
    · rw [if_pos c1, if_pos c1]
      rw [nI_toInt (by omega)] at c1
      have hc : ((fr.toNatClampNeg : Nat) : Int) = fr.toInt := by
        show ((fr.toInt.toNat : Nat) : Int) = fr.toInt
        omega
      rw [hf (fr.toNatClampNeg + 3 * k) (by omega), hf (fr.toNatClampNeg + 3 * k + 1) (by omega), hf (fr.toNatClampNeg + 3 * k + 2) (by omega)]
      obtain ⟨e1, e2⟩ := Rel_tenth h (f' (fr.toNatClampNeg + 3 * k)) (f' (fr.toNatClampNeg + 3 * k + 1)) (f' (fr.toNatClampNeg + 3 * k + 2))
      rw [e1]
      exact ih _ _ _ _ e2
    · rw [if_neg c1, if_neg c1]; exact ⟨rfl, h⟩
theorem Rel_tenths {c : Nat} {ln : Nat → Nat} {I J : Nat → Nat → Int32} {L : Nat → Nat → Int64} (h : Rel c ln I L J) (s sort fr n : Int32) : (tenthsX I s sort fr n).1 = (mtesX J s sort fr n).1 ∧ Rel c ln (tenthsX I s sort fr n).2 L (mtesX J s sort fr n).2 := by
  have hS := Rel_relS h
  unfold tenthsX mtesX
  by_cases c1 : (0 ≤ s ∧ s < 4) ∧ (0 ≤ sort ∧ sort ≤ 2) ∧ 0 ≤ n ∧ n ≤ 12
  · rw [if_pos c1, if_pos c1]
    obtain ⟨sn, hsn, rfl⟩ := fours c1.1
    have hcs : (nI sn).toNatClampNeg = sn := nI_clamp (by omega)
    unfold kS
    rw [hcs]
    obtain ⟨q1, q2⟩ := hS sn hsn
    by_cases c2 : J 21 sn = 0
    · rw [if_pos (q1.mpr c2), if_neg (fun z : ¬ J 21 sn = 0 ∧ ¬ J 22 sn = sort => z.1 c2), if_pos c2]
      exact ⟨rfl, h⟩
    · rw [if_neg (fun z => c2 (q1.mp z))]
      obtain ⟨e1, z, hz, e2, e3, e4⟩ := q2 c2
      rw [e1, e2, e3]
      by_cases c3 : J 22 sn = sort
      · rw [if_pos c3, if_neg (fun z : ¬ J 21 sn = 0 ∧ ¬ J 22 sn = sort => z.2 c3), if_neg c2]
        refine tn_rel hz (fun j hj => ?_) _ _ _ _ _ h
        rw [show 33 + 2 * sn + 1 = 34 + 2 * sn by omega]
        exact e4 j hj
      · rw [if_neg c3, if_pos (show ¬ J 21 sn = 0 ∧ ¬ J 22 sn = sort from ⟨c2, c3⟩)]
        exact ⟨rfl, h⟩
  · rw [if_neg c1, if_neg c1]; exact ⟨rfl, h⟩
