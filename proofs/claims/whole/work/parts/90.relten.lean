-- tenth, on both sides
theorem relA_tenth {I J : Nat → Nat → Int32} {nr nt : Nat} (h : relA I J nr nt) (hlt : nt < 40) (a b z : Int32) (hz : 2 ≤ z) :
    relA (gset (gset (gset (gset (gset I 2 (gupd (I 2) nt a)) 3 (gupd (I 3) nt b)) 4 (gupd (I 4) nt (z - z / 2 * 2))) 5 (gupd (I 5) nt (z / 2))) 1 (gupd (I 1) 4 (I 1 4 + 1)))
      (gset (gset (gset (gset (gset J 4 (gupd (J 4) nt a)) 5 (gupd (J 5) nt b)) 6 (gupd (J 6) nt z)) 7 (gupd (J 7) nt 0)) 0 (gupd (J 0) 11 (J 0 11 + 1))) nr (nt + 1) := by
  obtain ⟨a1, ⟨a2, a2'⟩, a3, a4, a5⟩ := h
  have e11 : J 0 11 = nI nt := by rw [← a2]; exact a1.nt.symm
  refine ⟨?_, ⟨?_, by omega⟩, a3, fun t ht => ?_, a5⟩
  · unfold agX
    refine ⟨?_, a1.nr, ?_, ?_, ?_, ?_, a1.a7, a1.a8, a1.a9, a1.a10, a1.a11⟩
    · show I 1 4 + 1 = J 0 11 + 1
      rw [a2, e11]
    · show gupd (I 2) nt a = fun j => gupd (J 4) nt a j
      rw [a1.a2]; rfl
    · show gupd (I 3) nt b = fun j => gupd (J 5) nt b j
      rw [a1.a3]; rfl
    · show gupd (I 4) nt (z - z / 2 * 2) = fun j => gupd (J 6) nt z j - gupd (J 6) nt z j / 2 * 2
      rw [a1.a4]
      funext j
      by_cases e : j = nt
      · subst e; rw [gupd_s, gupd_s]
      · rw [gupd_n e, gupd_n e]; rfl
    · show gupd (I 5) nt (z / 2) = fun j => gupd (J 6) nt z j / 2
      rw [a1.a5]
      funext j
      by_cases e : j = nt
      · subst e; rw [gupd_s, gupd_s]
      · rw [gupd_n e, gupd_n e]; rfl
  · show I 1 4 + 1 = _
    rw [a2, nI_1]
  · show 0 ≤ gupd (J 6) nt z t
    by_cases e : t = nt
    · subst e; rw [gupd_s]; exact Int32.le_trans (by decide) hz
    · rw [gupd_n e]; exact a4 t (by omega)
theorem relT_tr {c : Nat} {ln : Nat → Nat} {I I' J J' : Nat → Nat → Int32} {ru : Nat} {TT : Nat → Tx} (h : relT c ln I J ru TT) (hI : ∀ k, 41 ≤ k → I' k = I k) (h17 : I' 17 5 = I 17 5 ∧ I' 17 6 = I 17 6) (hJ : J' 1 = J 1 ∧ J' 2 = J 2 ∧ J' 0 3 = J 0 3 ∧ J' 0 4 = J 0 4) : relT c ln I' J' ru TT := by
  obtain ⟨t1, t2, t3, t4⟩ := h
  refine ⟨t1, by rw [h17.1, h17.2]; exact t2, by rw [hJ.2.2.1, hJ.2.2.2]; exact t3, fun x hx => ?_⟩
  obtain ⟨y1, y2, y3, b, m, y4, y5⟩ := t4 x hx
  refine ⟨y1, ?_, y3, b, m, ?_, y5⟩
  · unfold laid
    rw [hI (42 + 2 * x) (by omega), hI (41 + 2 * x) (by omega)]
    exact y2
  · unfold mtl
    rw [hJ.1, hJ.2.1]
    exact y4
theorem relS_tr {I I' J J' : Nat → Nat → Int32} (h : relS I J) (hI : ∀ k, 33 ≤ k → k ≤ 40 → I' k = I k) (hJ : ∀ k, 21 ≤ k → J' k = J k) : relS I' J' := by
  intro s hs
  rw [hI (33 + 2 * s) (by omega) (by omega), hI (34 + 2 * s) (by omega) (by omega), hJ 21 (by decide), hJ 22 (by decide), hJ 23 (by decide), hJ 24 (by decide)]
  exact h s hs
theorem relF_tenth {L : Nat → Nat → Int64} {J J' : Nat → Nat → Int32} {nt : Nat} (h : relF L J nt) (h7 : J' 7 = gupd (J 7) nt 0) : relF L J' (nt + 1) := by
  obtain ⟨h1, h2⟩ := h
  refine ⟨fun t ht => ?_, fun r hr t ht => ?_⟩
  · rw [h7]
    by_cases e : t = nt
    · subst e; rw [gupd_s]; exact ⟨0, by omega, rfl⟩
    · rw [gupd_n e]; exact h1 t (by omega)
  · rw [h2 r hr t ht, h7]
    by_cases e : t = nt
    · subst e
      rw [gupd_s, b_0]; simp
    · rw [gupd_n e]
      by_cases c : t < nt
      · rw [decide_eq_true c, decide_eq_true (by omega : t < nt + 1)]
      · rw [decide_eq_false c, decide_eq_false (by omega : ¬ t < nt + 1)]
theorem Rel_tenth {c : Nat} {ln : Nat → Nat} {I J : Nat → Nat → Int32} {L : Nat → Nat → Int64} (h : Rel c ln I L J) (a b z : Int32) : (radd I a b z).1 = (mtenX J a b z).1 ∧ Rel c ln (radd I a b z).2 L (mtenX J a b z).2 := by
  have h0 := h
  obtain ⟨nr, nt, ru, n, TT, hA, hT, hP, hF, hI, hS⟩ := h
  have e14 : I 1 4 = nI nt := hA.2.1.1
  have hnt := hA.2.1.2
  have e11 : J 0 11 = nI nt := by rw [← e14]; exact hA.1.nt.symm
  unfold radd mtenX
  by_cases c1 : -9 ≤ a ∧ a ≤ 9 ∧ 0 ≤ b ∧ b ≤ 9 ∧ 2 ≤ z ∧ z ≤ 41
  · rw [if_pos c1, if_pos (show (-9 ≤ a ∧ a ≤ 9) ∧ (0 ≤ b ∧ b ≤ 9) ∧ 2 ≤ z ∧ z ≤ 41 from ⟨⟨c1.1, c1.2.1⟩, ⟨c1.2.2.1, c1.2.2.2.1⟩, c1.2.2.2.2⟩)]
    by_cases c2 : nt = 40
    · rw [if_pos (show 40 ≤ I 1 4 by rw [e14, c2]; decide), if_pos (show J 0 11 = 40 by rw [e11, c2]; rfl)]
      exact ⟨rfl, h0⟩
    · have hlt : nt < 40 := by omega
      rw [if_neg (show ¬ 40 ≤ I 1 4 by rw [e14, show (40 : Int32) = nI 40 from rfl, nI_leI (by omega) (by omega)]; omega), if_neg (show ¬ J 0 11 = 40 by rw [e11]; intro q; exact c2 ((nI_eq (b := 40) (by omega) (by omega)).mp q))]
      have hc1 : (I 1 4).toNatClampNeg = nt := by rw [e14]; exact nI_clamp (by omega)
      have hc2 : (J 0 11).toNatClampNeg = nt := by rw [e11]; exact nI_clamp (by omega)
      rw [hc1, hc2]
      refine ⟨?_, nr, nt + 1, ru, n, TT, relA_tenth hA hlt a b z c1.2.2.2.2.1, relT_tr hT (fun k hk => ?_) ⟨rfl, rfl⟩ ⟨rfl, rfl, rfl, rfl⟩, hP, relF_tenth hF rfl, ?_, relS_tr hS (fun k hk hk' => ?_) (fun k hk => ?_)⟩
      · show I 1 4 = J 0 11 + 1 - 1
        rw [e14, e11, nI_1]; exact (nI_pred _).symm
      · show gset _ _ _ k = _
        rw [gset_n (by omega), gset_n (by omega), gset_n (by omega), gset_n (by omega), gset_n (by omega)]
      · obtain ⟨i1, ic, it, iru, i2, i3, i4⟩ := hI
        exact ⟨i1, ic, it, iru, i2, by omega, i4⟩
      · show gset _ _ _ k = _
        rw [gset_n (by omega), gset_n (by omega), gset_n (by omega), gset_n (by omega), gset_n (by omega)]
      · show gset _ _ _ k = _
        rw [gset_n (by omega), gset_n (by omega), gset_n (by omega), gset_n (by omega), gset_n (by omega)]
  · rw [if_neg c1, if_neg (fun q : (-9 ≤ a ∧ a ≤ 9) ∧ (0 ≤ b ∧ b ≤ 9) ∧ 2 ≤ z ∧ z ≤ 41 => c1 ⟨q.1.1, q.1.2, q.2.1.1, q.2.1.2, q.2.2⟩)]
    exact ⟨rfl, h0⟩
/-- set, force -/
theorem Rel_force {c : Nat} {ln : Nat → Nat} {I J : Nat → Nat → Int32} {L : Nat → Nat → Int64} (h : Rel c ln I L J) (t : Int32) : (forceX I t).1 = (mforX J t).1 ∧ Rel c ln (forceX I t).2 L (mforX J t).2 := by
  have h0 := h
  obtain ⟨nr, nt, ru, n, TT, hA, hT, hP, hF, hI, hS⟩ := h
  obtain ⟨t1, t2, t3, t4⟩ := hT
  unfold forceX mforX
  rw [t2.1, t3.1]
  by_cases c1 : 0 ≤ t ∧ t < nI c
  · rw [if_pos c1, if_pos c1]
    obtain ⟨k, hk, rfl⟩ := vp_in_of (gin_of (r := t) c1 t1.2.1 (by omega)) (by omega)
    have hkc : k < c := (nI_ltI (by omega) (by omega)).mp c1.2
    refine ⟨by show I 17 6 = J 0 4; rw [t2.2, t3.2], nr, nt, k, n, TT, hA, ⟨⟨t1.1, t1.2.1, hkc⟩, ⟨t2.1, ?_⟩, ⟨t3.1, ?_⟩, fun x hx => ?_⟩, hP, hF, hI, relS_tr hS (fun k hk hk' => gset_n (by omega)) (fun k hk => gset_n (by omega))⟩
    · show gset I 17 (gupd (I 17) 6 (nI k)) 17 6 = nI k; rw [gset_s]; exact gupd_s
    · show gset J 0 (gupd (J 0) 4 (nI k)) 0 4 = nI k; rw [gset_s]; exact gupd_s
    · obtain ⟨y1, y2, y3, b, m, y4, y5⟩ := t4 x hx
      refine ⟨y1, ?_, y3, b, m, y4, y5⟩
      show laid (gset I 17 (gupd (I 17) 6 (nI k))) ln x (TT x).2.1
      unfold laid
      rw [gset_n (show 42 + 2 * x ≠ 17 by omega), gset_n (show 41 + 2 * x ≠ 17 by omega)]
      exact y2
  · rw [if_neg c1, if_neg c1]
    exact ⟨rfl, h0⟩
