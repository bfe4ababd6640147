-- rider, set, on both sides
theorem le_nI {x : Int32} {M : Nat} (hM : M < 2 ^ 31) (h0 : 0 ≤ x) (h : x ≤ nI M) : ∃ m, m ≤ M ∧ x = nI m := by
  obtain ⟨n, hn, rfl⟩ := nI_of (x := x) (Int32.not_lt.mpr h0)
  exact ⟨n, (nI_leI (by omega) (by omega)).mp h, rfl⟩
theorem relA_rider {I J : Nat → Nat → Int32} {nr nt : Nat} (h : relA I J nr nt) (hlt : nr < 12) (k hn p s : Int32) (h1 : 0 ≤ k ∧ k ≤ 5) (h2 : 0 ≤ hn ∧ hn ≤ 39) (h3 : 1 ≤ p ∧ p ≤ 99) (h4 : 0 ≤ s ∧ s ≤ 999) :
    relA (gset (gset (gset (gset (gset (gset I 7 (gupd (I 7) nr k)) 8 (gupd (I 8) nr (hn / 10))) 9 (gupd (I 9) nr (hn - hn / 10 * 10))) 10 (gupd (I 10) nr p)) 11 (gupd (I 11) nr s)) 6 (gupd (I 6) 6 (I 6 6 + 1)))
      (gset (gset (gset (gset (gset (gset J 8 (gupd (J 8) nr k)) 9 (gupd (J 9) nr (hn / 10))) 10 (gupd (J 10) nr (hn - hn / 10 * 10))) 11 (gupd (J 11) nr p)) 12 (gupd (J 12) nr s)) 0 (gupd (J 0) 17 (J 0 17 + 1))) (nr + 1) nt := by
  obtain ⟨a1, a2, ⟨a3, a3'⟩, a4, a5⟩ := h
  have e17 : J 0 17 = nI nr := by rw [← a3]; exact a1.nr.symm
  refine ⟨?_, a2, ⟨?_, by omega⟩, a4, fun r hr => ?_⟩
  · unfold agX
    refine ⟨a1.nt, ?_, a1.a2, a1.a3, a1.a4, a1.a5, ?_, ?_, ?_, ?_, ?_⟩
    · show I 6 6 + 1 = J 0 17 + 1
      rw [a3, e17]
    · show gupd (I 7) nr k = fun j => gupd (J 8) nr k j
      rw [a1.a7]; rfl
    · show gupd (I 8) nr (hn / 10) = fun j => gupd (J 9) nr (hn / 10) j
      rw [a1.a8]; rfl
    · show gupd (I 9) nr (hn - hn / 10 * 10) = fun j => gupd (J 10) nr (hn - hn / 10 * 10) j
      rw [a1.a9]; rfl
    · show gupd (I 10) nr p = fun j => gupd (J 11) nr p j
      rw [a1.a10]; rfl
    · show gupd (I 11) nr s = fun j => gupd (J 12) nr s j
      rw [a1.a11]; rfl
  · show I 6 6 + 1 = _
    rw [a3, nI_1]
  · show (0 ≤ gupd (J 8) nr k r ∧ gupd (J 8) nr k r ≤ 5) ∧ smalls (gupd (J 11) nr p r) (gupd (J 10) nr (hn - hn / 10 * 10) r) ∧ ∃ s', s' ≤ 999 ∧ gupd (J 12) nr s r = nI s'
    by_cases e : r = nr
    · subst e
      rw [gupd_s, gupd_s, gupd_s, gupd_s]
      obtain ⟨pm, hpm, rfl⟩ := le_nI (M := 99) (by decide) (Int32.le_trans (by decide) h3.1) h3.2
      obtain ⟨hm, hhm, rfl⟩ := le_nI (M := 39) (by decide) h2.1 h2.2
      have e2 : nI hm - nI hm / 10 * 10 = nI (hm % 10) := pk_rem (d := 10) (by omega) (by decide) (by decide)
      exact ⟨h1, ⟨pm, hm % 10, rfl, e2, by omega, by omega⟩, le_nI (M := 999) (by decide) h4.1 h4.2⟩
    · rw [gupd_n e, gupd_n e, gupd_n e, gupd_n e]
      exact a5 r (by omega)
theorem Rel_rider {c : Nat} {ln : Nat → Nat} {I J : Nat → Nat → Int32} {L : Nat → Nat → Int64} (h : Rel c ln I L J) (k hn p s : Int32) : (tadd I k hn p s).1 = (mridX J k hn p s).1 ∧ Rel c ln (tadd I k hn p s).2 L (mridX J k hn p s).2 := by
  have h0 := h
  obtain ⟨nr, nt, ru, n, TT, hA, hT, hP, hF, hI, hS⟩ := h
  have e66 : I 6 6 = nI nr := hA.2.2.1.1
  have hnr := hA.2.2.1.2
  have e17 : J 0 17 = nI nr := by rw [← e66]; exact hA.1.nr.symm
  unfold tadd mridX
  by_cases c1 : 0 ≤ k ∧ k ≤ 5 ∧ 0 ≤ hn ∧ hn ≤ 39 ∧ 1 ≤ p ∧ p ≤ 99 ∧ 0 ≤ s ∧ s ≤ 999
  · obtain ⟨q1, q2, q3, q4, q5, q6, q7, q8⟩ := c1
    rw [if_pos ⟨q1, q2, q3, q4, q5, q6, q7, q8⟩, if_pos (show (0 ≤ k ∧ k ≤ 5) ∧ (0 ≤ hn ∧ hn ≤ 39) ∧ (1 ≤ p ∧ p ≤ 99) ∧ 0 ≤ s ∧ s ≤ 999 from ⟨⟨q1, q2⟩, ⟨q3, q4⟩, ⟨q5, q6⟩, q7, q8⟩)]
    by_cases c2 : nr = 12
    · rw [if_pos (show 12 ≤ I 6 6 by rw [e66, c2]; decide), if_pos (show J 0 17 = 12 by rw [e17, c2]; rfl)]
      exact ⟨rfl, h0⟩
    · have hlt : nr < 12 := by omega
      rw [if_neg (show ¬ 12 ≤ I 6 6 by rw [e66, show (12 : Int32) = nI 12 from rfl, nI_leI (by omega) (by omega)]; omega), if_neg (show ¬ J 0 17 = 12 by rw [e17]; intro q; exact c2 ((nI_eq (b := 12) (by omega) (by omega)).mp q))]
      have hc1 : (I 6 6).toNatClampNeg = nr := by rw [e66]; exact nI_clamp (by omega)
      have hc2 : (J 0 17).toNatClampNeg = nr := by rw [e17]; exact nI_clamp (by omega)
      rw [hc1, hc2]
      refine ⟨?_, nr + 1, nt, ru, n, TT, relA_rider hA hlt k hn p s ⟨q1, q2⟩ ⟨q3, q4⟩ ⟨q5, q6⟩ ⟨q7, q8⟩, relT_tr hT (fun k hk => ?_) ⟨rfl, rfl⟩ ⟨rfl, rfl, rfl, rfl⟩, hP, hF, ?_, relS_tr hS (fun k hk hk' => ?_) (fun k hk => ?_)⟩
      · show I 6 6 = J 0 17 + 1 - 1
        rw [e66, e17, nI_1]; exact (nI_pred _).symm
      · show gset _ _ _ k = _
        rw [gset_n (by omega), gset_n (by omega), gset_n (by omega), gset_n (by omega), gset_n (by omega), gset_n (by omega)]
      · obtain ⟨i1, ic, it, iru, i2, i3, i4⟩ := hI
        exact ⟨i1, ic, it, iru, by omega, i3, i4⟩
      · show gset _ _ _ k = _
        rw [gset_n (by omega), gset_n (by omega), gset_n (by omega), gset_n (by omega), gset_n (by omega), gset_n (by omega)]
      · show gset _ _ _ k = _
        rw [gset_n (by omega), gset_n (by omega), gset_n (by omega), gset_n (by omega), gset_n (by omega), gset_n (by omega)]
  · rw [if_neg c1, if_neg (fun q : (0 ≤ k ∧ k ≤ 5) ∧ (0 ≤ hn ∧ hn ≤ 39) ∧ (1 ≤ p ∧ p ≤ 99) ∧ 0 ≤ s ∧ s ≤ 999 => c1 ⟨q.1.1, q.1.2, q.2.1.1, q.2.1.2, q.2.2.1.1, q.2.2.1.2, q.2.2.2⟩)]
    exact ⟨rfl, h0⟩
/-- stores as they are behind a ride: what is below nr is a store -/
theorem relA_store {I I' J J' : Nat → Nat → Int32} {nr nt : Nat} (h : relA I J nr nt) (hI : ∀ k, 1 ≤ k → k ≤ 10 → I' k = I k) (hJ : ∀ k, 1 ≤ k → k ≤ 11 → J' k = J k) (hJ0 : J' 0 11 = J 0 11 ∧ J' 0 17 = J 0 17) (h11 : I' 11 = J' 12) (hs : ∀ r, r < nr → ∃ s, s ≤ 999 ∧ J' 12 r = nI s) : relA I' J' nr nt := by
  obtain ⟨a1, a2, a3, a4, a5⟩ := h
  refine ⟨?_, by rw [hI 1 (by omega) (by omega)]; exact a2, by rw [hI 6 (by omega) (by omega)]; exact a3, by rw [hJ 6 (by omega) (by omega)]; exact a4, fun r hr => ?_⟩
  · unfold agX
    rw [hI 1 (by omega) (by omega), hI 2 (by omega) (by omega), hI 3 (by omega) (by omega), hI 4 (by omega) (by omega), hI 5 (by omega) (by omega), hI 6 (by omega) (by omega), hI 7 (by omega) (by omega), hI 8 (by omega) (by omega), hI 9 (by omega) (by omega), hI 10 (by omega) (by omega)]
    refine ⟨?_, ?_, ?_, ?_, ?_, ?_, ?_, ?_, ?_, ?_, ?_⟩
    · show I 1 4 = J' 0 11; rw [hJ0.1]; exact a1.nt
    · show I 6 6 = J' 0 17; rw [hJ0.2]; exact a1.nr
    · show I 2 = fun j => J' 4 j; rw [hJ 4 (by omega) (by omega)]; exact a1.a2
    · show I 3 = fun j => J' 5 j; rw [hJ 5 (by omega) (by omega)]; exact a1.a3
    · show I 4 = fun j => J' 6 j - J' 6 j / 2 * 2; rw [hJ 6 (by omega) (by omega)]; exact a1.a4
    · show I 5 = fun j => J' 6 j / 2; rw [hJ 6 (by omega) (by omega)]; exact a1.a5
    · show I 7 = fun j => J' 8 j; rw [hJ 8 (by omega) (by omega)]; exact a1.a7
    · show I 8 = fun j => J' 9 j; rw [hJ 9 (by omega) (by omega)]; exact a1.a8
    · show I 9 = fun j => J' 10 j; rw [hJ 10 (by omega) (by omega)]; exact a1.a9
    · show I 10 = fun j => J' 11 j; rw [hJ 11 (by omega) (by omega)]; exact a1.a10
    · show I' 11 = fun j => J' 12 j; exact h11
  · rw [hJ 8 (by omega) (by omega), hJ 10 (by omega) (by omega), hJ 11 (by omega) (by omega)]
    exact ⟨(a5 r hr).1, (a5 r hr).2.1, hs r hr⟩
