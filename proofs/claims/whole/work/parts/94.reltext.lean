-- text, on both sides
theorem xv_eq {J J' : Nat → Nat → Int32} (h0 : J' 0 11 = J 0 11 ∧ J' 0 17 = J 0 17) (h : ∀ k, 4 ≤ k → k ≤ 12 → J' k = J k) : xv J' = xv J := by
  funext k j
  unfold xv
  rw [h0.1, h0.2, h 4 (by omega) (by omega), h 5 (by omega) (by omega), h 6 (by omega) (by omega), h 8 (by omega) (by omega), h 9 (by omega) (by omega), h 10 (by omega) (by omega), h 11 (by omega) (by omega), h 12 (by omega) (by omega)]
theorem relA_tr {I I' J J' : Nat → Nat → Int32} {nr nt : Nat} (h : relA I J nr nt) (hI : ∀ k, 1 ≤ k → k ≤ 11 → I' k = I k) (h0 : J' 0 11 = J 0 11 ∧ J' 0 17 = J 0 17) (hJ : ∀ k, 4 ≤ k → k ≤ 12 → J' k = J k) : relA I' J' nr nt := by
  obtain ⟨a1, a2, a3, a4, a5⟩ := h
  refine ⟨by rw [xv_eq h0 hJ]; exact agX_fr a1 hI, by rw [hI 1 (by omega) (by omega)]; exact a2, by rw [hI 6 (by omega) (by omega)]; exact a3, by rw [hJ 6 (by omega) (by omega)]; exact a4, ?_⟩
  rw [hJ 8 (by omega) (by omega), hJ 10 (by omega) (by omega), hJ 11 (by omega) (by omega), hJ 12 (by omega) (by omega)]
  exact a5
theorem relI_tr {I I' J J' : Nat → Nat → Int32} {L L' : Nat → Nat → Int64} {c c' nr nt : Nat} (h : relI I L J c nr nt) (hc : c ≤ c') (hI : I' 28 = I 28 ∧ I' 29 = I 29 ∧ I' 30 = I 30) (hL : L' 31 = L 31) (hJ : (J' 0 47 = J 0 47 ∧ J' 0 48 = J 0 48 ∧ J' 0 49 = J 0 49 ∧ J' 0 50 = J 0 50) ∧ J' 18 = J 18 ∧ J' 19 = J 19 ∧ J' 20 = J 20) : relI I' L' J' c' nr nt := by
  obtain ⟨i1, ic, it, iru, i2, i3, i4, i5⟩ := h
  unfold relI
  rw [hI.1, hI.2.1, hI.2.2, hL, hJ.1.1, hJ.1.2.1, hJ.1.2.2.1, hJ.1.2.2.2, hJ.2.1, hJ.2.2.1, hJ.2.2.2]
  exact ⟨i1, ic, it, iru, i2, i3, by omega, i5⟩
/-- what the two texts come to -/
theorem relP_text {I J : Nat → Nat → Int32} {n : Nat} (h : relP I J n) : pTxt (lex (I 14) n) = pTxt (lex (J 3) n) := by rw [lex_same (bys_of h.2.2.2)]
theorem Rel_text {c nr nt ru n c' : Nat} {ln ln' : Nat → Nat} {I I' J J' : Nat → Nat → Int32} {L L' : Nat → Nat → Int64} {TT : Nat → Tx} (hA : relA I J nr nt) (hT : relT c ln I J ru TT) (hP : relP I J n) (hF : relF L J nt) (hI : relI I L J c nr nt) (hS : relS I J)
    (hc' : c ≤ c' ∧ c' ≤ 6 ∧ c' ≤ c + 1)
    (x13 : I' 13 3 = 0) (x17 : I' 17 5 = nI c' ∧ I' 17 6 = I 17 6) (xI : ∀ k, k ≠ 13 → k ≠ 15 → k ≠ 16 → k ≠ 17 → k ≠ 41 + 2 * c → k ≠ 42 + 2 * c → I' k = I k) (xL : ∀ k, k ≠ 41 + 2 * c → k ≠ 42 + 2 * c → L' k = L k)
    (hln : ∀ x, x < c → ln' x = ln x) (hnew : c < c' → (pTxt (lex (J 3) n)).1 = true ∧ laid I' ln' c (pTxt (lex (J 3) n)).2.1)
    (hM : mnewT c n J J' c') : Rel c' ln' I' L' J' := by
  obtain ⟨m1, m2, m3, m4, m5, m6, m7⟩ := hM
  obtain ⟨t1, t2, t3, t4⟩ := hT
  refine ⟨nr, nt, ru, 0, fun x => if x = c then pTxt (lex (J 3) n) else TT x, relA_tr hA (fun k h1 h2 => xI k (by omega) (by omega) (by omega) (by omega) (by omega) (by omega)) ⟨m7 11 (by decide) (by decide) (by omega), m7 17 (by decide) (by decide) (by omega)⟩ (fun k h1 h2 => m6 k (by omega) (by omega) (by omega)), ⟨⟨by omega, by omega, by omega⟩, ⟨x17.1, by rw [x17.2]; exact t2.2⟩, ⟨m1, by rw [m7 4 (by decide) (by decide) (by omega)]; exact t3.2⟩, fun x hx => ?_⟩, ⟨by omega, x13, m2, fun j hj => absurd hj (Nat.not_lt_zero _)⟩, ?_, relI_tr hI hc'.1 ⟨xI 28 (by decide) (by decide) (by decide) (by decide) (by omega) (by omega), xI 29 (by decide) (by decide) (by decide) (by decide) (by omega) (by omega), xI 30 (by decide) (by decide) (by decide) (by decide) (by omega) (by omega)⟩ (xL 31 (by omega) (by omega)) ⟨⟨m7 47 (by decide) (by decide) (by omega), m7 48 (by decide) (by decide) (by omega), m7 49 (by decide) (by decide) (by omega), m7 50 (by decide) (by decide) (by omega)⟩, m6 18 (by decide) (by decide) (by decide), m6 19 (by decide) (by decide) (by decide), m6 20 (by decide) (by decide) (by decide)⟩, relS_tr hS (fun k h1 h2 => xI k (by omega) (by omega) (by omega) (by omega) (by omega) (by omega)) (fun k h1 => m6 k (by omega) (by omega) (by omega))⟩
  · by_cases e : x = c
    · subst e
      obtain ⟨g1, g2⟩ := hnew hx
      have e1 : (if x = x then pTxt (lex (J 3) n) else TT x) = pTxt (lex (J 3) n) := if_pos rfl
      show (if x = x then pTxt (lex (J 3) n) else TT x).1 = true ∧ laid I' ln' x (if x = x then pTxt (lex (J 3) n) else TT x).2.1 ∧ deps (if x = x then pTxt (lex (J 3) n) else TT x).2.1 ∧ ∃ b m, mtl J' b x m ∧ pTxt (lex b m) = (if x = x then pTxt (lex (J 3) n) else TT x)
      rw [e1]
      exact ⟨g1, g2, pTxt_dep g1, J 3, n, ⟨by rw [m5, gupd_s], hP.1, by omega, fun j hj => ⟨m3 j hj, (hP.2.2.2 j hj).2.1⟩⟩, rfl⟩
    · have hx' : x < c := by omega
      obtain ⟨y1, y2, y3, b, m, y4, y5⟩ := t4 x hx'
      have e1 : (if x = c then pTxt (lex (J 3) n) else TT x) = TT x := if_neg e
      show (if x = c then pTxt (lex (J 3) n) else TT x).1 = true ∧ laid I' ln' x (if x = c then pTxt (lex (J 3) n) else TT x).2.1 ∧ deps (if x = c then pTxt (lex (J 3) n) else TT x).2.1 ∧ ∃ b m, mtl J' b x m ∧ pTxt (lex b m) = (if x = c then pTxt (lex (J 3) n) else TT x)
      rw [e1]
      refine ⟨y1, ?_, y3, b, m, ⟨?_, y4.2.1, y4.2.2.1, fun j hj => ?_⟩, y5⟩
      · unfold laid
        rw [hln x hx', xI (42 + 2 * x) (by omega) (by omega) (by omega) (by omega) (by omega) (by omega), xI (41 + 2 * x) (by omega) (by omega) (by omega) (by omega) (by omega) (by omega)]
        exact y2
      · rw [m5, gupd_n e]; exact y4.1
      · have hm := y4.2.1
        rw [m4 (160 * x + j) (by omega)]
        exact y4.2.2.2 j hj
  · unfold relF
    rw [xL 12 (by omega) (by omega), m6 7 (by decide) (by decide) (by decide)]
    exact hF
