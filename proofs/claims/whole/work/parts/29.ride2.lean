-- taking turns
def ttn (I : Nat → Nat → Int32) (st : Nat → Int32) (lf : Int32) : Nat → List Nat → Int32 → List Nat × Int32
  | 0, row, s => (row, s)
  | _ + 1, [], s => ([], s)
  | n + 1, f :: l, s => if wkr I st lf f = 0 ∨ ¬ s < sty (I 7 f) (I 9 f) then ttn I st lf n (l ++ [f]) 0 else (f :: l, s)
/-- nothing but the row and since of ride o has changed -/
def frm (I I' : Nat → Nat → Int32) (o : Nat) : Prop := (∀ k, k ≠ o → k ≠ o + 2 → I' k = I k) ∧ ∀ j, j ≠ 6 → I' o j = I o j
theorem nI_pm1 {p : Nat} (h : 1 ≤ p) : nI p - 1 = nI (p - 1) := by
  obtain ⟨q, rfl⟩ : ∃ q, p = q + 1 := ⟨p - 1, by omega⟩
  exact nI_pred q
theorem getD_app {l : List Nat} {x j : Nat} (h : j < l.length) : (l ++ [x]).getD j 0 = l.getD j 0 := by
  simp [List.getD_eq_getElem?_getD, List.getElem?_append_left h]
def shf (f : Nat → Int32) (p : Nat) : Nat → Int32 := fun j => if j + 1 < p then f (j + 1) else f j
theorem shf_1 (f : Nat → Int32) : shf f 1 = f := by
  funext j
  exact if_neg (by omega)
theorem shf_s (f : Nat → Int32) {p : Nat} (hp : 1 ≤ p) : shf f (p + 1) = gupd (shf f p) (p - 1) (f p) := by
  funext j
  by_cases h : j = p - 1
  · subst h
    rw [gupd_s]
    unfold shf
    rw [if_pos (by omega), show p - 1 + 1 = p by omega]
  · rw [gupd_n h]
    unfold shf
    by_cases h2 : j + 1 < p
    · rw [if_pos h2, if_pos (by omega)]
    · rw [if_neg h2, if_neg (by omega)]
section
variable (E : gEnv) (c : Nat) (ln : Nat → Nat) (I : Nat → Nat → Int32) (L : Nat → Nat → Int64)
set_option maxHeartbeats 1000000 in
theorem c21_takeTurns (row : List Nat) (since : Int32) (st : Nat → Int32) (h : rdX I 21 row since st) (lf : Int32) : gCtr E 2 0 0 nX1_takeTurns [.ref 21, .int lf] (wX c ln I L) (fun v u' => v = none ∧ ∃ I', u' = wX c ln I' L ∧ rdX I' 21 (ttn I st lf row.length row since).1 (ttn I st lf row.length row since).2 st ∧ frm I I' 21) := by
  refine gstart iX1_takeTurns tX1_takeTurns rfl rfl (fun K ca hK hca => ?_)
  obtain ⟨n, hn⟩ : ∃ n, row.length = n := ⟨_, rfl⟩
  rw [hn] at hK
  have hn12 : n ≤ 12 := by rw [← hn]; exact h.2.2.2.2.1
  have loop : ∀ (m i : Nat) (row1 : List Nat) (s1 : Int32) (J : Nat → Nat → Int32) (x3 x4 : Option Value), i + m = n → row1.length = n → rdX J 21 row1 s1 st → frm I J 21 → ttn I st lf m row1 s1 = ttn I st lf n row since → K 0 0 2 [some (.ref 21), some (.int lf), some (.int (nI i)), x3, x4] [] (wX c ln J L) := by
    intro m
    induction m with
    | zero =>
      intro i row1 s1 J x3 x4 hi hl hr hf he
      refine hK [2] 60 _ _ _ _ _ _ ?_
      refine gbr_lp (n := n) (by show J 21 5 = _; rw [hr.1, hl]) (by omega) (by omega) (fun _ => ⟨rfl, J, rfl, ?_, hf⟩) (fun z => by omega)
      rw [← he]
      exact hr
    | succ m ih =>
      intro i row1 s1 J x3 x4 hi hl hr hf he
      obtain ⟨h1, h2, h3, h4, h5, h6⟩ := hr
      match row1, hl, h1, h3, h5, h6, he with
      | [], hl, _, _, _, _, _ => simp at hl; omega
      | f0 :: l0, hl, h1, h3, h5, h6, he =>
        have hf12 : f0 < 12 := h6 f0 List.mem_cons_self
        have hll : l0.length + 1 = n := by simpa using hl
        have h1' : J 21 5 = nI n := by rw [h1, hl]
        have hr0 : J 23 0 = nI f0 := by have := h3 0 (by simp); simpa using this
        have hcf : (nI f0).toNatClampNeg = f0 := nI_clamp (by omega)
        have hvf : vp_in (J 23 (0 : Int32).toNatClampNeg) 12 := by show vp_in (J 23 0) 12; rw [hr0]; exact vp_in_nI hf12 (by omega)
        have hwk : wk (J 7 f0) (J 9 f0) (J 22 f0) lf = wkr I st lf f0 := by unfold wkr; rw [← h4, hf.1 7 (by decide) (by decide), hf.1 9 (by decide) (by decide)]
        have hst : sty (J 7 f0) (J 9 f0) = sty (I 7 f0) (I 9 f0) := by rw [hf.1 7 (by decide) (by decide), hf.1 9 (by decide) (by decide)]
        refine hK [2, 51] 60 _ _ _ _ _ _ ?_
        refine gbr_lp (n := n) h1' (by omega) (by omega) (fun e => by omega) (fun _ => ?_)
        refine gsd_i (by unfold vp_in; decide) (gsd_i hvf ?_)
        refine gcall0 hca (c_works E c ln J L (J 23 (0 : Int32).toNatClampNeg) (J 22 (J 23 (0 : Int32).toNatClampNeg).toNatClampNeg) lf hvf) rfl ?_
        rintro w u' - ⟨rfl, rfl⟩
        have hr0' : J 23 (0 : Int32).toNatClampNeg = nI f0 := hr0
        rw [hr0', hcf, hwk]
        -- the front one goes to the end
        have rot : ∀ x : Int32, x = nI f0 → ttn I st lf m (l0 ++ [f0]) 0 = ttn I st lf n row since → K 0 0 51 [some (.ref 21), some (.int lf), some (.int (nI i)), some (.int x), x4] [] (wX c ln J L) := by
          intro x hx he2
          subst hx
          have inner := gloop (P := fun p => 1 ≤ p → K 0 0 54 [some (.ref 21), some (.int lf), some (.int (nI i)), some (.int (nI f0)), some (.int (nI p))] [] (wX c ln (gset J 23 (shf (J 23) p)) L)) (n := n) (by
            intro hp
            refine hK [54, 2] 60 _ _ _ _ _ _ ?_
            refine gbr_lp (n := n) h1' (by omega) (Nat.le_refl _) (fun _ => ?_) (fun z => absurd z (Nat.lt_irrefl _))
            have e1 : J 21 5 - 1 = nI (n - 1) := by rw [h1']; exact nI_pm1 hp
            refine gsd_i (gvp e1 (by omega) (by omega)) ?_
            have hce : (J 21 5 - 1).toNatClampNeg = n - 1 := by rw [e1]; exact nI_clamp (by omega)
            have := ih (i + 1) (l0 ++ [f0]) 0 (gset (gset (gset J 23 (shf (J 23) n)) 23 (gupd (gset J 23 (shf (J 23) n) 23) (J 21 5 - 1).toNatClampNeg (nI f0))) 21 (gupd (J 21) 6 0)) (some (.int (nI f0))) (some (.int (nI n))) (by omega) (by simp; omega) ⟨?_, rfl, ?_, h4, by simp; omega, ?_⟩ ⟨?_, ?_⟩ he2
            · rw [← nI_1] at this
              exact this
            · show J 21 5 = _
              rw [h1']; congr 1; simp; omega
            · intro j hj
              show gset (gset J 23 (shf (J 23) n)) 23 (gupd (gset J 23 (shf (J 23) n) 23) (J 21 5 - 1).toNatClampNeg (nI f0)) 23 j = _
              rw [gset_s, gset_s, hce]
              by_cases hjn : j = n - 1
              · subst hjn
                rw [gupd_s, show n - 1 = l0.length by omega]
                simp
              · have hjl : j < l0.length := by simp at hj; omega
                rw [gupd_n hjn]
                unfold shf
                rw [if_pos (by omega)]
                have := h3 (j + 1) (by simp; omega)
                rw [getD_app hjl]
                exact this
            · intro r hr
              rcases List.mem_append.mp hr with q | q
              · exact h6 r (List.mem_cons_of_mem _ q)
              · rw [List.mem_singleton] at q; rw [q]; exact hf12
            · intro k k1 k2
              rw [gset_n k1, gset_n k2, gset_n k2, hf.1 k k1 k2]
            · intro j hj
              rw [gset_s, gupd_n hj, hf.2 j hj]) (by
            intro p hp ihp hp1
            refine hK [54, 2] 60 _ _ _ _ _ _ ?_
            refine gbr_lp (n := n) h1' (by omega) (by omega) (fun e => by omega) (fun _ => ?_)
            have e1 : nI p - 1 = nI (p - 1) := nI_pm1 hp1
            have hce : (nI p - 1).toNatClampNeg = p - 1 := by rw [e1]; exact nI_clamp (by omega)
            have hcp : (nI p).toNatClampNeg = p := nI_clamp (by omega)
            refine gsd_i (vp_in_nI (by omega) (by omega)) (gsd_i (gvp e1 (by omega) (by omega)) ?_)
            have := ihp (by omega)
            have hval : gset J 23 (shf (J 23) p) 23 (nI p).toNatClampNeg = J 23 p := by
              rw [gset_s, hcp]; exact if_neg (by omega)
            rw [shf_s _ hp1, ← gss, ← nI_1, ← hce, ← hval] at this
            exact this)
          refine hK [54] 60 _ _ _ _ _ _ ?_
          have := inner 1 (by omega) (Nat.le_refl _)
          rw [shf_1, gset_self] at this
          exact this
        refine gbr_i (fun hz => rot _ hr0' ?_) (fun hz => ?_)
        · rw [← he]; exact (if_pos (Or.inl hz)).symm
        · refine gcall0 hca (c_stays E c ln J L (J 23 (0 : Int32).toNatClampNeg) hvf) rfl ?_
          rintro w u' - ⟨rfl, rfl⟩
          rw [hr0', hcf, hst]
          refine gbr_i (fun hq => rot _ hr0' ?_) (fun hq => ?_)
          · rw [← he]
            refine (if_pos (Or.inr (fun z => ?_))).symm
            have hq' : sty (I 7 f0) (I 9 f0) ≤ J 21 6 := hq
            rw [h2] at hq'
            clear hK hca ih rot
            (simp only [Int32.lt_iff_toInt_lt, Int32.le_iff_toInt_le, ← Int32.toInt_inj, Int32.reduceToInt] at *; omega)
          · have hq' : ¬ sty (I 7 f0) (I 9 f0) ≤ J 21 6 := hq
            rw [h2] at hq'
            have hlt : s1 < sty (I 7 f0) (I 9 f0) := by clear hK hca ih rot hf h3 h6; (simp only [Int32.lt_iff_toInt_lt, Int32.le_iff_toInt_le, ← Int32.toInt_inj, Int32.reduceToInt] at *; omega)
            refine ⟨rfl, J, rfl, ?_, hf⟩
            have : ttn I st lf (m + 1) (f0 :: l0) s1 = (f0 :: l0, s1) := if_neg (fun z => z.elim hz (fun y => y hlt))
            rw [← he, this]
            exact ⟨h1, h2, h3, h4, h5, h6⟩
  refine hK [2] 60 _ _ _ _ _ _ ?_
  exact loop n 0 row since I none none (by omega) hn h ⟨fun _ _ _ => rfl, fun _ _ => rfl⟩ rfl
end
section
variable (E : gEnv) (c : Nat) (ln : Nat → Nat) (I : Nat → Nat → Int32) (L : Nat → Nat → Int64)
set_option maxHeartbeats 1000000 in
theorem c24_takeTurns (row : List Nat) (since : Int32) (st : Nat → Int32) (h : rdX I 24 row since st) (lf : Int32) : gCtr E 2 0 0 nX1_takeTurns [.ref 24, .int lf] (wX c ln I L) (fun v u' => v = none ∧ ∃ I', u' = wX c ln I' L ∧ rdX I' 24 (ttn I st lf row.length row since).1 (ttn I st lf row.length row since).2 st ∧ frm I I' 24) := by
  refine gstart iX1_takeTurns tX1_takeTurns rfl rfl (fun K ca hK hca => ?_)
  obtain ⟨n, hn⟩ : ∃ n, row.length = n := ⟨_, rfl⟩
  rw [hn] at hK
  have hn12 : n ≤ 12 := by rw [← hn]; exact h.2.2.2.2.1
  have loop : ∀ (m i : Nat) (row1 : List Nat) (s1 : Int32) (J : Nat → Nat → Int32) (x3 x4 : Option Value), i + m = n → row1.length = n → rdX J 24 row1 s1 st → frm I J 24 → ttn I st lf m row1 s1 = ttn I st lf n row since → K 0 0 2 [some (.ref 24), some (.int lf), some (.int (nI i)), x3, x4] [] (wX c ln J L) := by
    intro m
    induction m with
    | zero =>
      intro i row1 s1 J x3 x4 hi hl hr hf he
      refine hK [2] 60 _ _ _ _ _ _ ?_
      refine gbr_lp (n := n) (by show J 24 5 = _; rw [hr.1, hl]) (by omega) (by omega) (fun _ => ⟨rfl, J, rfl, ?_, hf⟩) (fun z => by omega)
      rw [← he]
      exact hr
    | succ m ih =>
      intro i row1 s1 J x3 x4 hi hl hr hf he
      obtain ⟨h1, h2, h3, h4, h5, h6⟩ := hr
      match row1, hl, h1, h3, h5, h6, he with
      | [], hl, _, _, _, _, _ => simp at hl; omega
      | f0 :: l0, hl, h1, h3, h5, h6, he =>
        have hf12 : f0 < 12 := h6 f0 List.mem_cons_self
        have hll : l0.length + 1 = n := by simpa using hl
        have h1' : J 24 5 = nI n := by rw [h1, hl]
        have hr0 : J 26 0 = nI f0 := by have := h3 0 (by simp); simpa using this
        have hcf : (nI f0).toNatClampNeg = f0 := nI_clamp (by omega)
        have hvf : vp_in (J 26 (0 : Int32).toNatClampNeg) 12 := by show vp_in (J 26 0) 12; rw [hr0]; exact vp_in_nI hf12 (by omega)
        have hwk : wk (J 7 f0) (J 9 f0) (J 25 f0) lf = wkr I st lf f0 := by unfold wkr; rw [← h4, hf.1 7 (by decide) (by decide), hf.1 9 (by decide) (by decide)]
        have hst : sty (J 7 f0) (J 9 f0) = sty (I 7 f0) (I 9 f0) := by rw [hf.1 7 (by decide) (by decide), hf.1 9 (by decide) (by decide)]
        refine hK [2, 51] 60 _ _ _ _ _ _ ?_
        refine gbr_lp (n := n) h1' (by omega) (by omega) (fun e => by omega) (fun _ => ?_)
        refine gsd_i (by unfold vp_in; decide) (gsd_i hvf ?_)
        refine gcall0 hca (c_works E c ln J L (J 26 (0 : Int32).toNatClampNeg) (J 25 (J 26 (0 : Int32).toNatClampNeg).toNatClampNeg) lf hvf) rfl ?_
        rintro w u' - ⟨rfl, rfl⟩
        have hr0' : J 26 (0 : Int32).toNatClampNeg = nI f0 := hr0
        rw [hr0', hcf, hwk]
        -- the front one goes to the end
        have rot : ∀ x : Int32, x = nI f0 → ttn I st lf m (l0 ++ [f0]) 0 = ttn I st lf n row since → K 0 0 51 [some (.ref 24), some (.int lf), some (.int (nI i)), some (.int x), x4] [] (wX c ln J L) := by
          intro x hx he2
          subst hx
          have inner := gloop (P := fun p => 1 ≤ p → K 0 0 54 [some (.ref 24), some (.int lf), some (.int (nI i)), some (.int (nI f0)), some (.int (nI p))] [] (wX c ln (gset J 26 (shf (J 26) p)) L)) (n := n) (by
            intro hp
            refine hK [54, 2] 60 _ _ _ _ _ _ ?_
            refine gbr_lp (n := n) h1' (by omega) (Nat.le_refl _) (fun _ => ?_) (fun z => absurd z (Nat.lt_irrefl _))
            have e1 : J 24 5 - 1 = nI (n - 1) := by rw [h1']; exact nI_pm1 hp
            refine gsd_i (gvp e1 (by omega) (by omega)) ?_
            have hce : (J 24 5 - 1).toNatClampNeg = n - 1 := by rw [e1]; exact nI_clamp (by omega)
            have := ih (i + 1) (l0 ++ [f0]) 0 (gset (gset (gset J 26 (shf (J 26) n)) 26 (gupd (gset J 26 (shf (J 26) n) 26) (J 24 5 - 1).toNatClampNeg (nI f0))) 24 (gupd (J 24) 6 0)) (some (.int (nI f0))) (some (.int (nI n))) (by omega) (by simp; omega) ⟨?_, rfl, ?_, h4, by simp; omega, ?_⟩ ⟨?_, ?_⟩ he2
            · rw [← nI_1] at this
              exact this
            · show J 24 5 = _
              rw [h1']; congr 1; simp; omega
            · intro j hj
              show gset (gset J 26 (shf (J 26) n)) 26 (gupd (gset J 26 (shf (J 26) n) 26) (J 24 5 - 1).toNatClampNeg (nI f0)) 26 j = _
              rw [gset_s, gset_s, hce]
              by_cases hjn : j = n - 1
              · subst hjn
                rw [gupd_s, show n - 1 = l0.length by omega]
                simp
              · have hjl : j < l0.length := by simp at hj; omega
                rw [gupd_n hjn]
                unfold shf
                rw [if_pos (by omega)]
                have := h3 (j + 1) (by simp; omega)
                rw [getD_app hjl]
                exact this
            · intro r hr
              rcases List.mem_append.mp hr with q | q
              · exact h6 r (List.mem_cons_of_mem _ q)
              · rw [List.mem_singleton] at q; rw [q]; exact hf12
            · intro k k1 k2
              rw [gset_n k1, gset_n k2, gset_n k2, hf.1 k k1 k2]
            · intro j hj
              rw [gset_s, gupd_n hj, hf.2 j hj]) (by
            intro p hp ihp hp1
            refine hK [54, 2] 60 _ _ _ _ _ _ ?_
            refine gbr_lp (n := n) h1' (by omega) (by omega) (fun e => by omega) (fun _ => ?_)
            have e1 : nI p - 1 = nI (p - 1) := nI_pm1 hp1
            have hce : (nI p - 1).toNatClampNeg = p - 1 := by rw [e1]; exact nI_clamp (by omega)
            have hcp : (nI p).toNatClampNeg = p := nI_clamp (by omega)
            refine gsd_i (vp_in_nI (by omega) (by omega)) (gsd_i (gvp e1 (by omega) (by omega)) ?_)
            have := ihp (by omega)
            have hval : gset J 26 (shf (J 26) p) 26 (nI p).toNatClampNeg = J 26 p := by
              rw [gset_s, hcp]; exact if_neg (by omega)
            rw [shf_s _ hp1, ← gss, ← nI_1, ← hce, ← hval] at this
            exact this)
          refine hK [54] 60 _ _ _ _ _ _ ?_
          have := inner 1 (by omega) (Nat.le_refl _)
          rw [shf_1, gset_self] at this
          exact this
        refine gbr_i (fun hz => rot _ hr0' ?_) (fun hz => ?_)
        · rw [← he]; exact (if_pos (Or.inl hz)).symm
        · refine gcall0 hca (c_stays E c ln J L (J 26 (0 : Int32).toNatClampNeg) hvf) rfl ?_
          rintro w u' - ⟨rfl, rfl⟩
          rw [hr0', hcf, hst]
          refine gbr_i (fun hq => rot _ hr0' ?_) (fun hq => ?_)
          · rw [← he]
            refine (if_pos (Or.inr (fun z => ?_))).symm
            have hq' : sty (I 7 f0) (I 9 f0) ≤ J 24 6 := hq
            rw [h2] at hq'
            clear hK hca ih rot
            (simp only [Int32.lt_iff_toInt_lt, Int32.le_iff_toInt_le, ← Int32.toInt_inj, Int32.reduceToInt] at *; omega)
          · have hq' : ¬ sty (I 7 f0) (I 9 f0) ≤ J 24 6 := hq
            rw [h2] at hq'
            have hlt : s1 < sty (I 7 f0) (I 9 f0) := by clear hK hca ih rot hf h3 h6; (simp only [Int32.lt_iff_toInt_lt, Int32.le_iff_toInt_le, ← Int32.toInt_inj, Int32.reduceToInt] at *; omega)
            refine ⟨rfl, J, rfl, ?_, hf⟩
            have : ttn I st lf (m + 1) (f0 :: l0) s1 = (f0 :: l0, s1) := if_neg (fun z => z.elim hz (fun y => y hlt))
            rw [← he, this]
            exact ⟨h1, h2, h3, h4, h5, h6⟩
  refine hK [2] 60 _ _ _ _ _ _ ?_
  exact loop n 0 row since I none none (by omega) hn h ⟨fun _ _ _ => rfl, fun _ _ => rfl⟩ rfl
end
