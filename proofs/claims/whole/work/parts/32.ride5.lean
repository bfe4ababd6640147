-- beginning
/-- the riders of a group of bits, lower numbers first -/
def bgR (who : Int32) (n : Nat) : List Nat := (List.range n).filter fun r => decide ((who >>> (nI r &&& 31)) &&& 1 = 1)
def bgS (who : Int32) (tst old : Nat → Int32) (n : Nat) : Nat → Int32 := fun r => if r < n ∧ (who >>> (nI r &&& 31)) &&& 1 = 1 then tst r else old r
theorem bgR_p {who : Int32} {n : Nat} (h : (who >>> (nI n &&& 31)) &&& 1 = 1) : bgR who (n + 1) = bgR who n ++ [n] := by
  unfold bgR; rw [List.range_succ, List.filter_append]; simp [h]
theorem bgR_n {who : Int32} {n : Nat} (h : ¬ (who >>> (nI n &&& 31)) &&& 1 = 1) : bgR who (n + 1) = bgR who n := by
  unfold bgR; rw [List.range_succ, List.filter_append]; simp [h]
theorem bgS_p {who : Int32} {tst old : Nat → Int32} {n : Nat} (h : (who >>> (nI n &&& 31)) &&& 1 = 1) : bgS who tst old (n + 1) = gupd (bgS who tst old n) n (tst n) := by
  funext r
  by_cases hr : r = n
  · subst hr; rw [gupd_s]; exact if_pos ⟨by omega, h⟩
  · rw [gupd_n hr]; unfold bgS
    by_cases q : r < n ∧ (who >>> (nI r &&& 31)) &&& 1 = 1
    · rw [if_pos q, if_pos ⟨by omega, q.2⟩]
    · rw [if_neg q, if_neg (fun z => q ⟨by omega, z.2⟩)]
theorem bgS_n {who : Int32} {tst old : Nat → Int32} {n : Nat} (h : ¬ (who >>> (nI n &&& 31)) &&& 1 = 1) : bgS who tst old (n + 1) = bgS who tst old n := by
  funext r
  unfold bgS
  by_cases q : r < n ∧ (who >>> (nI r &&& 31)) &&& 1 = 1
  · rw [if_pos q, if_pos ⟨by omega, q.2⟩]
  · refine (if_neg (fun z => ?_)).trans (if_neg q).symm
    by_cases hr : r = n
    · subst hr; exact h z.2
    · exact q ⟨by omega, z.2⟩
theorem bgR_len (who : Int32) (n : Nat) : (bgR who n).length ≤ n := by
  have := List.length_filter_le (fun r => decide ((who >>> (nI r &&& 31)) &&& 1 = 1)) (List.range n)
  rw [List.length_range] at this
  exact this
theorem bgR_lt {who : Int32} {n r : Nat} (h : r ∈ bgR who n) : r < n := List.mem_range.mp (List.mem_filter.mp h).1
section
variable (E : gEnv) (c : Nat) (ln : Nat → Nat) (I : Nat → Nat → Int32) (L : Nat → Nat → Int64)
set_option maxHeartbeats 1000000 in
theorem c21_begin (nr : Nat) (hnr : nr ≤ 12) (hc : I 6 6 = nI nr) (who : Int32) :
    gCtr E 1 0 0 nX1_begin [.ref 21, .int who] (wX c ln I L) (fun v u' => v = none ∧ ∃ I', u' = wX c ln I' L ∧ rdX I' 21 (bgR who nr) 0 (bgS who (I 11) (I 22) nr) ∧ I' 21 7 = I 21 7 ∧ I' 21 8 = I 21 8 ∧ frg I I' 21) := by
  refine gstart iX1_begin tX1_begin rfl rfl (fun K ca hK hca => ?_)
  have loop := gloop (P := fun i => ∀ (J : Nat → Nat → Int32), J 21 5 = nI (bgR who i).length → J 21 6 = 0 → J 21 7 = I 21 7 → J 21 8 = I 21 8 → (∀ j, j < (bgR who i).length → J 23 j = nI ((bgR who i).getD j 0)) → J 22 = bgS who (I 11) (I 22) i → (∀ k, k ≠ 21 → k ≠ 22 → k ≠ 23 → J k = I k) → K 0 0 12 [some (.ref 21), some (.int who), some (.int (nI i))] [] (wX c ln J L)) (n := nr) (by
    intro J j5 j6 j7 j8 jr js hf
    refine hK [12] 100 _ _ _ _ _ _ ?_
    refine gbr_lp (n := nr) (by show J 6 6 = _; rw [hf 6 (by decide) (by decide) (by decide), hc]) (by omega) (Nat.le_refl _) (fun _ => ⟨rfl, J, rfl, ⟨j5, j6, jr, js, ?_, ?_⟩, j7, j8, ?_⟩) (fun z => absurd z (Nat.lt_irrefl _))
    · have := bgR_len who nr; omega
    · intro r hr; have := bgR_lt hr; omega
    · intro k _ _ a b d; exact hf k a b d) (by
    intro i hi ih J j5 j6 j7 j8 jr js hf
    have hlen := bgR_len who i
    have hci : (nI i).toNatClampNeg = i := nI_clamp (by omega)
    have hvi : vp_in (nI i) 12 := vp_in_nI (by omega) (by omega)
    refine hK [12] 100 _ _ _ _ _ _ ?_
    refine gbr_lp (n := nr) (by show J 6 6 = _; rw [hf 6 (by decide) (by decide) (by decide), hc]) (by omega) (by omega) (fun e => by omega) (fun _ => ?_)
    refine gbr_i (fun hb => ?_) (fun hb => ?_)
    · have hb' : (who >>> (nI i &&& 31)) &&& 1 = 1 := hb
      have hc5 : (J 21 5).toNatClampNeg = (bgR who i).length := by rw [j5]; exact nI_clamp (by omega)
      refine gsd_i (gvp j5 (by omega) (by omega)) (gsd_i hvi (gsd_i hvi ?_))
      have := ih (gset (gset (gset J 23 (gupd (J 23) (J 21 5).toNatClampNeg (nI i))) 21 (gupd (J 21) 5 (J 21 5 + 1))) 22 (gupd (J 22) (nI i).toNatClampNeg (J 11 (nI i).toNatClampNeg))) ?_ j6 j7 j8 (fun j hj => ?_) ?_ (fun k a b d => ?_)
      · rw [← nI_1] at this
        exact this
      · show J 21 5 + 1 = _
        rw [j5, bgR_p hb', List.length_append, List.length_singleton]
        exact nI_1 _
      · show gupd (J 23) (J 21 5).toNatClampNeg (nI i) j = _
        rw [hc5, bgR_p hb']
        rw [bgR_p hb', List.length_append, List.length_singleton] at hj
        by_cases hjn : j = (bgR who i).length
        · subst hjn; rw [gupd_s]; simp
        · rw [gupd_n hjn, getD_app (by omega)]
          exact jr j (by omega)
      · rw [gset_s, hci, js, bgS_p hb', hf 11 (by decide) (by decide) (by decide)]
      · rw [gset_n b, gset_n a, gset_n d, hf k a b d]
    · have hb' : ¬ (who >>> (nI i &&& 31)) &&& 1 = 1 := hb
      have := ih J (by rw [j5, bgR_n hb']) j6 j7 j8 (by rw [bgR_n hb']; exact jr) (by rw [js, bgS_n hb']) hf
      rw [← nI_1] at this
      exact this)
  refine hK [12] 100 _ _ _ _ _ _ ?_
  refine loop 0 (Nat.zero_le _) (gset (gset I 21 (gupd (I 21) 5 0)) 21 (gupd (gset I 21 (gupd (I 21) 5 0) 21) 6 0)) rfl rfl rfl rfl (fun j hj => absurd hj (Nat.not_lt_zero _)) ?_ (fun k a b d => ?_)
  · funext r
    exact (if_neg (fun z => absurd z.1 (Nat.not_lt_zero _))).symm
  · rw [gset_n a, gset_n a]
end
section
variable (E : gEnv) (c : Nat) (ln : Nat → Nat) (I : Nat → Nat → Int32) (L : Nat → Nat → Int64)
set_option maxHeartbeats 1000000 in
theorem c24_begin (nr : Nat) (hnr : nr ≤ 12) (hc : I 6 6 = nI nr) (who : Int32) :
    gCtr E 1 0 0 nX1_begin [.ref 24, .int who] (wX c ln I L) (fun v u' => v = none ∧ ∃ I', u' = wX c ln I' L ∧ rdX I' 24 (bgR who nr) 0 (bgS who (I 11) (I 25) nr) ∧ I' 24 7 = I 24 7 ∧ I' 24 8 = I 24 8 ∧ frg I I' 24) := by
  refine gstart iX1_begin tX1_begin rfl rfl (fun K ca hK hca => ?_)
  have loop := gloop (P := fun i => ∀ (J : Nat → Nat → Int32), J 24 5 = nI (bgR who i).length → J 24 6 = 0 → J 24 7 = I 24 7 → J 24 8 = I 24 8 → (∀ j, j < (bgR who i).length → J 26 j = nI ((bgR who i).getD j 0)) → J 25 = bgS who (I 11) (I 25) i → (∀ k, k ≠ 24 → k ≠ 25 → k ≠ 26 → J k = I k) → K 0 0 12 [some (.ref 24), some (.int who), some (.int (nI i))] [] (wX c ln J L)) (n := nr) (by
    intro J j5 j6 j7 j8 jr js hf
    refine hK [12] 100 _ _ _ _ _ _ ?_
    refine gbr_lp (n := nr) (by show J 6 6 = _; rw [hf 6 (by decide) (by decide) (by decide), hc]) (by omega) (Nat.le_refl _) (fun _ => ⟨rfl, J, rfl, ⟨j5, j6, jr, js, ?_, ?_⟩, j7, j8, ?_⟩) (fun z => absurd z (Nat.lt_irrefl _))
    · have := bgR_len who nr; omega
    · intro r hr; have := bgR_lt hr; omega
    · intro k _ _ a b d; exact hf k a b d) (by
    intro i hi ih J j5 j6 j7 j8 jr js hf
    have hlen := bgR_len who i
    have hci : (nI i).toNatClampNeg = i := nI_clamp (by omega)
    have hvi : vp_in (nI i) 12 := vp_in_nI (by omega) (by omega)
    refine hK [12] 100 _ _ _ _ _ _ ?_
    refine gbr_lp (n := nr) (by show J 6 6 = _; rw [hf 6 (by decide) (by decide) (by decide), hc]) (by omega) (by omega) (fun e => by omega) (fun _ => ?_)
    refine gbr_i (fun hb => ?_) (fun hb => ?_)
    · have hb' : (who >>> (nI i &&& 31)) &&& 1 = 1 := hb
      have hc5 : (J 24 5).toNatClampNeg = (bgR who i).length := by rw [j5]; exact nI_clamp (by omega)
      refine gsd_i (gvp j5 (by omega) (by omega)) (gsd_i hvi (gsd_i hvi ?_))
      have := ih (gset (gset (gset J 26 (gupd (J 26) (J 24 5).toNatClampNeg (nI i))) 24 (gupd (J 24) 5 (J 24 5 + 1))) 25 (gupd (J 25) (nI i).toNatClampNeg (J 11 (nI i).toNatClampNeg))) ?_ j6 j7 j8 (fun j hj => ?_) ?_ (fun k a b d => ?_)
      · rw [← nI_1] at this
        exact this
      · show J 24 5 + 1 = _
        rw [j5, bgR_p hb', List.length_append, List.length_singleton]
        exact nI_1 _
      · show gupd (J 26) (J 24 5).toNatClampNeg (nI i) j = _
        rw [hc5, bgR_p hb']
        rw [bgR_p hb', List.length_append, List.length_singleton] at hj
        by_cases hjn : j = (bgR who i).length
        · subst hjn; rw [gupd_s]; simp
        · rw [gupd_n hjn, getD_app (by omega)]
          exact jr j (by omega)
      · rw [gset_s, hci, js, bgS_p hb', hf 11 (by decide) (by decide) (by decide)]
      · rw [gset_n b, gset_n a, gset_n d, hf k a b d]
    · have hb' : ¬ (who >>> (nI i &&& 31)) &&& 1 = 1 := hb
      have := ih J (by rw [j5, bgR_n hb']) j6 j7 j8 (by rw [bgR_n hb']; exact jr) (by rw [js, bgS_n hb']) hf
      rw [← nI_1] at this
      exact this)
  refine hK [12] 100 _ _ _ _ _ _ ?_
  refine loop 0 (Nat.zero_le _) (gset (gset I 24 (gupd (I 24) 5 0)) 24 (gupd (gset I 24 (gupd (I 24) 5 0) 24) 6 0)) rfl rfl rfl rfl (fun j hj => absurd hj (Nat.not_lt_zero _)) ?_ (fun k a b d => ?_)
  · funext r
    exact (if_neg (fun z => absurd z.1 (Nat.not_lt_zero _))).symm
  · rw [gset_n a, gset_n a]
end
