-- the model: the first of the row goes to its end
section
variable (E : gEnv) (I : Nat → Nat → Int32) (L : Nat → Nat → Int64)
set_option maxHeartbeats 1000000 in
theorem m_turnsOn (k : Nat) (hk : k < 2) (f : Nat) (l : List Nat) (s : Int32) (st : Nat → Int32) (h : mrd I k (f :: l) s st) :
    gCtr E 1 0 0 nX10_turnsOn [.ref 0, .int (nI k)] (wM I L) (fun v u' => v = none ∧ ∃ J, u' = wM J L ∧ mfk I J L L k ∧ mrd J k (l ++ [f]) 0 st) := by
  obtain ⟨h14, h15, h13, h16, hlen, hrow, hnd, hpos⟩ := h
  have hlen' : l.length + 1 ≤ 12 := hlen
  refine gstart iX10_turnsOn tX10_turnsOn rfl rfl (fun K ca hK hca => ?_)
  have hck : (nI k).toNatClampNeg = k := nI_clamp (by omega)
  have hv : vp_in (nI k) 2 := vp_in_nI hk (by omega)
  have e0 : (12 : Int32) * nI k = nI (12 * k) := by rw [show (12 : Int32) = nI 12 from rfl, pk_mul]
  have hf0 : I 13 (12 * nI k).toNatClampNeg = nI f := by rw [e0, nI_clamp (by omega)]; exact h13 0 (by simp)
  refine hK [15] 60 _ _ _ _ _ _ ?_
  have loop := gloop (P := fun i => ∀ J, 1 ≤ i → mfk I J L L k → (∀ q, q ≠ 13 → J q = I q) → (∀ j, j < l.length + 1 → J 13 (12 * k + j) = nI (if j + 1 < i then (f :: l).getD (j + 1) 0 else (f :: l).getD j 0)) → K 0 0 15 [some (.ref 0), some (.int (nI k)), some (.int (12 * nI k)), some (.int (nI f)), some (.int (nI i))] [] (wM J L)) (n := l.length + 1) (by
    intro J _ hf hs hj
    refine hK [15] 60 _ _ _ _ _ _ ?_
    have e14 : J 14 k = nI (l.length + 1) := by rw [hs 14 (by decide)]; exact h14
    refine gsd_i hv (gbr_lp (n := l.length + 1) (by show J 14 (nI k).toNatClampNeg = _; rw [hck]; exact e14) (by omega) (Nat.le_refl _) (fun _ => ?_) (fun z => absurd z (Nat.lt_irrefl _)))
    have ea : (12 * nI k + J 14 (nI k).toNatClampNeg) - 1 = nI (12 * k + l.length) := by rw [hck, e14, ix12, show 12 * k + (l.length + 1) = 12 * k + l.length + 1 from rfl]; exact nI_pred _
    have ec : ((12 * nI k + J 14 (nI k).toNatClampNeg) - 1).toNatClampNeg = 12 * k + l.length := by rw [ea]; exact nI_clamp (by omega)
    refine gsd_i hv (gsd_i (by show vp_in ((12 * nI k + J 14 (nI k).toNatClampNeg) - 1) 24; rw [ea]; exact vp_in_nI (by omega) (by omega)) (gsd_i hv ?_))
    refine ⟨rfl, _, rfl, ?_⟩
    show mfk I (gset (gset J 13 (gupd (J 13) ((12 * nI k + J 14 (nI k).toNatClampNeg) - 1).toNatClampNeg (nI f))) 15 (gupd (J 15) (nI k).toNatClampNeg 0)) L L k ∧ mrd (gset (gset J 13 (gupd (J 13) ((12 * nI k + J 14 (nI k).toNatClampNeg) - 1).toNatClampNeg (nI f))) 15 (gupd (J 15) (nI k).toNatClampNeg 0)) k (l ++ [f]) 0 st
    rw [ec, hck]
    have f1 := mfk_trans hf (mfk_13 (I := J) (L := L) (k := k) (p := 12 * k + l.length) (v := nI f) (by omega))
    refine ⟨mfk_trans f1 (mfk_1 (I := _) (L := L) (k := k) (q := 15) (v := 0) (Or.inr (Or.inl rfl))), ?_, gupd_s, ?_, ?_, ?_, ?_, ?_, ?_⟩
    · show J 14 k = _; rw [e14, List.length_append]; rfl
    · intro j hj'
      show gupd (J 13) (12 * k + l.length) (nI f) (12 * k + j) = _
      rw [List.length_append] at hj'
      have hj2 : j < l.length + 1 := hj'
      by_cases e : j = l.length
      · rw [e, gupd_s]; simp
      · rw [gupd_n (by omega), hj j hj2, if_pos (by omega), getD_app (by omega)]; rfl
    · intro r hr; show J 16 _ = _; rw [hs 16 (by decide)]; exact h16 r hr
    · rw [List.length_append]; exact hlen
    · intro r hr
      rcases List.mem_append.mp hr with z | z
      · exact hrow r (List.mem_cons_of_mem _ z)
      · exact hrow r (by rw [List.mem_singleton.mp z]; exact List.mem_cons_self)
    · rw [List.nodup_append]
      rw [List.nodup_cons] at hnd
      exact ⟨hnd.2, by simp, fun a ha b hb e => hnd.1 (by rw [List.mem_singleton] at hb; rw [← hb, ← e]; exact ha)⟩
    · intro r hr
      rcases List.mem_append.mp hr with z | z
      · exact hpos r (List.mem_cons_of_mem _ z)
      · exact hpos r (by rw [List.mem_singleton.mp z]; exact List.mem_cons_self)) (by
    intro i hi ih J h1 hf hs hj
    refine hK [15] 60 _ _ _ _ _ _ ?_
    have e14 : J 14 k = nI (l.length + 1) := by rw [hs 14 (by decide)]; exact h14
    refine gsd_i hv (gbr_lp (n := l.length + 1) (by show J 14 (nI k).toNatClampNeg = _; rw [hck]; exact e14) (by omega) (by omega) (fun e => by omega) (fun _ => ?_))
    have e1 : 12 * nI k + nI i - 1 = nI (12 * k + (i - 1)) := by rw [ix12, show 12 * k + i = 12 * k + (i - 1) + 1 by omega]; exact nI_pred _
    have c1 : (12 * nI k + nI i - 1).toNatClampNeg = 12 * k + (i - 1) := by rw [e1]; exact nI_clamp (by omega)
    have c2 : (12 * nI k + nI i).toNatClampNeg = 12 * k + i := by rw [ix12]; exact nI_clamp (by omega)
    refine gsd_i (by rw [ix12]; exact vp_in_nI (by omega) (by omega)) (gsd_i (by rw [e1]; exact vp_in_nI (by omega) (by omega)) ?_)
    have f1 := mfk_trans hf (mfk_13 (I := J) (L := L) (k := k) (p := 12 * k + (i - 1)) (v := J 13 (12 * k + i)) (by omega))
    have := ih _ (by omega) f1 (fun q hq => by rw [gset_n hq]; exact hs q hq) (by
      intro j hj'
      rw [gset_s]
      by_cases e : j = i - 1
      · rw [e, gupd_s, hj i (by omega), if_neg (by omega), if_pos (by omega), show i - 1 + 1 = i by omega]
      · rw [gupd_n (by omega), hj j hj']
        by_cases e2 : j + 1 < i
        · rw [if_pos e2, if_pos (by omega)]
        · rw [if_neg e2, if_neg (by omega)])
    rw [← c1, ← c2, ← nI_1] at this
    exact this)
  refine gsd_i (by rw [e0]; exact vp_in_nI (by omega) (by omega)) ?_
  have := loop 1 (by omega) I (Nat.le_refl _) (mfk_refl I L k) (fun _ _ => rfl) (fun j hj => by rw [if_neg (by omega)]; exact h13 j hj)
  rw [← hf0] at this
  exact this
end
