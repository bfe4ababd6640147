-- the model: rides (row 13, rowMany 14, frontFor 15, has 16, frontNow 17), two of them
def mrd (I : Nat → Nat → Int32) (k : Nat) (row : List Nat) (since : Int32) (st : Nat → Int32) : Prop :=
  I 14 k = nI row.length ∧ I 15 k = since ∧ (∀ j, j < row.length → I 13 (12 * k + j) = nI (row.getD j 0)) ∧ (∀ r, r < 12 → I 16 (12 * k + r) = st r) ∧ row.length ≤ 12 ∧ (∀ r ∈ row, r < 12) ∧ row.Nodup ∧ ∀ r ∈ row, 0 ≤ st r
/-- nothing but what is read and ride k has changed -/
def mfk (I J : Nat → Nat → Int32) (L M : Nat → Nat → Int64) (k : Nat) : Prop :=
  (∀ q, q ≠ 0 → (q < 13 ∨ 17 < q) → J q = I q) ∧ (∀ j, (j < 18 ∨ 32 < j) → J 0 j = I 0 j) ∧ (∀ j, (j < 12 * k ∨ 12 * k + 12 ≤ j) → J 13 j = I 13 j ∧ J 16 j = I 16 j) ∧ (∀ j, j ≠ k → J 14 j = I 14 j ∧ J 15 j = I 15 j ∧ J 17 j = I 17 j) ∧ ∀ j, j ≠ 22 → M 0 j = L 0 j
theorem mfk_refl (I : Nat → Nat → Int32) (L : Nat → Nat → Int64) (k : Nat) : mfk I I L L k := ⟨fun _ _ _ => rfl, fun _ _ => rfl, fun _ _ => ⟨rfl, rfl⟩, fun _ _ => ⟨rfl, rfl, rfl⟩, fun _ _ => rfl⟩
theorem mfk_trans {I J H : Nat → Nat → Int32} {L M N : Nat → Nat → Int64} {k : Nat} (h1 : mfk I J L M k) (h2 : mfk J H M N k) : mfk I H L N k :=
  ⟨fun q a b => (h2.1 q a b).trans (h1.1 q a b), fun j a => (h2.2.1 j a).trans (h1.2.1 j a), fun j a => ⟨(h2.2.2.1 j a).1.trans (h1.2.2.1 j a).1, (h2.2.2.1 j a).2.trans (h1.2.2.1 j a).2⟩, fun j a => ⟨(h2.2.2.2.1 j a).1.trans (h1.2.2.2.1 j a).1, (h2.2.2.2.1 j a).2.1.trans (h1.2.2.2.1 j a).2.1, (h2.2.2.2.1 j a).2.2.trans (h1.2.2.2.1 j a).2.2⟩, fun j a => (h2.2.2.2.2 j a).trans (h1.2.2.2.2 j a)⟩
theorem mfk_mgf {I J : Nat → Nat → Int32} {L M : Nat → Nat → Int64} {k : Nat} (h : mfk I J L M k) : mgf I J := ⟨h.1, fun j hj => h.2.1 j (by omega)⟩
theorem mfk_msf {I J : Nat → Nat → Int32} {L M : Nat → Nat → Int64} {k : Nat} (h : msf I J L M) : mfk I J L M k :=
  ⟨fun q a _ => h.1 q a, h.2.1, fun j _ => ⟨by rw [h.1 13 (by decide)], by rw [h.1 16 (by decide)]⟩, fun j _ => ⟨by rw [h.1 14 (by decide)], by rw [h.1 15 (by decide)], by rw [h.1 17 (by decide)]⟩, h.2.2.2⟩
theorem mfk_13 {I : Nat → Nat → Int32} {L : Nat → Nat → Int64} {k p : Nat} {v : Int32} (h : 12 * k ≤ p ∧ p < 12 * k + 12) : mfk I (gset I 13 (gupd (I 13) p v)) L L k :=
  ⟨fun q a b => gset_n (by omega), fun j _ => by rw [gset_n (by decide)], fun j hj => ⟨by rw [gset_s, gupd_n (by omega)], by rw [gset_n (by decide)]⟩, fun j _ => ⟨by rw [gset_n (by decide)], by rw [gset_n (by decide)], by rw [gset_n (by decide)]⟩, fun _ _ => rfl⟩
theorem mfk_16 {I : Nat → Nat → Int32} {L : Nat → Nat → Int64} {k p : Nat} {v : Int32} (h : 12 * k ≤ p ∧ p < 12 * k + 12) : mfk I (gset I 16 (gupd (I 16) p v)) L L k :=
  ⟨fun q a b => gset_n (by omega), fun j _ => by rw [gset_n (by decide)], fun j hj => ⟨by rw [gset_n (by decide)], by rw [gset_s, gupd_n (by omega)]⟩, fun j _ => ⟨by rw [gset_n (by decide)], by rw [gset_n (by decide)], by rw [gset_n (by decide)]⟩, fun _ _ => rfl⟩
theorem mfk_1 {I : Nat → Nat → Int32} {L : Nat → Nat → Int64} {k q : Nat} {v : Int32} (hq : q = 14 ∨ q = 15 ∨ q = 17) : mfk I (gset I q (gupd (I q) k v)) L L k := by
  refine ⟨fun x a b => gset_n (by omega), fun j _ => by rw [gset_n (by omega)], fun j hj => ⟨by rw [gset_n (by omega)], by rw [gset_n (by omega)]⟩, fun j hj => ?_, fun _ _ => rfl⟩
  have g : ∀ x, gset I q (gupd (I q) k v) x j = I x j := fun x => by
    by_cases e : x = q
    · subst e; rw [gset_s, gupd_n hj]
    · rw [gset_n e]
  exact ⟨g 14, g 15, g 17⟩
theorem ix12 {k i : Nat} : 12 * nI k + nI i = nI (12 * k + i) := by
  rw [show (12 : Int32) = nI 12 from rfl, pk_mul, nI_add]
section
variable (E : gEnv) (I : Nat → Nat → Int32) (L : Nat → Nat → Int64)
set_option maxHeartbeats 1000000 in
theorem m_begins (k : Nat) (hk : k < 2) (g : Int32) (nr : Nat) (hnr : nr ≤ 12) (hcr : I 0 17 = nI nr) (hst : ∀ r, r < nr → 0 ≤ I 12 r) :
    gCtr E 1 0 0 nX10_begins [.ref 0, .int (nI k), .int g] (wM I L) (fun v u' => v = none ∧ ∃ J, u' = wM J L ∧ mfk I J L L k ∧ J 17 k = -1 ∧ (∀ r, r < nr → J 16 (12 * k + r) = I 12 r) ∧ mrd J k (bgR g nr) 0 (fun r => J 16 (12 * k + r))) := by
  refine gstart iX10_begins tX10_begins rfl rfl (fun K ca hK hca => ?_)
  have hck : (nI k).toNatClampNeg = k := nI_clamp (by omega)
  have hv : vp_in (nI k) 2 := vp_in_nI hk (by omega)
  refine hK [23] 60 _ _ _ _ _ _ ?_
  have loop := gloop (P := fun i => ∀ J, mfk I J L L k → J 14 k = nI (bgR g i).length → J 15 k = 0 → J 17 k = -1 → (∀ j, j < (bgR g i).length → J 13 (12 * k + j) = nI ((bgR g i).getD j 0)) → (∀ r, r < i → J 16 (12 * k + r) = I 12 r) → K 0 0 23 [some (.ref 0), some (.int (nI k)), some (.int g), some (.int (nI i))] [] (wM J L)) (n := nr) (by
    intro J hf h14 h15 h17 h13 h16
    refine hK [23] 60 _ _ _ _ _ _ ?_
    refine gbr_lp (n := nr) (by show J 0 17 = _; rw [hf.2.1 17 (by omega), hcr]) (by omega) (Nat.le_refl _) (fun _ => ?_) (fun z => absurd z (Nat.lt_irrefl _))
    exact ⟨rfl, J, rfl, hf, h17, h16, h14, h15, h13, fun _ _ => rfl, Nat.le_trans (bgR_len g nr) hnr, fun r hr => by have := bgR_lt hr; omega, List.Pairwise.filter _ List.nodup_range, fun r hr => by show 0 ≤ J 16 (12 * k + r); rw [h16 r (bgR_lt hr)]; exact hst r (bgR_lt hr)⟩) (by
    intro i hi ih J hf h14 h15 h17 h13 h16
    refine hK [23] 60 _ _ _ _ _ _ ?_
    refine gbr_lp (n := nr) (by show J 0 17 = _; rw [hf.2.1 17 (by omega), hcr]) (by omega) (by omega) (fun e => by omega) (fun _ => ?_)
    have hci : (nI i).toNatClampNeg = i := nI_clamp (by omega)
    have hlen := bgR_len g i
    have hA : (12 * nI k + nI i).toNatClampNeg = 12 * k + i := by rw [ix12]; exact nI_clamp (by omega)
    have hJ1 := mfk_trans hf (mfk_16 (I := J) (L := L) (k := k) (p := 12 * k + i) (v := I 12 i) (by omega))
    refine gsd_i (vp_in_nI (by omega) (by omega)) (gsd_i (by rw [ix12]; exact vp_in_nI (by omega) (by omega)) ?_)
    have g16 : ∀ r, r < i + 1 → gupd (J 16) (12 * k + i) (I 12 i) (12 * k + r) = I 12 r := fun r hr => by
      by_cases e : r = i
      · subst e; exact gupd_s
      · rw [gupd_n (by omega)]; exact h16 r (by omega)
    have e12 : J 12 (nI i).toNatClampNeg = I 12 i := by rw [hci, hf.1 12 (by decide) (by decide)]
    refine gbr_i (fun h1 => ?_) (fun h1 => ?_)
    · have hn := bgR_n (n := i) (who := g) (fun z => bit01.mpr z h1)
      have := ih _ hJ1 (by rw [hn]; exact h14) h15 h17 (by rw [hn]; exact h13) g16
      rw [← hA, ← e12, ← nI_1] at this
      exact this
    · have hp := bgR_p (n := i) (who := g) (bit01.mp h1)
      refine gsd_i hv ?_
      have hB : (12 * nI k + J 14 (nI k).toNatClampNeg).toNatClampNeg = 12 * k + (bgR g i).length := by rw [hck, h14, ix12]; exact nI_clamp (by omega)
      refine gsd_i (by show vp_in (12 * nI k + J 14 (nI k).toNatClampNeg) 24; rw [hck, h14, ix12]; exact vp_in_nI (by omega) (by omega)) (gsd_i hv (gsd_i hv ?_))
      obtain ⟨J1, hJ⟩ : ∃ J1, J1 = gset J 16 (gupd (J 16) (12 * k + i) (I 12 i)) := ⟨_, rfl⟩
      rw [← hJ] at hJ1
      have hJ2 := mfk_trans hJ1 (mfk_13 (I := J1) (L := L) (k := k) (p := 12 * k + (bgR g i).length) (v := nI i) (by omega))
      obtain ⟨J2, hJ'⟩ : ∃ J2, J2 = gset J1 13 (gupd (J1 13) (12 * k + (bgR g i).length) (nI i)) := ⟨_, rfl⟩
      rw [← hJ'] at hJ2
      have hJ3 := mfk_trans hJ2 (mfk_1 (I := J2) (L := L) (k := k) (q := 14) (v := nI ((bgR g i).length + 1)) (Or.inl rfl))
      have q14 : J2 14 = J 14 := by rw [hJ', hJ]; rfl
      have := ih _ hJ3 (by rw [gset_s, gupd_s, hp, List.length_append]; rfl) (by rw [hJ', hJ]; exact h15) (by rw [hJ', hJ]; exact h17) (by
        intro j hj
        rw [hp, List.length_append] at hj
        have hj' : j < (bgR g i).length + 1 := hj
        rw [hJ', hJ, hp]
        show gupd (J 13) (12 * k + (bgR g i).length) (nI i) (12 * k + j) = _
        by_cases e : j = (bgR g i).length
        · rw [e, gupd_s]; simp
        · rw [gupd_n (by omega), getD_app (by omega)]; exact h13 j (by omega)) (by rw [hJ', hJ]; exact g16)
      rw [q14, hJ', hJ, ← hB, ← hA, ← e12, ← nI_1, ← nI_1, ← h14] at this
      exact Eq.mp (congrArg (fun q => K 0 0 23 [some (.ref 0), some (.int (nI k)), some (.int g), some (.int (nI i + 1))] [] (wM (gset (gset (gset J 16 (gupd (J 16) (12 * nI k + nI i).toNatClampNeg (J 12 (nI i).toNatClampNeg))) 13 (gupd (J 13) (12 * nI k + J 14 (nI k).toNatClampNeg).toNatClampNeg (nI i))) 14 (gupd (J 14) q (J 14 q + 1))) L)) hck.symm) this)
  refine gsd_i hv (gsd_i hv (gsd_i hv ?_))
  have f1 := mfk_1 (I := I) (L := L) (k := k) (q := 14) (v := 0) (Or.inl rfl)
  have f2 := mfk_trans f1 (mfk_1 (I := _) (L := L) (k := k) (q := 15) (v := 0) (Or.inr (Or.inl rfl)))
  have f3 := mfk_trans f2 (mfk_1 (I := _) (L := L) (k := k) (q := 17) (v := -1) (Or.inr (Or.inr rfl)))
  have := loop 0 (Nat.zero_le _) _ f3 gupd_s gupd_s gupd_s (fun j hj => absurd hj (Nat.not_lt_zero _)) (fun j hj => absurd hj (Nat.not_lt_zero _))
  exact Eq.mp (congrArg (fun q => K 0 0 23 [some (.ref 0), some (.int (nI k)), some (.int g), some (.int (nI 0))] [] (wM (gset (gset (gset I 14 (gupd (I 14) q 0)) 15 (gupd (I 15) q 0)) 17 (gupd (I 17) q (-1))) L)) hck.symm) this
end
