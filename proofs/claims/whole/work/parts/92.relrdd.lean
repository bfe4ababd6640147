-- ridden, set, on both sides
theorem wthn_999 (v : Int32) : wthn 0 v 999 ≤ 999 := by
  unfold wthn
  by_cases h : (0 : Int32) < (if 999 < v then 999 else v)
  · rw [if_pos h]
    by_cases h2 : 999 < v
    · rw [if_pos h2]; exact Int32.le_refl _
    · rw [if_neg h2]; exact Int32.not_lt.mp h2
  · rw [if_neg h]; decide
theorem tir_rng {sv : Say} {t : Int32} {r : Nat} : ∀ (l : List Nat) (i : Nat) (st : Nat → Int32), r ∈ l → tir sv t i l st r ≤ 999 := by
  intro l
  induction l with
  | nil => intro i st h; exact absurd h (by simp)
  | cons x l ih =>
    intro i st h
    show tir sv t (i + 1) l _ r ≤ 999
    by_cases e : r ∈ l
    · exact ih _ _ e
    · rw [tir_out _ _ _ e]
      rcases List.mem_cons.mp h with z | z
      · rw [z, gupd_s]; exact wthn_999 _
      · exact absurd z e
theorem ron_rng {V : Nat → Nat → Int32} {sv : Say} {r : Nat} : ∀ (m t : Nat) (s : RdS), (0 ≤ s.2.2.1 r ∧ s.2.2.1 r ≤ 999) → (0 ≤ (ron V sv m t s).2.2.1 r ∧ (ron V sv m t s).2.2.1 r ≤ 999) := by
  intro m
  induction m with
  | zero => intro t s h; exact h
  | succ m ih =>
    intro t s h
    refine ih (t + 1) _ ⟨(stp_one h.1).1, ?_⟩
    obtain ⟨row, since, st, f, p⟩ := s
    unfold stpX gon
    by_cases e : row = []
    · rw [if_pos e]; exact h.2
    · rw [if_neg e]
      show tir sv (nI t) 0 (goT V (V 1 4 - nI t) row since st).1 st r ≤ 999
      by_cases hm : r ∈ (goT V (V 1 4 - nI t) row since st).1
      · exact tir_rng _ _ _ hm
      · rw [tir_out _ _ _ hm]; exact h.2
theorem store_of {J : Nat → Nat → Int32} {r : Nat} : (∃ s, s ≤ 999 ∧ J 12 r = nI s) ↔ (0 ≤ J 12 r ∧ J 12 r ≤ 999) := by
  constructor
  · rintro ⟨s, hs, e⟩
    rw [e]
    exact ⟨by rw [show (0 : Int32) = nI 0 from rfl, nI_leI (by omega) (by omega)]; omega, by rw [show (999 : Int32) = nI 999 from rfl, nI_leI (by omega) (by omega)]; omega⟩
  · rintro ⟨h1, h2⟩
    exact le_nI (M := 999) (by decide) h1 h2
theorem Rel_ridden {c : Nat} {ln : Nat → Nat} {I I' J J' : Nat → Nat → Int32} {L : Nat → Nat → Int64} {sv : Say} {nr ru nt n : Nat} {TT : Nat → Tx} {g t : Int32} (hA : relA I J nr nt) (hT : relT c ln I J ru TT) (hP : relP I J n) (hF : relF L J nt) (hI : relI I L J c nr nt) (hS : relS I J)
    (h11 : I' 11 = (riddX (xv J) sv nr g t).2) (hf : ∀ k, k ≠ 11 → k ≠ 19 → k ≠ 20 → (k < 21 ∨ 26 < k) → I' k = I k)
    (h12 : ∀ r, J' 12 r = (riddX (xv J) sv nr g t).2 r) (hg : ∀ k, k ≠ 0 → k ≠ 12 → (k < 13 ∨ 17 < k) → J' k = J k) (hg0 : ∀ j, (j < 18 ∨ 43 < j) → J' 0 j = J 0 j) : Rel c ln I' L J' := by
  have hs : ∀ r, r < nr → ∃ s, s ≤ 999 ∧ J' 12 r = nI s := fun r hr => by
    rw [store_of, h12 r]
    have h0 := store_of.mp (hA.2.2.2.2 r hr).2.2
    unfold riddX
    by_cases c1 : isG (xv J) g ∧ isSp (xv J) t
    · rw [if_pos c1]
      show 0 ≤ bgS g (rdE (xv J) sv nr g t).2.2.1 (xv J 11) nr r ∧ bgS g (rdE (xv J) sv nr g t).2.2.1 (xv J 11) nr r ≤ 999
      unfold bgS
      by_cases c2 : r < nr ∧ (g >>> (nI r &&& 31)) &&& 1 = 1
      · rw [if_pos c2]; exact ron_rng _ _ _ h0
      · rw [if_neg c2]; exact h0
    · rw [if_neg c1]; exact h0
  refine ⟨nr, nt, ru, n, TT, relA_store hA (fun k h1 h2 => hf k (by omega) (by omega) (by omega) (by omega)) (fun k h1 h2 => hg k (by omega) (by omega) (by omega)) ⟨hg0 11 (by omega), hg0 17 (by omega)⟩ (by rw [h11]; exact (funext h12).symm) hs, relT_tr hT (fun k hk => hf k (by omega) (by omega) (by omega) (by omega)) ⟨by rw [hf 17 (by decide) (by decide) (by decide) (by decide)], by rw [hf 17 (by decide) (by decide) (by decide) (by decide)]⟩ ⟨hg 1 (by decide) (by decide) (by decide), hg 2 (by decide) (by decide) (by decide), hg0 3 (by omega), hg0 4 (by omega)⟩, ?_, ?_, ?_, relS_tr hS (fun k hk hk' => hf k (by omega) (by omega) (by omega) (by omega)) (fun k hk => hg k (by omega) (by omega) (by omega))⟩
  · unfold relP
    rw [hf 13 (by decide) (by decide) (by decide) (by decide), hf 14 (by decide) (by decide) (by decide) (by decide), hg0 6 (by omega), hg 3 (by decide) (by decide) (by decide)]
    exact hP
  · unfold relF
    rw [hg 7 (by decide) (by decide) (by decide)]
    exact hF
  · unfold relI
    rw [hf 28 (by decide) (by decide) (by decide) (by decide), hf 29 (by decide) (by decide) (by decide) (by decide), hf 30 (by decide) (by decide) (by decide) (by decide), hg0 47 (by omega), hg0 48 (by omega), hg0 49 (by omega), hg0 50 (by omega), hg 18 (by decide) (by decide) (by decide), hg 19 (by decide) (by decide) (by decide), hg 20 (by decide) (by decide) (by decide)]
    exact hI
theorem Rel_set {c : Nat} {ln : Nat → Nat} {I J : Nat → Nat → Int32} {L : Nat → Nat → Int64} (h : Rel c ln I L J) (r what v : Int32) : (setX I r what v).1 = (msetX J r what v).1 ∧ Rel c ln (setX I r what v).2 L (msetX J r what v).2 := by
  have h0 := h
  obtain ⟨nr, nt, ru, n, TT, hA, hT, hP, hF, hI, hS⟩ := h
  have e66 : I 6 6 = J 0 17 := hA.1.nr
  have hnr := hA.2.2.1.2
  unfold setX msetX
  rw [e66]
  by_cases c1 : (0 ≤ r ∧ r < J 0 17) ∧ what = 0 ∧ 1 ≤ v ∧ v ≤ 99
  · rw [if_pos c1, if_pos c1]
    generalize r.toNatClampNeg = q
    refine ⟨?_, nr, nt, ru, n, TT, ?_, relT_tr hT (fun k hk => gset_n (by omega)) ⟨rfl, rfl⟩ ⟨rfl, rfl, rfl, rfl⟩, hP, hF, hI, relS_tr hS (fun k hk hk' => gset_n (by omega)) (fun k hk => gset_n (by omega))⟩
    · show I 10 q = J 11 q; rw [hA.1.a10]; rfl
    · obtain ⟨a1, a2, a3, a4, a5⟩ := hA
      refine ⟨⟨a1.nt, a1.nr, a1.a2, a1.a3, a1.a4, a1.a5, a1.a7, a1.a8, a1.a9, ?_, a1.a11⟩, a2, a3, a4, fun x hx => ⟨(a5 x hx).1, ?_, (a5 x hx).2.2⟩⟩
      · show gupd (I 10) q v = fun j => gupd (J 11) q v j
        rw [a1.a10]; rfl
      · show smalls (gupd (J 11) q v x) (J 10 x)
        obtain ⟨pa, pb, z1, z2, z3, z4⟩ := (a5 x hx).2.1
        by_cases e : x = q
        · subst e
          rw [gupd_s]
          obtain ⟨pm, hpm, hv⟩ := le_nI (M := 99) (by decide) (Int32.le_trans (by decide) c1.2.2.1) c1.2.2.2
          exact ⟨pm, pb, hv, z2, by omega, z4⟩
        · rw [gupd_n e]; exact ⟨pa, pb, z1, z2, z3, z4⟩
  · rw [if_neg c1, if_neg c1]
    by_cases c2 : (0 ≤ r ∧ r < J 0 17) ∧ what = 1 ∧ 0 ≤ v ∧ v ≤ 999
    · rw [if_pos c2, if_pos c2]
      generalize r.toNatClampNeg = q
      refine ⟨?_, nr, nt, ru, n, TT, ?_, relT_tr hT (fun k hk => gset_n (by omega)) ⟨rfl, rfl⟩ ⟨rfl, rfl, rfl, rfl⟩, hP, hF, hI, relS_tr hS (fun k hk hk' => gset_n (by omega)) (fun k hk => gset_n (by omega))⟩
      · show I 11 q = J 12 q; rw [hA.1.a11]; rfl
      · refine relA_store hA (fun k h1 h2 => gset_n (by omega)) (fun k h1 h2 => gset_n (by omega)) ⟨rfl, rfl⟩ ?_ (fun x hx => ?_)
        · show gupd (I 11) q v = gupd (J 12) q v
          rw [hA.1.a11]; rfl
        · show ∃ s, s ≤ 999 ∧ gupd (J 12) q v x = nI s
          by_cases e : x = q
          · subst e; rw [gupd_s]; exact le_nI (M := 999) (by decide) c2.2.2.1 c2.2.2.2
          · rw [gupd_n e]; exact (hA.2.2.2.2 x hx).2.2
    · rw [if_neg c2, if_neg c2]
      exact ⟨rfl, h0⟩
