-- wrong, on both sides
theorem flm_bt {L : Nat → Nat → Int64} {g : Int32} {t r : Nat} (ht : t < 64) (hr : r < 12) : flm L g (nI t) r ↔ (bt g r = true ∧ lbt (L 12 r) t = true) := by
  unfold flm
  rw [b_in (by omega), lb_at t ht]
  cases h : lbt (L 12 r) t
  · rw [if_neg (by decide)]
    exact ⟨fun z => absurd z.2 (by decide), fun z => absurd z.2 (by decide)⟩
  · rw [if_pos rfl]
    exact ⟨fun z => ⟨z.1, rfl⟩, fun z => ⟨z.1, by decide⟩⟩
theorem wrF_eq {L : Nat → Nat → Int64} {J : Nat → Nat → Int32} {nt nr t : Nat} {g f : Int32} (hF : relF L J nt) (ht : t < nt) (hnt : nt ≤ 40) (hnr : nr ≤ 12) (hg : ∀ i, i < 32 → bt g i = true → i < nr) :
    wrF L nr g t f ↔ ¬ (J 7 t &&& g) &&& ((if f = -1 then (0 : Int32) else (1 : Int32) <<< (f &&& 31)) ^^^ -1) = 0 := by
  have hbit : ∀ r, r < nr → (flm L (if f = -1 then g else g &&& ((1 <<< (f &&& 31)) ^^^ -1)) (nI t) r ↔ bt ((J 7 t &&& g) &&& ((if f = -1 then (0 : Int32) else (1 : Int32) <<< (f &&& 31)) ^^^ -1)) r = true) := by
    intro r hr
    rw [flm_bt (by omega) (by omega), hF.2 r (by omega) t (by omega), decide_eq_true ht, Bool.true_and, b_and, b_and, b_xor, b_m1 r (by omega)]
    by_cases c : f = -1
    · rw [if_pos c, if_pos c, b_0]
      cases bt g r <;> cases bt (J 7 t) r <;> simp
    · rw [if_neg c, if_neg c, b_and, b_xor, b_m1 r (by omega)]
      cases bt g r <;> cases bt (J 7 t) r <;> simp
  unfold wrF
  constructor
  · rintro ⟨r, hr, hf⟩ z
    have := (hbit r hr).mp hf
    rw [z, b_0] at this
    exact absurd this (by decide)
  · intro hne
    refine Classical.byContradiction (fun hno => hne (b_ext (fun i hi => ?_)))
    rw [b_0]
    cases hb : bt ((J 7 t &&& g) &&& ((if f = -1 then (0 : Int32) else (1 : Int32) <<< (f &&& 31)) ^^^ -1)) i with
    | false => rfl
    | true =>
      have hgi : bt g i = true := by
        rw [b_and, b_and] at hb
        cases h : bt g i
        · rw [h] at hb; simp at hb
        · rfl
      have hin := hg i hi hgi
      exact absurd ⟨i, hin, (hbit i hin).mpr hb⟩ hno
theorem wrg_eq {I J : Nat → Nat → Int32} {L : Nat → Nat → Int64} {sv sv' : Say} {nt nr : Nat} {g : Int32} (h : agX I (xv J)) (hs : sv3 sv sv') (hF : relF L J nt) (hnt : nt ≤ 40) (hnr : nr ≤ 12) (hg : ∀ i, i < 32 → bt g i = true → i < nr) :
    ∀ (m t : Nat) (s : RdS), t + m ≤ nt → wrg I L sv nr g m t s = mwrg J sv' g m t s := by
  intro m
  induction m with
  | zero => intro t s _; rfl
  | succ m ih =>
    intro t s hm
    have e1 : mwrg J sv' g (m + 1) t s = if (J 7 t &&& g) &&& ((if (stpX (xv J) sv' t s).2.2.2.1 = -1 then (0 : Int32) else (1 : Int32) <<< ((stpX (xv J) sv' t s).2.2.2.1 &&& 31)) ^^^ -1) = 0 then mwrg J sv' g m (t + 1) (stpX (xv J) sv' t s) else nI t := rfl
    rw [wrg_s, e1, stpX_ag h hs]
    by_cases c : (J 7 t &&& g) &&& ((if (stpX (xv J) sv' t s).2.2.2.1 = -1 then (0 : Int32) else (1 : Int32) <<< ((stpX (xv J) sv' t s).2.2.2.1 &&& 31)) ^^^ -1) = 0
    · rw [if_pos c, if_neg (fun z => (wrF_eq hF (by omega) hnt hnr hg).mp z c)]
      exact ih (t + 1) _ (by omega)
    · rw [if_neg c, if_pos ((wrF_eq hF (by omega) hnt hnr hg).mpr c)]
/-- a group has only riders -/
theorem grp_bits {g x : Int32} {nr : Nat} (hx : x = nI nr) (hnr : nr ≤ 12) (h : 0 < g ∧ g >>> (x &&& 31) = 0) : ∀ i, i < 32 → bt g i = true → i < nr := by
  obtain ⟨m, hm, hm2, hm0, rfl⟩ := grp_m hx hnr h
  intro i hi hb
  rcases Nat.lt_or_ge i nr with z | z
  · exact z
  · exfalso
    have e : bt (nI m) i = (decide (i < 32) && m.testBit i) := by
      unfold bt
      show (BitVec.ofNat 32 m).getLsbD i = _
      rw [BitVec.getLsbD_ofNat]
    rw [e, Nat.testBit_lt_two_pow (Nat.lt_of_lt_of_le hm2 (Nat.pow_le_pow_right (by decide) z))] at hb
    simp at hb
theorem wrongX_eq {I J : Nat → Nat → Int32} {L : Nat → Nat → Int64} {sv sv' : Say} {nt nr : Nat} (hA : relA I J nr nt) (hs : sv3 sv sv') (hF : relF L J nt) (g t : Int32) : wrongX I L sv nr g t = mwroX J sv' nr g t := by
  have h := hA.1
  have hnr := hA.2.2.1.2
  have hnt := hA.2.1.2
  unfold wrongX mwroX isG isSp
  rw [h.nr, h.nt, cst_ag h]
  by_cases c : (0 < g ∧ g >>> (xv J 6 6 &&& 31) = 0) ∧ 0 ≤ t ∧ t / 100 ≤ t - t / 100 * 100 ∧ t - t / 100 * 100 < xv J 1 4
  · rw [if_pos c, if_pos c]
    have e66 : xv J 6 6 = nI nr := by rw [← h.nr]; exact hA.2.2.1.1
    obtain ⟨e1, e2, e3, e4, e5⟩ := spAB hnt (show 0 ≤ t ∧ t / 100 ≤ t - t / 100 * 100 ∧ t - t / 100 * 100 < nI nt by
      have : xv J 1 4 = nI nt := by rw [← h.nt]; exact hA.2.1.1
      rw [← this]; exact c.2)
    exact wrg_eq h hs hF hnt hnr (grp_bits e66 hnr c.1) _ _ _ (by omega)
  · rw [if_neg c, if_neg c]
