-- image, on both sides
theorem cpy_in {α : Type} {f g : Nat → α} : ∀ n j, j < n → va_cpy f g 0 0 n j = f j := by
  intro n
  induction n with
  | zero => intro j h; exact absurd h (Nat.not_lt_zero _)
  | succ n ih =>
    intro j h
    rw [cpy_s]
    by_cases e : j = n
    · subst e; rw [gupd_s]
    · rw [gupd_n e]; exact ih j (by omega)
theorem cpy_hi {α : Type} {f g : Nat → α} : ∀ n j, n ≤ j → va_cpy f g 0 0 n j = g j := by
  intro n
  induction n with
  | zero => intro j _; rw [cpy_0]
  | succ n ih =>
    intro j h
    rw [cpy_s, gupd_n (by omega)]
    exact ih j (by omega)
theorem Rel_image {c nr nt ru n : Nat} {ln : Nat → Nat} {I I' J J' : Nat → Nat → Int32} {L L' : Nat → Nat → Int64} {TT : Nat → Tx} (hA : relA I J nr nt) (hT : relT c ln I J ru TT) (hP : relP I J n) (hF : relF L J nt) (hS : relS I J)
    (x28 : I' 28 5 = 1 ∧ I' 28 3 = nI nr ∧ I' 28 4 = I 17 6) (x29 : I' 29 = va_cpy (I 10) (I 29) 0 0 nr) (x30 : I' 30 = va_cpy (I 11) (I 30) 0 0 nr) (x31 : L' 31 = va_cpy (L 12) (L 31) 0 0 nr) (xI : ∀ k, k ≠ 28 → k ≠ 29 → k ≠ 30 → I' k = I k) (xL : ∀ k, k ≠ 31 → L' k = L k)
    (m0 : J' 0 47 = 1 ∧ J' 0 48 = nI nr ∧ J' 0 49 = nI nt ∧ J' 0 50 = J 0 4 ∧ ∀ j, j < 47 ∨ 50 < j → J' 0 j = J 0 j) (m18 : J' 18 = va_cpy (J 11) (J 18) 0 0 nr) (m19 : J' 19 = va_cpy (J 12) (J 19) 0 0 nr) (m20 : J' 20 = va_cpy (J 7) (J 20) 0 0 nt) (mJ : ∀ k, k ≠ 0 → k ≠ 18 → k ≠ 19 → k ≠ 20 → J' k = J k) : Rel c ln I' L' J' := by
  obtain ⟨y47, y48, y49, y50, y0⟩ := m0
  refine ⟨nr, nt, ru, n, TT, relA_tr hA (fun k h1 h2 => xI k (by omega) (by omega) (by omega)) ⟨y0 11 (by omega), y0 17 (by omega)⟩ (fun k h1 h2 => mJ k (by omega) (by omega) (by omega) (by omega)), relT_tr hT (fun k hk => xI k (by omega) (by omega) (by omega)) ⟨by rw [xI 17 (by decide) (by decide) (by decide)], by rw [xI 17 (by decide) (by decide) (by decide)]⟩ ⟨mJ 1 (by decide) (by decide) (by decide) (by decide), mJ 2 (by decide) (by decide) (by decide) (by decide), y0 3 (by omega), y0 4 (by omega)⟩, ?_, ?_, ?_, relS_tr hS (fun k h1 h2 => xI k (by omega) (by omega) (by omega)) (fun k h1 => mJ k (by omega) (by omega) (by omega) (by omega))⟩
  · unfold relP
    rw [xI 13 (by decide) (by decide) (by decide), xI 14 (by decide) (by decide) (by decide), y0 6 (by omega), mJ 3 (by decide) (by decide) (by decide) (by decide)]
    exact hP
  · unfold relF
    rw [xL 12 (by decide), mJ 7 (by decide) (by decide) (by decide) (by decide)]
    exact hF
  · obtain ⟨t1, t2, t3, t4⟩ := hT
    refine ⟨⟨fun z => ?_, fun z => ?_⟩, nr, nt, ru, Nat.le_refl _, Nat.le_refl _, t1.2.2, ⟨x28.2.1, y48⟩, y49, ⟨by rw [x28.2.2]; exact t2.2, by rw [y50]; exact t3.2⟩, fun r hr => ?_, fun t ht => ?_, fun r hr t ht => ?_⟩
    · rw [x28.1] at z; exact absurd z (by decide)
    · rw [y47] at z; exact absurd z (by decide)
    · rw [x29, x30, m18, m19, cpy_in nr r hr, cpy_in nr r hr, cpy_in nr r hr, cpy_in nr r hr, hA.1.a10, hA.1.a11]
      obtain ⟨-, ⟨pa, pb, z1, z2, z3, z4⟩, z5⟩ := hA.2.2.2.2 r hr
      exact ⟨rfl, rfl, ⟨pa, z3, z1⟩, z5⟩
    · rw [m20, cpy_in nt t ht]; exact hF.1 t ht
    · have hnr := hA.2.2.1.2
      rw [x31, m20, cpy_in nr r hr, hF.2 r (by omega) t ht]
      by_cases e : t < nt
      · rw [cpy_in nt t e]
      · rw [decide_eq_false e]; rfl
