-- game, on both sides
theorem xr_lt {n ch i : Nat} (hn : n = 2 ∨ n = 3) (hc : ch < 2 ^ n) (hi : i < n) : (ch ^^^ (1 <<< i)) * n + i < n * 2 ^ n ∧ ch * n + i < n * 2 ^ n := by
  rcases hn with rfl | rfl
  · have : ∀ ch : Fin 4, ∀ i : Fin 2, (ch.val ^^^ (1 <<< i.val)) * 2 + i.val < 8 ∧ ch.val * 2 + i.val < 8 := by decide
    exact this ⟨ch, hc⟩ ⟨i, hi⟩
  · have : ∀ ch : Fin 8, ∀ i : Fin 3, (ch.val ^^^ (1 <<< i.val)) * 3 + i.val < 24 ∧ ch.val * 3 + i.val < 24 := by decide
    exact this ⟨ch, hc⟩ ⟨i, hi⟩
theorem rsi_ag {f f' : Nat → Int32} {n ch : Nat} (hn : n = 2 ∨ n = 3) (hf : ∀ j, j < n * 2 ^ n → f j = f' j) (hc : ch < 2 ^ n) : ∀ i, i ≤ n → rsi f n ch i = rsi f' n ch i := by
  intro i
  induction i with
  | zero => intro _; rfl
  | succ i ih =>
    intro hi
    have hx := xr_lt hn hc (show i < n by omega)
    unfold rsi
    rw [ih (by omega), hf _ hx.1, hf _ hx.2]
theorem gsm_ag {f f' : Nat → Int32} {n ch : Nat} (hn : n = 2 ∨ n = 3) (hf : ∀ j, j < n * 2 ^ n → f j = f' j) (hc : ch < 2 ^ n) : ∀ i, i ≤ n → gsm f n ch i = gsm f' n ch i := by
  intro i
  induction i with
  | zero => intro _; rfl
  | succ i ih =>
    intro hi
    have hx := xr_lt hn hc (show i < n by omega)
    unfold gsm
    rw [ih (by omega), hf _ hx.2]
theorem rso_ag {f f' : Nat → Int32} {n : Nat} (hn : n = 2 ∨ n = 3) (hf : ∀ j, j < n * 2 ^ n → f j = f' j) : ∀ ch, ch ≤ 2 ^ n → rso f n ch = rso f' n ch := by
  intro ch
  induction ch with
  | zero => intro _; rfl
  | succ ch ih =>
    intro hc
    unfold rso
    rw [rsi_ag hn hf (by omega) n (Nat.le_refl _), ih (by omega)]
theorem gdo_ag {f f' : Nat → Int32} {n : Nat} (hn : n = 2 ∨ n = 3) (hf : ∀ j, j < n * 2 ^ n → f j = f' j) : ∀ ch, ch ≤ 2 ^ n → gdo f n ch = gdo f' n ch := by
  intro ch
  induction ch with
  | zero => intro _; rfl
  | succ ch ih =>
    intro hc
    unfold gdo
    rw [gsm_ag hn hf (by omega) n (Nat.le_refl _), ih (by omega)]
theorem gameX_eq {c : Nat} {ln : Nat → Nat} {I J : Nat → Nat → Int32} {L : Nat → Nat → Int64} (h : Rel c ln I L J) (g s what : Int32) : gameX I g s what = mgamX J g s what := by
  have hS := Rel_relS h
  obtain ⟨nr, nt, ru, n, TT, hA, -⟩ := h
  have e66 : I 6 6 = J 0 17 := hA.1.nr
  unfold gameX mgamX isG
  rw [e66]
  by_cases c1 : (0 < g ∧ g >>> (J 0 17 &&& 31) = 0) ∧ (2 ≤ ibc g ∧ ibc g ≤ 3) ∧ (0 ≤ s ∧ s < 4) ∧ 0 ≤ what ∧ what ≤ 1
  · rw [if_pos c1, if_pos c1]
    obtain ⟨sn, hsn, rfl⟩ := fours c1.2.2.1
    have hcs : (nI sn).toNatClampNeg = sn := nI_clamp (by omega)
    unfold kS
    rw [hcs]
    obtain ⟨q1, q2⟩ := hS sn hsn
    by_cases c2 : J 21 sn = 0
    · rw [if_pos (q1.mpr c2), if_pos c2]
    · rw [if_neg (fun z => c2 (q1.mp z)), if_neg c2]
      obtain ⟨e1, z, hz, e2, e3, e4⟩ := q2 c2
      rw [e2, e3]
      by_cases c3 : nI z = ibc g <<< (ibc g &&& 31)
      · rw [if_pos c3, if_pos c3]
        have key : ∃ k, (k = 2 ∨ k = 3) ∧ (ibc g).toNatClampNeg = k ∧ z = k * 2 ^ k := by
          rcases two3 c1.2.1 with e | e
          · rw [e] at c3 ⊢
            exact ⟨2, Or.inl rfl, rfl, (nI_eq (b := 8) (by omega) (by omega)).mp (by rw [c3]; decide)⟩
          · rw [e] at c3 ⊢
            exact ⟨3, Or.inr rfl, rfl, (nI_eq (b := 24) (by omega) (by omega)).mp (by rw [c3]; decide)⟩
        obtain ⟨k, hk, ek, ez⟩ := key
        have hf : ∀ j, j < k * 2 ^ k → I (33 + 2 * sn + 1) j = (fun j => J 24 (40 * sn + j)) j := fun j hj => by
          rw [show 33 + 2 * sn + 1 = 34 + 2 * sn by omega]
          exact e4 j (by omega)
        rw [ek, rso_ag hk hf _ (Nat.le_refl _), gdo_ag hk hf _ (Nat.le_refl _)]
      · rw [if_neg c3, if_neg c3]
  · rw [if_neg c1, if_neg c1]
