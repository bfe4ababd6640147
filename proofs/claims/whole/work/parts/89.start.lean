-- the relation at the begin
set_option maxRecDepth 100000 in
theorem frB_text : pTxt (lex frB 80) = frT := by decide +kernel
set_option maxRecDepth 100000 in
theorem frB_pos : ∀ j, j < 80 → 0 ≤ frB j := by
  have : ∀ j : Fin 80, 0 ≤ frB j.val := by decide +kernel
  exact fun j hj => this ⟨j, hj⟩
theorem lbt_0 (i : Nat) : lbt 0 i = false := BitVec.getLsbD_zero
theorem Rel_start {I' : Nat → Nat → Int32} {L' : Nat → Nat → Int64} (h : newT 0 (iXp 78) I' Zl L' frT.2.1) (hb : (frT.2.1.1 ++ frT.2.1.2.1 ++ frT.2.1.2.2).length < 160) : Rel 1 (gupd ln0 0 (frT.2.1.1 ++ frT.2.1.2.1 ++ frT.2.1.2.2).length) I' L' iM := by
  obtain ⟨h1, ⟨h2, h3⟩, h4, h5, h6, h7, h8⟩ := h
  have hk : ∀ k, k ≠ 13 → k ≠ 15 → k ≠ 16 → k ≠ 17 → k ≠ 41 → k ≠ 42 → I' k = iXp 78 k := h7
  have hL : ∀ k, k ≠ 41 → k ≠ 42 → L' k = Zl k := h8
  refine ⟨0, 0, 0, 0, fun _ => frT, ⟨?_, ⟨?_, by omega⟩, ⟨?_, by omega⟩, fun t ht => absurd ht (Nat.not_lt_zero _), fun r hr => absurd hr (Nat.not_lt_zero _)⟩, ⟨⟨by omega, by omega, by omega⟩, ⟨h2, ?_⟩, ⟨rfl, rfl⟩, fun x hx => ?_⟩, ⟨by omega, h1, rfl, fun j hj => absurd hj (Nat.not_lt_zero _)⟩, ⟨fun t ht => absurd ht (Nat.not_lt_zero _), fun r hr t ht => ?_⟩, ?_, fun s hs => ?_⟩
  · unfold agX
    rw [hk 1 (by decide) (by decide) (by decide) (by decide) (by decide) (by decide), hk 2 (by decide) (by decide) (by decide) (by decide) (by decide) (by decide), hk 3 (by decide) (by decide) (by decide) (by decide) (by decide) (by decide), hk 4 (by decide) (by decide) (by decide) (by decide) (by decide) (by decide), hk 5 (by decide) (by decide) (by decide) (by decide) (by decide) (by decide), hk 6 (by decide) (by decide) (by decide) (by decide) (by decide) (by decide), hk 7 (by decide) (by decide) (by decide) (by decide) (by decide) (by decide), hk 8 (by decide) (by decide) (by decide) (by decide) (by decide) (by decide), hk 9 (by decide) (by decide) (by decide) (by decide) (by decide) (by decide), hk 10 (by decide) (by decide) (by decide) (by decide) (by decide) (by decide), hk 11 (by decide) (by decide) (by decide) (by decide) (by decide) (by decide)]
    exact ⟨rfl, rfl, rfl, rfl, funext fun _ => (by decide : (0 : Int32) = 0 - 0 / 2 * 2), funext fun _ => (by decide : (0 : Int32) = 0 / 2), rfl, rfl, rfl, rfl, rfl⟩
  · rw [hk 1 (by decide) (by decide) (by decide) (by decide) (by decide) (by decide)]; rfl
  · rw [hk 6 (by decide) (by decide) (by decide) (by decide) (by decide) (by decide)]; rfl
  · rw [h3 6 (by decide)]; rfl
  · have hx0 : x = 0 := by omega
    subst hx0
    refine ⟨frT_good, ⟨gupd_s, hb, h4, h5, h6⟩, pTxt_dep frT_good, frB, 80, ⟨rfl, by omega, by omega, fun j hj => ⟨?_, frB_pos j hj⟩⟩, frB_text⟩
    show frB (160 * 0 + j) = frB j
    rw [Nat.mul_zero, Nat.zero_add]
  · rw [hL 12 (by decide) (by decide)]
    show lbt 0 t = _
    rw [lbt_0]; rfl
  · unfold relI
    rw [hk 28 (by decide) (by decide) (by decide) (by decide) (by decide) (by decide)]
    exact ⟨⟨fun _ => rfl, fun _ => rfl⟩, 0, 0, 0, by omega, by omega, by omega, ⟨rfl, rfl⟩, rfl, ⟨rfl, rfl⟩, fun r hr => absurd hr (Nat.not_lt_zero _), fun t ht => absurd ht (Nat.not_lt_zero _), fun r hr => absurd hr (Nat.not_lt_zero _)⟩
  · have e : I' (33 + 2 * s) = iXp 78 (33 + 2 * s) := hk _ (by omega) (by omega) (by omega) (by omega) (by omega) (by omega)
    have hj : iM 21 s = 0 := rfl
    refine ⟨⟨fun _ => hj, fun _ => ?_⟩, fun z => absurd hj z⟩
    rw [e]
    have : s = 0 ∨ s = 1 ∨ s = 2 ∨ s = 3 := by omega
    rcases this with rfl | rfl | rfl | rfl <;> rfl
