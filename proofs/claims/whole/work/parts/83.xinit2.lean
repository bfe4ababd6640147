-- the class's own constructor
theorem rX_41 {k f : Nat} (h : 41 ≤ k) : rX 0 k f = none := by
  obtain ⟨q, rfl⟩ : ∃ q, k = q + 41 := ⟨k - 41, by omega⟩
  rw [rX_big]; rfl
theorem rfo_find : ∀ (e : Nat) (k f : Nat), (∀ i, i < e → ¬ ((evA.getD i (0, 0, 0)).1 = k ∧ (evA.getD i (0, 0, 0)).2.1 = f)) → rfo e k f = none := by
  intro e
  induction e with
  | zero => intro k f _; rfl
  | succ e ih =>
    intro k f h
    have h1 := ih k f (fun i hi => h i (by omega))
    have h2 := h e (by omega)
    show gset (rfo e) _ (gupd _ _ _) k f = none
    by_cases a : k = (evA.getD e (0, 0, 0)).1
    · rw [a, gset_s]
      rw [gupd_n (fun z => h2 ⟨a.symm, z.symm⟩), ← a]
      exact h1
    · rw [gset_n a]; exact h1
theorem evA_lt : ∀ i, i < 49 → (evA.getD i (0, 0, 0)).1 < 41 ∧ (evA.getD i (0, 0, 0)).2.1 < 16 := by
  have : ∀ i : Fin 49, (evA.getD i.val (0, 0, 0)).1 < 41 ∧ (evA.getD i.val (0, 0, 0)).2.1 < 16 := by decide
  exact fun i hi => this ⟨i, hi⟩
theorem rX_f {f : Nat} (h : 16 ≤ f) : ∀ k, k < 41 → rX 0 k f = none := by
  obtain ⟨q, rfl⟩ : ∃ q, f = q + 16 := ⟨f - 16, by omega⟩
  intro k hk
  match k, hk with
  | 0, _ => rfl
  | 1, _ => rfl
  | 2, _ => rfl
  | 3, _ => rfl
  | 4, _ => rfl
  | 5, _ => rfl
  | 6, _ => rfl
  | 7, _ => rfl
  | 8, _ => rfl
  | 9, _ => rfl
  | 10, _ => rfl
  | 11, _ => rfl
  | 12, _ => rfl
  | 13, _ => rfl
  | 14, _ => rfl
  | 15, _ => rfl
  | 16, _ => rfl
  | 17, _ => rfl
  | 18, _ => rfl
  | 19, _ => rfl
  | 20, _ => rfl
  | 21, _ => rfl
  | 22, _ => rfl
  | 23, _ => rfl
  | 24, _ => rfl
  | 25, _ => rfl
  | 26, _ => rfl
  | 27, _ => rfl
  | 28, _ => rfl
  | 29, _ => rfl
  | 30, _ => rfl
  | 31, _ => rfl
  | 32, _ => rfl
  | 33, _ => rfl
  | 34, _ => rfl
  | 35, _ => rfl
  | 36, _ => rfl
  | 37, _ => rfl
  | 38, _ => rfl
  | 39, _ => rfl
  | 40, _ => rfl
  | n + 41, h => exact absurd h (by omega)
theorem rfo_49 : rfo 49 = rX 0 := by
  funext k f
  rcases Nat.lt_or_ge k 41 with hk | hk
  · rcases Nat.lt_or_ge f 16 with hf | hf
    · have : ∀ k : Fin 41, ∀ f : Fin 16, rfo 49 k.val f.val = rX 0 k.val f.val := by decide +kernel
      exact this ⟨k, hk⟩ ⟨f, hf⟩
    · rw [rX_f hf k hk]
      exact rfo_find 49 k f (fun i hi z => by have := evA_lt i hi; omega)
  · rw [rX_41 hk]
    exact rfo_find 49 k f (fun i hi z => by have := evA_lt i hi; omega)
theorem wXe_end {I : Nat → Nat → Int32} : wXe 40 49 I = wX 0 ln0 I Zl := by
  have h1 : shp (shX 0 ln0) 40 = shX 0 ln0 := by
    funext k
    unfold shp
    cases hb : Nat.ble k 40 with
    | true => rfl
    | false =>
      obtain ⟨q, rfl⟩ : ∃ q, k = q + 41 := ⟨k - 41, by
        have : ¬ k ≤ 40 := fun z => by rw [Nat.ble_eq_true_of_le z] at hb; exact absurd hb (by decide)
        omega⟩
      rfl
  show (41, shp (shX 0 ln0) 40, I, Zl, rfo 49) = _
  rw [h1, rfo_49]
