-- a new text is kept
theorem shX_big (c : Nat) (ln : Nat → Nat) (j : Nat) : shX c ln (j + 41) = cond (Nat.blt (j + 41) 1000) (cond (Nat.blt (j / 2) c) (cond (Nat.beq (j % 2) 0) (.inl 7) (.inr (0, ln (j / 2)))) (.inr (9, 0))) (gFx (j + 41)) := by
  show cond (Nat.blt (j + 41) 1000) (cond (Nat.blt ((j + 41 - 41) / 2) c) (cond (Nat.beq ((j + 41 - 41) % 2) 0) (.inl 7) (.inr (0, ln ((j + 41 - 41) / 2)))) (.inr (9, 0))) (gFx (j + 41)) = _
  rw [Nat.add_sub_cancel]
theorem blt_f {a b : Nat} (h : b ≤ a) : Nat.blt a b = false := by
  cases hb : Nat.blt a b with
  | false => rfl
  | true => have : a < b := Nat.le_of_ble_eq_true hb; omega
theorem shX_ne {c : Nat} {ln : Nat → Nat} {m : Nat} : ∀ k, k ≠ 41 + 2 * c → k ≠ 42 + 2 * c → shX c ln k = shX (c + 1) (gupd ln c m) k := by
  intro k h1 h2
  match k, h1, h2 with
  | 0, _, _ => rfl
  | 1, _, _ => rfl
  | 2, _, _ => rfl
  | 3, _, _ => rfl
  | 4, _, _ => rfl
  | 5, _, _ => rfl
  | 6, _, _ => rfl
  | 7, _, _ => rfl
  | 8, _, _ => rfl
  | 9, _, _ => rfl
  | 10, _, _ => rfl
  | 11, _, _ => rfl
  | 12, _, _ => rfl
  | 13, _, _ => rfl
  | 14, _, _ => rfl
  | 15, _, _ => rfl
  | 16, _, _ => rfl
  | 17, _, _ => rfl
  | 18, _, _ => rfl
  | 19, _, _ => rfl
  | 20, _, _ => rfl
  | 21, _, _ => rfl
  | 22, _, _ => rfl
  | 23, _, _ => rfl
  | 24, _, _ => rfl
  | 25, _, _ => rfl
  | 26, _, _ => rfl
  | 27, _, _ => rfl
  | 28, _, _ => rfl
  | 29, _, _ => rfl
  | 30, _, _ => rfl
  | 31, _, _ => rfl
  | 32, _, _ => rfl
  | 33, _, _ => rfl
  | 34, _, _ => rfl
  | 35, _, _ => rfl
  | 36, _, _ => rfl
  | 37, _, _ => rfl
  | 38, _, _ => rfl
  | 39, _, _ => rfl
  | 40, _, _ => rfl
  | j + 41, h1, h2 =>
    rw [shX_big, shX_big]
    congr 1
    rcases Nat.lt_trichotomy (j / 2) c with h | h | h
    · rw [blt_t h, blt_t (show j / 2 < c + 1 by omega), gupd_n (by omega)]
    · exfalso; omega
    · rw [blt_f (show c ≤ j / 2 by omega), blt_f (show c + 1 ≤ j / 2 by omega)]; rfl
theorem sh_grow {c : Nat} (hc : c ≤ 5) {ln : Nat → Nat} {m : Nat} : gupd (gupd (shX c ln) (41 + 2 * c) (.inl 7)) (42 + 2 * c) (.inr (0, m)) = shX (c + 1) (gupd ln c m) := by
  funext k
  by_cases h2 : k = 42 + 2 * c
  · subst h2; rw [gupd_s, shX_steps (by omega) (by omega), gupd_s]
  · rw [gupd_n h2]
    by_cases h1 : k = 41 + 2 * c
    · subst h1; rw [gupd_s, shX_text (by omega) (by omega)]
    · rw [gupd_n h1]; exact shX_ne k h1 h2
/-- references, a text being made and not kept yet -/
def rT (c : Nat) : Nat → Nat → Option Nat := gset (rX c) (41 + 2 * c) (fun j => cond (Nat.beq j 0) (some (42 + 2 * c)) none)
abbrev wT (c : Nat) (ln : Nat → Nat) (m : Nat) (I : Nat → Nat → Int32) (L : Nat → Nat → Int64) : gS := (41 + 2 * (c + 1), shX (c + 1) (gupd ln c m), I, L, rT c)
theorem rX_big (c j q : Nat) : rX c (j + 41) q = cond (Nat.blt (j / 2) c) (cond (Nat.beq (j % 2) 0) (cond (Nat.beq q 0) (some (j + 41 + 1)) none) none) none := by
  show cond (Nat.blt (j + 41) 41) none (cond (Nat.blt ((j + 41 - 41) / 2) c) (cond (Nat.beq ((j + 41 - 41) % 2) 0) (cond (Nat.beq q 0) (some (j + 41 + 1)) none) none) none) = _
  rw [Nat.add_sub_cancel, blt_f (show 41 ≤ j + 41 by omega)]
  rfl
theorem rX_new (c q : Nat) : rX c (41 + 2 * c) q = none ∧ rX c (42 + 2 * c) q = none := by
  constructor
  · rw [show 41 + 2 * c = 2 * c + 41 by omega, rX_big, blt_f (show c ≤ 2 * c / 2 by omega)]; rfl
  · rw [show 42 + 2 * c = 2 * c + 1 + 41 by omega, rX_big, blt_f (show c ≤ (2 * c + 1) / 2 by omega)]; rfl
theorem rT_eq {c : Nat} : gset (gset (gset (rX c) (41 + 2 * c) (fun _ => none)) (42 + 2 * c) (fun _ => none)) (41 + 2 * c) (gupd (gset (gset (rX c) (41 + 2 * c) (fun _ => none)) (42 + 2 * c) (fun _ => none) (41 + 2 * c)) 0 (some (42 + 2 * c))) = rT c := by
  unfold rT
  funext k q
  by_cases h1 : k = 41 + 2 * c
  · subst h1
    rw [gset_s, gset_s, gset_n (show 41 + 2 * c ≠ 42 + 2 * c by omega), gset_s]
    by_cases hq : q = 0
    · subst hq; rw [gupd_s]; rfl
    · rw [gupd_n hq]
      cases hb : Nat.beq q 0 with
      | true => exact absurd (Nat.eq_of_beq_eq_true hb) hq
      | false => rfl
  · rw [gset_n h1, gset_n h1]
    by_cases h2 : k = 42 + 2 * c
    · subst h2; rw [gset_s, (rX_new c q).2]
    · rw [gset_n h2, gset_n h1]
theorem rT_add {c : Nat} (hc : c ≤ 5) : gset (rT c) 18 (gupd (rT c 18) c (some (41 + 2 * c))) = rX (c + 1) := by
  unfold rT
  funext k q
  by_cases h18 : k = 18
  · subst h18
    rw [gset_s, gset_n (show 18 ≠ 41 + 2 * c by omega)]
    show gupd (rX c 18) c (some (41 + 2 * c)) q = cond (Nat.blt q (c + 1)) (some (41 + 2 * q)) none
    by_cases hq : q = c
    · subst hq; rw [gupd_s, blt_t (Nat.lt_succ_self _)]; rfl
    · rw [gupd_n hq]
      show cond (Nat.blt q c) (some (41 + 2 * q)) none = _
      rcases Nat.lt_or_ge q c with h | h
      · rw [blt_t h, blt_t (show q < c + 1 by omega)]
      · rw [blt_f h, blt_f (show c + 1 ≤ q by omega)]
  · rw [gset_n h18]
    by_cases h1 : k = 41 + 2 * c
    · subst h1
      rw [gset_s, show 41 + 2 * c = 2 * c + 41 by omega, rX_big, blt_t (show 2 * c / 2 < c + 1 by omega), show 2 * c % 2 = 0 by omega, show 42 + 2 * c = 2 * c + 41 + 1 by omega]
      rfl
    · rw [gset_n h1]
      match k, h18, h1 with
      | 0, _, _ => rfl
      | 1, _, _ => rfl
      | 2, _, _ => rfl
      | 3, _, _ => rfl
      | 4, _, _ => rfl
      | 5, _, _ => rfl
      | 6, _, _ => rfl
      | 7, _, _ => rfl
      | 8, _, _ => rfl
      | 9, _, _ => rfl
      | 10, _, _ => rfl
      | 11, _, _ => rfl
      | 12, _, _ => rfl
      | 13, _, _ => rfl
      | 14, _, _ => rfl
      | 15, _, _ => rfl
      | 16, _, _ => rfl
      | 17, _, _ => rfl
      | 18, h, _ => exact absurd rfl h
      | 19, _, _ => rfl
      | 20, _, _ => rfl
      | 21, _, _ => rfl
      | 22, _, _ => rfl
      | 23, _, _ => rfl
      | 24, _, _ => rfl
      | 25, _, _ => rfl
      | 26, _, _ => rfl
      | 27, _, _ => rfl
      | 28, _, _ => rfl
      | 29, _, _ => rfl
      | 30, _, _ => rfl
      | 31, _, _ => rfl
      | 32, _, _ => rfl
      | 33, _, _ => rfl
      | 34, _, _ => rfl
      | 35, _, _ => rfl
      | 36, _, _ => rfl
      | 37, _, _ => rfl
      | 38, _, _ => rfl
      | 39, _, _ => rfl
      | 40, _, _ => rfl
      | j + 41, _, h1 =>
        rw [rX_big, rX_big]
        rcases Nat.lt_trichotomy (j / 2) c with h | h | h
        · rw [blt_t h, blt_t (show j / 2 < c + 1 by omega)]
        · rw [blt_f (show c ≤ j / 2 by omega), blt_t (show j / 2 < c + 1 by omega), show j % 2 = 1 by omega]; rfl
        · rw [blt_f (show c ≤ j / 2 by omega), blt_f (show c + 1 ≤ j / 2 by omega)]
section
variable (E : gEnv) (c : Nat) (ln : Nat → Nat) (I : Nat → Nat → Int32) (L : Nat → Nat → Int64)
/-- the world with a text's cells just made -/
abbrev wC (m : Nat) : gS := ((gborn (wN c ln I L) (.inr (0, m))).1, (gborn (wN c ln I L) (.inr (0, m))).2.1, gset (gborn (wN c ln I L) (.inr (0, m))).2.2.1 (42 + 2 * c) (va_cpy (I 15) (fun _ => 0) 0 0 m), (gborn (wN c ln I L) (.inr (0, m))).2.2.2.1, (gborn (wN c ln I L) (.inr (0, m))).2.2.2.2)
set_option maxHeartbeats 1000000 in
theorem c_tinit (hc : c ≤ 5) (m : Nat) (a b : Int32) : gCtr E 2 0 0 nX7_init [.ref (41 + 2 * c), .ref (42 + 2 * c), .int a, .int b] (wC c ln I L m) (fun v u' => v = none ∧ u' = ((wC c ln I L m).1, (wC c ln I L m).2.1, gset (gset (wC c ln I L m).2.2.1 (41 + 2 * c) (gupd ((wC c ln I L m).2.2.1 (41 + 2 * c)) 1 a)) (41 + 2 * c) (gupd (gset (wC c ln I L m).2.2.1 (41 + 2 * c) (gupd ((wC c ln I L m).2.2.1 (41 + 2 * c)) 1 a) (41 + 2 * c)) 2 b), (wC c ln I L m).2.2.2.1, gset (wC c ln I L m).2.2.2.2 (41 + 2 * c) (gupd ((wC c ln I L m).2.2.2.2 (41 + 2 * c)) 0 (some (42 + 2 * c))))) := by
  rcases c6 hc with rfl | rfl | rfl | rfl | rfl | rfl
  · refine gstart iX7_init tX7_init rfl rfl (fun K ca hK hca => ?_)
    refine hK [] 80 _ _ _ _ _ _ ?_
    clear hK hca
    exact gsd_i (Or.inl (show 42 + 2 * 0 < 43 + 2 * 0 by decide)) ⟨rfl, rfl⟩
  · refine gstart iX7_init tX7_init rfl rfl (fun K ca hK hca => ?_)
    refine hK [] 80 _ _ _ _ _ _ ?_
    clear hK hca
    exact gsd_i (Or.inl (show 42 + 2 * 1 < 43 + 2 * 1 by decide)) ⟨rfl, rfl⟩
  · refine gstart iX7_init tX7_init rfl rfl (fun K ca hK hca => ?_)
    refine hK [] 80 _ _ _ _ _ _ ?_
    clear hK hca
    exact gsd_i (Or.inl (show 42 + 2 * 2 < 43 + 2 * 2 by decide)) ⟨rfl, rfl⟩
  · refine gstart iX7_init tX7_init rfl rfl (fun K ca hK hca => ?_)
    refine hK [] 80 _ _ _ _ _ _ ?_
    clear hK hca
    exact gsd_i (Or.inl (show 42 + 2 * 3 < 43 + 2 * 3 by decide)) ⟨rfl, rfl⟩
  · refine gstart iX7_init tX7_init rfl rfl (fun K ca hK hca => ?_)
    refine hK [] 80 _ _ _ _ _ _ ?_
    clear hK hca
    exact gsd_i (Or.inl (show 42 + 2 * 4 < 43 + 2 * 4 by decide)) ⟨rfl, rfl⟩
  · refine gstart iX7_init tX7_init rfl rfl (fun K ca hK hca => ?_)
    refine hK [] 80 _ _ _ _ _ _ ?_
    clear hK hca
    exact gsd_i (Or.inl (show 42 + 2 * 5 < 43 + 2 * 5 by decide)) ⟨rfl, rfl⟩
set_option maxHeartbeats 1000000 in
theorem c_lastText (hc : c ≤ 5) (m : Nat) (hm : m < 160) (h4 : I 13 4 = nI m) : gCtr E 3 2 163 nX5_lastText [.ref 13] (wX c ln I L) (fun v u' => v = some (.ref (41 + 2 * c)) ∧ ∃ I' L', u' = wT c ln m I' L' ∧ (∀ j, j < m → I' (42 + 2 * c) j = I 15 j) ∧ I' (41 + 2 * c) 1 = I 16 1 ∧ I' (41 + 2 * c) 2 = I 16 2 ∧ (∀ k, k ≠ 41 + 2 * c → k ≠ 42 + 2 * c → I' k = I k) ∧ ∀ k, k ≠ 41 + 2 * c → k ≠ 42 + 2 * c → L' k = L k) := by
  have hcp := c_copyOf E c ln I L hc m hm
  rw [← h4] at hcp
  have hin := c_tinit E c ln I L hc m (I 16 1) (I 16 2)
  have e : ∀ (I' : Nat → Nat → Int32) (L' : Nat → Nat → Int64), ((41 + 2 * (c + 1), gupd (gupd (shX c ln) (41 + 2 * c) (.inl 7)) (42 + 2 * c) (.inr (0, m)), I', L', gset (gset (gset (rX c) (41 + 2 * c) (fun _ => none)) (42 + 2 * c) (fun _ => none)) (41 + 2 * c) (gupd (gset (gset (rX c) (41 + 2 * c) (fun _ => none)) (42 + 2 * c) (fun _ => none) (41 + 2 * c)) 0 (some (42 + 2 * c)))) : gS) = wT c ln m I' L' := by
    intro I' L'
    rw [sh_grow hc (ln := ln) (m := m), rT_eq (c := c)]
  have hcpy : ∀ j, j < m → va_cpy (I 15) (fun _ => 0) 0 0 m j = I 15 j := fun j hj => by
    rw [pk_cpy_in (Nat.zero_le _) (by omega), Nat.zero_add, Nat.sub_zero]
  rcases c6 hc with rfl | rfl | rfl | rfl | rfl | rfl
  · refine gstart iX5_lastText tX5_lastText rfl rfl (fun K ca hK hca => ?_)
    refine hK [] 80 _ _ _ _ _ _ ?_
    clear hK
    refine gsd_i ⟨fun r hr => ?_, show 41 + 2 * 0 < 900 by decide, show 0 + 1 ≤ 2 by decide, show 0 + 3 ≤ 163 by decide⟩ ?_
    · have : r = 13 := List.mem_singleton.mp hr
      subst this; exact Or.inl (show 13 < 41 + 2 * 0 by decide)
    refine gcallN hca hcp rfl (show 0 + 1 + 1 ≤ 2 by decide) (show 0 + 3 + m ≤ 163 by omega) (fun r hr => ?_) ?_
    · rcases List.mem_cons.mp hr with h | hr
      · subst h; exact Or.inl (show 13 < 41 + 2 * 0 + 1 by decide)
      rcases List.mem_cons.mp hr with h | hr
      · subst h; exact Or.inl (show 41 + 2 * 0 < 41 + 2 * 0 + 1 by decide)
      rcases List.mem_cons.mp hr with h | hr
      · subst h; exact Or.inl (show 41 + 2 * 0 < 41 + 2 * 0 + 1 by decide)
      exact absurd hr List.not_mem_nil
    rintro w u' - ⟨rfl, rfl⟩
    refine gsd_i (by unfold vp_in; decide) (gsd_i (by unfold vp_in; decide) ?_)
    refine gcallZ hca hin rfl (show 0 + 1 + 1 ≤ 2 by decide) (show 0 + 3 + m ≤ 163 by omega) ?_
    rintro w u' - ⟨rfl, rfl⟩
    refine gsd_i ⟨show 0 + 1 + 1 ≤ 2 by decide, show 0 + 3 + m ≤ 163 by omega⟩ ⟨rfl, _, _, e _ _, hcpy, rfl, rfl, fun k h1 h2 => ?_, fun k h1 h2 => ?_⟩
    · exact (gset_n h1).trans ((gset_n h1).trans ((gset_n h2).trans ((gset_n h2).trans (gset_n h1))))
    · exact (gset_n h2).trans (gset_n h1)
  · refine gstart iX5_lastText tX5_lastText rfl rfl (fun K ca hK hca => ?_)
    refine hK [] 80 _ _ _ _ _ _ ?_
    clear hK
    refine gsd_i ⟨fun r hr => ?_, show 41 + 2 * 1 < 900 by decide, show 0 + 1 ≤ 2 by decide, show 0 + 3 ≤ 163 by decide⟩ ?_
    · have : r = 13 := List.mem_singleton.mp hr
      subst this; exact Or.inl (show 13 < 41 + 2 * 1 by decide)
    refine gcallN hca hcp rfl (show 0 + 1 + 1 ≤ 2 by decide) (show 0 + 3 + m ≤ 163 by omega) (fun r hr => ?_) ?_
    · rcases List.mem_cons.mp hr with h | hr
      · subst h; exact Or.inl (show 13 < 41 + 2 * 1 + 1 by decide)
      rcases List.mem_cons.mp hr with h | hr
      · subst h; exact Or.inl (show 41 + 2 * 1 < 41 + 2 * 1 + 1 by decide)
      rcases List.mem_cons.mp hr with h | hr
      · subst h; exact Or.inl (show 41 + 2 * 1 < 41 + 2 * 1 + 1 by decide)
      exact absurd hr List.not_mem_nil
    rintro w u' - ⟨rfl, rfl⟩
    refine gsd_i (by unfold vp_in; decide) (gsd_i (by unfold vp_in; decide) ?_)
    refine gcallZ hca hin rfl (show 0 + 1 + 1 ≤ 2 by decide) (show 0 + 3 + m ≤ 163 by omega) ?_
    rintro w u' - ⟨rfl, rfl⟩
    refine gsd_i ⟨show 0 + 1 + 1 ≤ 2 by decide, show 0 + 3 + m ≤ 163 by omega⟩ ⟨rfl, _, _, e _ _, hcpy, rfl, rfl, fun k h1 h2 => ?_, fun k h1 h2 => ?_⟩
    · exact (gset_n h1).trans ((gset_n h1).trans ((gset_n h2).trans ((gset_n h2).trans (gset_n h1))))
    · exact (gset_n h2).trans (gset_n h1)
  · refine gstart iX5_lastText tX5_lastText rfl rfl (fun K ca hK hca => ?_)
    refine hK [] 80 _ _ _ _ _ _ ?_
    clear hK
    refine gsd_i ⟨fun r hr => ?_, show 41 + 2 * 2 < 900 by decide, show 0 + 1 ≤ 2 by decide, show 0 + 3 ≤ 163 by decide⟩ ?_
    · have : r = 13 := List.mem_singleton.mp hr
      subst this; exact Or.inl (show 13 < 41 + 2 * 2 by decide)
    refine gcallN hca hcp rfl (show 0 + 1 + 1 ≤ 2 by decide) (show 0 + 3 + m ≤ 163 by omega) (fun r hr => ?_) ?_
    · rcases List.mem_cons.mp hr with h | hr
      · subst h; exact Or.inl (show 13 < 41 + 2 * 2 + 1 by decide)
      rcases List.mem_cons.mp hr with h | hr
      · subst h; exact Or.inl (show 41 + 2 * 2 < 41 + 2 * 2 + 1 by decide)
      rcases List.mem_cons.mp hr with h | hr
      · subst h; exact Or.inl (show 41 + 2 * 2 < 41 + 2 * 2 + 1 by decide)
      exact absurd hr List.not_mem_nil
    rintro w u' - ⟨rfl, rfl⟩
    refine gsd_i (by unfold vp_in; decide) (gsd_i (by unfold vp_in; decide) ?_)
    refine gcallZ hca hin rfl (show 0 + 1 + 1 ≤ 2 by decide) (show 0 + 3 + m ≤ 163 by omega) ?_
    rintro w u' - ⟨rfl, rfl⟩
    refine gsd_i ⟨show 0 + 1 + 1 ≤ 2 by decide, show 0 + 3 + m ≤ 163 by omega⟩ ⟨rfl, _, _, e _ _, hcpy, rfl, rfl, fun k h1 h2 => ?_, fun k h1 h2 => ?_⟩
    · exact (gset_n h1).trans ((gset_n h1).trans ((gset_n h2).trans ((gset_n h2).trans (gset_n h1))))
    · exact (gset_n h2).trans (gset_n h1)
  · refine gstart iX5_lastText tX5_lastText rfl rfl (fun K ca hK hca => ?_)
    refine hK [] 80 _ _ _ _ _ _ ?_
    clear hK
    refine gsd_i ⟨fun r hr => ?_, show 41 + 2 * 3 < 900 by decide, show 0 + 1 ≤ 2 by decide, show 0 + 3 ≤ 163 by decide⟩ ?_
    · have : r = 13 := List.mem_singleton.mp hr
      subst this; exact Or.inl (show 13 < 41 + 2 * 3 by decide)
    refine gcallN hca hcp rfl (show 0 + 1 + 1 ≤ 2 by decide) (show 0 + 3 + m ≤ 163 by omega) (fun r hr => ?_) ?_
    · rcases List.mem_cons.mp hr with h | hr
      · subst h; exact Or.inl (show 13 < 41 + 2 * 3 + 1 by decide)
      rcases List.mem_cons.mp hr with h | hr
      · subst h; exact Or.inl (show 41 + 2 * 3 < 41 + 2 * 3 + 1 by decide)
      rcases List.mem_cons.mp hr with h | hr
      · subst h; exact Or.inl (show 41 + 2 * 3 < 41 + 2 * 3 + 1 by decide)
      exact absurd hr List.not_mem_nil
    rintro w u' - ⟨rfl, rfl⟩
    refine gsd_i (by unfold vp_in; decide) (gsd_i (by unfold vp_in; decide) ?_)
    refine gcallZ hca hin rfl (show 0 + 1 + 1 ≤ 2 by decide) (show 0 + 3 + m ≤ 163 by omega) ?_
    rintro w u' - ⟨rfl, rfl⟩
    refine gsd_i ⟨show 0 + 1 + 1 ≤ 2 by decide, show 0 + 3 + m ≤ 163 by omega⟩ ⟨rfl, _, _, e _ _, hcpy, rfl, rfl, fun k h1 h2 => ?_, fun k h1 h2 => ?_⟩
    · exact (gset_n h1).trans ((gset_n h1).trans ((gset_n h2).trans ((gset_n h2).trans (gset_n h1))))
    · exact (gset_n h2).trans (gset_n h1)
  · refine gstart iX5_lastText tX5_lastText rfl rfl (fun K ca hK hca => ?_)
    refine hK [] 80 _ _ _ _ _ _ ?_
    clear hK
    refine gsd_i ⟨fun r hr => ?_, show 41 + 2 * 4 < 900 by decide, show 0 + 1 ≤ 2 by decide, show 0 + 3 ≤ 163 by decide⟩ ?_
    · have : r = 13 := List.mem_singleton.mp hr
      subst this; exact Or.inl (show 13 < 41 + 2 * 4 by decide)
    refine gcallN hca hcp rfl (show 0 + 1 + 1 ≤ 2 by decide) (show 0 + 3 + m ≤ 163 by omega) (fun r hr => ?_) ?_
    · rcases List.mem_cons.mp hr with h | hr
      · subst h; exact Or.inl (show 13 < 41 + 2 * 4 + 1 by decide)
      rcases List.mem_cons.mp hr with h | hr
      · subst h; exact Or.inl (show 41 + 2 * 4 < 41 + 2 * 4 + 1 by decide)
      rcases List.mem_cons.mp hr with h | hr
      · subst h; exact Or.inl (show 41 + 2 * 4 < 41 + 2 * 4 + 1 by decide)
      exact absurd hr List.not_mem_nil
    rintro w u' - ⟨rfl, rfl⟩
    refine gsd_i (by unfold vp_in; decide) (gsd_i (by unfold vp_in; decide) ?_)
    refine gcallZ hca hin rfl (show 0 + 1 + 1 ≤ 2 by decide) (show 0 + 3 + m ≤ 163 by omega) ?_
    rintro w u' - ⟨rfl, rfl⟩
    refine gsd_i ⟨show 0 + 1 + 1 ≤ 2 by decide, show 0 + 3 + m ≤ 163 by omega⟩ ⟨rfl, _, _, e _ _, hcpy, rfl, rfl, fun k h1 h2 => ?_, fun k h1 h2 => ?_⟩
    · exact (gset_n h1).trans ((gset_n h1).trans ((gset_n h2).trans ((gset_n h2).trans (gset_n h1))))
    · exact (gset_n h2).trans (gset_n h1)
  · refine gstart iX5_lastText tX5_lastText rfl rfl (fun K ca hK hca => ?_)
    refine hK [] 80 _ _ _ _ _ _ ?_
    clear hK
    refine gsd_i ⟨fun r hr => ?_, show 41 + 2 * 5 < 900 by decide, show 0 + 1 ≤ 2 by decide, show 0 + 3 ≤ 163 by decide⟩ ?_
    · have : r = 13 := List.mem_singleton.mp hr
      subst this; exact Or.inl (show 13 < 41 + 2 * 5 by decide)
    refine gcallN hca hcp rfl (show 0 + 1 + 1 ≤ 2 by decide) (show 0 + 3 + m ≤ 163 by omega) (fun r hr => ?_) ?_
    · rcases List.mem_cons.mp hr with h | hr
      · subst h; exact Or.inl (show 13 < 41 + 2 * 5 + 1 by decide)
      rcases List.mem_cons.mp hr with h | hr
      · subst h; exact Or.inl (show 41 + 2 * 5 < 41 + 2 * 5 + 1 by decide)
      rcases List.mem_cons.mp hr with h | hr
      · subst h; exact Or.inl (show 41 + 2 * 5 < 41 + 2 * 5 + 1 by decide)
      exact absurd hr List.not_mem_nil
    rintro w u' - ⟨rfl, rfl⟩
    refine gsd_i (by unfold vp_in; decide) (gsd_i (by unfold vp_in; decide) ?_)
    refine gcallZ hca hin rfl (show 0 + 1 + 1 ≤ 2 by decide) (show 0 + 3 + m ≤ 163 by omega) ?_
    rintro w u' - ⟨rfl, rfl⟩
    refine gsd_i ⟨show 0 + 1 + 1 ≤ 2 by decide, show 0 + 3 + m ≤ 163 by omega⟩ ⟨rfl, _, _, e _ _, hcpy, rfl, rfl, fun k h1 h2 => ?_, fun k h1 h2 => ?_⟩
    · exact (gset_n h1).trans ((gset_n h1).trans ((gset_n h2).trans ((gset_n h2).trans (gset_n h1))))
    · exact (gset_n h2).trans (gset_n h1)
end
