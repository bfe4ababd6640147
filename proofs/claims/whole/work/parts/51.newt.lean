-- a new text
theorem c6 {c : Nat} (h : c ≤ 5) : c = 0 ∨ c = 1 ∨ c = 2 ∨ c = 3 ∨ c = 4 ∨ c = 5 := by omega
/-- a call that makes cells -/
theorem gcallN {E : gEnv} {d mc ms : Nat} {ca : Nat → List Value → List Nat → gS → Nat → Nat → (Nat → Nat → Option Value → gS → Prop) → Prop} (hca : gCalls E d mc ms ca) {d1 mc1 ms1 y : Nat} {av : List Value} {u : gS} {post : Option Value → gS → Prop} (h : gCtr E d1 mc1 ms1 y av u post) (hd : Nat.blt d1 d = true) {rs : List Nat} {kc ks : Nat} (h1 : kc + mc1 ≤ mc) (h2 : ks + ms1 ≤ ms) (h3 : ∀ r ∈ rs, r < u.1 ∨ 1000 ≤ r) {k : Nat → Nat → Option Value → gS → Prop} (hk : ∀ w u', u.1 ≤ u'.1 → post w u' → k (kc + mc1) (ks + ms1) w u') : ca y av rs u kc ks k :=
  hca y av rs u kc ks k ⟨d1, mc1, ms1, post, Nat.le_of_ble_eq_true hd, h1, h2, Or.inr h3, h, hk⟩
/-- the same, of one that makes none, where some are made already -/
theorem gcallZ {E : gEnv} {d mc ms : Nat} {ca : Nat → List Value → List Nat → gS → Nat → Nat → (Nat → Nat → Option Value → gS → Prop) → Prop} (hca : gCalls E d mc ms ca) {d1 y : Nat} {av : List Value} {u : gS} {post : Option Value → gS → Prop} (h : gCtr E d1 0 0 y av u post) (hd : Nat.blt d1 d = true) {rs : List Nat} {kc ks : Nat} (h1 : kc ≤ mc) (h2 : ks ≤ ms) {k : Nat → Nat → Option Value → gS → Prop} (hk : ∀ w u', u.1 ≤ u'.1 → post w u' → k kc ks w u') : ca y av rs u kc ks k :=
  hca y av rs u kc ks k ⟨d1, 0, 0, post, Nat.le_of_ble_eq_true hd, h1, h2, Or.inl rfl, h, hk⟩
section
variable (E : gEnv) (c : Nat) (ln : Nat → Nat) (I : Nat → Nat → Int32) (L : Nat → Nat → Int64)
/-- the world with a text's cell just made -/
abbrev wN (c : Nat) (ln : Nat → Nat) (I : Nat → Nat → Int32) (L : Nat → Nat → Int64) : gS := gborn (wX c ln I L) (.inl 7)
set_option maxHeartbeats 1000000 in
theorem c_copyOf (hc : c ≤ 5) (m : Nat) (hm : m < 160) : gCtr E 2 1 m nJ7_copyOf_59c91 [.ref 15, .int (nI m)] (wN c ln I L) (fun v u' => v = some (.ref (42 + 2 * c)) ∧ u' = ((gborn (wN c ln I L) (.inr (0, m))).1, (gborn (wN c ln I L) (.inr (0, m))).2.1, gset (gborn (wN c ln I L) (.inr (0, m))).2.2.1 (42 + 2 * c) (va_cpy (I 15) (fun _ => 0) 0 0 m), (gborn (wN c ln I L) (.inr (0, m))).2.2.2.1, (gborn (wN c ln I L) (.inr (0, m))).2.2.2.2)) := by
  have hcl : (nI m).toNatClampNeg = m := nI_clamp (by omega)
  have hne : ¬ nI m = nI 160 := fun z => by have := (nI_eq (by omega) (by omega)).mp z; omega
  have hmin : (if nI m < nI 160 then nI m else nI 160) = nI m := if_pos (nI_lt hm (by omega))
  have hcond : (¬ (0 : Int32) < 0) ∧ (¬ (0 : Int32) < 0) ∧ (¬ (if nI m < nI 160 then nI m else nI 160) < 0) ∧ (0 : Int32).toNatClampNeg + (if nI m < nI 160 then nI m else nI 160).toNatClampNeg ≤ 160 ∧ (0 : Int32).toNatClampNeg + (if nI m < nI 160 then nI m else nI 160).toNatClampNeg ≤ m := by
    rw [hmin, hcl]
    exact ⟨by decide, by decide, nI_pos (by omega), by show 0 + m ≤ 160; omega, by show 0 + m ≤ m; omega⟩
  have hq : (if nI m < nI 160 then nI m else nI 160).toNatClampNeg = m := by rw [hmin, hcl]
  rcases c6 hc with rfl | rfl | rfl | rfl | rfl | rfl
  · refine gstart iJ7_copyOf_59c91 tJ7_copyOf_59c91 rfl rfl (fun K ca hK hca => ?_)
    refine hK [] 80 _ _ _ _ _ _ ?_
    clear hK hca
    refine gbr_i (fun z => absurd z hne) (fun _ => ?_)
    refine gsd_i ⟨fun r hr => ?_, show 41 + 2 * 0 + 1 < 900 by decide, nI_pos (by omega), by omega, by rw [hcl]; omega, by rw [hcl]; omega⟩ ?_
    · have : r = 15 := List.mem_singleton.mp hr
      subst this; exact Or.inl (show 15 < 41 + 2 * 0 + 1 by decide)
    rw [hcl]
    refine gsd_i ⟨by omega, by omega⟩ (gsd_i hcond (gsd_i ⟨by omega, by omega⟩ ⟨rfl, ?_⟩))
    exact congrArg (fun q => ((gborn (wN 0 ln I L) (.inr (0, m))).1, (gborn (wN 0 ln I L) (.inr (0, m))).2.1, gset (gborn (wN 0 ln I L) (.inr (0, m))).2.2.1 (42 + 2 * 0) (va_cpy (I 15) (fun _ => 0) 0 0 q), (gborn (wN 0 ln I L) (.inr (0, m))).2.2.2.1, (gborn (wN 0 ln I L) (.inr (0, m))).2.2.2.2)) hq
  · refine gstart iJ7_copyOf_59c91 tJ7_copyOf_59c91 rfl rfl (fun K ca hK hca => ?_)
    refine hK [] 80 _ _ _ _ _ _ ?_
    clear hK hca
    refine gbr_i (fun z => absurd z hne) (fun _ => ?_)
    refine gsd_i ⟨fun r hr => ?_, show 41 + 2 * 1 + 1 < 900 by decide, nI_pos (by omega), by omega, by rw [hcl]; omega, by rw [hcl]; omega⟩ ?_
    · have : r = 15 := List.mem_singleton.mp hr
      subst this; exact Or.inl (show 15 < 41 + 2 * 1 + 1 by decide)
    rw [hcl]
    refine gsd_i ⟨by omega, by omega⟩ (gsd_i hcond (gsd_i ⟨by omega, by omega⟩ ⟨rfl, ?_⟩))
    exact congrArg (fun q => ((gborn (wN 1 ln I L) (.inr (0, m))).1, (gborn (wN 1 ln I L) (.inr (0, m))).2.1, gset (gborn (wN 1 ln I L) (.inr (0, m))).2.2.1 (42 + 2 * 1) (va_cpy (I 15) (fun _ => 0) 0 0 q), (gborn (wN 1 ln I L) (.inr (0, m))).2.2.2.1, (gborn (wN 1 ln I L) (.inr (0, m))).2.2.2.2)) hq
  · refine gstart iJ7_copyOf_59c91 tJ7_copyOf_59c91 rfl rfl (fun K ca hK hca => ?_)
    refine hK [] 80 _ _ _ _ _ _ ?_
    clear hK hca
    refine gbr_i (fun z => absurd z hne) (fun _ => ?_)
    refine gsd_i ⟨fun r hr => ?_, show 41 + 2 * 2 + 1 < 900 by decide, nI_pos (by omega), by omega, by rw [hcl]; omega, by rw [hcl]; omega⟩ ?_
    · have : r = 15 := List.mem_singleton.mp hr
      subst this; exact Or.inl (show 15 < 41 + 2 * 2 + 1 by decide)
    rw [hcl]
    refine gsd_i ⟨by omega, by omega⟩ (gsd_i hcond (gsd_i ⟨by omega, by omega⟩ ⟨rfl, ?_⟩))
    exact congrArg (fun q => ((gborn (wN 2 ln I L) (.inr (0, m))).1, (gborn (wN 2 ln I L) (.inr (0, m))).2.1, gset (gborn (wN 2 ln I L) (.inr (0, m))).2.2.1 (42 + 2 * 2) (va_cpy (I 15) (fun _ => 0) 0 0 q), (gborn (wN 2 ln I L) (.inr (0, m))).2.2.2.1, (gborn (wN 2 ln I L) (.inr (0, m))).2.2.2.2)) hq
  · refine gstart iJ7_copyOf_59c91 tJ7_copyOf_59c91 rfl rfl (fun K ca hK hca => ?_)
    refine hK [] 80 _ _ _ _ _ _ ?_
    clear hK hca
    refine gbr_i (fun z => absurd z hne) (fun _ => ?_)
    refine gsd_i ⟨fun r hr => ?_, show 41 + 2 * 3 + 1 < 900 by decide, nI_pos (by omega), by omega, by rw [hcl]; omega, by rw [hcl]; omega⟩ ?_
    · have : r = 15 := List.mem_singleton.mp hr
      subst this; exact Or.inl (show 15 < 41 + 2 * 3 + 1 by decide)
    rw [hcl]
    refine gsd_i ⟨by omega, by omega⟩ (gsd_i hcond (gsd_i ⟨by omega, by omega⟩ ⟨rfl, ?_⟩))
    exact congrArg (fun q => ((gborn (wN 3 ln I L) (.inr (0, m))).1, (gborn (wN 3 ln I L) (.inr (0, m))).2.1, gset (gborn (wN 3 ln I L) (.inr (0, m))).2.2.1 (42 + 2 * 3) (va_cpy (I 15) (fun _ => 0) 0 0 q), (gborn (wN 3 ln I L) (.inr (0, m))).2.2.2.1, (gborn (wN 3 ln I L) (.inr (0, m))).2.2.2.2)) hq
  · refine gstart iJ7_copyOf_59c91 tJ7_copyOf_59c91 rfl rfl (fun K ca hK hca => ?_)
    refine hK [] 80 _ _ _ _ _ _ ?_
    clear hK hca
    refine gbr_i (fun z => absurd z hne) (fun _ => ?_)
    refine gsd_i ⟨fun r hr => ?_, show 41 + 2 * 4 + 1 < 900 by decide, nI_pos (by omega), by omega, by rw [hcl]; omega, by rw [hcl]; omega⟩ ?_
    · have : r = 15 := List.mem_singleton.mp hr
      subst this; exact Or.inl (show 15 < 41 + 2 * 4 + 1 by decide)
    rw [hcl]
    refine gsd_i ⟨by omega, by omega⟩ (gsd_i hcond (gsd_i ⟨by omega, by omega⟩ ⟨rfl, ?_⟩))
    exact congrArg (fun q => ((gborn (wN 4 ln I L) (.inr (0, m))).1, (gborn (wN 4 ln I L) (.inr (0, m))).2.1, gset (gborn (wN 4 ln I L) (.inr (0, m))).2.2.1 (42 + 2 * 4) (va_cpy (I 15) (fun _ => 0) 0 0 q), (gborn (wN 4 ln I L) (.inr (0, m))).2.2.2.1, (gborn (wN 4 ln I L) (.inr (0, m))).2.2.2.2)) hq
  · refine gstart iJ7_copyOf_59c91 tJ7_copyOf_59c91 rfl rfl (fun K ca hK hca => ?_)
    refine hK [] 80 _ _ _ _ _ _ ?_
    clear hK hca
    refine gbr_i (fun z => absurd z hne) (fun _ => ?_)
    refine gsd_i ⟨fun r hr => ?_, show 41 + 2 * 5 + 1 < 900 by decide, nI_pos (by omega), by omega, by rw [hcl]; omega, by rw [hcl]; omega⟩ ?_
    · have : r = 15 := List.mem_singleton.mp hr
      subst this; exact Or.inl (show 15 < 41 + 2 * 5 + 1 by decide)
    rw [hcl]
    refine gsd_i ⟨by omega, by omega⟩ (gsd_i hcond (gsd_i ⟨by omega, by omega⟩ ⟨rfl, ?_⟩))
    exact congrArg (fun q => ((gborn (wN 5 ln I L) (.inr (0, m))).1, (gborn (wN 5 ln I L) (.inr (0, m))).2.1, gset (gborn (wN 5 ln I L) (.inr (0, m))).2.2.1 (42 + 2 * 5) (va_cpy (I 15) (fun _ => 0) 0 0 q), (gborn (wN 5 ln I L) (.inr (0, m))).2.2.2.1, (gborn (wN 5 ln I L) (.inr (0, m))).2.2.2.2)) hq
end
