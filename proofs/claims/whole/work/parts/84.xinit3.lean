-- the class's own constructor, walked
/-- the first rule's bytes on the tape -/
def fby0 : Nat → Nat → Int32
  | 0 => fun _ => 0
  | p + 1 => gupd (fby0 p) p ((gStrB.getD 0 []).getD p 0).toInt8.toInt32
def iXp (p : Nat) : Nat → Nat → Int32 := gset (gset (iX 4) 14 (fby0 p)) 13 (gupd (fun _ => 0) 3 (nI p))
def frT : Tx := pTxt (lex (fby0 78) 78)
set_option maxRecDepth 100000 in
theorem frT_good : frT.1 = true := by decide +kernel
section
variable (E : gEnv)
set_option maxRecDepth 20000 in
set_option maxHeartbeats 4000000 in
theorem x_init : gCtr E 52 42 6000 nX9_init [.ref 0] (wXe 0 0 Zi) (fun v u' => v = none ∧ ∃ I' L', u' = wX 1 (gupd ln0 0 (frT.2.1.1 ++ frT.2.1.2.1 ++ frT.2.1.2.2).length) I' L' ∧ newT 0 (iXp 78) I' Zl L' frT.2.1) := by
  refine gstart iX9_init tX9_init rfl rfl (fun K ca hK hca => ?_)
  have k193 : ∀ ks (x : Int32), ks + 163 ≤ 6000 → K 40 ks 193 [some (.ref 0), some (.int x)] [] (wX 0 ln0 (iXp 78) Zl) := by
    intro ks x hks
    refine hK [] 80 _ _ _ _ _ _ ?_
    have hRT := c_readText E 0 ln0 (iXp 78) Zl 78 (by omega) rfl
    have hT : pTxt (lex (iXp 78 14) 78) = frT := rfl
    rw [hT] at hRT
    refine gcallZ hca hRT rfl (by omega) (by omega) ?_
    rintro w u1 - hpost
    obtain ⟨rfl, I1, rfl, f1, lay⟩ := hpost.1 frT_good
    obtain ⟨y1, y2, y3, y4, y5⟩ := lay
    refine gcallN hca (c_lastText E 0 ln0 I1 Zl (by omega) _ y2 y1) rfl (show 40 + 2 ≤ 42 by decide) (by omega) (fun r hr => ?_) ?_
    · rcases List.mem_cons.mp hr with h | hr
      · subst h; exact Or.inl (show 0 < 41 + 2 * 0 by decide)
      rcases List.mem_cons.mp hr with h | hr
      · subst h; exact Or.inl (show 17 < 41 + 2 * 0 by decide)
      exact absurd hr List.not_mem_nil
    rintro w u2 - ⟨rfl, I2, L2, rfl, z1, z2, z3, z4, z5⟩
    have h52 : I2 17 5 = nI 0 := by rw [z4 17 (by omega) (by omega), f1 17 (by decide) (by decide) (by decide)]; rfl
    refine gcallZ hca (c_addT E 0 ln0 I2 L2 (by omega) _ h52) rfl (by decide) (by omega) ?_
    rintro w u3 - ⟨rfl, rfl⟩
    refine gcallZ hca (c_empty E 1 _ _ L2) rfl (by decide) (by omega) ?_
    rintro w u4 - ⟨rfl, rfl⟩
    refine gsd_i ⟨by decide, by omega⟩ ⟨rfl, _, _, rfl, ?_⟩
    refine ⟨rfl, ⟨?_, fun j hj => ?_⟩, fun j hj => ?_, ?_, ?_, fun k a1 a2 a3 a4 a5 a6 => ?_, z5⟩
    · show nI 0 + 1 = _
      rw [nI_1]
    · show gupd (I2 17) 5 (nI 0 + 1) j = _
      rw [gupd_n hj, z4 17 (by omega) (by omega), f1 17 (by decide) (by decide) (by decide)]
    · rw [gset_n (by omega), gset_n (by omega), z1 j hj, y3 j hj]
    · rw [gset_n (by omega), gset_n (by omega), z2, y4]
    · rw [gset_n (by omega), gset_n (by omega), z3, y5]
    · rw [gset_n a1, gset_n a4, z4 k a5 a6, f1 k a1 a2 a3]
  have k164 : ∀ p, p ≤ 78 → ∀ ks, ks + 163 ≤ 6000 → K 40 ks 164 [some (.ref 0), some (.int (nI p))] [] (wX 0 ln0 (iXp p) Zl) := by
    refine gloop (P := fun p => ∀ ks, ks + 163 ≤ 6000 → K 40 ks 164 [some (.ref 0), some (.int (nI p))] [] (wX 0 ln0 (iXp p) Zl)) (n := 78) ?_ ?_
    · intro ks hks
      refine hK [164, 193] 40 _ _ _ _ _ _ ?_
      refine gcallZ hca (c_len E 0 ln0 (iXp 78) Zl 0 (by omega)) rfl (by decide) (by omega) ?_
      rintro w u' - ⟨rfl, rfl⟩
      refine gbr_lp (n := 78) rfl (by omega) (Nat.le_refl _) (fun _ => k193 ks _ hks) (fun z => absurd z (Nat.lt_irrefl _))
    · intro p hp ih ks hks
      refine hK [164, 193] 40 _ _ _ _ _ _ ?_
      refine gcallZ hca (c_len E 0 ln0 (iXp p) Zl 0 (by omega)) rfl (by decide) (by omega) ?_
      rintro w u' - ⟨rfl, rfl⟩
      refine gbr_lp (n := 78) rfl (by omega) (by omega) (fun z => by omega) (fun _ => ?_)
      refine gcallZ hca (c_char E 0 ln0 (iXp p) Zl 0 (by omega) p (by show p < 78; exact hp)) rfl (by decide) (by omega) ?_
      rintro w u' - ⟨rfl, rfl⟩
      refine gcallZ hca (c_tput E 0 ln0 (iXp p) Zl ((gStrB.getD 0 []).getD p 0) p (by omega) rfl) rfl (by decide) (by omega) ?_
      rintro w u' - ⟨rfl, rfl⟩
      have e : gset (gset (iXp p) 14 (gupd (iXp p 14) p ((gStrB.getD 0 []).getD p 0).toInt8.toInt32)) 13 (gupd (iXp p 13) 3 (nI p + 1)) = iXp (p + 1) := by
        unfold iXp
        funext k j
        by_cases h1 : k = 13
        · subst h1
          rw [gset_s, gset_s, gset_s]
          by_cases h2 : j = 3
          · rw [h2, gupd_s, gupd_s, nI_1]
          · rw [gupd_n h2, gupd_n h2, gupd_n h2]
        · rw [gset_n h1, gset_n h1]
          by_cases h2 : k = 14
          · subst h2
            rw [gset_s, gset_s, gset_n (by decide), gset_s]
            rfl
          · rw [gset_n h2, gset_n h1, gset_n h2, gset_n h2]
      rw [e]
      have := ih ks hks
      rw [← nI_1] at this
      exact this
  have iXp0 : iXp 0 = iX 4 := by
    unfold iXp
    funext k j
    by_cases h1 : k = 13
    · subst h1; rw [gset_s]
      by_cases h2 : j = 3
      · rw [h2, gupd_s]; rfl
      · rw [gupd_n h2]; rfl
    · rw [gset_n h1]
      by_cases h2 : k = 14
      · subst h2; rw [gset_s]; rfl
      · rw [gset_n h2]
  have k138_4 : ∀ ks, ks + 163 ≤ 6000 → K 40 ks 138 [some (.ref 0), some (.int (nI 4))] [] (wXe 40 49 (iX 4)) := by
    intro ks hks
    rw [wXe_end, ← iXp0]
    refine hK [164] 40 _ _ _ _ _ _ ?_
    refine gbr_i (fun _ => ?_) (fun z => absurd (by decide) z)
    exact k164 0 (by omega) ks hks
  have k138_3 : ∀ ks, ks + 267 ≤ 6000 → K 38 ks 138 [some (.ref 0), some (.int (nI 3))] [] (wXe 38 47 (iX 3)) := by
    intro ks hks
    refine hK [15, 26, 37, 56, 79, 102, 117, 128, 136, 138, 162, 164] 40 _ _ _ _ _ _ ?_
    refine gbr_i (fun z => absurd z (by decide)) (fun _ => ?_)
    refine gsd_i ⟨fun r hr => Or.inl (allb (by decide) r hr), by decide, by decide, Nat.le_trans (Nat.add_le_add_left (show gN 4 ≤ 64 by decide) ks) (by omega)⟩ ?_
    rw [show gborn (wXe 38 47 (iX 3)) (.inl 4) = wXe 39 47 (iX 3) from wXe_new (by decide) rfl rfl]
    have hks2 : ks + gN 4 ≤ ks + 64 := Nat.add_le_add_left (show gN 4 ≤ 64 by decide) ks
    generalize ks + gN 4 = ks2 at hks2 ⊢
    refine gcallN hca (i_4_39 E) rfl (by decide) (by omega) (fun r hr => Or.inl (allb (by decide) r hr)) ?_
    rintro w u' - ⟨rfl, rfl⟩
    refine gsd_i (vp_in_nI (by omega : 3 < 4) (by omega)) ?_
    have := k138_4 (ks2 + 40) (by omega)
    rw [show nI 4 = nI 3 + 1 from rfl] at this
    exact this
  have k138_2 : ∀ ks, ks + 371 ≤ 6000 → K 36 ks 138 [some (.ref 0), some (.int (nI 2))] [] (wXe 36 45 (iX 2)) := by
    intro ks hks
    refine hK [15, 26, 37, 56, 79, 102, 117, 128, 136, 138, 162, 164] 40 _ _ _ _ _ _ ?_
    refine gbr_i (fun z => absurd z (by decide)) (fun _ => ?_)
    refine gsd_i ⟨fun r hr => Or.inl (allb (by decide) r hr), by decide, by decide, Nat.le_trans (Nat.add_le_add_left (show gN 4 ≤ 64 by decide) ks) (by omega)⟩ ?_
    rw [show gborn (wXe 36 45 (iX 2)) (.inl 4) = wXe 37 45 (iX 2) from wXe_new (by decide) rfl rfl]
    have hks2 : ks + gN 4 ≤ ks + 64 := Nat.add_le_add_left (show gN 4 ≤ 64 by decide) ks
    generalize ks + gN 4 = ks2 at hks2 ⊢
    refine gcallN hca (i_4_37 E) rfl (by decide) (by omega) (fun r hr => Or.inl (allb (by decide) r hr)) ?_
    rintro w u' - ⟨rfl, rfl⟩
    refine gsd_i (vp_in_nI (by omega : 2 < 4) (by omega)) ?_
    have := k138_3 (ks2 + 40) (by omega)
    rw [show nI 3 = nI 2 + 1 from rfl] at this
    exact this
  have k138_1 : ∀ ks, ks + 475 ≤ 6000 → K 34 ks 138 [some (.ref 0), some (.int (nI 1))] [] (wXe 34 43 (iX 1)) := by
    intro ks hks
    refine hK [15, 26, 37, 56, 79, 102, 117, 128, 136, 138, 162, 164] 40 _ _ _ _ _ _ ?_
    refine gbr_i (fun z => absurd z (by decide)) (fun _ => ?_)
    refine gsd_i ⟨fun r hr => Or.inl (allb (by decide) r hr), by decide, by decide, Nat.le_trans (Nat.add_le_add_left (show gN 4 ≤ 64 by decide) ks) (by omega)⟩ ?_
    rw [show gborn (wXe 34 43 (iX 1)) (.inl 4) = wXe 35 43 (iX 1) from wXe_new (by decide) rfl rfl]
    have hks2 : ks + gN 4 ≤ ks + 64 := Nat.add_le_add_left (show gN 4 ≤ 64 by decide) ks
    generalize ks + gN 4 = ks2 at hks2 ⊢
    refine gcallN hca (i_4_35 E) rfl (by decide) (by omega) (fun r hr => Or.inl (allb (by decide) r hr)) ?_
    rintro w u' - ⟨rfl, rfl⟩
    refine gsd_i (vp_in_nI (by omega : 1 < 4) (by omega)) ?_
    have := k138_2 (ks2 + 40) (by omega)
    rw [show nI 2 = nI 1 + 1 from rfl] at this
    exact this
  have k138_0 : ∀ ks, ks + 579 ≤ 6000 → K 32 ks 138 [some (.ref 0), some (.int (nI 0))] [] (wXe 32 41 (iX 0)) := by
    intro ks hks
    refine hK [15, 26, 37, 56, 79, 102, 117, 128, 136, 138, 162, 164] 40 _ _ _ _ _ _ ?_
    refine gbr_i (fun z => absurd z (by decide)) (fun _ => ?_)
    refine gsd_i ⟨fun r hr => Or.inl (allb (by decide) r hr), by decide, by decide, Nat.le_trans (Nat.add_le_add_left (show gN 4 ≤ 64 by decide) ks) (by omega)⟩ ?_
    rw [show gborn (wXe 32 41 (iX 0)) (.inl 4) = wXe 33 41 (iX 0) from wXe_new (by decide) rfl rfl]
    have hks2 : ks + gN 4 ≤ ks + 64 := Nat.add_le_add_left (show gN 4 ≤ 64 by decide) ks
    generalize ks + gN 4 = ks2 at hks2 ⊢
    refine gcallN hca (i_4_33 E) rfl (by decide) (by omega) (fun r hr => Or.inl (allb (by decide) r hr)) ?_
    rintro w u' - ⟨rfl, rfl⟩
    refine gsd_i (vp_in_nI (by omega : 0 < 4) (by omega)) ?_
    have := k138_1 (ks2 + 40) (by omega)
    rw [show nI 1 = nI 0 + 1 from rfl] at this
    exact this
  have k128 : ∀ ks, ks + 647 ≤ 6000 → ∀ x, x = none → K 31 ks 128 [some (.ref 0), x] [] (wXe 31 40 Zi) := by
    intro ks hks x hx
    subst hx
    refine hK [15, 26, 37, 56, 79, 102, 117, 128, 136, 138, 162, 164] 40 _ _ _ _ _ _ ?_
    refine gsd_i ⟨fun r hr => Or.inl (allb (by decide) r hr), by decide, by decide, by decide, by show ks + 4 ≤ 6000; omega, by decide⟩ ?_
    rw [show (4 : Int32).toNatClampNeg = 4 from by decide, show gborn (wXe 31 40 Zi) (.inr (4, 4)) = wXe 32 40 Zi from wXe_new (by decide) rfl rfl]
    refine gsd_i (Or.inl (by decide)) ?_
    refine hK [138] 40 _ _ _ _ _ _ ?_
    exact k138_0 (ks + 4) (by omega)
  have k117 : ∀ ks, ks + 747 ≤ 6000 → ∀ x, x = none → K 27 ks 117 [some (.ref 0), x] [] (wXe 27 36 Zi) := by
    intro ks hks x hx
    subst hx
    refine hK [15, 26, 37, 56, 79, 102, 117, 128, 136, 138, 162, 164] 40 _ _ _ _ _ _ ?_
    refine gsd_i ⟨fun r hr => Or.inl (allb (by decide) r hr), by decide, by decide, Nat.le_trans (Nat.add_le_add_left (show gN 0 ≤ 64 by decide) ks) (by omega)⟩ ?_
    rw [show gborn (wXe 27 36 Zi) (.inl 0) = wXe 28 36 Zi from wXe_new (by decide) rfl rfl]
    have hks2 : ks + gN 0 ≤ ks + 64 := Nat.add_le_add_left (show gN 0 ≤ 64 by decide) ks
    generalize ks + gN 0 = ks2 at hks2 ⊢
    refine gcallN hca (i_0_28 E) rfl (by decide) (by omega) (fun r hr => Or.inl (allb (by decide) r hr)) ?_
    rintro w u' - ⟨rfl, rfl⟩
    refine gsd_i (Or.inl (by decide)) ?_
    exact k128 (ks2 + 36) (by omega) none rfl
  have k102 : ∀ ks, ks + 811 ≤ 6000 → ∀ x, x = none → K 26 ks 102 [some (.ref 0), x] [] (wXe 26 34 Zi) := by
    intro ks hks x hx
    subst hx
    refine hK [15, 26, 37, 56, 79, 102, 117, 128, 136, 138, 162, 164] 40 _ _ _ _ _ _ ?_
    refine gsd_i ⟨fun r hr => Or.inl (allb (by decide) r hr), by decide, by decide, Nat.le_trans (Nat.add_le_add_left (show gN 8 ≤ 64 by decide) ks) (by omega)⟩ ?_
    rw [show gborn (wXe 26 34 Zi) (.inl 8) = wXe 27 34 Zi from wXe_new (by decide) rfl rfl]
    have hks2 : ks + gN 8 ≤ ks + 64 := Nat.add_le_add_left (show gN 8 ≤ 64 by decide) ks
    generalize ks + gN 8 = ks2 at hks2 ⊢
    refine gcallN hca (i_8_27 E) rfl (by decide) (by omega) (fun r hr => Or.inl (allb (by decide) r hr)) ?_
    rintro w u' - ⟨rfl, rfl⟩
    refine gsd_i (Or.inl (by decide)) ?_
    exact k117 (ks2 + 0) (by omega) none rfl
  have k79 : ∀ ks, ks + 899 ≤ 6000 → ∀ x, x = none → K 23 ks 79 [some (.ref 0), x] [] (wXe 23 28 Zi) := by
    intro ks hks x hx
    subst hx
    refine hK [15, 26, 37, 56, 79, 102, 117, 128, 136, 138, 162, 164] 40 _ _ _ _ _ _ ?_
    refine gsd_i ⟨fun r hr => Or.inl (allb (by decide) r hr), by decide, by decide, Nat.le_trans (Nat.add_le_add_left (show gN 1 ≤ 64 by decide) ks) (by omega)⟩ ?_
    rw [show gborn (wXe 23 28 Zi) (.inl 1) = wXe 24 28 Zi from wXe_new (by decide) rfl rfl]
    have hks2 : ks + gN 1 ≤ ks + 64 := Nat.add_le_add_left (show gN 1 ≤ 64 by decide) ks
    generalize ks + gN 1 = ks2 at hks2 ⊢
    refine gcallN hca (i_1_24 E) rfl (by decide) (by omega) (fun r hr => Or.inl (allb (by decide) r hr)) ?_
    rintro w u' - ⟨rfl, rfl⟩
    refine gsd_i (Or.inl (by decide)) ?_
    exact k102 (ks2 + 24) (by omega) none rfl
  have k56 : ∀ ks, ks + 987 ≤ 6000 → ∀ x, x = none → K 20 ks 56 [some (.ref 0), x] [] (wXe 20 22 Zi) := by
    intro ks hks x hx
    subst hx
    refine hK [15, 26, 37, 56, 79, 102, 117, 128, 136, 138, 162, 164] 40 _ _ _ _ _ _ ?_
    refine gsd_i ⟨fun r hr => Or.inl (allb (by decide) r hr), by decide, by decide, Nat.le_trans (Nat.add_le_add_left (show gN 1 ≤ 64 by decide) ks) (by omega)⟩ ?_
    rw [show gborn (wXe 20 22 Zi) (.inl 1) = wXe 21 22 Zi from wXe_new (by decide) rfl rfl]
    have hks2 : ks + gN 1 ≤ ks + 64 := Nat.add_le_add_left (show gN 1 ≤ 64 by decide) ks
    generalize ks + gN 1 = ks2 at hks2 ⊢
    refine gcallN hca (i_1_21 E) rfl (by decide) (by omega) (fun r hr => Or.inl (allb (by decide) r hr)) ?_
    rintro w u' - ⟨rfl, rfl⟩
    refine gsd_i (Or.inl (by decide)) ?_
    exact k79 (ks2 + 24) (by omega) none rfl
  have k37 : ∀ ks, ks + 1103 ≤ 6000 → ∀ x, x = none → K 16 ks 37 [some (.ref 0), x] [] (wXe 16 16 Zi) := by
    intro ks hks x hx
    subst hx
    refine hK [15, 26, 37, 56, 79, 102, 117, 128, 136, 138, 162, 164] 40 _ _ _ _ _ _ ?_
    refine gsd_i ⟨fun r hr => Or.inl (allb (by decide) r hr), by decide, by decide, Nat.le_trans (Nat.add_le_add_left (show gN 3 ≤ 64 by decide) ks) (by omega)⟩ ?_
    rw [show gborn (wXe 16 16 Zi) (.inl 3) = wXe 17 16 Zi from wXe_new (by decide) rfl rfl]
    have hks2 : ks + gN 3 ≤ ks + 64 := Nat.add_le_add_left (show gN 3 ≤ 64 by decide) ks
    generalize ks + gN 3 = ks2 at hks2 ⊢
    refine gcallN hca (i_3_17 E) rfl (by decide) (by omega) (fun r hr => Or.inl (allb (by decide) r hr)) ?_
    rintro w u' - ⟨rfl, rfl⟩
    refine gsd_i (Or.inl (by decide)) ?_
    exact k56 (ks2 + 52) (by omega) none rfl
  have k26 : ∀ ks, ks + 1490 ≤ 6000 → ∀ x, x = none → K 12 ks 26 [some (.ref 0), x] [] (wXe 12 12 Zi) := by
    intro ks hks x hx
    subst hx
    refine hK [15, 26, 37, 56, 79, 102, 117, 128, 136, 138, 162, 164] 40 _ _ _ _ _ _ ?_
    refine gsd_i ⟨fun r hr => Or.inl (allb (by decide) r hr), by decide, by decide, Nat.le_trans (Nat.add_le_add_left (show gN 5 ≤ 64 by decide) ks) (by omega)⟩ ?_
    rw [show gborn (wXe 12 12 Zi) (.inl 5) = wXe 13 12 Zi from wXe_new (by decide) rfl rfl]
    have hks2 : ks + gN 5 ≤ ks + 64 := Nat.add_le_add_left (show gN 5 ≤ 64 by decide) ks
    generalize ks + gN 5 = ks2 at hks2 ⊢
    refine gcallN hca (i_5_13 E) rfl (by decide) (by omega) (fun r hr => Or.inl (allb (by decide) r hr)) ?_
    rintro w u' - ⟨rfl, rfl⟩
    refine gsd_i (Or.inl (by decide)) ?_
    exact k37 (ks2 + 323) (by omega) none rfl
  have k15 : ∀ ks, ks + 1626 ≤ 6000 → ∀ x, x = none → K 5 ks 15 [some (.ref 0), x] [] (wXe 5 5 Zi) := by
    intro ks hks x hx
    subst hx
    refine hK [15, 26, 37, 56, 79, 102, 117, 128, 136, 138, 162, 164] 40 _ _ _ _ _ _ ?_
    refine gsd_i ⟨fun r hr => Or.inl (allb (by decide) r hr), by decide, by decide, Nat.le_trans (Nat.add_le_add_left (show gN 6 ≤ 64 by decide) ks) (by omega)⟩ ?_
    rw [show gborn (wXe 5 5 Zi) (.inl 6) = wXe 6 5 Zi from wXe_new (by decide) rfl rfl]
    have hks2 : ks + gN 6 ≤ ks + 64 := Nat.add_le_add_left (show gN 6 ≤ 64 by decide) ks
    generalize ks + gN 6 = ks2 at hks2 ⊢
    refine gcallN hca (i_6_6 E) rfl (by decide) (by omega) (fun r hr => Or.inl (allb (by decide) r hr)) ?_
    rintro w u' - ⟨rfl, rfl⟩
    refine gsd_i (Or.inl (by decide)) ?_
    exact k26 (ks2 + 72) (by omega) none rfl
  have k4 : ∀ ks, ks + 1850 ≤ 6000 → ∀ x, x = none → K 0 ks 4 [some (.ref 0), x] [] (wXe 0 0 Zi) := by
    intro ks hks x hx
    subst hx
    refine hK [15, 26, 37, 56, 79, 102, 117, 128, 136, 138, 162, 164] 40 _ _ _ _ _ _ ?_
    refine gsd_i ⟨fun r hr => Or.inl (allb (by decide) r hr), by decide, by decide, Nat.le_trans (Nat.add_le_add_left (show gN 2 ≤ 64 by decide) ks) (by omega)⟩ ?_
    rw [show gborn (wXe 0 0 Zi) (.inl 2) = wXe 1 0 Zi from wXe_new (by decide) rfl rfl]
    have hks2 : ks + gN 2 ≤ ks + 64 := Nat.add_le_add_left (show gN 2 ≤ 64 by decide) ks
    generalize ks + gN 2 = ks2 at hks2 ⊢
    refine gcallN hca (i_2_1 E) rfl (by decide) (by omega) (fun r hr => Or.inl (allb (by decide) r hr)) ?_
    rintro w u' - ⟨rfl, rfl⟩
    refine gsd_i (Or.inl (by decide)) ?_
    exact k15 (ks2 + 160) (by omega) none rfl
  refine hK [4] 40 _ _ _ _ _ _ ?_
  exact k4 0 (by decide) none rfl
end
