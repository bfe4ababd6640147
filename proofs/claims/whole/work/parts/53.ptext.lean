-- text()
section
variable (E : gEnv) (c : Nat) (ln : Nat → Nat) (I : Nat → Nat → Int32) (L : Nat → Nat → Int64)
set_option maxHeartbeats 1000000 in
theorem c_addT (hc : c ≤ 5) (m : Nat) (h5 : I 17 5 = nI c) : gCtr E 1 0 0 nX3_add [.ref 17, .ref (41 + 2 * c)] (wT c ln m I L) (fun v u' => v = some (.int (nI c)) ∧ u' = wX (c + 1) (gupd ln c m) (gset I 17 (gupd (I 17) 5 (nI c + 1))) L) := by
  have hcl : (I 17 5).toNatClampNeg = c := by rw [h5]; exact nI_clamp (by omega)
  have hlt : I 17 5 < 6 := by rw [h5, show (6 : Int32) = nI 6 from rfl, nI_ltI (by omega) (by omega)]; omega
  have hv : vp_in (I 17 5) 6 := by rw [h5]; exact vp_in_nI (by omega) (by omega)
  have e : ∀ I' : Nat → Nat → Int32, ((41 + 2 * (c + 1), shX (c + 1) (gupd ln c m), I', L, gset (rT c) 18 (gupd (rT c 18) c (some (41 + 2 * c)))) : gS) = wX (c + 1) (gupd ln c m) I' L := by
    intro I'; rw [rT_add hc]
  rw [← h5]
  rcases c6 hc with rfl | rfl | rfl | rfl | rfl | rfl
  · refine gstart iX3_add tX3_add rfl rfl (fun K ca hK hca => ?_)
    refine hK [] 80 _ _ _ _ _ _ ?_
    clear hK hca
    refine gbr_i (fun _ => ?_) (fun z => absurd hlt z)
    refine gsd_i hv ?_
    refine ⟨rfl, ?_⟩
    refine Eq.trans ?_ (e _)
    exact congrArg (fun q => ((41 + 2 * (0 + 1), shX (0 + 1) (gupd ln 0 m), gset I 17 (gupd (I 17) 5 (I 17 5 + 1)), L, gset (rT 0) 18 (gupd (rT 0 18) q (some (41 + 2 * 0)))) : gS)) hcl
  · refine gstart iX3_add tX3_add rfl rfl (fun K ca hK hca => ?_)
    refine hK [] 80 _ _ _ _ _ _ ?_
    clear hK hca
    refine gbr_i (fun _ => ?_) (fun z => absurd hlt z)
    refine gsd_i hv ?_
    refine ⟨rfl, ?_⟩
    refine Eq.trans ?_ (e _)
    exact congrArg (fun q => ((41 + 2 * (1 + 1), shX (1 + 1) (gupd ln 1 m), gset I 17 (gupd (I 17) 5 (I 17 5 + 1)), L, gset (rT 1) 18 (gupd (rT 1 18) q (some (41 + 2 * 1)))) : gS)) hcl
  · refine gstart iX3_add tX3_add rfl rfl (fun K ca hK hca => ?_)
    refine hK [] 80 _ _ _ _ _ _ ?_
    clear hK hca
    refine gbr_i (fun _ => ?_) (fun z => absurd hlt z)
    refine gsd_i hv ?_
    refine ⟨rfl, ?_⟩
    refine Eq.trans ?_ (e _)
    exact congrArg (fun q => ((41 + 2 * (2 + 1), shX (2 + 1) (gupd ln 2 m), gset I 17 (gupd (I 17) 5 (I 17 5 + 1)), L, gset (rT 2) 18 (gupd (rT 2 18) q (some (41 + 2 * 2)))) : gS)) hcl
  · refine gstart iX3_add tX3_add rfl rfl (fun K ca hK hca => ?_)
    refine hK [] 80 _ _ _ _ _ _ ?_
    clear hK hca
    refine gbr_i (fun _ => ?_) (fun z => absurd hlt z)
    refine gsd_i hv ?_
    refine ⟨rfl, ?_⟩
    refine Eq.trans ?_ (e _)
    exact congrArg (fun q => ((41 + 2 * (3 + 1), shX (3 + 1) (gupd ln 3 m), gset I 17 (gupd (I 17) 5 (I 17 5 + 1)), L, gset (rT 3) 18 (gupd (rT 3 18) q (some (41 + 2 * 3)))) : gS)) hcl
  · refine gstart iX3_add tX3_add rfl rfl (fun K ca hK hca => ?_)
    refine hK [] 80 _ _ _ _ _ _ ?_
    clear hK hca
    refine gbr_i (fun _ => ?_) (fun z => absurd hlt z)
    refine gsd_i hv ?_
    refine ⟨rfl, ?_⟩
    refine Eq.trans ?_ (e _)
    exact congrArg (fun q => ((41 + 2 * (4 + 1), shX (4 + 1) (gupd ln 4 m), gset I 17 (gupd (I 17) 5 (I 17 5 + 1)), L, gset (rT 4) 18 (gupd (rT 4 18) q (some (41 + 2 * 4)))) : gS)) hcl
  · refine gstart iX3_add tX3_add rfl rfl (fun K ca hK hca => ?_)
    refine hK [] 80 _ _ _ _ _ _ ?_
    clear hK hca
    refine gbr_i (fun _ => ?_) (fun z => absurd hlt z)
    refine gsd_i hv ?_
    refine ⟨rfl, ?_⟩
    refine Eq.trans ?_ (e _)
    exact congrArg (fun q => ((41 + 2 * (5 + 1), shX (5 + 1) (gupd ln 5 m), gset I 17 (gupd (I 17) 5 (I 17 5 + 1)), L, gset (rT 5) 18 (gupd (rT 5 18) q (some (41 + 2 * 5)))) : gS)) hcl
/-- what a good text leaves -/
def newT (c : Nat) (I I' : Nat → Nat → Int32) (L L' : Nat → Nat → Int64) (o : List Int32 × List Int32 × List Int32) : Prop :=
  I' 13 3 = 0 ∧ (I' 17 5 = nI (c + 1) ∧ ∀ j, j ≠ 5 → I' 17 j = I 17 j) ∧ (∀ j, j < (o.1 ++ o.2.1 ++ o.2.2).length → I' (42 + 2 * c) j = (o.1 ++ o.2.1 ++ o.2.2).getD j 0) ∧ I' (41 + 2 * c) 1 = nI o.1.length ∧ I' (41 + 2 * c) 2 = nI (o.1 ++ o.2.1).length ∧
  (∀ k, k ≠ 13 → k ≠ 15 → k ≠ 16 → k ≠ 17 → k ≠ 41 + 2 * c → k ≠ 42 + 2 * c → I' k = I k) ∧ ∀ k, k ≠ 41 + 2 * c → k ≠ 42 + 2 * c → L' k = L k
set_option maxHeartbeats 1000000 in
theorem p_text (hc : c ≤ 6) (h5 : I 17 5 = nI c) (n : Nat) (hn : n ≤ 160) (h3 : I 13 3 = nI n) : gCtr E 52 2 163 nX9_text [.ref 0] (wX c ln I L) (fun v u' =>
    (c = 6 → v = some (.int (-4)) ∧ u' = (wX c ln I L)) ∧
    (c ≤ 5 → (pTxt (lex (I 14) n)).1 = true → v = some (.int (nI c)) ∧ (((pTxt (lex (I 14) n)).2.1.1 ++ (pTxt (lex (I 14) n)).2.1.2.1 ++ (pTxt (lex (I 14) n)).2.1.2.2).length < 160) ∧ ∃ I' L', u' = wX (c + 1) (gupd ln c ((pTxt (lex (I 14) n)).2.1.1 ++ (pTxt (lex (I 14) n)).2.1.2.1 ++ (pTxt (lex (I 14) n)).2.1.2.2).length) I' L' ∧ newT c I I' L L' (pTxt (lex (I 14) n)).2.1) ∧
    (c ≤ 5 → ¬ (pTxt (lex (I 14) n)).1 = true → v = some (.int (-100 - nI (pTxt (lex (I 14) n)).2.2)) ∧ ∃ I', u' = wX c ln I' L ∧ I' 13 3 = 0 ∧ rst I I')) := by
  have hRT := c_readText E c ln I L n hn h3
  generalize pTxt (lex (I 14) n) = T at hRT ⊢
  obtain ⟨Tb, To, Tf⟩ := T
  dsimp only at hRT ⊢
  refine gstart iX9_text tX9_text rfl rfl (fun K ca hK hca => ?_)
  refine hK [] 80 _ _ _ _ _ _ ?_
  clear hK
  refine gbr_i (fun h6 => ?_) (fun h6 => ?_)
  · have h6' : I 17 5 < 6 := h6
    rw [h5, show (6 : Int32) = nI 6 from rfl, nI_ltI (by omega) (by omega)] at h6'
    have hc5 : c ≤ 5 := by omega
    refine gcall0 hca hRT rfl ?_
    intro w u1 _ hpost
    by_cases hg : Tb = true
    · obtain ⟨rfl, I1, rfl, f1, lay⟩ := hpost.1 hg
      obtain ⟨y1, y2, y3, y4, y5⟩ := lay
      refine gbr_i (fun _ => ?_) (fun z => absurd rfl z)
      refine gcallN hca (c_lastText E c ln I1 L hc5 _ y2 y1) rfl (show 0 + 2 ≤ 2 by decide) (show 0 + 163 ≤ 163 by decide) (fun r hr => ?_) ?_
      · rcases List.mem_cons.mp hr with h | hr
        · subst h; exact Or.inl (show 0 < 41 + 2 * c by omega)
        rcases List.mem_cons.mp hr with h | hr
        · subst h; exact Or.inl (show 17 < 41 + 2 * c by omega)
        exact absurd hr List.not_mem_nil
      rintro w u2 - ⟨rfl, I2, L2, rfl, z1, z2, z3, z4, z5⟩
      have h52 : I2 17 5 = nI c := by rw [z4 17 (by omega) (by omega), f1 17 (by decide) (by decide) (by decide), h5]
      refine gcallZ hca (c_addT E c ln I2 L2 hc5 _ h52) rfl (show 0 + 2 ≤ 2 by decide) (show 0 + 163 ≤ 163 by decide) ?_
      rintro w u3 - ⟨rfl, rfl⟩
      refine gcallZ hca (c_empty E (c + 1) _ _ L2) rfl (show 0 + 2 ≤ 2 by decide) (show 0 + 163 ≤ 163 by decide) ?_
      rintro w u4 - ⟨rfl, rfl⟩
      refine gsd_i ⟨show 0 + 2 ≤ 2 by decide, show 0 + 163 ≤ 163 by decide⟩ ⟨fun z => by omega, fun _ _ => ⟨rfl, y2, _, _, rfl, ?_⟩, fun _ z => absurd hg z⟩
      refine ⟨rfl, ⟨?_, fun j hj => ?_⟩, fun j hj => ?_, ?_, ?_, fun k a1 a2 a3 a4 a5 a6 => ?_, z5⟩
      · show nI c + 1 = _
        rw [nI_1]
      · show gupd (I2 17) 5 (nI c + 1) j = _
        rw [gupd_n hj, z4 17 (by omega) (by omega), f1 17 (by decide) (by decide) (by decide)]
      · rw [gset_n (by omega), gset_n (by omega), z1 j hj, y3 j hj]
      · rw [gset_n (by omega), gset_n (by omega), z2, y4]
      · rw [gset_n (by omega), gset_n (by omega), z3, y5]
      · rw [gset_n a1, gset_n a4, z4 k a5 a6, f1 k a1 a2 a3]
    · obtain ⟨rfl, hle, I1, rfl, f1⟩ := hpost.2 hg
      refine gbr_i (fun z => ?_) (fun _ => ?_)
      · exfalso
        have z' : nI Tf = -1 := z
        have := congrArg Int32.toInt z'
        rw [nI_toInt (by omega)] at this
        simp only [Int32.reduceToInt] at this
        omega
      refine gcall0 hca (c_empty E c ln I1 L) rfl ?_
      rintro w u4 - ⟨rfl, rfl⟩
      refine ⟨fun z => by omega, fun _ z => absurd z hg, fun _ _ => ⟨rfl, _, rfl, rfl, fun k a1 a2 a3 => ?_⟩⟩
      rw [gset_n a1, f1 k a1 a2 a3]
  · have h6' : ¬ I 17 5 < 6 := h6
    rw [h5, show (6 : Int32) = nI 6 from rfl, nI_ltI (by omega) (by omega)] at h6'
    exact ⟨fun _ => ⟨rfl, rfl⟩, fun z => by omega, fun z => by omega⟩
end
