-- the model begins
/-- cells 0 to j are made -/
def shp (s : Nat → gSh) (j : Nat) : Nat → gSh := fun k => cond (Nat.ble k j) (s k) (cond (Nat.blt k 1000) (.inr (9, 0)) (gFx k))
def rfp (R : Nat → Nat → Option Nat) (j : Nat) : Nat → Nat → Option Nat := fun k f => if k = 0 then (match R 0 f with | some c => if c ≤ j then some c else none | none => none) else none
def Zi : Nat → Nat → Int32 := fun _ _ => 0
def Zl : Nat → Nat → Int64 := fun _ _ => 0
def wMp (j : Nat) : gS := (j + 1, shp shM j, Zi, Zl, rfp rM j)
theorem shp_s {s : Nat → gSh} {j : Nat} (h : j + 1 < 1000) : gupd (shp s j) (j + 1) (s (j + 1)) = shp s (j + 1) := by
  funext k
  by_cases e : k = j + 1
  · rw [e, gupd_s]
    unfold shp
    rw [show Nat.ble (j + 1) (j + 1) = true from Nat.ble_eq_true_of_le (Nat.le_refl _)]
    rfl
  · rw [gupd_n e]
    unfold shp
    have : Nat.ble k (j + 1) = Nat.ble k j := by
      rw [Bool.eq_iff_iff, Nat.ble_eq, Nat.ble_eq]
      omega
    rw [this]
theorem rfp_s {R : Nat → Nat → Option Nat} {j fld : Nat} (hr : R 0 fld = some (j + 1)) (hi : ∀ f, R 0 f = some (j + 1) → f = fld) : gset (gset (rfp R j) (j + 1) (fun _ => none)) 0 (gupd (gset (rfp R j) (j + 1) (fun _ => none) 0) fld (some (j + 1))) = rfp R (j + 1) := by
  funext k f
  by_cases e : k = 0
  · subst e
    rw [gset_s]
    by_cases ef : f = fld
    · subst ef
      rw [gupd_s]
      unfold rfp
      rw [if_pos rfl, hr]
      exact (if_pos (Nat.le_refl _)).symm
    · rw [gupd_n ef, gset_n (by omega)]
      unfold rfp
      rw [if_pos rfl, if_pos rfl]
      cases hq : R 0 f with
      | none => rfl
      | some c =>
        have hc : c ≠ j + 1 := fun z => ef (hi f (by rw [hq, z]))
        show (if c ≤ j then some c else none) = (if c ≤ j + 1 then some c else none)
        by_cases h1 : c ≤ j
        · rw [if_pos h1, if_pos (by omega)]
        · rw [if_neg h1, if_neg (by omega)]
  · rw [gset_n e]
    by_cases e2 : k = j + 1
    · rw [e2, gset_s]; exact (if_neg (by omega)).symm
    · rw [gset_n e2]
      unfold rfp
      rw [if_neg e, if_neg e]
theorem gset_Z {α : Type} {z : α} {k : Nat} : gset (fun (_ : Nat) (_ : Nat) => z) k (fun _ => z) = fun _ _ => z := by
  funext q f
  by_cases e : q = k
  · rw [e, gset_s]
  · rw [gset_n e]
theorem wMp_s {j fld : Nat} (h : j + 1 < 1000) (hr : rM 0 fld = some (j + 1)) (hi : ∀ f, rM 0 f = some (j + 1) → f = fld) : ((gborn (wMp j) (shM (j + 1))).1, (gborn (wMp j) (shM (j + 1))).2.1, (gborn (wMp j) (shM (j + 1))).2.2.1, (gborn (wMp j) (shM (j + 1))).2.2.2.1, gset (gborn (wMp j) (shM (j + 1))).2.2.2.2 0 (gupd ((gborn (wMp j) (shM (j + 1))).2.2.2.2 0) fld (some (j + 1)))) = wMp (j + 1) := by
  show (j + 1 + 1, gupd (shp shM j) (j + 1) (shM (j + 1)), gset Zi (j + 1) (fun _ => 0), gset Zl (j + 1) (fun _ => 0), gset (gset (rfp rM j) (j + 1) (fun _ => none)) 0 (gupd (gset (rfp rM j) (j + 1) (fun _ => none) 0) fld (some (j + 1)))) = _
  rw [shp_s h, rfp_s hr hi, show gset Zi (j + 1) (fun _ => 0) = Zi from gset_Z, show gset Zl (j + 1) (fun _ => 0) = Zl from gset_Z]
  rfl
theorem wMp_end : wMp 24 = wM Zi Zl := by
  have h1 : shp shM 24 = shM := by
    funext k
    unfold shp
    cases hb : Nat.ble k 24 with
    | true => rfl
    | false =>
      obtain ⟨q, rfl⟩ : ∃ q, k = q + 25 := ⟨k - 25, by
        have : ¬ k ≤ 24 := fun z => by rw [Nat.ble_eq_true_of_le z] at hb; exact absurd hb (by decide)
        omega⟩
      rfl
  have h2 : rfp rM 24 = rM := by
    funext k f
    unfold rfp
    by_cases e : k = 0
    · subst e
      rw [if_pos rfl]
      cases hq : rM 0 f with
      | none => rfl
      | some c =>
        refine if_pos ?_
        have hf : f < 55 := by
          rcases Nat.lt_or_ge f 55 with z | z
          · exact z
          · obtain ⟨q, rfl⟩ : ∃ q, f = q + 55 := ⟨f - 55, by omega⟩
            exact absurd hq (by intro z; exact absurd (show (none : Option Nat) = some c from z) (by simp))
        have key : ∀ f, f < 55 → ∀ c, rM 0 f = some c → c ≤ 24 := by
          intro f hf
          have : ∀ f : Fin 55, (match rM 0 f.val with | some c => decide (c ≤ 24) | none => true) = true := by decide
          intro c hc
          have t := this ⟨f, hf⟩
          rw [show rM 0 (Fin.val ⟨f, hf⟩) = some c from hc] at t
          exact of_decide_eq_true t
        exact key f hf c hq
    · rw [if_neg e]
      obtain ⟨q, rfl⟩ : ∃ q, k = q + 1 := ⟨k - 1, by omega⟩
      rfl
  unfold wMp
  rw [h1, h2]
theorem rM_inj {c fld : Nat} (h : ∀ f : Fin 55, rM 0 f.val = some c → f.val = fld) : ∀ f, rM 0 f = some c → f = fld := by
  intro f hq
  have hf : f < 55 := by
    rcases Nat.lt_or_ge f 55 with z | z
    · exact z
    · obtain ⟨q, rfl⟩ : ∃ q, f = q + 55 := ⟨f - 55, by omega⟩
      exact absurd hq (by intro z; exact absurd (show (none : Option Nat) = some c from z) (by simp))
  exact h ⟨f, hf⟩ hq
theorem refs00 {j : Nat} : ∀ r ∈ [0, 0], r < j + 1 ∨ 1000 ≤ r := fun r hr => Or.inl (by
  rcases List.mem_cons.mp hr with z | z
  · omega
  · have := List.mem_singleton.mp z; omega)
/-- eight letters of a number -/
def spl (f : Nat → Int32) (a : Nat) (w : Int64) : Nat → Nat → Int32
  | 0 => f
  | i + 1 => gupd (spl f a w i) (a + i) ((w >>> ((56 - 8 * nI i).toInt64 &&& 63)) &&& 255).toInt32
section
variable (E : gEnv) (I : Nat → Nat → Int32) (L : Nat → Nat → Int64)
theorem m_spell (a : Nat) (ha : a + 8 ≤ 960) (w : Int64) : gCtr E 1 0 0 nX10_spell [.ref 0, .int (nI a), .long w] (wM I L) (fun v u' => v = none ∧ u' = wM (gset I 1 (spl (I 1) a w 8)) L) := by
  refine gstart iX10_spell tX10_spell rfl rfl (fun K ca hK hca => ?_)
  have loop := gloop (P := fun i => K 0 0 3 [some (.ref 0), some (.int (nI a)), some (.long w), none, some (.int (nI i))] [] (wM (gset I 1 (spl (I 1) a w i)) L)) (n := 8) (by
    refine hK [3] 60 _ _ _ _ _ _ ?_
    exact gbr_lp (n := 8) rfl (by omega) (Nat.le_refl _) (fun _ => ⟨rfl, rfl⟩) (fun z => absurd z (Nat.lt_irrefl _))) (by
    intro i hi ih
    refine hK [3] 60 _ _ _ _ _ _ ?_
    refine gbr_lp (n := 8) rfl (by omega) (by omega) (fun e => by omega) (fun _ => ?_)
    have ec : (nI a + nI i).toNatClampNeg = a + i := by rw [nI_add]; exact nI_clamp (by omega)
    refine gsd_i (by rw [nI_add]; exact vp_in_nI (by omega) (by omega)) ?_
    have e : gset I 1 (spl (I 1) a w (i + 1)) = gset (gset I 1 (spl (I 1) a w i)) 1 (gupd (gset I 1 (spl (I 1) a w i) 1) (nI a + nI i).toNatClampNeg ((w >>> ((56 - 8 * nI i).toInt64 &&& 63)) &&& 255).toInt32) := by
      rw [gset_gset, gset_s, ec]; rfl
    rw [e, ← nI_1] at ih
    exact ih)
  refine hK [3] 60 _ _ _ _ _ _ ?_
  have := loop 0 (Nat.zero_le _)
  rw [show gset I 1 (spl (I 1) a w 0) = I from gset_self I 1] at this
  exact this
end
/-- the first rule's letters -/
def frB : Nat → Int32 := (spl (spl (spl (spl (spl (spl (spl (spl (spl (spl (fun _ => 0) 0 8318260036553945394 8) 8 2317982130454291488 8) 16 3251722541754180896 8) 24 3035483461614859116 8) 32 8030029324706932329 8) 40 7812655120807715685 8) 48 2322485699881952544 8) 56 8101825532252925216 8) 64 8317145140370091296 8) 72 8604529939384573984 8)
/-- the model at its begin -/
def iM : Nat → Nat → Int32 := gset (gset (gset Zi 1 frB) 2 (gupd (fun _ => 0) 0 80)) 0 (gupd (fun _ => 0) 3 1)
section
variable (E : gEnv)
set_option maxRecDepth 20000 in
set_option maxHeartbeats 4000000 in
theorem m_init : gCtr E 3 24 1636 nX10_init [.ref 0] (wMp 0) (fun v u' => v = none ∧ u' = wM iM Zl) := by
  refine gstart iX10_init tX10_init rfl rfl (fun K ca hK hca => ?_)
  have k24 : K 24 1636 193 [some (.ref 0)] [] (wMp 24) := by
    rw [wMp_end]
    refine hK [] 200 _ _ _ _ _ _ ?_
    refine gcallZ hca (m_spell E Zi Zl 0 (by omega) 8318260036553945394) rfl (Nat.le_refl _) (Nat.le_refl _) ?_
    rintro w u' - ⟨rfl, rfl⟩
    refine gcallZ hca (m_spell E (gset Zi 1 (spl (fun _ => 0) 0 8318260036553945394 8)) Zl 8 (by omega) 2317982130454291488) rfl (Nat.le_refl _) (Nat.le_refl _) ?_
    rintro w u' - ⟨rfl, rfl⟩
    rw [gset_gset, gset_s]
    refine gcallZ hca (m_spell E (gset Zi 1 (spl (spl (fun _ => 0) 0 8318260036553945394 8) 8 2317982130454291488 8)) Zl 16 (by omega) 3251722541754180896) rfl (Nat.le_refl _) (Nat.le_refl _) ?_
    rintro w u' - ⟨rfl, rfl⟩
    rw [gset_gset, gset_s]
    refine gcallZ hca (m_spell E (gset Zi 1 (spl (spl (spl (fun _ => 0) 0 8318260036553945394 8) 8 2317982130454291488 8) 16 3251722541754180896 8)) Zl 24 (by omega) 3035483461614859116) rfl (Nat.le_refl _) (Nat.le_refl _) ?_
    rintro w u' - ⟨rfl, rfl⟩
    rw [gset_gset, gset_s]
    refine gcallZ hca (m_spell E (gset Zi 1 (spl (spl (spl (spl (fun _ => 0) 0 8318260036553945394 8) 8 2317982130454291488 8) 16 3251722541754180896 8) 24 3035483461614859116 8)) Zl 32 (by omega) 8030029324706932329) rfl (Nat.le_refl _) (Nat.le_refl _) ?_
    rintro w u' - ⟨rfl, rfl⟩
    rw [gset_gset, gset_s]
    refine gcallZ hca (m_spell E (gset Zi 1 (spl (spl (spl (spl (spl (fun _ => 0) 0 8318260036553945394 8) 8 2317982130454291488 8) 16 3251722541754180896 8) 24 3035483461614859116 8) 32 8030029324706932329 8)) Zl 40 (by omega) 7812655120807715685) rfl (Nat.le_refl _) (Nat.le_refl _) ?_
    rintro w u' - ⟨rfl, rfl⟩
    rw [gset_gset, gset_s]
    refine gcallZ hca (m_spell E (gset Zi 1 (spl (spl (spl (spl (spl (spl (fun _ => 0) 0 8318260036553945394 8) 8 2317982130454291488 8) 16 3251722541754180896 8) 24 3035483461614859116 8) 32 8030029324706932329 8) 40 7812655120807715685 8)) Zl 48 (by omega) 2322485699881952544) rfl (Nat.le_refl _) (Nat.le_refl _) ?_
    rintro w u' - ⟨rfl, rfl⟩
    rw [gset_gset, gset_s]
    refine gcallZ hca (m_spell E (gset Zi 1 (spl (spl (spl (spl (spl (spl (spl (fun _ => 0) 0 8318260036553945394 8) 8 2317982130454291488 8) 16 3251722541754180896 8) 24 3035483461614859116 8) 32 8030029324706932329 8) 40 7812655120807715685 8) 48 2322485699881952544 8)) Zl 56 (by omega) 8101825532252925216) rfl (Nat.le_refl _) (Nat.le_refl _) ?_
    rintro w u' - ⟨rfl, rfl⟩
    rw [gset_gset, gset_s]
    refine gcallZ hca (m_spell E (gset Zi 1 (spl (spl (spl (spl (spl (spl (spl (spl (fun _ => 0) 0 8318260036553945394 8) 8 2317982130454291488 8) 16 3251722541754180896 8) 24 3035483461614859116 8) 32 8030029324706932329 8) 40 7812655120807715685 8) 48 2322485699881952544 8) 56 8101825532252925216 8)) Zl 64 (by omega) 8317145140370091296) rfl (Nat.le_refl _) (Nat.le_refl _) ?_
    rintro w u' - ⟨rfl, rfl⟩
    rw [gset_gset, gset_s]
    refine gcallZ hca (m_spell E (gset Zi 1 (spl (spl (spl (spl (spl (spl (spl (spl (spl (fun _ => 0) 0 8318260036553945394 8) 8 2317982130454291488 8) 16 3251722541754180896 8) 24 3035483461614859116 8) 32 8030029324706932329 8) 40 7812655120807715685 8) 48 2322485699881952544 8) 56 8101825532252925216 8) 64 8317145140370091296 8)) Zl 72 (by omega) 8604529939384573984) rfl (Nat.le_refl _) (Nat.le_refl _) ?_
    rintro w u' - ⟨rfl, rfl⟩
    rw [gset_gset, gset_s]
    refine gsd_i (vp_in_nI (by omega : 0 < 6) (by omega)) ?_
    exact gsd_i ⟨Nat.le_refl _, Nat.le_refl _⟩ ⟨rfl, rfl⟩
  have k23 : K 23 1476 184 [some (.ref 0)] [] (wMp 23) := by
    refine hK [4, 13, 21, 30, 38, 46, 54, 62, 70, 78, 86, 94, 102, 110, 117, 124, 132, 139, 147, 155, 163, 170, 177, 184, 193] 20 _ _ _ _ _ _ ?_
    refine gsd_i ⟨fun r hr => refs00 r hr, by decide, by decide, by omega, by decide, by decide⟩ ?_
    rw [show (160 : Int32).toNatClampNeg = 160 from by decide]
    refine gsd_i (Or.inl (Nat.lt_succ_self _)) ?_
    have := k24
    rw [← wMp_s (j := 23) (fld := 54) (by omega) rfl (rM_inj (by decide))] at this
    exact this
  have k22 : K 22 1472 177 [some (.ref 0)] [] (wMp 22) := by
    refine hK [4, 13, 21, 30, 38, 46, 54, 62, 70, 78, 86, 94, 102, 110, 117, 124, 132, 139, 147, 155, 163, 170, 177, 184, 193] 20 _ _ _ _ _ _ ?_
    refine gsd_i ⟨fun r hr => refs00 r hr, by decide, by decide, by omega, by decide, by decide⟩ ?_
    rw [show (4 : Int32).toNatClampNeg = 4 from by decide]
    refine gsd_i (Or.inl (Nat.lt_succ_self _)) ?_
    have := k23
    rw [← wMp_s (j := 22) (fld := 53) (by omega) rfl (rM_inj (by decide))] at this
    exact this
  have k21 : K 21 1468 170 [some (.ref 0)] [] (wMp 21) := by
    refine hK [4, 13, 21, 30, 38, 46, 54, 62, 70, 78, 86, 94, 102, 110, 117, 124, 132, 139, 147, 155, 163, 170, 177, 184, 193] 20 _ _ _ _ _ _ ?_
    refine gsd_i ⟨fun r hr => refs00 r hr, by decide, by decide, by omega, by decide, by decide⟩ ?_
    rw [show (4 : Int32).toNatClampNeg = 4 from by decide]
    refine gsd_i (Or.inl (Nat.lt_succ_self _)) ?_
    have := k22
    rw [← wMp_s (j := 21) (fld := 52) (by omega) rfl (rM_inj (by decide))] at this
    exact this
  have k20 : K 20 1464 163 [some (.ref 0)] [] (wMp 20) := by
    refine hK [4, 13, 21, 30, 38, 46, 54, 62, 70, 78, 86, 94, 102, 110, 117, 124, 132, 139, 147, 155, 163, 170, 177, 184, 193] 20 _ _ _ _ _ _ ?_
    refine gsd_i ⟨fun r hr => refs00 r hr, by decide, by decide, by omega, by decide, by decide⟩ ?_
    rw [show (4 : Int32).toNatClampNeg = 4 from by decide]
    refine gsd_i (Or.inl (Nat.lt_succ_self _)) ?_
    have := k21
    rw [← wMp_s (j := 20) (fld := 51) (by omega) rfl (rM_inj (by decide))] at this
    exact this
  have k19 : K 19 1424 155 [some (.ref 0)] [] (wMp 19) := by
    refine hK [4, 13, 21, 30, 38, 46, 54, 62, 70, 78, 86, 94, 102, 110, 117, 124, 132, 139, 147, 155, 163, 170, 177, 184, 193] 20 _ _ _ _ _ _ ?_
    refine gsd_i ⟨fun r hr => refs00 r hr, by decide, by decide, by omega, by decide, by decide⟩ ?_
    rw [show (40 : Int32).toNatClampNeg = 40 from by decide]
    refine gsd_i (Or.inl (Nat.lt_succ_self _)) ?_
    have := k20
    rw [← wMp_s (j := 19) (fld := 46) (by omega) rfl (rM_inj (by decide))] at this
    exact this
  have k18 : K 18 1412 147 [some (.ref 0)] [] (wMp 18) := by
    refine hK [4, 13, 21, 30, 38, 46, 54, 62, 70, 78, 86, 94, 102, 110, 117, 124, 132, 139, 147, 155, 163, 170, 177, 184, 193] 20 _ _ _ _ _ _ ?_
    refine gsd_i ⟨fun r hr => refs00 r hr, by decide, by decide, by omega, by decide, by decide⟩ ?_
    rw [show (12 : Int32).toNatClampNeg = 12 from by decide]
    refine gsd_i (Or.inl (Nat.lt_succ_self _)) ?_
    have := k19
    rw [← wMp_s (j := 18) (fld := 45) (by omega) rfl (rM_inj (by decide))] at this
    exact this
  have k17 : K 17 1400 139 [some (.ref 0)] [] (wMp 17) := by
    refine hK [4, 13, 21, 30, 38, 46, 54, 62, 70, 78, 86, 94, 102, 110, 117, 124, 132, 139, 147, 155, 163, 170, 177, 184, 193] 20 _ _ _ _ _ _ ?_
    refine gsd_i ⟨fun r hr => refs00 r hr, by decide, by decide, by omega, by decide, by decide⟩ ?_
    rw [show (12 : Int32).toNatClampNeg = 12 from by decide]
    refine gsd_i (Or.inl (Nat.lt_succ_self _)) ?_
    have := k18
    rw [← wMp_s (j := 17) (fld := 44) (by omega) rfl (rM_inj (by decide))] at this
    exact this
  have k16 : K 16 1398 132 [some (.ref 0)] [] (wMp 16) := by
    refine hK [4, 13, 21, 30, 38, 46, 54, 62, 70, 78, 86, 94, 102, 110, 117, 124, 132, 139, 147, 155, 163, 170, 177, 184, 193] 20 _ _ _ _ _ _ ?_
    refine gsd_i ⟨fun r hr => refs00 r hr, by decide, by decide, by omega, by decide, by decide⟩ ?_
    rw [show (2 : Int32).toNatClampNeg = 2 from by decide]
    refine gsd_i (Or.inl (Nat.lt_succ_self _)) ?_
    have := k17
    rw [← wMp_s (j := 16) (fld := 37) (by omega) rfl (rM_inj (by decide))] at this
    exact this
  have k15 : K 15 1374 124 [some (.ref 0)] [] (wMp 15) := by
    refine hK [4, 13, 21, 30, 38, 46, 54, 62, 70, 78, 86, 94, 102, 110, 117, 124, 132, 139, 147, 155, 163, 170, 177, 184, 193] 20 _ _ _ _ _ _ ?_
    refine gsd_i ⟨fun r hr => refs00 r hr, by decide, by decide, by omega, by decide, by decide⟩ ?_
    rw [show (24 : Int32).toNatClampNeg = 24 from by decide]
    refine gsd_i (Or.inl (Nat.lt_succ_self _)) ?_
    have := k16
    rw [← wMp_s (j := 15) (fld := 36) (by omega) rfl (rM_inj (by decide))] at this
    exact this
  have k14 : K 14 1372 117 [some (.ref 0)] [] (wMp 14) := by
    refine hK [4, 13, 21, 30, 38, 46, 54, 62, 70, 78, 86, 94, 102, 110, 117, 124, 132, 139, 147, 155, 163, 170, 177, 184, 193] 20 _ _ _ _ _ _ ?_
    refine gsd_i ⟨fun r hr => refs00 r hr, by decide, by decide, by omega, by decide, by decide⟩ ?_
    rw [show (2 : Int32).toNatClampNeg = 2 from by decide]
    refine gsd_i (Or.inl (Nat.lt_succ_self _)) ?_
    have := k15
    rw [← wMp_s (j := 14) (fld := 35) (by omega) rfl (rM_inj (by decide))] at this
    exact this
  have k13 : K 13 1370 110 [some (.ref 0)] [] (wMp 13) := by
    refine hK [4, 13, 21, 30, 38, 46, 54, 62, 70, 78, 86, 94, 102, 110, 117, 124, 132, 139, 147, 155, 163, 170, 177, 184, 193] 20 _ _ _ _ _ _ ?_
    refine gsd_i ⟨fun r hr => refs00 r hr, by decide, by decide, by omega, by decide, by decide⟩ ?_
    rw [show (2 : Int32).toNatClampNeg = 2 from by decide]
    refine gsd_i (Or.inl (Nat.lt_succ_self _)) ?_
    have := k14
    rw [← wMp_s (j := 13) (fld := 34) (by omega) rfl (rM_inj (by decide))] at this
    exact this
  have k12 : K 12 1346 102 [some (.ref 0)] [] (wMp 12) := by
    refine hK [4, 13, 21, 30, 38, 46, 54, 62, 70, 78, 86, 94, 102, 110, 117, 124, 132, 139, 147, 155, 163, 170, 177, 184, 193] 20 _ _ _ _ _ _ ?_
    refine gsd_i ⟨fun r hr => refs00 r hr, by decide, by decide, by omega, by decide, by decide⟩ ?_
    rw [show (24 : Int32).toNatClampNeg = 24 from by decide]
    refine gsd_i (Or.inl (Nat.lt_succ_self _)) ?_
    have := k13
    rw [← wMp_s (j := 12) (fld := 33) (by omega) rfl (rM_inj (by decide))] at this
    exact this
  have k11 : K 11 1334 94 [some (.ref 0)] [] (wMp 11) := by
    refine hK [4, 13, 21, 30, 38, 46, 54, 62, 70, 78, 86, 94, 102, 110, 117, 124, 132, 139, 147, 155, 163, 170, 177, 184, 193] 20 _ _ _ _ _ _ ?_
    refine gsd_i ⟨fun r hr => refs00 r hr, by decide, by decide, by omega, by decide, by decide⟩ ?_
    rw [show (12 : Int32).toNatClampNeg = 12 from by decide]
    refine gsd_i (Or.inl (Nat.lt_succ_self _)) ?_
    have := k12
    rw [← wMp_s (j := 11) (fld := 16) (by omega) rfl (rM_inj (by decide))] at this
    exact this
  have k10 : K 10 1322 86 [some (.ref 0)] [] (wMp 10) := by
    refine hK [4, 13, 21, 30, 38, 46, 54, 62, 70, 78, 86, 94, 102, 110, 117, 124, 132, 139, 147, 155, 163, 170, 177, 184, 193] 20 _ _ _ _ _ _ ?_
    refine gsd_i ⟨fun r hr => refs00 r hr, by decide, by decide, by omega, by decide, by decide⟩ ?_
    rw [show (12 : Int32).toNatClampNeg = 12 from by decide]
    refine gsd_i (Or.inl (Nat.lt_succ_self _)) ?_
    have := k11
    rw [← wMp_s (j := 10) (fld := 15) (by omega) rfl (rM_inj (by decide))] at this
    exact this
  have k9 : K 9 1310 78 [some (.ref 0)] [] (wMp 9) := by
    refine hK [4, 13, 21, 30, 38, 46, 54, 62, 70, 78, 86, 94, 102, 110, 117, 124, 132, 139, 147, 155, 163, 170, 177, 184, 193] 20 _ _ _ _ _ _ ?_
    refine gsd_i ⟨fun r hr => refs00 r hr, by decide, by decide, by omega, by decide, by decide⟩ ?_
    rw [show (12 : Int32).toNatClampNeg = 12 from by decide]
    refine gsd_i (Or.inl (Nat.lt_succ_self _)) ?_
    have := k10
    rw [← wMp_s (j := 9) (fld := 14) (by omega) rfl (rM_inj (by decide))] at this
    exact this
  have k8 : K 8 1298 70 [some (.ref 0)] [] (wMp 8) := by
    refine hK [4, 13, 21, 30, 38, 46, 54, 62, 70, 78, 86, 94, 102, 110, 117, 124, 132, 139, 147, 155, 163, 170, 177, 184, 193] 20 _ _ _ _ _ _ ?_
    refine gsd_i ⟨fun r hr => refs00 r hr, by decide, by decide, by omega, by decide, by decide⟩ ?_
    rw [show (12 : Int32).toNatClampNeg = 12 from by decide]
    refine gsd_i (Or.inl (Nat.lt_succ_self _)) ?_
    have := k9
    rw [← wMp_s (j := 8) (fld := 13) (by omega) rfl (rM_inj (by decide))] at this
    exact this
  have k7 : K 7 1286 62 [some (.ref 0)] [] (wMp 7) := by
    refine hK [4, 13, 21, 30, 38, 46, 54, 62, 70, 78, 86, 94, 102, 110, 117, 124, 132, 139, 147, 155, 163, 170, 177, 184, 193] 20 _ _ _ _ _ _ ?_
    refine gsd_i ⟨fun r hr => refs00 r hr, by decide, by decide, by omega, by decide, by decide⟩ ?_
    rw [show (12 : Int32).toNatClampNeg = 12 from by decide]
    refine gsd_i (Or.inl (Nat.lt_succ_self _)) ?_
    have := k8
    rw [← wMp_s (j := 7) (fld := 12) (by omega) rfl (rM_inj (by decide))] at this
    exact this
  have k6 : K 6 1246 54 [some (.ref 0)] [] (wMp 6) := by
    refine hK [4, 13, 21, 30, 38, 46, 54, 62, 70, 78, 86, 94, 102, 110, 117, 124, 132, 139, 147, 155, 163, 170, 177, 184, 193] 20 _ _ _ _ _ _ ?_
    refine gsd_i ⟨fun r hr => refs00 r hr, by decide, by decide, by omega, by decide, by decide⟩ ?_
    rw [show (40 : Int32).toNatClampNeg = 40 from by decide]
    refine gsd_i (Or.inl (Nat.lt_succ_self _)) ?_
    have := k7
    rw [← wMp_s (j := 6) (fld := 10) (by omega) rfl (rM_inj (by decide))] at this
    exact this
  have k5 : K 5 1206 46 [some (.ref 0)] [] (wMp 5) := by
    refine hK [4, 13, 21, 30, 38, 46, 54, 62, 70, 78, 86, 94, 102, 110, 117, 124, 132, 139, 147, 155, 163, 170, 177, 184, 193] 20 _ _ _ _ _ _ ?_
    refine gsd_i ⟨fun r hr => refs00 r hr, by decide, by decide, by omega, by decide, by decide⟩ ?_
    rw [show (40 : Int32).toNatClampNeg = 40 from by decide]
    refine gsd_i (Or.inl (Nat.lt_succ_self _)) ?_
    have := k6
    rw [← wMp_s (j := 5) (fld := 9) (by omega) rfl (rM_inj (by decide))] at this
    exact this
  have k4 : K 4 1166 38 [some (.ref 0)] [] (wMp 4) := by
    refine hK [4, 13, 21, 30, 38, 46, 54, 62, 70, 78, 86, 94, 102, 110, 117, 124, 132, 139, 147, 155, 163, 170, 177, 184, 193] 20 _ _ _ _ _ _ ?_
    refine gsd_i ⟨fun r hr => refs00 r hr, by decide, by decide, by omega, by decide, by decide⟩ ?_
    rw [show (40 : Int32).toNatClampNeg = 40 from by decide]
    refine gsd_i (Or.inl (Nat.lt_succ_self _)) ?_
    have := k5
    rw [← wMp_s (j := 4) (fld := 8) (by omega) rfl (rM_inj (by decide))] at this
    exact this
  have k3 : K 3 1126 30 [some (.ref 0)] [] (wMp 3) := by
    refine hK [4, 13, 21, 30, 38, 46, 54, 62, 70, 78, 86, 94, 102, 110, 117, 124, 132, 139, 147, 155, 163, 170, 177, 184, 193] 20 _ _ _ _ _ _ ?_
    refine gsd_i ⟨fun r hr => refs00 r hr, by decide, by decide, by omega, by decide, by decide⟩ ?_
    rw [show (40 : Int32).toNatClampNeg = 40 from by decide]
    refine gsd_i (Or.inl (Nat.lt_succ_self _)) ?_
    have := k4
    rw [← wMp_s (j := 3) (fld := 7) (by omega) rfl (rM_inj (by decide))] at this
    exact this
  have k2 : K 2 966 21 [some (.ref 0)] [] (wMp 2) := by
    refine hK [4, 13, 21, 30, 38, 46, 54, 62, 70, 78, 86, 94, 102, 110, 117, 124, 132, 139, 147, 155, 163, 170, 177, 184, 193] 20 _ _ _ _ _ _ ?_
    refine gsd_i ⟨fun r hr => refs00 r hr, by decide, by decide, by omega, by decide, by decide⟩ ?_
    rw [show (160 : Int32).toNatClampNeg = 160 from by decide]
    refine gsd_i (Or.inl (Nat.lt_succ_self _)) ?_
    have := k3
    rw [← wMp_s (j := 2) (fld := 5) (by omega) rfl (rM_inj (by decide))] at this
    exact this
  have k1 : K 1 960 13 [some (.ref 0)] [] (wMp 1) := by
    refine hK [4, 13, 21, 30, 38, 46, 54, 62, 70, 78, 86, 94, 102, 110, 117, 124, 132, 139, 147, 155, 163, 170, 177, 184, 193] 20 _ _ _ _ _ _ ?_
    refine gsd_i ⟨fun r hr => refs00 r hr, by decide, by decide, by omega, by decide, by decide⟩ ?_
    rw [show (6 : Int32).toNatClampNeg = 6 from by decide]
    refine gsd_i (Or.inl (Nat.lt_succ_self _)) ?_
    have := k2
    rw [← wMp_s (j := 1) (fld := 2) (by omega) rfl (rM_inj (by decide))] at this
    exact this
  have k0 : K 0 0 4 [some (.ref 0)] [] (wMp 0) := by
    refine hK [4, 13, 21, 30, 38, 46, 54, 62, 70, 78, 86, 94, 102, 110, 117, 124, 132, 139, 147, 155, 163, 170, 177, 184, 193] 20 _ _ _ _ _ _ ?_
    refine gsd_i ⟨fun r hr => refs00 r hr, by decide, by decide, by omega, by decide, by decide⟩ ?_
    rw [show (960 : Int32).toNatClampNeg = 960 from by decide]
    refine gsd_i (Or.inl (Nat.lt_succ_self _)) ?_
    have := k1
    rw [← wMp_s (j := 0) (fld := 1) (by omega) rfl (rM_inj (by decide))] at this
    exact this
  refine hK [4, 13, 21, 30, 38, 46, 54, 62, 70, 78, 86, 94, 102, 110, 117, 124, 132, 139, 147, 155, 163, 170, 177, 184, 193] 20 _ _ _ _ _ _ ?_
  exact k0
end
