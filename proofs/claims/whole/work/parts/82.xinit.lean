-- the class begins
def evA : List (Nat × Nat × Nat) := [(1, 0, 2), (1, 1, 3), (1, 2, 4), (1, 3, 5), (0, 0, 1), (6, 0, 7), (6, 1, 8), (6, 2, 9), (6, 3, 10), (6, 4, 11), (6, 5, 12), (0, 1, 6), (13, 0, 14), (13, 1, 15), (13, 2, 16), (0, 2, 13), (17, 2, 18), (17, 3, 19), (17, 4, 20), (17, 0, 1), (17, 1, 6), (0, 3, 17), (21, 3, 22), (21, 4, 23), (21, 0, 1), (21, 1, 6), (21, 2, 17), (0, 4, 21), (24, 3, 25), (24, 4, 26), (24, 0, 1), (24, 1, 6), (24, 2, 17), (0, 5, 24), (27, 0, 6), (0, 6, 27), (28, 0, 29), (28, 1, 30), (28, 2, 31), (0, 7, 28), (0, 8, 32), (33, 0, 34), (32, 0, 33), (35, 0, 36), (32, 1, 35), (37, 0, 38), (32, 2, 37), (39, 0, 40), (32, 3, 39)]
/-- the references after e of them are set -/
def rfo : Nat → Nat → Nat → Option Nat
  | 0 => fun _ _ => none
  | e + 1 => gset (rfo e) (evA.getD e (0, 0, 0)).1 (gupd (rfo e (evA.getD e (0, 0, 0)).1) (evA.getD e (0, 0, 0)).2.1 (some (evA.getD e (0, 0, 0)).2.2))
def ln0 : Nat → Nat := fun _ => 0
def wXe (j e : Nat) (I : Nat → Nat → Int32) : gS := (j + 1, shp (shX 0 ln0) j, I, Zl, rfo e)
theorem gset_own {α : Type} {I : Nat → Nat → α} {k : Nat} {f : Nat → α} (h : I k = f) : gset I k f = I := by rw [← h]; exact gset_self I k
theorem wXe_new {j e : Nat} {I : Nat → Nat → Int32} (h : j + 1 < 1000) (hI : I (j + 1) = fun _ => 0) (hR : rfo e (j + 1) = fun _ => none) : gborn (wXe j e I) (shX 0 ln0 (j + 1)) = wXe (j + 1) e I := by
  show (j + 1 + 1, gupd (shp (shX 0 ln0) j) (j + 1) (shX 0 ln0 (j + 1)), gset I (j + 1) (fun _ => 0), gset Zl (j + 1) (fun _ => 0), gset (rfo e) (j + 1) (fun _ => none)) = _
  rw [shp_s h, gset_own hI, gset_own hR, show gset Zl (j + 1) (fun _ => 0) = Zl from gset_Z]
  rfl
theorem allb {l : List Nat} {n : Nat} (h : (l.all fun r => Nat.blt r n) = true) : ∀ r ∈ l, r < n := fun r hr => Nat.le_of_ble_eq_true (List.all_eq_true.mp h r hr)
/-- sheets begin with -1 -/
def iX : Nat → Nat → Nat → Int32
  | 0 => Zi
  | n + 1 => gset (iX n) (33 + 2 * n) (gupd (iX n (33 + 2 * n)) 1 (-1))
section
variable (E : gEnv)
set_option maxRecDepth 20000 in
theorem i_2_1 : gCtr E 1 4 160 nX2_init [.ref 1] (wXe 1 0 (iX 0)) (fun v u' => v = none ∧ u' = wXe 5 4 (iX 0)) := by
  refine gstart iX2_init tX2_init rfl rfl (fun K ca hK hca => ?_)
  have k4 : K 4 160 36 [some (.ref 1)] [] (wXe 5 4 (iX 0)) := by
    refine hK [] 60 _ _ _ _ _ _ ?_
    exact gsd_i ⟨Nat.le_refl _, Nat.le_refl _⟩ ⟨rfl, rfl⟩
  have k3 : K 3 120 28 [some (.ref 1)] [] (wXe 4 3 (iX 0)) := by
    refine hK [12, 20, 28, 36] 20 _ _ _ _ _ _ ?_
    refine gsd_i ⟨fun r hr => Or.inl (allb (by decide) r hr), by decide, by decide, by decide, by decide, by decide⟩ ?_
    rw [show (40 : Int32).toNatClampNeg = 40 from by decide, show gborn (wXe 4 3 (iX 0)) (.inr (0, 40)) = wXe 5 3 (iX 0) from wXe_new (by decide) rfl rfl]
    refine gsd_i (Or.inl (by decide)) ?_
    exact k4
  have k2 : K 2 80 20 [some (.ref 1)] [] (wXe 3 2 (iX 0)) := by
    refine hK [12, 20, 28, 36] 20 _ _ _ _ _ _ ?_
    refine gsd_i ⟨fun r hr => Or.inl (allb (by decide) r hr), by decide, by decide, by decide, by decide, by decide⟩ ?_
    rw [show (40 : Int32).toNatClampNeg = 40 from by decide, show gborn (wXe 3 2 (iX 0)) (.inr (0, 40)) = wXe 4 2 (iX 0) from wXe_new (by decide) rfl rfl]
    refine gsd_i (Or.inl (by decide)) ?_
    exact k3
  have k1 : K 1 40 12 [some (.ref 1)] [] (wXe 2 1 (iX 0)) := by
    refine hK [12, 20, 28, 36] 20 _ _ _ _ _ _ ?_
    refine gsd_i ⟨fun r hr => Or.inl (allb (by decide) r hr), by decide, by decide, by decide, by decide, by decide⟩ ?_
    rw [show (40 : Int32).toNatClampNeg = 40 from by decide, show gborn (wXe 2 1 (iX 0)) (.inr (0, 40)) = wXe 3 1 (iX 0) from wXe_new (by decide) rfl rfl]
    refine gsd_i (Or.inl (by decide)) ?_
    exact k2
  refine hK [12, 20, 28, 36] 20 _ _ _ _ _ _ ?_
  refine gsd_i ⟨fun r hr => Or.inl (allb (by decide) r hr), by decide, by decide, by decide, by decide, by decide⟩ ?_
  rw [show (40 : Int32).toNatClampNeg = 40 from by decide, show gborn (wXe 1 0 (iX 0)) (.inr (0, 40)) = wXe 2 0 (iX 0) from wXe_new (by decide) rfl rfl]
  refine gsd_i (Or.inl (by decide)) ?_
  exact k1
set_option maxRecDepth 20000 in
theorem i_6_6 : gCtr E 1 6 72 nX6_init [.ref 6] (wXe 6 5 (iX 0)) (fun v u' => v = none ∧ u' = wXe 12 11 (iX 0)) := by
  refine gstart iX6_init tX6_init rfl rfl (fun K ca hK hca => ?_)
  have k6 : K 6 72 52 [some (.ref 6)] [] (wXe 12 11 (iX 0)) := by
    refine hK [] 60 _ _ _ _ _ _ ?_
    exact gsd_i ⟨Nat.le_refl _, Nat.le_refl _⟩ ⟨rfl, rfl⟩
  have k5 : K 5 60 44 [some (.ref 6)] [] (wXe 11 10 (iX 0)) := by
    refine hK [12, 20, 28, 36, 44, 52] 20 _ _ _ _ _ _ ?_
    refine gsd_i ⟨fun r hr => Or.inl (allb (by decide) r hr), by decide, by decide, by decide, by decide, by decide⟩ ?_
    rw [show (12 : Int32).toNatClampNeg = 12 from by decide, show gborn (wXe 11 10 (iX 0)) (.inr (2, 12)) = wXe 12 10 (iX 0) from wXe_new (by decide) rfl rfl]
    refine gsd_i (Or.inl (by decide)) ?_
    exact k6
  have k4 : K 4 48 36 [some (.ref 6)] [] (wXe 10 9 (iX 0)) := by
    refine hK [12, 20, 28, 36, 44, 52] 20 _ _ _ _ _ _ ?_
    refine gsd_i ⟨fun r hr => Or.inl (allb (by decide) r hr), by decide, by decide, by decide, by decide, by decide⟩ ?_
    rw [show (12 : Int32).toNatClampNeg = 12 from by decide, show gborn (wXe 10 9 (iX 0)) (.inr (0, 12)) = wXe 11 9 (iX 0) from wXe_new (by decide) rfl rfl]
    refine gsd_i (Or.inl (by decide)) ?_
    exact k5
  have k3 : K 3 36 28 [some (.ref 6)] [] (wXe 9 8 (iX 0)) := by
    refine hK [12, 20, 28, 36, 44, 52] 20 _ _ _ _ _ _ ?_
    refine gsd_i ⟨fun r hr => Or.inl (allb (by decide) r hr), by decide, by decide, by decide, by decide, by decide⟩ ?_
    rw [show (12 : Int32).toNatClampNeg = 12 from by decide, show gborn (wXe 9 8 (iX 0)) (.inr (0, 12)) = wXe 10 8 (iX 0) from wXe_new (by decide) rfl rfl]
    refine gsd_i (Or.inl (by decide)) ?_
    exact k4
  have k2 : K 2 24 20 [some (.ref 6)] [] (wXe 8 7 (iX 0)) := by
    refine hK [12, 20, 28, 36, 44, 52] 20 _ _ _ _ _ _ ?_
    refine gsd_i ⟨fun r hr => Or.inl (allb (by decide) r hr), by decide, by decide, by decide, by decide, by decide⟩ ?_
    rw [show (12 : Int32).toNatClampNeg = 12 from by decide, show gborn (wXe 8 7 (iX 0)) (.inr (0, 12)) = wXe 9 7 (iX 0) from wXe_new (by decide) rfl rfl]
    refine gsd_i (Or.inl (by decide)) ?_
    exact k3
  have k1 : K 1 12 12 [some (.ref 6)] [] (wXe 7 6 (iX 0)) := by
    refine hK [12, 20, 28, 36, 44, 52] 20 _ _ _ _ _ _ ?_
    refine gsd_i ⟨fun r hr => Or.inl (allb (by decide) r hr), by decide, by decide, by decide, by decide, by decide⟩ ?_
    rw [show (12 : Int32).toNatClampNeg = 12 from by decide, show gborn (wXe 7 6 (iX 0)) (.inr (0, 12)) = wXe 8 6 (iX 0) from wXe_new (by decide) rfl rfl]
    refine gsd_i (Or.inl (by decide)) ?_
    exact k2
  refine hK [12, 20, 28, 36, 44, 52] 20 _ _ _ _ _ _ ?_
  refine gsd_i ⟨fun r hr => Or.inl (allb (by decide) r hr), by decide, by decide, by decide, by decide, by decide⟩ ?_
  rw [show (12 : Int32).toNatClampNeg = 12 from by decide, show gborn (wXe 6 5 (iX 0)) (.inr (0, 12)) = wXe 7 5 (iX 0) from wXe_new (by decide) rfl rfl]
  refine gsd_i (Or.inl (by decide)) ?_
  exact k1
set_option maxRecDepth 20000 in
theorem i_5_13 : gCtr E 1 3 323 nX5_init [.ref 13] (wXe 13 12 (iX 0)) (fun v u' => v = none ∧ u' = wXe 16 15 (iX 0)) := by
  refine gstart iX5_init tX5_init rfl rfl (fun K ca hK hca => ?_)
  have k3 : K 3 323 29 [some (.ref 13)] [] (wXe 16 15 (iX 0)) := by
    refine hK [] 60 _ _ _ _ _ _ ?_
    exact gsd_i ⟨Nat.le_refl _, Nat.le_refl _⟩ ⟨rfl, rfl⟩
  have k2 : K 2 320 22 [some (.ref 13)] [] (wXe 15 14 (iX 0)) := by
    refine hK [13, 22, 29] 20 _ _ _ _ _ _ ?_
    refine gsd_i ⟨fun r hr => Or.inl (allb (by decide) r hr), by decide, by decide, by decide, by decide, by decide⟩ ?_
    rw [show (3 : Int32).toNatClampNeg = 3 from by decide, show gborn (wXe 15 14 (iX 0)) (.inr (0, 3)) = wXe 16 14 (iX 0) from wXe_new (by decide) rfl rfl]
    refine gsd_i (Or.inl (by decide)) ?_
    exact k3
  have k1 : K 1 160 13 [some (.ref 13)] [] (wXe 14 13 (iX 0)) := by
    refine hK [13, 22, 29] 20 _ _ _ _ _ _ ?_
    refine gsd_i ⟨fun r hr => Or.inl (allb (by decide) r hr), by decide, by decide, by decide, by decide, by decide⟩ ?_
    rw [show (160 : Int32).toNatClampNeg = 160 from by decide, show gborn (wXe 14 13 (iX 0)) (.inr (0, 160)) = wXe 15 13 (iX 0) from wXe_new (by decide) rfl rfl]
    refine gsd_i (Or.inl (by decide)) ?_
    exact k2
  refine hK [13, 22, 29] 20 _ _ _ _ _ _ ?_
  refine gsd_i ⟨fun r hr => Or.inl (allb (by decide) r hr), by decide, by decide, by decide, by decide, by decide⟩ ?_
  rw [show (160 : Int32).toNatClampNeg = 160 from by decide, show gborn (wXe 13 12 (iX 0)) (.inr (1, 160)) = wXe 14 12 (iX 0) from wXe_new (by decide) rfl rfl]
  refine gsd_i (Or.inl (by decide)) ?_
  exact k1
set_option maxRecDepth 20000 in
theorem i_3_17 : gCtr E 1 3 52 nX3_init [.ref 17, .ref 1, .ref 6] (wXe 17 16 (iX 0)) (fun v u' => v = none ∧ u' = wXe 20 21 (iX 0)) := by
  refine gstart iX3_init tX3_init rfl rfl (fun K ca hK hca => ?_)
  have k3 : K 3 52 29 [some (.ref 17), some (.ref 1), some (.ref 6)] [] (wXe 20 19 (iX 0)) := by
    refine hK [] 60 _ _ _ _ _ _ ?_
    refine gsd_i (Or.inl (by decide)) ?_
    refine gsd_i (Or.inl (by decide)) ?_
    exact gsd_i ⟨Nat.le_refl _, Nat.le_refl _⟩ ⟨rfl, rfl⟩
  have k2 : K 2 12 21 [some (.ref 17), some (.ref 1), some (.ref 6)] [] (wXe 19 18 (iX 0)) := by
    refine hK [13, 21, 29] 20 _ _ _ _ _ _ ?_
    refine gsd_i ⟨fun r hr => Or.inl (allb (by decide) r hr), by decide, by decide, by decide, by decide, by decide⟩ ?_
    rw [show (40 : Int32).toNatClampNeg = 40 from by decide, show gborn (wXe 19 18 (iX 0)) (.inr (0, 40)) = wXe 20 18 (iX 0) from wXe_new (by decide) rfl rfl]
    refine gsd_i (Or.inl (by decide)) ?_
    exact k3
  have k1 : K 1 6 13 [some (.ref 17), some (.ref 1), some (.ref 6)] [] (wXe 18 17 (iX 0)) := by
    refine hK [13, 21, 29] 20 _ _ _ _ _ _ ?_
    refine gsd_i ⟨fun r hr => Or.inl (allb (by decide) r hr), by decide, by decide, by decide, by decide, by decide⟩ ?_
    rw [show (6 : Int32).toNatClampNeg = 6 from by decide, show gborn (wXe 18 17 (iX 0)) (.inr (0, 6)) = wXe 19 17 (iX 0) from wXe_new (by decide) rfl rfl]
    refine gsd_i (Or.inl (by decide)) ?_
    exact k2
  refine hK [13, 21, 29] 20 _ _ _ _ _ _ ?_
  refine gsd_i ⟨fun r hr => Or.inl (allb (by decide) r hr), by decide, by decide, by decide, by decide, by decide⟩ ?_
  rw [show (6 : Int32).toNatClampNeg = 6 from by decide, show gborn (wXe 17 16 (iX 0)) (.inr (5, 6)) = wXe 18 16 (iX 0) from wXe_new (by decide) rfl rfl]
  refine gsd_i (Or.inl (by decide)) ?_
  exact k1
set_option maxRecDepth 20000 in
theorem i_1_21 : gCtr E 1 2 24 nX1_init [.ref 21, .ref 1, .ref 6, .ref 17] (wXe 21 22 (iX 0)) (fun v u' => v = none ∧ u' = wXe 23 27 (iX 0)) := by
  refine gstart iX1_init tX1_init rfl rfl (fun K ca hK hca => ?_)
  have k2 : K 2 24 20 [some (.ref 21), some (.ref 1), some (.ref 6), some (.ref 17)] [] (wXe 23 24 (iX 0)) := by
    refine hK [] 60 _ _ _ _ _ _ ?_
    refine gsd_i (Or.inl (by decide)) ?_
    refine gsd_i (Or.inl (by decide)) ?_
    refine gsd_i (Or.inl (by decide)) ?_
    exact gsd_i ⟨Nat.le_refl _, Nat.le_refl _⟩ ⟨rfl, rfl⟩
  have k1 : K 1 12 12 [some (.ref 21), some (.ref 1), some (.ref 6), some (.ref 17)] [] (wXe 22 23 (iX 0)) := by
    refine hK [12, 20] 20 _ _ _ _ _ _ ?_
    refine gsd_i ⟨fun r hr => Or.inl (allb (by decide) r hr), by decide, by decide, by decide, by decide, by decide⟩ ?_
    rw [show (12 : Int32).toNatClampNeg = 12 from by decide, show gborn (wXe 22 23 (iX 0)) (.inr (0, 12)) = wXe 23 23 (iX 0) from wXe_new (by decide) rfl rfl]
    refine gsd_i (Or.inl (by decide)) ?_
    exact k2
  refine hK [12, 20] 20 _ _ _ _ _ _ ?_
  refine gsd_i ⟨fun r hr => Or.inl (allb (by decide) r hr), by decide, by decide, by decide, by decide, by decide⟩ ?_
  rw [show (12 : Int32).toNatClampNeg = 12 from by decide, show gborn (wXe 21 22 (iX 0)) (.inr (0, 12)) = wXe 22 22 (iX 0) from wXe_new (by decide) rfl rfl]
  refine gsd_i (Or.inl (by decide)) ?_
  exact k1
set_option maxRecDepth 20000 in
theorem i_1_24 : gCtr E 1 2 24 nX1_init [.ref 24, .ref 1, .ref 6, .ref 17] (wXe 24 28 (iX 0)) (fun v u' => v = none ∧ u' = wXe 26 33 (iX 0)) := by
  refine gstart iX1_init tX1_init rfl rfl (fun K ca hK hca => ?_)
  have k2 : K 2 24 20 [some (.ref 24), some (.ref 1), some (.ref 6), some (.ref 17)] [] (wXe 26 30 (iX 0)) := by
    refine hK [] 60 _ _ _ _ _ _ ?_
    refine gsd_i (Or.inl (by decide)) ?_
    refine gsd_i (Or.inl (by decide)) ?_
    refine gsd_i (Or.inl (by decide)) ?_
    exact gsd_i ⟨Nat.le_refl _, Nat.le_refl _⟩ ⟨rfl, rfl⟩
  have k1 : K 1 12 12 [some (.ref 24), some (.ref 1), some (.ref 6), some (.ref 17)] [] (wXe 25 29 (iX 0)) := by
    refine hK [12, 20] 20 _ _ _ _ _ _ ?_
    refine gsd_i ⟨fun r hr => Or.inl (allb (by decide) r hr), by decide, by decide, by decide, by decide, by decide⟩ ?_
    rw [show (12 : Int32).toNatClampNeg = 12 from by decide, show gborn (wXe 25 29 (iX 0)) (.inr (0, 12)) = wXe 26 29 (iX 0) from wXe_new (by decide) rfl rfl]
    refine gsd_i (Or.inl (by decide)) ?_
    exact k2
  refine hK [12, 20] 20 _ _ _ _ _ _ ?_
  refine gsd_i ⟨fun r hr => Or.inl (allb (by decide) r hr), by decide, by decide, by decide, by decide, by decide⟩ ?_
  rw [show (12 : Int32).toNatClampNeg = 12 from by decide, show gborn (wXe 24 28 (iX 0)) (.inr (0, 12)) = wXe 25 28 (iX 0) from wXe_new (by decide) rfl rfl]
  refine gsd_i (Or.inl (by decide)) ?_
  exact k1
set_option maxRecDepth 20000 in
theorem i_8_27 : gCtr E 1 0 0 nX8_init [.ref 27, .ref 6] (wXe 27 34 (iX 0)) (fun v u' => v = none ∧ u' = wXe 27 35 (iX 0)) := by
  refine gstart iX8_init tX8_init rfl rfl (fun K ca hK hca => ?_)
  refine hK [] 60 _ _ _ _ _ _ ?_
  refine gsd_i (Or.inl (by decide)) ?_
  exact ⟨rfl, rfl⟩
set_option maxRecDepth 20000 in
theorem i_0_28 : gCtr E 1 3 36 nX0_init [.ref 28] (wXe 28 36 (iX 0)) (fun v u' => v = none ∧ u' = wXe 31 39 (iX 0)) := by
  refine gstart iX0_init tX0_init rfl rfl (fun K ca hK hca => ?_)
  have k3 : K 3 36 28 [some (.ref 28)] [] (wXe 31 39 (iX 0)) := by
    refine hK [] 60 _ _ _ _ _ _ ?_
    exact gsd_i ⟨Nat.le_refl _, Nat.le_refl _⟩ ⟨rfl, rfl⟩
  have k2 : K 2 24 20 [some (.ref 28)] [] (wXe 30 38 (iX 0)) := by
    refine hK [12, 20, 28] 20 _ _ _ _ _ _ ?_
    refine gsd_i ⟨fun r hr => Or.inl (allb (by decide) r hr), by decide, by decide, by decide, by decide, by decide⟩ ?_
    rw [show (12 : Int32).toNatClampNeg = 12 from by decide, show gborn (wXe 30 38 (iX 0)) (.inr (2, 12)) = wXe 31 38 (iX 0) from wXe_new (by decide) rfl rfl]
    refine gsd_i (Or.inl (by decide)) ?_
    exact k3
  have k1 : K 1 12 12 [some (.ref 28)] [] (wXe 29 37 (iX 0)) := by
    refine hK [12, 20, 28] 20 _ _ _ _ _ _ ?_
    refine gsd_i ⟨fun r hr => Or.inl (allb (by decide) r hr), by decide, by decide, by decide, by decide, by decide⟩ ?_
    rw [show (12 : Int32).toNatClampNeg = 12 from by decide, show gborn (wXe 29 37 (iX 0)) (.inr (0, 12)) = wXe 30 37 (iX 0) from wXe_new (by decide) rfl rfl]
    refine gsd_i (Or.inl (by decide)) ?_
    exact k2
  refine hK [12, 20, 28] 20 _ _ _ _ _ _ ?_
  refine gsd_i ⟨fun r hr => Or.inl (allb (by decide) r hr), by decide, by decide, by decide, by decide, by decide⟩ ?_
  rw [show (12 : Int32).toNatClampNeg = 12 from by decide, show gborn (wXe 28 36 (iX 0)) (.inr (0, 12)) = wXe 29 36 (iX 0) from wXe_new (by decide) rfl rfl]
  refine gsd_i (Or.inl (by decide)) ?_
  exact k1
set_option maxRecDepth 20000 in
theorem i_4_33 : gCtr E 1 1 40 nX4_init [.ref 33] (wXe 33 41 (iX 0)) (fun v u' => v = none ∧ u' = wXe 34 42 (iX 1)) := by
  refine gstart iX4_init tX4_init rfl rfl (fun K ca hK hca => ?_)
  have k1 : K 1 40 12 [some (.ref 33)] [] (wXe 34 42 (iX 0)) := by
    refine hK [] 60 _ _ _ _ _ _ ?_
    exact gsd_i ⟨Nat.le_refl _, Nat.le_refl _⟩ ⟨rfl, rfl⟩
  refine hK [12] 20 _ _ _ _ _ _ ?_
  refine gsd_i ⟨fun r hr => Or.inl (allb (by decide) r hr), by decide, by decide, by decide, by decide, by decide⟩ ?_
  rw [show (40 : Int32).toNatClampNeg = 40 from by decide, show gborn (wXe 33 41 (iX 0)) (.inr (0, 40)) = wXe 34 41 (iX 0) from wXe_new (by decide) rfl rfl]
  refine gsd_i (Or.inl (by decide)) ?_
  exact k1
set_option maxRecDepth 20000 in
theorem i_4_35 : gCtr E 1 1 40 nX4_init [.ref 35] (wXe 35 43 (iX 1)) (fun v u' => v = none ∧ u' = wXe 36 44 (iX 2)) := by
  refine gstart iX4_init tX4_init rfl rfl (fun K ca hK hca => ?_)
  have k1 : K 1 40 12 [some (.ref 35)] [] (wXe 36 44 (iX 1)) := by
    refine hK [] 60 _ _ _ _ _ _ ?_
    exact gsd_i ⟨Nat.le_refl _, Nat.le_refl _⟩ ⟨rfl, rfl⟩
  refine hK [12] 20 _ _ _ _ _ _ ?_
  refine gsd_i ⟨fun r hr => Or.inl (allb (by decide) r hr), by decide, by decide, by decide, by decide, by decide⟩ ?_
  rw [show (40 : Int32).toNatClampNeg = 40 from by decide, show gborn (wXe 35 43 (iX 1)) (.inr (0, 40)) = wXe 36 43 (iX 1) from wXe_new (by decide) rfl rfl]
  refine gsd_i (Or.inl (by decide)) ?_
  exact k1
set_option maxRecDepth 20000 in
theorem i_4_37 : gCtr E 1 1 40 nX4_init [.ref 37] (wXe 37 45 (iX 2)) (fun v u' => v = none ∧ u' = wXe 38 46 (iX 3)) := by
  refine gstart iX4_init tX4_init rfl rfl (fun K ca hK hca => ?_)
  have k1 : K 1 40 12 [some (.ref 37)] [] (wXe 38 46 (iX 2)) := by
    refine hK [] 60 _ _ _ _ _ _ ?_
    exact gsd_i ⟨Nat.le_refl _, Nat.le_refl _⟩ ⟨rfl, rfl⟩
  refine hK [12] 20 _ _ _ _ _ _ ?_
  refine gsd_i ⟨fun r hr => Or.inl (allb (by decide) r hr), by decide, by decide, by decide, by decide, by decide⟩ ?_
  rw [show (40 : Int32).toNatClampNeg = 40 from by decide, show gborn (wXe 37 45 (iX 2)) (.inr (0, 40)) = wXe 38 45 (iX 2) from wXe_new (by decide) rfl rfl]
  refine gsd_i (Or.inl (by decide)) ?_
  exact k1
set_option maxRecDepth 20000 in
theorem i_4_39 : gCtr E 1 1 40 nX4_init [.ref 39] (wXe 39 47 (iX 3)) (fun v u' => v = none ∧ u' = wXe 40 48 (iX 4)) := by
  refine gstart iX4_init tX4_init rfl rfl (fun K ca hK hca => ?_)
  have k1 : K 1 40 12 [some (.ref 39)] [] (wXe 40 48 (iX 3)) := by
    refine hK [] 60 _ _ _ _ _ _ ?_
    exact gsd_i ⟨Nat.le_refl _, Nat.le_refl _⟩ ⟨rfl, rfl⟩
  refine hK [12] 20 _ _ _ _ _ _ ?_
  refine gsd_i ⟨fun r hr => Or.inl (allb (by decide) r hr), by decide, by decide, by decide, by decide, by decide⟩ ?_
  rw [show (40 : Int32).toNatClampNeg = 40 from by decide, show gborn (wXe 39 47 (iX 3)) (.inr (0, 40)) = wXe 40 47 (iX 3) from wXe_new (by decide) rfl rfl]
  refine gsd_i (Or.inl (by decide)) ?_
  exact k1
end
