-- what the rule comes to
theorem rstep_congr {nm nm' : Nat → Int32} (h : ∀ j, j < 6 → nm j = nm' j) (st : List Int32) (s : Int32) : rstep nm st s = rstep nm' st s := by
  unfold rstep
  by_cases p6 : -6 ≤ s
  · rw [if_pos p6, if_pos p6]
    by_cases h3 : s < 0
    · rw [if_pos h3, if_pos h3, h]
      have e : (-1 - s).toInt = -1 - s.toInt := by
        have hh : (-1 - s).toInt = ((-1 : Int32).toInt - s.toInt).bmod (2 ^ 32) := Int32.toInt_sub _ _
        rw [hh]
        simp only [Int32.lt_iff_toInt_lt, Int32.le_iff_toInt_le, Int32.reduceToInt] at h3 p6 ⊢
        rw [Int.bmod_eq_of_le (by omega) (by omega)]
      have hv : vp_in (-1 - s) 6 := by
        rw [vp_in_iff, e]
        simp only [Int32.lt_iff_toInt_lt, Int32.le_iff_toInt_le, Int32.reduceToInt] at h3 p6
        omega
      exact Nat.not_le.mp fun q => hv (Or.inr q)
    · rw [if_neg h3, if_neg h3]
  · rw [if_neg p6, if_neg p6]
theorem rsm_congr {ops nm nm' : Nat → Int32} (h : ∀ j, j < 6 → nm j = nm' j) : ∀ (m i : Nat) (st : List Int32), rsm ops nm i m st = rsm ops nm' i m st := by
  intro m
  induction m with
  | zero => intro i st; rfl
  | succ m ih => intro i st; show rsm ops nm (i + 1) m (rstep nm st (ops i)) = rsm ops nm' (i + 1) m (rstep nm' st (ops i)); rw [rstep_congr h, ih]
theorem evX_congr {I I' : Nat → Nat → Int32} {ln : Nat → Nat} {ru : Nat} {key : Int32} {nm nm' : Nat → Int32} (hI : ∀ k, 41 ≤ k → I' k = I k) (h : ∀ j, j < 6 → nm' j = nm j) : evX I' ln ru key nm' = evX I ln ru key nm := by
  unfold evX kfrom kto
  rw [hI _ (by omega), hI _ (by omega), rsm_congr h]
theorem ruleOk_congr {I I' : Nat → Nat → Int32} {ln : Nat → Nat} {ru : Nat} (hI : ∀ k, 41 ≤ k → I' k = I k) (h : ruleOk I ln ru) : ruleOk I' ln ru := by
  unfold ruleOk kfrom kto at *
  rw [hI _ (by omega), hI _ (by omega)]
  exact h
/-- the names' values for a rider with so much at a place in a tenth -/
def nmF (pw pl sl wd st lf : Int32) : Nat → Int32 := fun j => match j with
  | 0 => pw
  | 1 => pl
  | 2 => sl
  | 3 => wd
  | 4 => st
  | _ => lf
def svX (I : Nat → Nat → Int32) (ln : Nat → Nat) (ru : Nat) (key r st t p : Int32) : Int32 := wthn (if key = 2 then 1 else 0) (evX I ln ru key (nmF (I 10 r.toNatClampNeg) (shelt I t p) (I 2 t.toNatClampNeg) (I 3 t.toNatClampNeg) st (I 1 4 - t))) 99
theorem gset3 {α : Type} (I : Nat → Nat → α) {a b : Nat} (h : a ≠ b) (f g f' : Nat → α) : gset (gset (gset I a f) b g) a f' = gset (gset I a f') b g := by
  rw [gset_comm (gset I a f) (Ne.symm h) g f', gset_gset]
section
variable (E : gEnv) (c : Nat) (ln : Nat → Nat) (I : Nat → Nat → Int32) (L : Nat → Nat → Int64)
theorem c_comesTo (ru : Nat) (hru : ru < c) (hc : c ≤ 6) (hrl : I 17 6 = nI ru) (hok : ruleOk I ln ru) (key r st t p : Int32) (hk : key = 0 ∨ key = 1 ∨ key = 2) (hr : vp_in r 12) (ht : vp_in t 40) :
    gCtr E 4 0 0 nX3_comesTo [.ref 17, .int key, .int r, .int st, .int t, .int p] (wX c ln I L) (fun v u' => (∃ f g, u' = wX c ln (gset (gset I 19 f) 20 g) L) ∧ v = some (.int (svX I ln ru key r st t p))) := by
  refine gstart iX3_comesTo tX3_comesTo rfl rfl (fun K ca hK hca => ?_)
  refine hK [86] 100 _ _ _ _ _ _ ?_
  have v6 : ∀ (x : Int32), x = 0 ∨ x = 1 ∨ x = 2 ∨ x = 3 ∨ x = 4 ∨ x = 5 → vp_in x 6 := fun x h => by
    rcases h with rfl | rfl | rfl | rfl | rfl | rfl <;> (unfold vp_in; decide)
  refine gsd_i hr (gsd_i (v6 0 (by decide)) ?_)
  refine gcall0 hca (c_sheltered E c ln _ L t p ht) rfl ?_
  rintro w u' - ⟨rfl, rfl⟩
  refine gsd_i (v6 1 (by decide)) (gsd_i ht (gsd_i (v6 2 (by decide)) (gsd_i ht (gsd_i (v6 3 (by decide)) (gsd_i (v6 4 (by decide)) ?_)))))
  refine gcall0 hca (c_left E c ln _ L t) rfl ?_
  rintro w u' - ⟨rfl, rfl⟩
  refine gsd_i (v6 5 (by decide)) ?_
  -- the names as they lie now
  have main : ∀ (F : Nat → Int32), (∀ j, j < 6 → F j = nmF (I 10 r.toNatClampNeg) (shelt I t p) (I 2 t.toNatClampNeg) (I 3 t.toNatClampNeg) st (I 1 4 - t) j) → K 0 0 86 [some (.ref 17), some (.int key), some (.int r), some (.int st), some (.int t), some (.int p)] [] (wX c ln (gset I 19 F) L) := by
    intro F hF
    have hI : ∀ k, 41 ≤ k → gset I 19 F k = I k := fun k hk => gset_n (by omega)
    refine hK [] 60 _ _ _ _ _ _ ?_
    have fin : ∀ x : Int32, x = (if key = 2 then 1 else 0) → ∀ (g : Nat → Int32), ∃ f g', wX c ln (gset (gset I 19 F) 20 g) L = wX c ln (gset (gset I 19 f) 20 g') L := fun _ _ g => ⟨F, g, rfl⟩
    refine gbr_i (fun h2 => ?_) (fun h2 => ?_)
    · refine gcall0 hca (c_valueOf E c ln (gset I 19 F) L ru hru hc hrl (ruleOk_congr hI hok) key hk) rfl ?_
      rintro w u' - ⟨⟨g, rfl⟩, rfl⟩
      refine gcall0 hca (c_within E _ 1 (evX (gset I 19 F) ln ru key (gset I 19 F 19)) 99) rfl ?_
      rintro w u' - ⟨rfl, rfl⟩
      refine ⟨⟨F, g, rfl⟩, ?_⟩
      unfold svX
      rw [if_pos h2, evX_congr (I := I) hI (nm := nmF (I 10 r.toNatClampNeg) (shelt I t p) (I 2 t.toNatClampNeg) (I 3 t.toNatClampNeg) st (I 1 4 - t)) (fun j hj => by rw [gset_s]; exact hF j hj)]
    · refine gcall0 hca (c_valueOf E c ln (gset I 19 F) L ru hru hc hrl (ruleOk_congr hI hok) key hk) rfl ?_
      rintro w u' - ⟨⟨g, rfl⟩, rfl⟩
      refine gcall0 hca (c_within E _ 0 (evX (gset I 19 F) ln ru key (gset I 19 F 19)) 99) rfl ?_
      rintro w u' - ⟨rfl, rfl⟩
      refine ⟨⟨F, g, rfl⟩, ?_⟩
      unfold svX
      rw [if_neg h2, evX_congr (I := I) hI (nm := nmF (I 10 r.toNatClampNeg) (shelt I t p) (I 2 t.toNatClampNeg) (I 3 t.toNatClampNeg) st (I 1 4 - t)) (fun j hj => by rw [gset_s]; exact hF j hj)]
  have M := main (gupd (gupd (gupd (gupd (gupd (gupd (I 19) 0 (I 10 r.toNatClampNeg)) 1 (shelt I t p)) 2 (I 2 t.toNatClampNeg)) 3 (I 3 t.toNatClampNeg)) 4 st) 5 (I 1 4 - t)) (fun j hj => by
    match j, hj with
    | 0, _ => rfl
    | 1, _ => rfl
    | 2, _ => rfl
    | 3, _ => rfl
    | 4, _ => rfl
    | 5, _ => rfl)
  show K 0 0 86 [some (.ref 17), some (.int key), some (.int r), some (.int st), some (.int t), some (.int p)] [] (wX c ln _ L)
  dsimp only
  simp only [gset_s, gset_gset]
  exact M
end
