-- TEAM: cell 6; kind 7, house 8, number 9, power 10, store 11, filmed L 12; count I 6 6
theorem c_isPower (E : gEnv) (u : gS) (x : Int32) : gCtr E 1 0 0 nX9_isPower [.int x] u (fun v u' => u' = u ∧ v = some (.int (if 1 ≤ x ∧ x ≤ 99 then 1 else 0))) := by
  refine gstart iX9_isPower tX9_isPower rfl rfl (fun K ca hK hca => ?_)
  refine hK [] 80 _ _ _ _ _ _ ?_
  clear hK
  repeat' refine gbr_i (fun _ => ?_) (fun _ => ?_)
  all_goals clear hca
  all_goals first
    | exact gsd_i (Or.inl rfl) (gz0 (by (simp only [Int32.lt_iff_toInt_lt, Int32.le_iff_toInt_le, ← Int32.toInt_inj, Int32.reduceToInt] at *; omega)))
    | exact gsd_i (Or.inr rfl) (gz1 (by (simp only [Int32.lt_iff_toInt_lt, Int32.le_iff_toInt_le, ← Int32.toInt_inj, Int32.reduceToInt] at *; omega)))
theorem c_isStore (E : gEnv) (u : gS) (x : Int32) : gCtr E 1 0 0 nX9_isStore [.int x] u (fun v u' => u' = u ∧ v = some (.int (if 0 ≤ x ∧ x ≤ 999 then 1 else 0))) := by
  refine gstart iX9_isStore tX9_isStore rfl rfl (fun K ca hK hca => ?_)
  refine hK [] 80 _ _ _ _ _ _ ?_
  clear hK
  repeat' refine gbr_i (fun _ => ?_) (fun _ => ?_)
  all_goals clear hca
  all_goals first
    | exact gsd_i (Or.inl rfl) (gz0 (by (simp only [Int32.lt_iff_toInt_lt, Int32.le_iff_toInt_le, ← Int32.toInt_inj, Int32.reduceToInt] at *; omega)))
    | exact gsd_i (Or.inr rfl) (gz1 (by (simp only [Int32.lt_iff_toInt_lt, Int32.le_iff_toInt_le, ← Int32.toInt_inj, Int32.reduceToInt] at *; omega)))
theorem c_isSheet (E : gEnv) (u : gS) (x : Int32) : gCtr E 1 0 0 nX9_isSheet [.int x] u (fun v u' => u' = u ∧ v = some (.int (if 0 ≤ x ∧ x < 4 then 1 else 0))) := by
  refine gstart iX9_isSheet tX9_isSheet rfl rfl (fun K ca hK hca => ?_)
  refine hK [] 80 _ _ _ _ _ _ ?_
  clear hK
  repeat' refine gbr_i (fun _ => ?_) (fun _ => ?_)
  all_goals clear hca
  all_goals first
    | exact gsd_i (Or.inl rfl) (gz0 (by (simp only [Int32.lt_iff_toInt_lt, Int32.le_iff_toInt_le, ← Int32.toInt_inj, Int32.reduceToInt] at *; omega)))
    | exact gsd_i (Or.inr rfl) (gz1 (by (simp only [Int32.lt_iff_toInt_lt, Int32.le_iff_toInt_le, ← Int32.toInt_inj, Int32.reduceToInt] at *; omega)))
/-- max(least, min(v, most)) -/
def wthn (a v b : Int32) : Int32 := if a < (if b < v then b else v) then (if b < v then b else v) else a
theorem c_within (E : gEnv) (u : gS) (a v b : Int32) : gCtr E 1 0 0 nX9_within [.int a, .int v, .int b] u (fun w u' => u' = u ∧ w = some (.int (wthn a v b))) := by
  refine gstart iX9_within tX9_within rfl rfl (fun K ca hK hca => ?_)
  refine hK [] 80 _ _ _ _ _ _ ?_
  clear hK
  exact ⟨rfl, rfl⟩
def wk (k n st lf : Int32) : Int32 := if k = 1 then (if 20 < st then 1 else 0) else if k = 2 then (if 100 < st ∧ lf ≤ n then 1 else 0) else if k = 3 then 0 else if k = 4 then (if 100 < st ∧ ¬ lf ≤ n then 1 else 0) else if k = 5 then (if 20 < st ∨ 0 < st ∧ lf ≤ n then 1 else 0) else (if 100 < st then 1 else 0)
def sty (k n : Int32) : Int32 := if k = 1 then 1 + n / 3 else if k = 5 then 2 * (1 + n / 3) else 1
def edx (k n p : Int32) : Int32 := if k = 1 then (if 0 < p - n then p - n else 0) else if k = 2 then p + n else if k = 3 then p + n + 1 else if k = 4 then p + 3 * n else if k = 5 then (if 0 < p - n then p - n else 0) else p
def und (k a : Int32) : Int32 := if k = a ∨ a = 0 ∨ (k = 3 ∧ a = 2) ∨ (k = 5 ∧ a = 1) then 1 else 0
/-- the bits of those below n whose f is h -/
def hs (f : Nat → Int32) (h : Int32) : Nat → Int32
  | 0 => 0
  | n + 1 => if f n = h then hs f h n ||| (1 <<< (nI n &&& 31)) else hs f h n
section
variable (E : gEnv) (c : Nat) (ln : Nat → Nat) (I : Nat → Nat → Int32) (L : Nat → Nat → Int64)
theorem c_thas (t : Int32) : gCtr E 1 0 0 nX6_has [.ref 6, .int t] (wX c ln I L) (fun v u' => u' = (wX c ln I L) ∧ v = some (.int (if 0 ≤ t ∧ t < I 6 6 then 1 else 0))) := by
  refine gstart iX6_has tX6_has rfl rfl (fun K ca hK hca => ?_)
  refine hK [] 80 _ _ _ _ _ _ ?_
  clear hK
  repeat' refine gbr_i (fun _ => ?_) (fun _ => ?_)
  all_goals clear hca
  all_goals first
    | exact gsd_i (Or.inl rfl) (gz0 (by (simp only [Int32.lt_iff_toInt_lt, Int32.le_iff_toInt_le, ← Int32.toInt_inj, Int32.reduceToInt] at *; omega)))
    | exact gsd_i (Or.inr rfl) (gz1 (by (simp only [Int32.lt_iff_toInt_lt, Int32.le_iff_toInt_le, ← Int32.toInt_inj, Int32.reduceToInt] at *; omega)))
theorem c_isGroup (g : Int32) : gCtr E 1 0 0 nX6_isGroup [.ref 6, .int g] (wX c ln I L) (fun v u' => u' = (wX c ln I L) ∧ v = some (.int (if 0 < g ∧ g >>> (I 6 6 &&& 31) = 0 then 1 else 0))) := by
  refine gstart iX6_isGroup tX6_isGroup rfl rfl (fun K ca hK hca => ?_)
  refine hK [] 80 _ _ _ _ _ _ ?_
  clear hK
  repeat' refine gbr_i (fun _ => ?_) (fun _ => ?_)
  all_goals clear hca
  all_goals first
    | exact gsd_i (Or.inl rfl) (gz0 (by (simp only [Int32.lt_iff_toInt_lt, Int32.le_iff_toInt_le, ← Int32.toInt_inj, Int32.reduceToInt] at *; omega)))
    | exact gsd_i (Or.inr rfl) (gz1 (by (simp only [Int32.lt_iff_toInt_lt, Int32.le_iff_toInt_le, ← Int32.toInt_inj, Int32.reduceToInt] at *; omega)))
theorem c_works (r st lf : Int32) (hr : vp_in r 12) : gCtr E 1 0 0 nX6_works [.ref 6, .int r, .int st, .int lf] (wX c ln I L) (fun v u' => u' = (wX c ln I L) ∧ v = some (.int (wk (I 7 r.toNatClampNeg) (I 9 r.toNatClampNeg) st lf))) := by
  refine gstart iX6_works tX6_works rfl rfl (fun K ca hK hca => ?_)
  refine hK [] 100 _ _ _ _ _ _ ?_
  clear hK
  refine gsd_i hr ?_
  clear hca
  refine gbr_i (fun _ => ?_) (fun _ => ?_)
  all_goals refine gsd_i hr ?_
  all_goals repeat' refine gbr_i (fun _ => ?_) (fun _ => ?_)
  all_goals first
    | exact gsd_i (Or.inl rfl) ⟨rfl, congrArg (fun z => some (Value.int z)) (by simp_all [wk])⟩
    | exact gsd_i (Or.inr rfl) ⟨rfl, congrArg (fun z => some (Value.int z)) (by simp_all [wk])⟩
    | (exfalso; simp_all; done)
theorem c_stays (r : Int32) (hr : vp_in r 12) : gCtr E 1 0 0 nX6_stays [.ref 6, .int r] (wX c ln I L) (fun v u' => u' = (wX c ln I L) ∧ v = some (.int (sty (I 7 r.toNatClampNeg) (I 9 r.toNatClampNeg)))) := by
  refine gstart iX6_stays tX6_stays rfl rfl (fun K ca hK hca => ?_)
  refine hK [] 80 _ _ _ _ _ _ ?_
  clear hK
  refine gsd_i hr (gsd_i (by decide) (gsd_i hr ?_))
  repeat' refine gbr_i (fun _ => ?_) (fun _ => ?_)
  all_goals exact ⟨rfl, congrArg (fun z => some (Value.int z)) (by simp_all [sty])⟩
theorem c_ends (r : Int32) (hr : vp_in r 12) : gCtr E 1 0 0 nX6_ends [.ref 6, .int r] (wX c ln I L) (fun v u' => u' = (wX c ln I L) ∧ v = some (.int (edx (I 7 r.toNatClampNeg) (I 9 r.toNatClampNeg) (I 10 r.toNatClampNeg)))) := by
  refine gstart iX6_ends tX6_ends rfl rfl (fun K ca hK hca => ?_)
  refine hK [] 80 _ _ _ _ _ _ ?_
  clear hK
  refine gsd_i hr (gsd_i hr ?_)
  repeat' first
    | refine gbr_i (fun _ => ?_) (fun _ => ?_)
    | refine gsd_i hr ?_
    | fail
  all_goals exact ⟨rfl, congrArg (fun z => some (Value.int z)) (by simp_all [edx])⟩
/-- Team.add -/
def tadd (I : Nat → Nat → Int32) (k h p s : Int32) : Int32 × (Nat → Nat → Int32) :=
  if 0 ≤ k ∧ k ≤ 5 ∧ 0 ≤ h ∧ h ≤ 39 ∧ 1 ≤ p ∧ p ≤ 99 ∧ 0 ≤ s ∧ s ≤ 999 then
    if 12 ≤ I 6 6 then (-4, I) else (I 6 6, gset (gset (gset (gset (gset (gset I 7 (gupd (I 7) (I 6 6).toNatClampNeg k)) 8 (gupd (I 8) (I 6 6).toNatClampNeg (h / 10))) 9 (gupd (I 9) (I 6 6).toNatClampNeg (h - h / 10 * 10))) 10 (gupd (I 10) (I 6 6).toNatClampNeg p)) 11 (gupd (I 11) (I 6 6).toNatClampNeg s)) 6 (gupd (I 6) 6 (I 6 6 + 1)))
  else (-2, I)
theorem c_tadd (k h p s : Int32) (hv : ¬ 12 ≤ I 6 6 → vp_in (I 6 6) 12) : gCtr E 2 0 0 nX6_add [.ref 6, .int k, .int h, .int p, .int s] (wX c ln I L) (fun v u' => u' = (wX c ln (tadd I k h p s).2 L) ∧ v = some (.int (tadd I k h p s).1)) := by
  refine gstart iX6_add tX6_add rfl rfl (fun K ca hK hca => ?_)
  refine hK [] 120 _ _ _ _ _ _ ?_
  clear hK
  have bad : ¬ (0 ≤ k ∧ k ≤ 5 ∧ 0 ≤ h ∧ h ≤ 39 ∧ 1 ≤ p ∧ p ≤ 99 ∧ 0 ≤ s ∧ s ≤ 999) → (wX c ln I L) = (wX c ln (tadd I k h p s).2 L) ∧ some (Value.int (-2)) = some (.int (tadd I k h p s).1) := fun h => by
    unfold tadd; rw [if_neg h]; exact ⟨rfl, rfl⟩
  refine gbr_i (fun h1 => bad (by clear bad hca hv; (simp only [Int32.lt_iff_toInt_lt, Int32.le_iff_toInt_le, ← Int32.toInt_inj, Int32.reduceToInt] at *; omega))) (fun h1 => ?_)
  refine gbr_i (fun h2 => bad (by clear bad hca hv; (simp only [Int32.lt_iff_toInt_lt, Int32.le_iff_toInt_le, ← Int32.toInt_inj, Int32.reduceToInt] at *; omega))) (fun h2 => ?_)
  refine gbr_i (fun h3 => bad (by clear bad hca hv; (simp only [Int32.lt_iff_toInt_lt, Int32.le_iff_toInt_le, ← Int32.toInt_inj, Int32.reduceToInt] at *; omega))) (fun h3 => ?_)
  refine gbr_i (fun h4 => bad (by clear bad hca hv; (simp only [Int32.lt_iff_toInt_lt, Int32.le_iff_toInt_le, ← Int32.toInt_inj, Int32.reduceToInt] at *; omega))) (fun h4 => ?_)
  refine gcall0 hca (c_isPower E (wX c ln I L) p) rfl ?_
  rintro w u' - ⟨rfl, rfl⟩
  by_cases hp : 1 ≤ p ∧ p ≤ 99
  · rw [if_pos hp]
    refine gbr_i (fun z => absurd z (by decide)) (fun _ => ?_)
    refine gcall0 hca (c_isStore E (wX c ln I L) s) rfl ?_
    rintro w u' - ⟨rfl, rfl⟩
    by_cases hs : 0 ≤ s ∧ s ≤ 999
    · rw [if_pos hs]
      refine gbr_i (fun z => absurd z (by decide)) (fun _ => ?_)
      have good : 0 ≤ k ∧ k ≤ 5 ∧ 0 ≤ h ∧ h ≤ 39 ∧ 1 ≤ p ∧ p ≤ 99 ∧ 0 ≤ s ∧ s ≤ 999 := by clear bad hca hv; (simp only [Int32.lt_iff_toInt_lt, Int32.le_iff_toInt_le, ← Int32.toInt_inj, Int32.reduceToInt] at *; omega)
      unfold tadd
      simp only [if_pos good]
      refine gbr_i (fun h7 => ?_) (fun h7 => ?_)
      · have h8 : ¬ 12 ≤ I 6 6 := by clear bad hca hv good; (simp only [Int32.lt_iff_toInt_lt, Int32.le_iff_toInt_le, ← Int32.toInt_inj, Int32.reduceToInt] at *; omega)
        rw [if_neg h8]
        have hv := hv h8
        exact gsd_i hv (gsd_i (by decide) (gsd_i hv (gsd_i (by decide) (gsd_i hv (gsd_i hv (gsd_i hv ⟨rfl, rfl⟩))))))
      · have h8 : 12 ≤ I 6 6 := by clear bad hca hv good; (simp only [Int32.lt_iff_toInt_lt, Int32.le_iff_toInt_le, ← Int32.toInt_inj, Int32.reduceToInt] at *; omega)
        rw [if_pos h8]
        exact ⟨rfl, rfl⟩
    · rw [if_neg hs]
      exact gbr_i (fun _ => bad (fun z => hs z.2.2.2.2.2.2)) (fun z => absurd rfl z)
  · rw [if_neg hp]
    exact gbr_i (fun _ => bad (fun z => hp ⟨z.2.2.2.2.1, z.2.2.2.2.2.1⟩)) (fun z => absurd rfl z)
theorem c_ofHouse (h : Int32) (nr : Nat) (hnr : nr ≤ 12) (hc : I 6 6 = nI nr) : gCtr E 1 0 0 nX6_ofHouse [.ref 6, .int h] (wX c ln I L) (fun v u' => u' = (wX c ln I L) ∧ v = some (.int (hs (I 8) h nr))) := by
  refine gstart iX6_ofHouse tX6_ofHouse rfl rfl (fun K ca hK hca => ?_)
  have loop : ∀ m i, i + m = nr → K 0 0 4 [some (.ref 6), some (.int h), some (.int (hs (I 8) h i)), some (.int (nI i))] [] (wX c ln I L) := by
    intro m
    induction m with
    | zero =>
      intro i hi
      refine hK [4] 40 _ _ _ _ _ _ ?_
      refine gbr_i (fun _ => ?_) (fun z => ?_)
      · have hin : i = nr := by omega
        subst hin
        exact ⟨rfl, rfl⟩
      · exact absurd (by show I 6 6 ≤ nI i; rw [hc]; exact nI_le (by omega) (by omega)) z
    | succ m ih =>
      intro i hi
      refine hK [4] 40 _ _ _ _ _ _ ?_
      refine gbr_i (fun z => ?_) (fun _ => ?_)
      · exact absurd (by rw [← hc]; exact z) (nI_ge (a := i) (b := nr) (by omega) (by omega))
      · have hcl : (nI i).toNatClampNeg = i := nI_clamp (by omega)
        refine gsd_i (vp_in_nI (by omega) (by omega)) (gbr_i (fun he => ?_) (fun he => ?_))
        · have := ih (i + 1) (by omega)
          rw [hcl] at he
          rw [← nI_1, show hs (I 8) h (i + 1) = hs (I 8) h i ||| (1 <<< (nI i &&& 31)) from if_pos he] at this
          exact this
        · have := ih (i + 1) (by omega)
          rw [hcl] at he
          rw [← nI_1, show hs (I 8) h (i + 1) = hs (I 8) h i from if_neg he] at this
          exact this
  refine hK [4] 40 _ _ _ _ _ _ ?_
  exact loop nr 0 (by omega)
end
