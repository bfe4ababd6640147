-- public methods of the class that need no ride and no text
theorem gbr_p {P : Prop} {_ : Decidable P} {A B : Prop} (h1 : ¬ P → A) (h2 : P → B) : gbr ((if P then (1 : Int32) else 0) = 0) A B := by
  by_cases h : P
  · exact ⟨fun z => by rw [if_pos h] at z; exact absurd z (by decide), fun _ => h2 h⟩
  · exact ⟨fun _ => h1 h, fun z => absurd (if_neg h) z⟩
theorem gin_of {r : Int32} {n N : Nat} (h : 0 ≤ r ∧ r < nI n) (hn : n ≤ N) (hN : N < 2 ^ 31) : vp_in r N := by
  rw [vp_in_iff]
  have h1 := h.1
  have h2 := h.2
  rw [Int32.le_iff_toInt_le] at h1
  rw [Int32.lt_iff_toInt_lt, nI_toInt (by omega)] at h2
  simp only [Int32.reduceToInt] at h1
  omega
section
variable (E : gEnv) (c : Nat) (ln : Nat → Nat) (I : Nat → Nat → Int32) (L : Nat → Nat → Int64)
theorem p_tenth (a b z : Int32) (h : ¬ 40 ≤ I 1 4 → vp_in (I 1 4) 40) : gCtr E 3 0 0 nX9_tenth [.ref 0, .int a, .int b, .int z] (wX c ln I L) (fun v u' => u' = (wX c ln (radd I a b z).2 L) ∧ v = some (.int (radd I a b z).1)) := by
  refine gstart iX9_tenth tX9_tenth rfl rfl (fun K ca hK hca => ?_)
  refine hK [] 80 _ _ _ _ _ _ ?_
  clear hK
  refine gcall0 hca (c_radd E c ln I L a b z h) rfl ?_
  rintro w u' - ⟨rfl, rfl⟩
  exact ⟨rfl, rfl⟩
theorem p_rider (k h p s : Int32) (hv : ¬ 12 ≤ I 6 6 → vp_in (I 6 6) 12) : gCtr E 3 0 0 nX9_rider [.ref 0, .int k, .int h, .int p, .int s] (wX c ln I L) (fun v u' => u' = (wX c ln (tadd I k h p s).2 L) ∧ v = some (.int (tadd I k h p s).1)) := by
  refine gstart iX9_rider tX9_rider rfl rfl (fun K ca hK hca => ?_)
  refine hK [] 80 _ _ _ _ _ _ ?_
  clear hK
  refine gcall0 hca (c_tadd E c ln I L k h p s hv) rfl ?_
  rintro w u' - ⟨rfl, rfl⟩
  exact ⟨rfl, rfl⟩
def setX (I : Nat → Nat → Int32) (r what v : Int32) : Int32 × (Nat → Nat → Int32) :=
  if (0 ≤ r ∧ r < I 6 6) ∧ what = 0 ∧ 1 ≤ v ∧ v ≤ 99 then (I 10 r.toNatClampNeg, gset I 10 (gupd (I 10) r.toNatClampNeg v))
  else if (0 ≤ r ∧ r < I 6 6) ∧ what = 1 ∧ 0 ≤ v ∧ v ≤ 999 then (I 11 r.toNatClampNeg, gset I 11 (gupd (I 11) r.toNatClampNeg v))
  else (-2, I)
theorem p_set (r what v : Int32) (nr : Nat) (hnr : nr ≤ 12) (hc : I 6 6 = nI nr) : gCtr E 3 0 0 nX9_set [.ref 0, .int r, .int what, .int v] (wX c ln I L) (fun w u' => u' = (wX c ln (setX I r what v).2 L) ∧ w = some (.int (setX I r what v).1)) := by
  refine gstart iX9_set tX9_set rfl rfl (fun K ca hK hca => ?_)
  refine hK [] 80 _ _ _ _ _ _ ?_
  clear hK
  have bad : ¬ ((0 ≤ r ∧ r < I 6 6) ∧ what = 0 ∧ 1 ≤ v ∧ v ≤ 99) → ¬ ((0 ≤ r ∧ r < I 6 6) ∧ what = 1 ∧ 0 ≤ v ∧ v ≤ 999) → (wX c ln I L) = (wX c ln (setX I r what v).2 L) ∧ some (Value.int (-2)) = some (.int (setX I r what v).1) := fun h h2 => by
    unfold setX; rw [if_neg h, if_neg h2]; exact ⟨rfl, rfl⟩
  refine gcall0 hca (c_thas E c ln I L r) rfl ?_
  rintro w u' - ⟨rfl, rfl⟩
  refine gbr_p (fun h1 => bad (fun z => h1 z.1) (fun z => h1 z.1)) (fun h1 => ?_)
  have hv : vp_in r 12 := gin_of (by rw [← hc]; exact h1) hnr (by omega)
  refine gbr_i (fun h2 => bad (fun z => ?_) (fun z => ?_)) (fun h2 => ?_)
  · rw [z.2.1] at h2; exact absurd h2 (by decide)
  · rw [z.2.1] at h2; exact absurd h2 (by decide)
  refine gbr_i (fun h3 => ?_) (fun h3 => bad (fun z => h3 (by rw [z.2.1]; decide)) (fun z => h3 (by rw [z.2.1]; decide)))
  refine gbr_i (fun h4 => ?_) (fun h4 => ?_)
  · subst h4
    refine gcall0 hca (c_isPower E (wX c ln I L) v) rfl ?_
    rintro w u' - ⟨rfl, rfl⟩
    refine gbr_p (fun h5 => bad (fun z => h5 z.2.2) (fun z => absurd z.2.1 (by decide))) (fun h5 => ?_)
    refine gbr_i (fun _ => ?_) (fun z => absurd rfl z)
    unfold setX
    rw [if_pos ⟨h1, rfl, h5⟩]
    exact gsd_i hv (gsd_i hv ⟨rfl, rfl⟩)
  · refine gcall0 hca (c_isStore E (wX c ln I L) v) rfl ?_
    rintro w u' - ⟨rfl, rfl⟩
    refine gbr_p (fun h5 => bad (fun z => h4 z.2.1) (fun z => h5 z.2.2)) (fun h5 => ?_)
    refine gbr_i (fun z => absurd z h4) (fun _ => ?_)
    have hw : what = 1 := by clear bad hca hc; (simp only [Int32.lt_iff_toInt_lt, Int32.le_iff_toInt_le, ← Int32.toInt_inj, Int32.reduceToInt] at *; omega)
    unfold setX
    rw [if_neg (fun z => h4 z.2.1), if_pos ⟨h1, hw, h5⟩]
    exact gsd_i hv (gsd_i hv ⟨rfl, rfl⟩)
def toldX (I : Nat → Nat → Int32) (r lf what : Int32) : Int32 :=
  if (0 ≤ r ∧ r < I 6 6) ∧ 0 ≤ lf ∧ lf ≤ 40 then
    if what = 0 then I 7 r.toNatClampNeg else if what = 1 then I 8 r.toNatClampNeg else if what = 2 then I 10 r.toNatClampNeg else if what = 3 then I 11 r.toNatClampNeg else if what = 4 then I 9 r.toNatClampNeg
    else if what = 5 then (if wk (I 7 r.toNatClampNeg) (I 9 r.toNatClampNeg) (I 11 r.toNatClampNeg) lf = 0 then 0 else 1) else if what = 6 then sty (I 7 r.toNatClampNeg) (I 9 r.toNatClampNeg) else if what = 7 then edx (I 7 r.toNatClampNeg) (I 9 r.toNatClampNeg) (I 10 r.toNatClampNeg) else -2
  else -2
theorem p_told (r lf what : Int32) (nr : Nat) (hnr : nr ≤ 12) (hc : I 6 6 = nI nr) : gCtr E 3 0 0 nX9_told [.ref 0, .int r, .int lf, .int what] (wX c ln I L) (fun w u' => u' = (wX c ln I L) ∧ w = some (.int (toldX I r lf what))) := by
  refine gstart iX9_told tX9_told rfl rfl (fun K ca hK hca => ?_)
  refine hK [] 80 _ _ _ _ _ _ ?_
  clear hK
  have bad : ¬ ((0 ≤ r ∧ r < I 6 6) ∧ 0 ≤ lf ∧ lf ≤ 40) → (wX c ln I L) = (wX c ln I L) ∧ some (Value.int (-2)) = some (.int (toldX I r lf what)) := fun h => by
    unfold toldX; rw [if_neg h]; exact ⟨rfl, rfl⟩
  refine gcall0 hca (c_thas E c ln I L r) rfl ?_
  rintro w u' - ⟨rfl, rfl⟩
  refine gbr_p (fun h1 => bad (fun z => h1 z.1)) (fun h1 => ?_)
  have hv : vp_in r 12 := gin_of (by rw [← hc]; exact h1) hnr (by omega)
  refine gbr_i (fun h2 => bad (by clear bad hca hc hv; (simp only [Int32.lt_iff_toInt_lt, Int32.le_iff_toInt_le, ← Int32.toInt_inj, Int32.reduceToInt] at *; omega))) (fun h2 => ?_)
  refine gbr_i (fun h3 => ?_) (fun h3 => bad (by clear bad hca hc hv; (simp only [Int32.lt_iff_toInt_lt, Int32.le_iff_toInt_le, ← Int32.toInt_inj, Int32.reduceToInt] at *; omega)))
  have good : (0 ≤ r ∧ r < I 6 6) ∧ 0 ≤ lf ∧ lf ≤ 40 := ⟨h1, by clear bad hca hc hv; (simp only [Int32.lt_iff_toInt_lt, Int32.le_iff_toInt_le, ← Int32.toInt_inj, Int32.reduceToInt] at *; omega)⟩
  unfold toldX
  simp only [if_pos good]
  refine gbr_i (fun e => ?_) (fun e0 => ?_)
  · rw [if_pos e]; exact gsd_i hv ⟨rfl, rfl⟩
  rw [if_neg e0]
  refine gbr_i (fun e => ?_) (fun e1 => ?_)
  · rw [if_pos e]; exact gsd_i hv ⟨rfl, rfl⟩
  rw [if_neg e1]
  refine gbr_i (fun e => ?_) (fun e2 => ?_)
  · rw [if_pos e]; exact gsd_i hv ⟨rfl, rfl⟩
  rw [if_neg e2]
  refine gbr_i (fun e => ?_) (fun e3 => ?_)
  · rw [if_pos e]; exact gsd_i hv ⟨rfl, rfl⟩
  rw [if_neg e3]
  refine gbr_i (fun e => ?_) (fun e4 => ?_)
  · rw [if_pos e]; exact gsd_i hv ⟨rfl, rfl⟩
  rw [if_neg e4]
  refine gbr_i (fun e => ?_) (fun e5 => ?_)
  · rw [if_pos e]
    refine gsd_i hv (gcall0 hca (c_works E c ln I L r (I 11 r.toNatClampNeg) lf hv) rfl ?_)
    rintro w u' - ⟨rfl, rfl⟩
    refine gbr_i (fun e => ?_) (fun e => ?_)
    · rw [if_pos e]; exact ⟨rfl, rfl⟩
    · rw [if_neg e]; exact ⟨rfl, rfl⟩
  rw [if_neg e5]
  refine gbr_i (fun e => ?_) (fun e6 => ?_)
  · rw [if_pos e]
    refine gcall0 hca (c_stays E c ln I L r hv) rfl ?_
    rintro w u' - ⟨rfl, rfl⟩
    exact ⟨rfl, rfl⟩
  rw [if_neg e6]
  refine gbr_i (fun e => ?_) (fun e7 => ?_)
  · rw [if_pos e]
    refine gcall0 hca (c_ends E c ln I L r hv) rfl ?_
    rintro w u' - ⟨rfl, rfl⟩
    exact ⟨rfl, rfl⟩
  rw [if_neg e7]
  exact ⟨rfl, rfl⟩
theorem p_house (h : Int32) (nr : Nat) (hnr : nr ≤ 12) (hc : I 6 6 = nI nr) : gCtr E 3 0 0 nX9_house [.ref 0, .int h] (wX c ln I L) (fun w u' => u' = (wX c ln I L) ∧ w = some (.int (if 0 ≤ h ∧ h ≤ 3 then hs (I 8) h nr else -2))) := by
  refine gstart iX9_house tX9_house rfl rfl (fun K ca hK hca => ?_)
  refine hK [] 80 _ _ _ _ _ _ ?_
  clear hK
  refine gbr_i (fun h1 => ?_) (fun h1 => ?_)
  · rw [if_neg (by clear hca hc; (simp only [Int32.lt_iff_toInt_lt, Int32.le_iff_toInt_le, ← Int32.toInt_inj, Int32.reduceToInt] at *; omega))]; exact ⟨rfl, rfl⟩
  refine gbr_i (fun h2 => ?_) (fun h2 => ?_)
  · rw [if_pos (by clear hca hc; (simp only [Int32.lt_iff_toInt_lt, Int32.le_iff_toInt_le, ← Int32.toInt_inj, Int32.reduceToInt] at *; omega))]
    refine gcall0 hca (c_ofHouse E c ln I L h nr hnr hc) rfl ?_
    rintro w u' - ⟨rfl, rfl⟩
    exact ⟨rfl, rfl⟩
  · rw [if_neg (by clear hca hc; (simp only [Int32.lt_iff_toInt_lt, Int32.le_iff_toInt_le, ← Int32.toInt_inj, Int32.reduceToInt] at *; omega))]; exact ⟨rfl, rfl⟩
def forceX (I : Nat → Nat → Int32) (t : Int32) : Int32 × (Nat → Nat → Int32) := if 0 ≤ t ∧ t < I 17 5 then (I 17 6, gset I 17 (gupd (I 17) 6 t)) else (-2, I)
theorem p_force (t : Int32) : gCtr E 3 0 0 nX9_force [.ref 0, .int t] (wX c ln I L) (fun w u' => u' = (wX c ln (forceX I t).2 L) ∧ w = some (.int (forceX I t).1)) := by
  refine gstart iX9_force tX9_force rfl rfl (fun K ca hK hca => ?_)
  refine hK [] 80 _ _ _ _ _ _ ?_
  clear hK
  unfold forceX
  refine gbr_i (fun h1 => ?_) (fun h1 => ?_)
  · rw [if_neg (by clear hca; (simp only [Int32.lt_iff_toInt_lt, Int32.le_iff_toInt_le, ← Int32.toInt_inj, Int32.reduceToInt] at *; omega))]; exact ⟨rfl, rfl⟩
  refine gbr_i (fun h2 => ?_) (fun h2 => ?_)
  · rw [if_pos (by clear hca; (simp only [Int32.lt_iff_toInt_lt, Int32.le_iff_toInt_le, ← Int32.toInt_inj, Int32.reduceToInt] at *; omega))]; exact ⟨rfl, rfl⟩
  · rw [if_neg (by clear hca; (simp only [Int32.lt_iff_toInt_lt, Int32.le_iff_toInt_le, ← Int32.toInt_inj, Int32.reduceToInt] at *; omega))]; exact ⟨rfl, rfl⟩
/-- whether a rider was filmed in a tenth -/
def fwas (L : Nat → Nat → Int64) (r t : Int32) : Int32 := ((L 12 r.toNatClampNeg >>> (t.toInt64 &&& 63)) &&& 1).toInt32
def filmX (I : Nat → Nat → Int32) (L : Nat → Nat → Int64) (r t is : Int32) : Int32 × (Nat → Nat → Int64) :=
  if (0 ≤ r ∧ r < I 6 6) ∧ (0 ≤ t ∧ t < I 1 4) ∧ 0 ≤ is ∧ is ≤ 1 then (fwas L r t, gset L 12 (gupd (L 12) r.toNatClampNeg (L 12 r.toNatClampNeg ^^^ ((fwas L r t ^^^ is).toInt64 <<< (t.toInt64 &&& 63)))))
  else (-2, L)
theorem p_film (r t is : Int32) (nr : Nat) (hnr : nr ≤ 12) (hc : I 6 6 = nI nr) : gCtr E 3 0 0 nX9_film [.ref 0, .int r, .int t, .int is] (wX c ln I L) (fun w u' => u' = (wX c ln I (filmX I L r t is).2) ∧ w = some (.int (filmX I L r t is).1)) := by
  refine gstart iX9_film tX9_film rfl rfl (fun K ca hK hca => ?_)
  refine hK [] 80 _ _ _ _ _ _ ?_
  clear hK
  unfold filmX
  refine gcall0 hca (c_thas E c ln I L r) rfl ?_
  rintro w u' - ⟨rfl, rfl⟩
  refine gbr_p (fun h1 => ?_) (fun h1 => ?_)
  · rw [if_neg (fun z => h1 z.1)]; exact ⟨rfl, rfl⟩
  have hv : vp_in r 12 := gin_of (by rw [← hc]; exact h1) hnr (by omega)
  refine gcall0 hca (c_has E c ln I L t) rfl ?_
  rintro w u' - ⟨rfl, rfl⟩
  refine gbr_p (fun h2 => ?_) (fun h2 => ?_)
  · rw [if_neg (fun z => h2 z.2.1)]; exact ⟨rfl, rfl⟩
  refine gbr_i (fun h3 => ?_) (fun h3 => ?_)
  · rw [if_neg (by clear hca hc hv; (simp only [Int32.lt_iff_toInt_lt, Int32.le_iff_toInt_le, ← Int32.toInt_inj, Int32.reduceToInt] at *; omega))]; exact ⟨rfl, rfl⟩
  refine gbr_i (fun h4 => ?_) (fun h4 => ?_)
  · rw [if_pos ⟨h1, h2, by clear hca hc hv; (simp only [Int32.lt_iff_toInt_lt, Int32.le_iff_toInt_le, ← Int32.toInt_inj, Int32.reduceToInt] at *; omega)⟩]
    exact gsd_i hv (gsd_i hv (gsd_i hv ⟨rfl, rfl⟩))
  · rw [if_neg (by clear hca hc hv; (simp only [Int32.lt_iff_toInt_lt, Int32.le_iff_toInt_le, ← Int32.toInt_inj, Int32.reduceToInt] at *; omega))]; exact ⟨rfl, rfl⟩
def grp (I : Nat → Nat → Int32) (g : Int32) : Prop := 0 < g ∧ g >>> (I 6 6 &&& 31) = 0
theorem p_split (g t : Int32) (nt : Nat) (hnt : nt ≤ 40) (hct : I 1 4 = nI nt) : gCtr E 3 0 0 nX9_split [.ref 0, .int g, .int t] (wX c ln I L) (fun w u' => u' = (wX c ln I L) ∧ w = some (.int (if (0 < g ∧ g >>> (I 6 6 &&& 31) = 0) ∧ (0 ≤ t ∧ t < I 1 4) then (if I 4 t.toNatClampNeg = 1 then (if 0 < ibc g - I 5 t.toNatClampNeg then ibc g - I 5 t.toNatClampNeg else 0) else 0) else -2))) := by
  refine gstart iX9_split tX9_split rfl rfl (fun K ca hK hca => ?_)
  refine hK [] 80 _ _ _ _ _ _ ?_
  clear hK
  refine gcall0 hca (c_isGroup E c ln I L g) rfl ?_
  rintro w u' - ⟨rfl, rfl⟩
  refine gbr_p (fun h1 => ?_) (fun h1 => ?_)
  · rw [if_neg (fun z => h1 z.1)]; exact ⟨rfl, rfl⟩
  refine gcall0 hca (c_has E c ln I L t) rfl ?_
  rintro w u' - ⟨rfl, rfl⟩
  refine gbr_p (fun h2 => ?_) (fun h2 => ?_)
  · rw [if_neg (fun z => h2 z.2)]; exact ⟨rfl, rfl⟩
  have hv : vp_in t 40 := gin_of (by rw [← hct]; exact h2) hnt (by omega)
  rw [if_pos ⟨h1, h2⟩]
  refine gsd_i hv (gbr_i (fun h3 => ?_) (fun h3 => ?_))
  · rw [if_pos h3]
    refine gcall0 hca (c_ibc E (wX c ln I L) g) rfl ?_
    rintro w u' - ⟨rfl, rfl⟩
    exact gsd_i hv ⟨rfl, rfl⟩
  · rw [if_neg h3]; exact ⟨rfl, rfl⟩
end
