-- two memories that agree answer alike
def agX (I V : Nat → Nat → Int32) : Prop := (I 1 4 = V 1 4) ∧ (I 6 6 = V 6 6) ∧ (I 2 = V 2) ∧ (I 3 = V 3) ∧ (I 4 = V 4) ∧ (I 5 = V 5) ∧ (I 7 = V 7) ∧ (I 8 = V 8) ∧ (I 9 = V 9) ∧ (I 10 = V 10) ∧ (I 11 = V 11)
theorem agX.nt {I V : Nat → Nat → Int32} (h : agX I V) : I 1 4 = V 1 4 := h.1
theorem agX.nr {I V : Nat → Nat → Int32} (h : agX I V) : I 6 6 = V 6 6 := h.2.1
theorem agX.a2 {I V : Nat → Nat → Int32} (h : agX I V) : I 2 = V 2 := h.2.2.1
theorem agX.a3 {I V : Nat → Nat → Int32} (h : agX I V) : I 3 = V 3 := h.2.2.2.1
theorem agX.a4 {I V : Nat → Nat → Int32} (h : agX I V) : I 4 = V 4 := h.2.2.2.2.1
theorem agX.a5 {I V : Nat → Nat → Int32} (h : agX I V) : I 5 = V 5 := h.2.2.2.2.2.1
theorem agX.a7 {I V : Nat → Nat → Int32} (h : agX I V) : I 7 = V 7 := h.2.2.2.2.2.2.1
theorem agX.a8 {I V : Nat → Nat → Int32} (h : agX I V) : I 8 = V 8 := h.2.2.2.2.2.2.2.1
theorem agX.a9 {I V : Nat → Nat → Int32} (h : agX I V) : I 9 = V 9 := h.2.2.2.2.2.2.2.2.1
theorem agX.a10 {I V : Nat → Nat → Int32} (h : agX I V) : I 10 = V 10 := h.2.2.2.2.2.2.2.2.2.1
theorem agX.a11 {I V : Nat → Nat → Int32} (h : agX I V) : I 11 = V 11 := h.2.2.2.2.2.2.2.2.2.2
/-- alike for the three keys -/
def sv3 (s s' : Say) : Prop := ∀ key, (key = 0 ∨ key = 1 ∨ key = 2) → ∀ r st t p, s key r st t p = s' key r st t p
theorem sv3_svX {I V : Nat → Nat → Int32} {ln : Nat → Nat} {ru : Nat} {T : Tx} (h : agX I V) (hl : laid I ln ru T.2.1) : sv3 (svX I ln ru) (svT T V) := by
  intro key hk r st t p
  unfold svX svT
  rw [laid_ev hl hk]
  unfold shelt
  rw [h.a10, h.a4, h.a5, h.a2, h.a3, h.nt]
theorem tir_sv {s s' : Say} (h : sv3 s s') {t : Int32} : ∀ (row : List Nat) (i : Nat) (st : Nat → Int32), tir s t i row st = tir s' t i row st := by
  intro row
  induction row with
  | nil => intro i st; rfl
  | cons r l ih =>
    intro i st
    show tir s t (i + 1) l (gupd st r (wthn 0 (st r - s 0 (nI r) (st r) t (nI i) + s 1 (nI r) (st r) t (nI i)) 999)) = _
    rw [ih, h 0 (Or.inl rfl), h 1 (Or.inr (Or.inl rfl))]
    rfl
theorem stpX_ag {I V : Nat → Nat → Int32} {sv sv' : Say} (h : agX I V) (hs : sv3 sv sv') (t : Nat) (s : RdS) : stpX I sv t s = stpX V sv' t s := by
  unfold stpX
  rw [h.nt, gon_congr h.a7 h.a9]
  unfold gon
  by_cases e : s.1 = []
  · rw [if_pos e, if_pos e]
  · rw [if_neg e, if_neg e]
    dsimp only
    rw [tir_sv hs, hs 2 (Or.inr (Or.inr rfl))]
theorem ron_ag {I V : Nat → Nat → Int32} {sv sv' : Say} (h : agX I V) (hs : sv3 sv sv') : ∀ (m t : Nat) (s : RdS), ron I sv m t s = ron V sv' m t s := by
  intro m
  induction m with
  | zero => intro t s; rfl
  | succ m ih => intro t s; show ron I sv m (t + 1) (stpX I sv t s) = ron V sv' m (t + 1) (stpX V sv' t s); rw [stpX_ag h hs, ih]
theorem rfr_ag {I V : Nat → Nat → Int32} {sv sv' : Say} (h : agX I V) (hs : sv3 sv sv') : ∀ (m t : Nat) (s : RdS) (f : Int32), rfr I sv m t s f = rfr V sv' m t s f := by
  intro m
  induction m with
  | zero => intro t s f; rfl
  | succ m ih =>
    intro t s f
    show rfr I sv m (t + 1) (stpX I sv t s) (f + (stpX I sv t s).2.2.2.2) = rfr V sv' m (t + 1) (stpX V sv' t s) (f + (stpX V sv' t s).2.2.2.2)
    rw [stpX_ag h hs, ih]
theorem cht_ag {I V : Nat → Nat → Int32} {sv sv' : Say} (h : agX I V) (hs : sv3 sv sv') : ∀ (m t : Nat) (s1 s2 : RdS) (f n : Int32), cht I sv m t s1 s2 f n = cht V sv' m t s1 s2 f n := by
  intro m
  induction m with
  | zero => intro t s1 s2 f n; rfl
  | succ m ih =>
    intro t s1 s2 f n
    unfold cht
    rw [stpX_ag h hs, stpX_ag h hs, ih]
theorem clk_ag {I V : Nat → Nat → Int32} {sv sv' : Say} (h : agX I V) (hs : sv3 sv sv') {k d : Int32} : ∀ (m t : Nat) (s1 s2 : RdS) (n : Int32) (b : Int64), clk I sv k d m t s1 s2 n b = clk V sv' k d m t s1 s2 n b := by
  intro m
  induction m with
  | zero => intro t s1 s2 n b; rfl
  | succ m ih =>
    intro t s1 s2 n b
    unfold clk
    rw [stpX_ag h hs, stpX_ag h hs, ih, h.nt]
theorem gaw_ag {I V : Nat → Nat → Int32} {sv sv' : Say} (h : agX I V) (hs : sv3 sv sv') {r : Nat} : ∀ (m t : Nat) (s1 s2 : RdS) (n : Int32), gaw I sv r m t s1 s2 n = gaw V sv' r m t s1 s2 n := by
  intro m
  induction m with
  | zero => intro t s1 s2 n; rfl
  | succ m ih =>
    intro t s1 s2 n
    unfold gaw
    rw [stpX_ag h hs, stpX_ag h hs, ih]
theorem cst_ag {I V : Nat → Nat → Int32} (h : agX I V) (g : Int32) (nr : Nat) : cst I g nr = cst V g nr := by unfold cst; rw [h.a11]
theorem goN_ag {I V : Nat → Nat → Int32} {sv sv' : Say} (h : agX I V) (hs : sv3 sv sv') {nr : Nat} {r g : Int32} : ∀ (m i : Nat), goN I sv nr r g m i = goN V sv' nr r g m i := by
  intro m
  induction m with
  | zero => intro i; rfl
  | succ m ih =>
    intro i
    rw [goN_s, goN_s, gaw_ag h hs, cst_ag h, cst_ag h, ih]
section
variable {I V : Nat → Nat → Int32} {sv sv' : Say}
theorem rideX_ag (h : agX I V) (hs : sv3 sv sv') (nr : Nat) (g t what : Int32) : rideX I sv nr g t what = rideX V sv' nr g t what := by
  unfold rideX rdF rdE isG isSp
  rw [h.nt, h.nr, cst_ag h, rfr_ag h hs, ron_ag h hs]
theorem spentX_ag (h : agX I V) (hs : sv3 sv sv') (nr : Nat) (g t r : Int32) : spentX I sv nr g t r = spentX V sv' nr g t r := by
  unfold spentX rdE isG isSp
  rw [h.nt, h.nr, cst_ag h, ron_ag h hs, h.a11]
theorem riddX_ag (h : agX I V) (hs : sv3 sv sv') (nr : Nat) (g t : Int32) : riddX I sv nr g t = riddX V sv' nr g t := by
  unfold riddX rdE isG isSp
  rw [h.nt, h.nr, cst_ag h, ron_ag h hs, h.a11]
theorem caugX_ag (h : agX I V) (hs : sv3 sv sv') (nr : Nat) (g o t gap what : Int32) : caugX I sv nr g o t gap what = caugX V sv' nr g o t gap what := by
  unfold caugX isCh isG isSp
  rw [h.nt, h.nr, cst_ag h, cst_ag h, cht_ag h hs]
theorem clkX_ag (h : agX I V) (hs : sv3 sv sv') (nr : Nat) (g o t gap y : Int32) : clkX I sv nr g o t gap y = clkX V sv' nr g o t gap y := by
  unfold clkX isCh isG isSp
  rw [h.nt, h.nr, cst_ag h, cst_ag h, clk_ag h hs]
theorem goesX_ag (h : agX I V) (hs : sv3 sv sv') (nr nt : Nat) (r g : Int32) : goesX I sv nr nt r g = goesX V sv' nr nt r g := by
  unfold goesX isG
  rw [h.nr, goN_ag h hs]
theorem saysX_ag (h : agX I V) (hs : sv3 sv sv') (r t p key : Int32) : saysX I sv r t p key = saysX V sv' r t p key := by
  unfold saysX
  rw [h.nr, h.nt, h.a11]
  by_cases e : ((0 ≤ r ∧ r < V 6 6) ∧ (0 ≤ t ∧ t < V 1 4) ∧ 0 ≤ p ∧ p < 12) ∧ 0 ≤ key ∧ key ≤ 2
  · rw [if_pos e, if_pos e]; exact hs key (three e.2) _ _ _ _
  · rw [if_neg e, if_neg e]
theorem lossV_ag (h : agX I V) (hs : sv3 sv sv') (r : Nat) (t p : Int32) : lossV I sv r t p = lossV V sv' r t p := by
  unfold lossV
  rw [hs 0 (Or.inl rfl), hs 1 (Or.inr (Or.inl rfl)), h.a11]
theorem lbh_ag (h : agX I V) (hs : sv3 sv sv') (g t : Int32) (f : Nat) : ∀ n, lbh I sv g t f n = lbh V sv' g t f n := by
  intro n
  induction n with
  | zero => show (lossV I sv f t 0, 1) = (lossV V sv' f t 0, 1); rw [lossV_ag h hs]
  | succ n ih => unfold lbh; rw [ih, lossV_ag h hs]
theorem trn_ag (h : agX I V) (hs : sv3 sv sv') (nr : Nat) (g t : Int32) : ∀ n, trn I sv nr g t n = trn V sv' nr g t n := by
  intro n
  induction n with
  | zero => rfl
  | succ n ih => unfold trn; rw [ih, lbh_ag h hs]
theorem worthX_ag (h : agX I V) (hs : sv3 sv sv') (r t p : Int32) : worthX I sv r t p = worthX V sv' r t p := by
  unfold worthX
  rw [h.nr, h.nt, lossV_ag h hs, lossV_ag h hs]
theorem turnX_ag (h : agX I V) (hs : sv3 sv sv') (nr : Nat) (g t what : Int32) : turnX I sv nr g t what = turnX V sv' nr g t what := by
  unfold turnX isG
  rw [h.nr, h.nt, trn_ag h hs]
theorem toldX_ag (h : agX I V) (r lf what : Int32) : toldX I r lf what = toldX V r lf what := by
  unfold toldX
  rw [h.nr, h.a7, h.a8, h.a9, h.a10, h.a11]
theorem takenX_ag (h : agX I V) (r k : Int32) : takenX I r k = takenX V r k := by
  unfold takenX
  rw [h.nr, h.a7, h.a9]
theorem tra_ag (h : agX I V) (nr : Nat) : ∀ (k : Nat) (rest dg gv : Int32) (s : Int32 × Int32), tra I nr k rest dg gv s = tra V nr k rest dg gv s := by
  have e : ∀ r, edI I r = edI V r := fun r => by unfold edI; rw [h.a7, h.a9, h.a10]
  intro k
  induction k with
  | zero => intro rest dg gv s; rfl
  | succ k ih =>
    intro rest dg gv s
    unfold tra
    simp only [e, ih]
theorem trainX_ag (h : agX I V) (nr : Nat) (g what : Int32) : trainX I nr g what = trainX V nr g what := by
  unfold trainX isG
  rw [h.nr, tra_ag h]
end
