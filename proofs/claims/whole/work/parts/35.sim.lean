-- rides that begin alike for those who ride go alike
def agr (G : Nat → Prop) (st st' : Nat → Int32) : Prop := ∀ r, G r → st r = st' r
def inG (G : Nat → Prop) (row : List Nat) : Prop := ∀ r ∈ row, G r
section
variable {I : Nat → Nat → Int32} {G : Nat → Prop} {sv : Say} {lf : Int32}
theorem agr_symm {st st' : Nat → Int32} (h : agr G st st') : agr G st' st := fun r hr => (h r hr).symm
theorem smw_agr {st st' : Nat → Int32} {row : List Nat} (h : agr G st st') (hr : inG G row) (hs : smw I st lf row) : smw I st' lf row := by
  obtain ⟨r, hm, hw⟩ := hs
  refine ⟨r, hm, ?_⟩
  unfold wkr at *
  rw [← h r (hr r hm)]
  exact hw
theorem inG_rot {f : Nat} {l : List Nat} (h : inG G (f :: l)) : inG G (l ++ [f]) := by
  intro r hr
  rcases List.mem_append.mp hr with q | q
  · exact h r (List.mem_cons_of_mem _ q)
  · rw [List.mem_singleton.mp q]; exact h f List.mem_cons_self
theorem ttn_agr {st st' : Nat → Int32} (h : agr G st st') : ∀ (n : Nat) (row : List Nat) (s : Int32), inG G row → ttn I st lf n row s = ttn I st' lf n row s := by
  intro n
  induction n with
  | zero => intro row s _; rfl
  | succ n ih =>
    intro row s hr
    match row, hr with
    | [], _ => rfl
    | f :: l, hr =>
      show (if wkr I st lf f = 0 ∨ ¬ s < sty (I 7 f) (I 9 f) then ttn I st lf n (l ++ [f]) 0 else (f :: l, s)) = (if wkr I st' lf f = 0 ∨ ¬ s < sty (I 7 f) (I 9 f) then ttn I st' lf n (l ++ [f]) 0 else (f :: l, s))
      have e : wkr I st lf f = wkr I st' lf f := by unfold wkr; rw [h f (hr f List.mem_cons_self)]
      rw [e, ih _ _ (inG_rot hr)]
theorem ttn_in {st : Nat → Int32} : ∀ (n : Nat) (row : List Nat) (s : Int32), inG G row → inG G (ttn I st lf n row s).1 := by
  intro n
  induction n with
  | zero => intro row s h; exact h
  | succ n ih =>
    intro row s hr
    match row, hr with
    | [], hr => exact hr
    | f :: l, hr =>
      show inG G (if wkr I st lf f = 0 ∨ ¬ s < sty (I 7 f) (I 9 f) then ttn I st lf n (l ++ [f]) 0 else (f :: l, s)).1
      by_cases h : wkr I st lf f = 0 ∨ ¬ s < sty (I 7 f) (I 9 f)
      · rw [if_pos h]; exact ih _ _ (inG_rot hr)
      · rw [if_neg h]; exact hr
theorem tir_agr {t : Int32} : ∀ (row : List Nat) (i : Nat) (st st' : Nat → Int32), agr G st st' → inG G row → agr G (tir sv t i row st) (tir sv t i row st') := by
  intro row
  induction row with
  | nil => intro i st st' h _; exact h
  | cons r l ih =>
    intro i st st' h hr
    refine ih (i + 1) _ _ (fun x hx => ?_) (fun x hx => hr x (List.mem_cons_of_mem _ hx))
    rw [h r (hr r List.mem_cons_self)]
    by_cases e : x = r
    · subst e; rw [gupd_s, gupd_s]
    · rw [gupd_n e, gupd_n e]; exact h x hx
theorem kp_agr {st st' : Nat → Int32} {row : List Nat} (h : agr G st st') (hr : inG G row) : kp st row = kp st' row := by
  unfold kp
  refine List.filter_congr (fun r hm => ?_)
  rw [h r (hr r hm)]
theorem kp_in {st : Nat → Int32} {row : List Nat} (hr : inG G row) : inG G (kp st row) := fun r hm => hr r (List.mem_filter.mp hm).1
theorem goT_agr {st st' : Nat → Int32} {row : List Nat} {s : Int32} (h : agr G st st') (hr : inG G row) : goT I lf row s st = goT I lf row s st' := by
  unfold goT
  by_cases hs : smw I st lf row
  · rw [if_pos hs, if_pos (smw_agr h hr hs), ttn_agr h _ _ _ hr]
  · rw [if_neg hs, if_neg (fun z => hs (smw_agr (agr_symm h) hr z))]
theorem goT_in {st : Nat → Int32} {row : List Nat} {s : Int32} (hr : inG G row) : inG G (goT I lf row s st).1 := by
  unfold goT
  by_cases hs : smw I st lf row
  · rw [if_pos hs]; exact ttn_in _ _ _ hr
  · rw [if_neg hs]; exact hr
def sim (G : Nat → Prop) (s s' : RdS) : Prop := s.1 = s'.1 ∧ s.2.1 = s'.2.1 ∧ agr G s.2.2.1 s'.2.2.1 ∧ inG G s.1
theorem sim_gon {s s' : RdS} {t : Int32} (h : sim G s s') : sim G (gon I sv lf t s) (gon I sv lf t s') ∧ (gon I sv lf t s).2.2.2 = (gon I sv lf t s').2.2.2 := by
  obtain ⟨row, since, st, fr, pc⟩ := s
  obtain ⟨row', since', st', fr', pc'⟩ := s'
  obtain ⟨h1, h2, h3, h4⟩ := h
  dsimp only at h1 h2 h3 h4
  subst h1
  subst h2
  by_cases hne : row = []
  · have e1 : gon I sv lf t (row, since, st, fr, pc) = (row, since, st, -1, 1) := if_pos hne
    have e2 : gon I sv lf t (row, since, st', fr', pc') = (row, since, st', -1, 1) := if_pos hne
    rw [e1, e2]
    exact ⟨⟨rfl, rfl, h3, h4⟩, rfl⟩
  · have e1 : gon I sv lf t (row, since, st, fr, pc) = _ := if_neg hne
    have e2 : gon I sv lf t (row, since, st', fr', pc') = _ := if_neg hne
    rw [e1, e2]
    dsimp only
    rw [← goT_agr (I := I) (lf := lf) (s := since) h3 h4]
    have hq := goT_in (I := I) (lf := lf) (st := st) (s := since) h4
    have hl := goT_len (I := I) (lf := lf) (st := st) (row := row) (s := since)
    generalize goT I lf row since st = q at hq hl ⊢
    obtain ⟨q1, q2⟩ := q
    dsimp only at hq hl ⊢
    have hf : G (q1.headD 0) := by
      match q1, hl, hq with
      | [], hl, _ => exact absurd (List.length_eq_zero_iff.mp hl.symm) hne
      | a :: _, _, hq => exact hq a List.mem_cons_self
    have ht := tir_agr (sv := sv) (t := t) q1 0 st st' h3 hq
    rw [ht _ hf, h3 _ hf]
    exact ⟨⟨kp_agr ht hq, rfl, ht, kp_in hq⟩, rfl⟩
theorem sim_stp {s s' : RdS} {t : Nat} (h : sim G s s') : sim G (stpX I sv t s) (stpX I sv t s') ∧ (stpX I sv t s).2.2.2 = (stpX I sv t s').2.2.2 := sim_gon h
theorem sim_ron : ∀ (m t : Nat) (s s' : RdS), sim G s s' → sim G (ron I sv m t s) (ron I sv m t s') ∧ (0 < m → (ron I sv m t s).2.2.2 = (ron I sv m t s').2.2.2) := by
  intro m
  induction m with
  | zero => intro t s s' h; exact ⟨h, fun z => absurd z (Nat.lt_irrefl _)⟩
  | succ m ih =>
    intro t s s' h
    have h1 := sim_stp (I := I) (sv := sv) (t := t) h
    obtain ⟨a, b⟩ := ih (t + 1) _ _ h1.1
    refine ⟨a, fun _ => ?_⟩
    rcases Nat.eq_zero_or_pos m with q | q
    · subst q; exact h1.2
    · exact b q
theorem sim_rfr : ∀ (m t : Nat) (s s' : RdS) (f : Int32), sim G s s' → rfr I sv m t s f = rfr I sv m t s' f := by
  intro m
  induction m with
  | zero => intro t s s' f _; rfl
  | succ m ih =>
    intro t s s' f h
    have h1 := sim_stp (I := I) (sv := sv) (t := t) h
    show rfr I sv m (t + 1) (stpX I sv t s) (f + (stpX I sv t s).2.2.2.2) = rfr I sv m (t + 1) (stpX I sv t s') (f + (stpX I sv t s').2.2.2.2)
    rw [h1.2]
    exact ih _ _ _ _ h1.1
/-- who rides -/
def mem (g : Int32) (nr : Nat) : Nat → Prop := fun r => r < nr ∧ (g >>> (nI r &&& 31)) &&& 1 = 1
/-- a ride's begin -/
def cst (I : Nat → Nat → Int32) (g : Int32) (nr : Nat) : RdS := (bgR g nr, 0, I 11, -1, 1)
theorem bgR_mem {g : Int32} {nr r : Nat} (h : r ∈ bgR g nr) : mem g nr r := by
  obtain ⟨h1, h2⟩ := List.mem_filter.mp h
  exact ⟨List.mem_range.mp h1, of_decide_eq_true h2⟩
theorem sim_bgn {o nr : Nat} {g : Int32} : sim (mem g nr) (bgn I o g nr) (cst I g nr) := ⟨rfl, rfl, fun _ hr => if_pos hr, fun _ hr => bgR_mem hr⟩
end
/-- a chase: the tenth in which one is caught, the gap -/
noncomputable def cht (I : Nat → Nat → Int32) (sv : Say) : Nat → Nat → RdS → RdS → Int32 → Int32 → Int32 × Int32
  | 0, _, _, _, f, n => (f, n)
  | m + 1, t, s1, s2, f, n => cht I sv m (t + 1) (stpX I sv t s1) (stpX I sv t s2) (if n + ((stpX I sv t s1).2.2.2.2 - (stpX I sv t s2).2.2.2.2) ≤ 0 ∧ f = -1 then nI t else f) (n + ((stpX I sv t s1).2.2.2.2 - (stpX I sv t s2).2.2.2.2))
/-- the clock -/
noncomputable def clk (I : Nat → Nat → Int32) (sv : Say) (k d : Int32) : Nat → Nat → RdS → RdS → Int32 → Int64 → Int64
  | 0, _, _, _, _, b => b
  | m + 1, t, s1, s2, n, b => clk I sv k d m (t + 1) (stpX I sv t s1) (stpX I sv t s2) (n + ((stpX I sv t s1).2.2.2.2 - (stpX I sv t s2).2.2.2.2)) (if k * (I 1 4 - nI t) / d < n then b else b ||| ((1 : Int64) <<< ((nI t).toInt64 &&& 63)))
/-- whether one gets away -/
noncomputable def gaw (I : Nat → Nat → Int32) (sv : Say) (r : Nat) : Nat → Nat → RdS → RdS → Int32 → Int32
  | 0, _, _, _, _ => 1
  | m + 1, t, s1, s2, n => if n + ((stpX I sv t s1).2.2.2.2 - (stpX I sv t s2).2.2.2.2) ≤ 0 ∨ (stpX I sv t s1).2.2.1 r = 0 then 0 else gaw I sv r m (t + 1) (stpX I sv t s1) (stpX I sv t s2) (n + ((stpX I sv t s1).2.2.2.2 - (stpX I sv t s2).2.2.2.2))
section
variable {I : Nat → Nat → Int32} {G H : Nat → Prop} {sv : Say}
theorem sim_cht : ∀ (m t : Nat) (s1 s1' s2 s2' : RdS) (f n : Int32), sim G s1 s1' → sim H s2 s2' → cht I sv m t s1 s2 f n = cht I sv m t s1' s2' f n := by
  intro m
  induction m with
  | zero => intro t s1 s1' s2 s2' f n _ _; rfl
  | succ m ih =>
    intro t s1 s1' s2 s2' f n h1 h2
    have g1 := sim_stp (I := I) (sv := sv) (t := t) h1
    have g2 := sim_stp (I := I) (sv := sv) (t := t) h2
    unfold cht
    rw [g1.2, g2.2]
    exact ih _ _ _ _ _ _ _ g1.1 g2.1
theorem sim_clk {k d : Int32} : ∀ (m t : Nat) (s1 s1' s2 s2' : RdS) (n : Int32) (b : Int64), sim G s1 s1' → sim H s2 s2' → clk I sv k d m t s1 s2 n b = clk I sv k d m t s1' s2' n b := by
  intro m
  induction m with
  | zero => intro t s1 s1' s2 s2' n b _ _; rfl
  | succ m ih =>
    intro t s1 s1' s2 s2' n b h1 h2
    have g1 := sim_stp (I := I) (sv := sv) (t := t) h1
    have g2 := sim_stp (I := I) (sv := sv) (t := t) h2
    unfold clk
    rw [g1.2, g2.2]
    exact ih _ _ _ _ _ _ _ g1.1 g2.1
theorem sim_gaw {r : Nat} (hr : G r) : ∀ (m t : Nat) (s1 s1' s2 s2' : RdS) (n : Int32), sim G s1 s1' → sim H s2 s2' → gaw I sv r m t s1 s2 n = gaw I sv r m t s1' s2' n := by
  intro m
  induction m with
  | zero => intro t s1 s1' s2 s2' n _ _; rfl
  | succ m ih =>
    intro t s1 s1' s2 s2' n h1 h2
    have g1 := sim_stp (I := I) (sv := sv) (t := t) h1
    have g2 := sim_stp (I := I) (sv := sv) (t := t) h2
    unfold gaw
    rw [g1.2, g2.2, g1.1.2.2.1 r hr, ih _ _ _ _ _ _ g1.1 g2.1]
end
