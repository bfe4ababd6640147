-- the tape's readers of one, of a not, of all
def pBeh (lx : Nat → Lx) (R : Rdr) (op : Int32) : Rdr := fun t => ((R (nxt lx t)).1, (R (nxt lx t)).2.1 ++ [op], (R (nxt lx t)).2.2)
def pIns (lx : Nat → Lx) (R : Rdr) : Rdr := fun t => if (R (nxt lx t)).1 = true ∧ (R (nxt lx t)).2.2.tk = 41 then (true, (R (nxt lx t)).2.1, nxt lx (R (nxt lx t)).2.2) else (false, [], (R (nxt lx t)).2.2)
section
variable {E : gEnv} {c : Nat} {ln : Nat → Nat} {L : Nat → Nat → Int64} {b : Nat → Int32} {n : Nat}
set_option maxHeartbeats 1000000 in
theorem c_behindD (hn : n ≤ 160) {d : Nat} (h8 : 7 < d) {x : Int32} {R : Rdr} (hp : prg n R) (hR : cR E c ln L b n d nX5_readDenied [.int x] R) : cR E c ln L b n (d + 1) nX5_readBehind [.int (-8), .int x] (pBeh (lex b n) R (-8)) := by
  have hl := lex_okL b n
  intro I t ops hb hrd hv hops
  refine gstart iX5_readBehind tX5_readBehind rfl rfl (fun K ca hK hca => ?_)
  refine hK [] 60 _ _ _ _ _ _ ?_
  obtain ⟨hx, hx2⟩ := vL_nxt hl hv
  obtain ⟨k1, k2, k3⟩ := hp (nxt (lex b n) t) hx
  have hv1 := hv.1
  refine gcall0 hca (c_advance E c ln I L n t.nx hn hv.2.1 hrd.1 hrd.2.1.1) (blt_t (by omega)) ?_
  rintro w u' - ⟨rfl, J1, rfl, f1, s1⟩
  rw [hb] at s1
  refine gbr_i (fun _ => ?_) (fun z => absurd rfl z)
  refine gcall0 hca (hR J1 (nxt (lex b n) t) ops (by rw [f1.1 14 (by decide), hb]) (rdT_tkf hrd f1 s1) hx (by omega)) (blt_t (by omega)) ?_
  rintro w u' - ⟨rfl, J2, rfl, f2, a6, art, ⟨sc, hsc1, hsc2⟩⟩
  refine gcall0 hca (c_step E c ln J2 L (-8) sc hsc1 hsc2) (blt_t (by omega)) ?_
  rintro w u' - ⟨rfl, J3, rfl, f3, f4, f5, f6⟩
  refine gsd_i ?_ ⟨rfl, J3, rfl, psf_trans (psf_tkf f1) (psf_trans f2 f3), ?_, fun z => ?_, f5⟩
  · by_cases hg : (R (nxt (lex b n) t)).1 = true
    · exact Or.inr (if_pos hg)
    · exact Or.inl (if_neg hg)
  · rw [f4 6 (by decide)]; exact a6
  · have h1 := art z
    have h2 := f6 n _ _ (by
      have := (k3 z).1
      have q1 := k1.1
      have q2 := k1.2.1
      rw [List.length_append]
      omega) h1
    rw [List.append_assoc] at h2
    exact h2
set_option maxHeartbeats 1000000 in
theorem c_behindO (hn : n ≤ 160) {d : Nat} (h8 : 7 < d) {x : Int32} {R : Rdr} (hp : prg n R) (hR : cR E c ln L b n d nX5_readOne [.int x] R) : cR E c ln L b n (d + 1) nX5_readBehind [.int (-7), .int x] (pBeh (lex b n) R (-7)) := by
  have hl := lex_okL b n
  intro I t ops hb hrd hv hops
  refine gstart iX5_readBehind tX5_readBehind rfl rfl (fun K ca hK hca => ?_)
  refine hK [] 60 _ _ _ _ _ _ ?_
  obtain ⟨hx, hx2⟩ := vL_nxt hl hv
  obtain ⟨k1, k2, k3⟩ := hp (nxt (lex b n) t) hx
  have hv1 := hv.1
  refine gcall0 hca (c_advance E c ln I L n t.nx hn hv.2.1 hrd.1 hrd.2.1.1) (blt_t (by omega)) ?_
  rintro w u' - ⟨rfl, J1, rfl, f1, s1⟩
  rw [hb] at s1
  refine gbr_i (fun z => absurd z (by decide)) (fun _ => ?_)
  refine gcall0 hca (hR J1 (nxt (lex b n) t) ops (by rw [f1.1 14 (by decide), hb]) (rdT_tkf hrd f1 s1) hx (by omega)) (blt_t (by omega)) ?_
  rintro w u' - ⟨rfl, J2, rfl, f2, a6, art, ⟨sc, hsc1, hsc2⟩⟩
  refine gcall0 hca (c_step E c ln J2 L (-7) sc hsc1 hsc2) (blt_t (by omega)) ?_
  rintro w u' - ⟨rfl, J3, rfl, f3, f4, f5, f6⟩
  refine gsd_i ?_ ⟨rfl, J3, rfl, psf_trans (psf_tkf f1) (psf_trans f2 f3), ?_, fun z => ?_, f5⟩
  · by_cases hg : (R (nxt (lex b n) t)).1 = true
    · exact Or.inr (if_pos hg)
    · exact Or.inl (if_neg hg)
  · rw [f4 6 (by decide)]; exact a6
  · have h1 := art z
    have h2 := f6 n _ _ (by
      have := (k3 z).1
      have q1 := k1.1
      have q2 := k1.2.1
      rw [List.length_append]
      omega) h1
    rw [List.append_assoc] at h2
    exact h2
set_option maxHeartbeats 1000000 in
theorem c_inside (hn : n ≤ 160) {d : Nat} (h8 : 7 < d) {x : Int32} {R : Rdr} (hp : prg n R) (hR : cR E c ln L b n d nX5_readEither [.int x] R) : cR E c ln L b n (d + 1) nX5_readInside [.int x] (pIns (lex b n) R) := by
  have hl := lex_okL b n
  intro I t ops hb hrd hv hops
  refine gstart iX5_readInside tX5_readInside rfl rfl (fun K ca hK hca => ?_)
  refine hK [] 60 _ _ _ _ _ _ ?_
  obtain ⟨hx, hx2⟩ := vL_nxt hl hv
  obtain ⟨k1, k2, k3⟩ := hp (nxt (lex b n) t) hx
  have hv1 := hv.1
  refine gcall0 hca (c_advance E c ln I L n t.nx hn hv.2.1 hrd.1 hrd.2.1.1) (blt_t (by omega)) ?_
  rintro w u' - ⟨rfl, J1, rfl, f1, s1⟩
  rw [hb] at s1
  have hb1 : J1 14 = b := by rw [f1.1 14 (by decide), hb]
  refine gcall0 hca (hR J1 (nxt (lex b n) t) ops hb1 (rdT_tkf hrd f1 s1) hx (by omega)) (blt_t (by omega)) ?_
  rintro w u' - ⟨rfl, J2, rfl, f2, a6, art, hsc⟩
  have bad : ¬ ((R (nxt (lex b n) t)).1 = true ∧ (R (nxt (lex b n) t)).2.2.tk = 41) → pR c ln L I n (pIns (lex b n) R t) ops (some (.int 0)) (wX c ln J2 L) := fun h => by
    unfold pIns
    rw [if_neg h]
    exact ⟨rfl, J2, rfl, psf_trans (psf_tkf f1) f2, a6, fun z => ff z, hsc⟩
  refine gbr_p (fun hg => ?_) (fun hg => ?_)
  · exact gsd_i (Or.inl rfl) (bad (fun z => hg z.1))
  · have hr := art hg
    refine gbr_eq (y := 41) hr.2.1.2.2.1 (fun hq => ?_) (fun hq => gsd_i (Or.inl rfl) (bad (fun z => hq z.2)))
    refine gcall0 hca (c_advance E c ln J2 L n (R (nxt (lex b n) t)).2.2.nx hn k1.2.1 hr.1 hr.2.1.1) (blt_t (by omega)) ?_
    rintro w u' - ⟨rfl, J3, rfl, f3, s3⟩
    rw [f2 14 (by decide) (by decide), hb1] at s3
    have h3 := rdT_tkf hr f3 s3
    have e : pIns (lex b n) R t = (true, (R (nxt (lex b n) t)).2.1, nxt (lex b n) (R (nxt (lex b n) t)).2.2) := if_pos ⟨hg, hq⟩
    rw [e]
    have k3 := (k3 hg).1
    have q1 := k1.1
    have q2 := k1.2.1
    exact gsd_i (Or.inr rfl) ⟨rfl, J3, rfl, psf_trans (psf_tkf f1) (psf_trans f2 (psf_tkf f3)), s3.2.1, fun _ => h3, ⟨_, by rw [List.length_append]; omega, h3.2.2.1⟩⟩
/-- what a reader needs of the deeper ones -/
def dpX (E : gEnv) (c : Nat) (ln : Nat → Nat) (L : Nat → Nat → Int64) (b : Nat → Int32) (n d : Nat) (x : Int32) (deep : Option (Rdr × Rdr × Rdr)) : Prop := match deep with
  | none => 5 ≤ x
  | some q => ¬ 5 ≤ x ∧ (∃ d1, d1 ≤ d ∧ cR E c ln L b n d1 nX5_readBehind [.int (-7), .int (x + 1)] (pBeh (lex b n) q.1 (-7))) ∧ (∃ d1, d1 ≤ d ∧ cR E c ln L b n d1 nX5_readBehind [.int (-8), .int (x + 1)] (pBeh (lex b n) q.2.1 (-8))) ∧ ∃ d1, d1 ≤ d ∧ cR E c ln L b n d1 nX5_readInside [.int (x + 1)] (pIns (lex b n) q.2.2)
theorem dpX_up {d d' : Nat} {x : Int32} {deep : Option (Rdr × Rdr × Rdr)} (h : d ≤ d') (hd : dpX E c ln L b n d x deep) : dpX E c ln L b n d' x deep := by
  match deep, hd with
  | none, hd => exact hd
  | some q, hd =>
    obtain ⟨h0, ⟨d1, e1, h1⟩, ⟨d2, e2, h2⟩, ⟨d3, e3, h3⟩⟩ := hd
    exact ⟨h0, ⟨d1, by omega, h1⟩, ⟨d2, by omega, h2⟩, ⟨d3, by omega, h3⟩⟩
theorem pR_here (hn : n ≤ 160) {I : Nat → Nat → Int32} {t : Lx} {ops : List Int32} (hrd : rdT I n t ops) (hv : vL n t) (hops : ops.length < t.at_) : pR c ln L I n (false, [], t) ops (some (.int 0)) (wX c ln I L) := by
  have h1 := hv.1
  have h2 := hv.2.1
  exact ⟨rfl, I, rfl, psf_refl I, hrd.2.1.2.1, fun z => ff z, ⟨ops.length, by omega, hrd.2.2.1⟩⟩
set_option maxHeartbeats 1000000 in
theorem c_one (hn : n ≤ 160) {d : Nat} (h8 : 7 < d) {x : Int32} {deep : Option (Rdr × Rdr × Rdr)} (hd : dpX E c ln L b n d x deep) : cR E c ln L b n (d + 1) nX5_readOne [.int x] (pOne (lex b n) deep) := by
  have hl := lex_okL b n
  intro I t ops hb hrd hv hops
  refine gstart iX5_readOne tX5_readOne rfl rfl (fun K ca hK hca => ?_)
  have hv1 := hv.1
  have hv2 := hv.2.1
  have h7 : I 13 7 = t.tk := hrd.2.1.2.2.1
  -- a number, a name: its step, then on
  have leaf : ∀ y : Int32, pOne (lex b n) deep t = (true, [y], nxt (lex b n) t) → ∀ (J : Nat → Nat → Int32), psf I J → J 14 = b → rdT J n t (ops ++ [y]) → t.tk ≠ 0 → K 0 0 110 [some (.ref 13), some (.int x)] [] (wX c ln J L) := by
    intro y hy J hf hb2 hr h0
    have hs := vL_nxt1 hl hv h0
    have hx := (vL_nxt hl hv).1
    refine hK [] 60 _ _ _ _ _ _ ?_
    refine gcall0 hca (c_advance E c ln J L n t.nx hn hv.2.1 hr.1 hr.2.1.1) (blt_t (by omega)) ?_
    rintro w u' - ⟨rfl, J1, rfl, f1, s1⟩
    rw [hb2] at s1
    have h3 := rdT_tkf hr f1 s1
    rw [hy]
    exact gsd_i (Or.inr rfl) ⟨rfl, J1, rfl, psf_trans hf (psf_tkf f1), s1.2.1, fun _ => h3, ⟨_, by rw [List.length_append, List.length_singleton]; omega, h3.2.2.1⟩⟩
  refine hK [110] 60 _ _ _ _ _ _ ?_
  refine gbr_eq (y := 45) h7 (fun h1 => ?_) (fun h1 => ?_)
  · match deep, hd, leaf, hK with
    | none, hd, _, _ =>
      refine gbr_i (fun _ => ?_) (fun z => absurd hd z)
      have e : pOne (lex b n) none t = (false, [], t) := if_pos h1
      rw [e]
      exact gsd_i (Or.inl rfl) (pR_here hn hrd hv hops)
    | some q, hd, _, _ =>
      refine gbr_i (fun z => absurd z hd.1) (fun _ => ?_)
      have e : pOne (lex b n) (some q) t = pBeh (lex b n) q.1 (-7) t := if_pos h1
      rw [e]
      obtain ⟨d1, hd1, hcr⟩ := hd.2.1
      refine gcall0 hca (hcr I t ops hb hrd hv hops) (blt_t (by omega)) ?_
      rintro w u' - ⟨rfl, J, rfl, g⟩
      refine gbr_p (fun hg => ?_) (fun hg => ?_)
      · exact gsd_i (Or.inl rfl) ⟨by unfold oneB; rw [if_neg hg], J, rfl, g⟩
      · exact gsd_i (Or.inr rfl) ⟨by unfold oneB; rw [if_pos hg], J, rfl, g⟩
  refine gbr_eq (y := 40) h7 (fun h2 => ?_) (fun h2 => ?_)
  · match deep, hd, leaf, hK with
    | none, hd, _, _ =>
      refine gbr_i (fun _ => ?_) (fun z => absurd hd z)
      have e : pOne (lex b n) none t = (false, [], t) := (if_neg h1).trans (if_pos h2)
      rw [e]
      exact gsd_i (Or.inl rfl) (pR_here hn hrd hv hops)
    | some q, hd, _, _ =>
      refine gbr_i (fun z => absurd z hd.1) (fun _ => ?_)
      have e : pOne (lex b n) (some q) t = pIns (lex b n) q.2.2 t := (if_neg h1).trans (if_pos h2)
      rw [e]
      obtain ⟨d1, hd1, hcr⟩ := hd.2.2.2
      refine gcall0 hca (hcr I t ops hb hrd hv hops) (blt_t (by omega)) ?_
      rintro w u' - ⟨rfl, J, rfl, g⟩
      refine gbr_p (fun hg => ?_) (fun hg => ?_)
      · exact gsd_i (Or.inl rfl) ⟨by unfold oneB; rw [if_neg hg], J, rfl, g⟩
      · exact gsd_i (Or.inr rfl) ⟨by unfold oneB; rw [if_pos hg], J, rfl, g⟩
  refine gbr_eq (y := 2) h7 (fun h3 => ?_) (fun h3 => ?_)
  · have e : pOne (lex b n) deep t = (true, [t.nm], nxt (lex b n) t) := ((if_neg h1).trans (if_neg h2)).trans (if_pos h3)
    refine gcall0 hca (c_step E c ln I L (I 13 8) ops.length (by omega) hrd.2.2.1) (blt_t (by omega)) ?_
    rintro w u' - ⟨rfl, J, rfl, f3, f4, f5, f6⟩
    have := f6 n t ops (by omega) hrd
    rw [hrd.2.1.2.2.2 h3] at this
    exact leaf t.nm e J f3 (by rw [f3 14 (by decide) (by decide), hb]) this (by rw [h3]; decide)
  refine gbr_i (fun h4 => ?_) (fun h4 => ?_)
  · have h4' : I 13 7 < 134 := h4
    rw [h7] at h4'
    have e : pOne (lex b n) deep t = (false, [], t) := (((if_neg h1).trans (if_neg h2)).trans (if_neg h3)).trans (if_neg (fun z => Int32.lt_irrefl (Int32.lt_of_lt_of_le h4' z)))
    rw [e]
    exact gsd_i (Or.inl rfl) (pR_here hn hrd hv hops)
  · have h4' : ¬ I 13 7 < 134 := h4
    rw [h7] at h4'
    have h5 : 134 ≤ t.tk := Int32.not_lt.mp h4'
    have e : pOne (lex b n) deep t = (true, [134 - t.tk - 1], nxt (lex b n) t) := (((if_neg h1).trans (if_neg h2)).trans (if_neg h3)).trans (if_pos h5)
    refine gcall0 hca (c_step E c ln I L (134 - I 13 7 - 1) ops.length (by omega) hrd.2.2.1) (blt_t (by omega)) ?_
    rintro w u' - ⟨rfl, J, rfl, f3, f4, f5, f6⟩
    have := f6 n t ops (by omega) hrd
    rw [h7] at this
    exact leaf _ e J f3 (by rw [f3 14 (by decide) (by decide), hb]) this (fun z => by rw [z] at h5; exact absurd h5 (by decide))
set_option maxHeartbeats 1000000 in
theorem c_den (hn : n ≤ 160) {d : Nat} (h8 : 7 < d) {x : Int32} {deep : Option (Rdr × Rdr × Rdr)} {R : Rdr} (hd : dpX E c ln L b n d x deep) (hp : prg n (pSum (lex b n) R)) (hR : cR E c ln L b n d nX5_readSum [.int x] (pSum (lex b n) R)) : cR E c ln L b n (d + 1) nX5_readDenied [.int x] (pDen (lex b n) deep R) := by
  have hl := lex_okL b n
  intro I t ops hb hrd hv hops
  refine gstart iX5_readDenied tX5_readDenied rfl rfl (fun K ca hK hca => ?_)
  have hv1 := hv.1
  have hv2 := hv.2.1
  have h7 : I 13 7 = t.tk := hrd.2.1.2.2.1
  refine hK [79] 60 _ _ _ _ _ _ ?_
  refine gbr_eq (y := 133) h7 (fun h1 => ?_) (fun h1 => ?_)
  · match deep, hd, hK with
    | none, hd, _ =>
      refine gbr_i (fun _ => ?_) (fun z => absurd hd z)
      have e : pDen (lex b n) none R t = (false, [], t) := if_pos h1
      rw [e]
      exact gsd_i (Or.inl rfl) (pR_here hn hrd hv hops)
    | some q, hd, _ =>
      refine gbr_i (fun z => absurd z hd.1) (fun _ => ?_)
      have e : pDen (lex b n) (some q) R t = pBeh (lex b n) q.2.1 (-8) t := if_pos h1
      rw [e]
      obtain ⟨d1, hd1, hcr⟩ := hd.2.2.1
      refine gcall0 hca (hcr I t ops hb hrd hv hops) (blt_t (by omega)) ?_
      rintro w u' - ⟨rfl, J, rfl, g⟩
      refine gbr_p (fun hg => ?_) (fun hg => ?_)
      · exact gsd_i (Or.inl rfl) ⟨by unfold oneB; rw [if_neg hg], J, rfl, g⟩
      · exact gsd_i (Or.inr rfl) ⟨by unfold oneB; rw [if_pos hg], J, rfl, g⟩
  have e0 : pDen (lex b n) deep R t = pCmp (lex b n) R t := if_neg h1
  rw [e0] at hK ⊢
  obtain ⟨k1, k2, k3⟩ := hp t hv
  refine gcall0 hca (hR I t ops hb hrd hv hops) (blt_t (by omega)) ?_
  rintro w u' - ⟨rfl, J, rfl, f1, a6, art, hsc⟩
  refine gbr_p (fun hg => ?_) (fun hg => ?_)
  · have e : pCmp (lex b n) R t = (false, [], (pSum (lex b n) R t).2.2) := if_neg hg
    rw [e]
    exact gsd_i (Or.inl rfl) ⟨rfl, J, rfl, f1, a6, fun z => ff z, hsc⟩
  have hr := art hg
  have j7 : J 13 7 = (pSum (lex b n) R t).2.2.tk := hr.2.1.2.2.1
  have hJb : J 14 = b := by rw [f1 14 (by decide) (by decide), hb]
  have k3' := (k3 hg).1
  have tail : ∀ op : Int32, pCmp (lex b n) R t = ((pSum (lex b n) R (nxt (lex b n) (pSum (lex b n) R t).2.2)).1, (pSum (lex b n) R t).2.1 ++ (pSum (lex b n) R (nxt (lex b n) (pSum (lex b n) R t).2.2)).2.1 ++ [op], (pSum (lex b n) R (nxt (lex b n) (pSum (lex b n) R t).2.2)).2.2) → (pSum (lex b n) R t).2.2.tk ≠ 0 → K 0 0 79 [some (.ref 13), some (.int x), none, none] [.int op] (wX c ln J L) := by
    intro op e h0
    rw [e] at hK
    have hx := vL_nxt hl k1
    have hs := vL_nxt1 hl k1 h0
    obtain ⟨m1, m2, m3⟩ := hp _ hx.1
    refine hK [] 60 _ _ _ _ _ _ ?_
    refine gcall0 hca (c_advance E c ln J L n _ hn k1.2.1 hr.1 hr.2.1.1) (blt_t (by omega)) ?_
    rintro w u' - ⟨rfl, J1, rfl, f2, s2⟩
    rw [hJb] at s2
    refine gcall0 hca (hR J1 (nxt (lex b n) (pSum (lex b n) R t).2.2) (ops ++ (pSum (lex b n) R t).2.1) (by rw [f2.1 14 (by decide), hJb]) (rdT_tkf hr f2 s2) hx.1 (by rw [List.length_append]; show _ < (nxt (lex b n) (pSum (lex b n) R t).2.2).at_; omega)) (blt_t (by omega)) ?_
    rintro w u' - ⟨rfl, J2, rfl, f3, b6, brt, ⟨sc, hsc1, hsc2⟩⟩
    refine gcall0 hca (c_step E c ln J2 L op sc hsc1 hsc2) (blt_t (by omega)) ?_
    rintro w u' - ⟨rfl, J3, rfl, f4, f5, f6, f7⟩
    refine gsd_i ?_ ⟨rfl, J3, rfl, psf_trans f1 (psf_trans (psf_tkf f2) (psf_trans f3 f4)), ?_, fun z => ?_, f6⟩
    · by_cases hq : (pSum (lex b n) R (nxt (lex b n) (pSum (lex b n) R t).2.2)).1 = true
      · exact Or.inr (if_pos hq)
      · exact Or.inl (if_neg hq)
    · rw [f5 6 (by decide)]; exact b6
    · have h1 := brt z
      have h2 := f7 n _ _ (by
        have := (m3 z).1
        have q1 := m1.1
        have q2 := m1.2.1
        rw [List.length_append, List.length_append]
        omega) h1
      rw [List.append_assoc, List.append_assoc] at h2
      show rdT J3 n _ (ops ++ ((pSum (lex b n) R t).2.1 ++ (pSum (lex b n) R (nxt (lex b n) (pSum (lex b n) R t).2.2)).2.1 ++ [op]))
      rw [List.append_assoc]
      exact h2
  have cmp : ∀ op, (pSum (lex b n) R t).2.2.tk = 60 ∨ (pSum (lex b n) R t).2.2.tk = 61 → op = (if (pSum (lex b n) R t).2.2.tk = 60 then (-12 : Int32) else -13) → pCmp (lex b n) R t = ((pSum (lex b n) R (nxt (lex b n) (pSum (lex b n) R t).2.2)).1, (pSum (lex b n) R t).2.1 ++ (pSum (lex b n) R (nxt (lex b n) (pSum (lex b n) R t).2.2)).2.1 ++ [op], (pSum (lex b n) R (nxt (lex b n) (pSum (lex b n) R t).2.2)).2.2) := fun op h hop => by
    rw [hop]
    exact (if_pos hg).trans (if_pos h)
  refine gbr_eq (y := 60) j7 (fun hq => ?_) (fun hq => ?_)
  · refine gbr_eq (y := 60) j7 (fun _ => ?_) (fun z => absurd hq z)
    exact tail (-12) (cmp _ (Or.inl hq) (if_pos hq).symm) (by rw [hq]; decide)
  · refine gbr_eq (y := 61) j7 (fun hq2 => ?_) (fun hq2 => ?_)
    · refine gbr_eq (y := 60) j7 (fun z => absurd z hq) (fun _ => ?_)
      exact tail (-13) (cmp _ (Or.inr hq2) (if_neg hq).symm) (by rw [hq2]; decide)
    · have e : pCmp (lex b n) R t = pSum (lex b n) R t := (if_pos hg).trans (if_neg (fun z => z.elim hq hq2))
      rw [e]
      exact gsd_i (Or.inr rfl) ⟨by unfold oneB; rw [if_pos hg], J, rfl, f1, a6, art, hsc⟩
theorem c_mk (hn : n ≤ 160) {d : Nat} (h8 : 7 < d) {x : Int32} {deep : Option (Rdr × Rdr × Rdr)} (hpd : prgD n deep) (hd : dpX E c ln L b n d x deep) :
    cR E c ln L b n (d + 1) nX5_readOne [.int x] (pMk (lex b n) deep).1 ∧ cR E c ln L b n (d + 4) nX5_readDenied [.int x] (pMk (lex b n) deep).2.1 ∧ cR E c ln L b n (d + 6) nX5_readEither [.int x] (pMk (lex b n) deep).2.2 := by
  have hl := lex_okL b n
  have p1 := prg_one hl hpd
  have p2 := prg_den hl p1 hpd
  have pT : prg n (pTerm (lex b n) (pOne (lex b n) deep)) := prg_ch (jo := jT) hl p1 rfl
  have pS : prg n (pSum (lex b n) (pOne (lex b n) deep)) := prg_ch (jo := jS) hl pT rfl
  have c1 := c_one hn h8 hd
  have cT : cR E c ln L b n (d + 2) nX5_readTerm [.int x] (pTerm (lex b n) (pOne (lex b n) deep)) := c_readTerm hn (by omega) p1 c1
  have cS : cR E c ln L b n (d + 3) nX5_readSum [.int x] (pSum (lex b n) (pOne (lex b n) deep)) := c_readSum hn (by omega) pT cT
  have hd3 : dpX E c ln L b n (d + 3) x deep := dpX_up (by omega) hd
  have c2 := c_den hn (by omega) hd3 pS cS
  have pB : prg n (pBoth (lex b n) (pDen (lex b n) deep (pOne (lex b n) deep))) := prg_ch (jo := jB) hl p2 rfl
  have cB : cR E c ln L b n (d + 5) nX5_readBoth [.int x] (pBoth (lex b n) (pDen (lex b n) deep (pOne (lex b n) deep))) := c_readBoth hn (by omega) p2 c2
  exact ⟨c1, c2, c_readEither hn (by omega) pB cB⟩
/-- every reader keeps its contract -/
theorem c_lvl (hn : n ≤ 160) : ∀ k, k ≤ 5 → cR E c ln L b n (7 * k + 9) nX5_readOne [.int (nI (5 - k))] (lvl (lex b n) k).1 ∧ cR E c ln L b n (7 * k + 12) nX5_readDenied [.int (nI (5 - k))] (lvl (lex b n) k).2.1 ∧ cR E c ln L b n (7 * k + 14) nX5_readEither [.int (nI (5 - k))] (lvl (lex b n) k).2.2 := by
  have hl := lex_okL b n
  intro k
  induction k with
  | zero =>
    intro _
    exact c_mk (d := 8) hn (by omega) trivial (show (5 : Int32) ≤ nI 5 by decide)
  | succ k ih =>
    intro hk
    obtain ⟨i1, i2, i3⟩ := ih (by omega)
    obtain ⟨q1, q2, q3⟩ := prg_lvl hl k
    have e : nI (5 - (k + 1)) + 1 = nI (5 - k) := by rw [nI_1]; congr 1; omega
    exact c_mk (d := 7 * k + 15) (deep := some (lvl (lex b n) k)) hn (by omega) ⟨q1, q2, q3⟩ ⟨(by
      rw [show (5 : Int32) = nI 5 from rfl, nI_leI (by omega) (by omega)]; omega), by rw [e]; exact ⟨_, by omega, c_behindO hn (by omega) q1 i1⟩, by rw [e]; exact ⟨_, by omega, c_behindD hn (by omega) q2 i2⟩, by rw [e]; exact ⟨_, by omega, c_inside hn (by omega) q3 i3⟩⟩
end
