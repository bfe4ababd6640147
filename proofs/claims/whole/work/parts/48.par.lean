-- the tape's readers
/-- the tape while it is read: the token t, steps made so far ops -/
def rdT (I : Nat → Nat → Int32) (n : Nat) (t : Lx) (ops : List Int32) : Prop := I 13 3 = nI n ∧ tkS I t ∧ I 13 4 = nI ops.length ∧ ∀ j, j < ops.length → I 15 j = ops.getD j 0
/-- nothing but the reading has changed -/
def psf (I I' : Nat → Nat → Int32) : Prop := ∀ k, k ≠ 13 → k ≠ 15 → I' k = I k
theorem psf_refl (I : Nat → Nat → Int32) : psf I I := fun _ _ _ => rfl
theorem psf_trans {I J H : Nat → Nat → Int32} (h1 : psf I J) (h2 : psf J H) : psf I H := fun k a b => (h2 k a b).trans (h1 k a b)
theorem psf_tkf {I J : Nat → Nat → Int32} (h : tkf I J) : psf I J := fun k a _ => h.1 k a
theorem rdT_tkf {I J : Nat → Nat → Int32} {n : Nat} {t t' : Lx} {ops : List Int32} (h : rdT I n t ops) (hf : tkf I J) (ht : tkS J t') : rdT J n t' ops :=
  ⟨hf.2.1.trans h.1, ht, hf.2.2.trans h.2.2.1, fun j hj => by rw [hf.1 15 (by decide)]; exact h.2.2.2 j hj⟩
theorem getD_app2 {l : List Int32} {x : Int32} {j : Nat} (h : j < l.length) : (l ++ [x]).getD j 0 = l.getD j 0 := by
  simp [List.getD_eq_getElem?_getD, List.getElem?_append_left h]
theorem getD_app3 {l : List Int32} {x : Int32} : (l ++ [x]).getD l.length 0 = x := by simp
abbrev oneB (g : Bool) : Int32 := if g = true then 1 else 0
/-- what a reader's contract ends with -/
def pR (c : Nat) (ln : Nat → Nat) (L : Nat → Nat → Int64) (I : Nat → Nat → Int32) (n : Nat) (r : Rs) (ops : List Int32) (v : Option Value) (u' : gS) : Prop :=
  v = some (.int (oneB r.1)) ∧ ∃ I', u' = wX c ln I' L ∧ psf I I' ∧ I' 13 6 = nI r.2.2.at_ ∧ (r.1 = true → rdT I' n r.2.2 (ops ++ r.2.1)) ∧ ∃ sc, sc ≤ 160 ∧ I' 13 4 = nI sc
def cR (E : gEnv) (c : Nat) (ln : Nat → Nat) (L : Nat → Nat → Int64) (b : Nat → Int32) (n d y : Nat) (arg : List Value) (R : Rdr) : Prop :=
  ∀ (I : Nat → Nat → Int32) (t : Lx) (ops : List Int32), I 14 = b → rdT I n t ops → vL n t → ops.length < t.at_ → gCtr E d 0 0 y (.ref 13 :: arg) (wX c ln I L) (pR c ln L I n (R t) ops)
section
variable (E : gEnv) (c : Nat) (ln : Nat → Nat) (I : Nat → Nat → Int32) (L : Nat → Nat → Int64)
theorem c_step (x : Int32) (sc : Nat) (hsc : sc ≤ 160) (h4 : I 13 4 = nI sc) : gCtr E 1 0 0 nX5_step [.ref 13, .int x] (wX c ln I L) (fun v u' => v = none ∧ ∃ I', u' = wX c ln I' L ∧ psf I I' ∧ (∀ j, j ≠ 4 → I' 13 j = I 13 j) ∧ (∃ sc', sc' ≤ 160 ∧ I' 13 4 = nI sc') ∧ ∀ (n : Nat) (t : Lx) (ops : List Int32), ops.length < 160 → rdT I n t ops → rdT I' n t (ops ++ [x])) := by
  have hcl : (I 13 4).toNatClampNeg = sc := by rw [h4]; exact nI_clamp (by omega)
  refine gstart iX5_step tX5_step rfl rfl (fun K ca hK hca => ?_)
  refine hK [] 80 _ _ _ _ _ _ ?_
  clear hK
  refine gbr_lq (x := 160) (y := I 13 4) (n := 160) (i := sc) rfl h4 (by omega) (by omega) (fun h => ?_) (fun h => ?_)
  · refine ⟨rfl, I, rfl, psf_refl I, fun _ _ => rfl, ⟨sc, hsc, h4⟩, fun n t ops hl hr => ?_⟩
    have := hr.2.2.1
    rw [h4] at this
    have := (nI_eq (by omega) (by omega)).mp this
    omega
  · refine gsd_i (gvp h4 (by omega) (by omega)) ⟨rfl, _, rfl, fun k a b => (gset_n a).trans (gset_n b), fun j hj => ?_, ⟨sc + 1, by omega, ?_⟩, fun n t ops hl hr => ?_⟩
    · show gupd (I 13) 4 (I 13 4 + 1) j = I 13 j
      rw [gupd_n hj]
    · show I 13 4 + 1 = _
      rw [h4, nI_1]
    · obtain ⟨r1, r2, r3, r4⟩ := hr
      have hol : sc = ops.length := by
        rw [h4] at r3
        exact (nI_eq (by omega) (by omega)).mp r3
      refine ⟨r1, r2, ?_, fun j hj => ?_⟩
      · show I 13 4 + 1 = _
        rw [h4, nI_1, List.length_append, List.length_singleton, hol]
      · show gupd (I 15) (I 13 4).toNatClampNeg x j = _
        rw [hcl]
        rw [List.length_append, List.length_singleton] at hj
        by_cases he : j = sc
        · rw [he, gupd_s, hol, getD_app3]
        · rw [gupd_n he, getD_app2 (by omega)]
          exact r4 j (by omega)
end
section
variable {E : gEnv} {c : Nat} {ln : Nat → Nat} {L : Nat → Nat → Int64} {b : Nat → Int32} {n : Nat}
set_option maxHeartbeats 1000000 in
theorem c_readTerm (hn : n ≤ 160) {d : Nat} (h8 : 7 < d) {x : Int32} {R : Rdr} (hp : prg n R) (hR : cR E c ln L b n d nX5_readOne [.int x] R) : cR E c ln L b n (d + 1) nX5_readTerm [.int x] (fun t => pChain (lex b n) R jT 160 (R t)) := by
  have hl := lex_okL b n
  intro I t ops hb hrd hv hops
  show gCtr E (d + 1) 0 0 nX5_readTerm [.ref 13, .int x] (wX c ln I L) (pR c ln L I n (pChain (lex b n) R jT 160 (R t)) ops)
  refine gstart iX5_readTerm tX5_readTerm rfl rfl (fun K ca hK hca => ?_)
  have loop : ∀ (m i : Nat) (J : Nat → Nat → Int32) (r : Rs), i + m = 160 → vL n r.2.2 → psf I J → J 13 6 = nI r.2.2.at_ → (r.1 = true → rdT J n r.2.2 (ops ++ r.2.1)) → (∃ sc, sc ≤ 160 ∧ J 13 4 = nI sc) → (r.1 = true → r.2.1.length + t.at_ ≤ r.2.2.at_) → pChain (lex b n) R jT m r = pChain (lex b n) R jT 160 (R t) → K 0 0 8 [some (.ref 13), some (.int x), some (.int (oneB r.1)), some (.int (nI i))] [] (wX c ln J L) := by
    intro m
    induction m with
    | zero =>
      intro i J r hi hvr hf h6 hrt hsc hlen he
      refine hK [8] 60 _ _ _ _ _ _ ?_
      refine gbr_lp (n := 160) rfl (by omega) (by omega) (fun _ => ?_) (fun z => by omega)
      rw [← he]
      refine gsd_i ?_ ⟨rfl, J, rfl, hf, h6, hrt, hsc⟩
      by_cases hg : r.1 = true
      · exact Or.inr (if_pos hg)
      · exact Or.inl (if_neg hg)
    | succ m ih =>
      intro i J r hi hvr hf h6 hrt hsc hlen he
      have hJb : J 14 = b := by rw [hf 14 (by decide) (by decide), hb]
      refine hK [8] 60 _ _ _ _ _ _ ?_
      refine gbr_lp (n := 160) rfl (by omega) (by omega) (fun e => by omega) (fun _ => ?_)
      refine gbr_p (fun hg => ?_) (fun hg => ?_)
      · rw [show pChain (lex b n) R jT (m + 1) r = r from if_neg hg] at he
        rw [← he]
        exact gsd_i (Or.inl (if_neg hg)) ⟨rfl, J, rfl, hf, h6, hrt, hsc⟩
      have hr := hrt hg
      have h7 : J 13 7 = r.2.2.tk := hr.2.1.2.2.1
      have hne : jT r.2.2.tk = none → pR c ln L I n (pChain (lex b n) R jT 160 (R t)) ops (some (.int (oneB r.1))) (wX c ln J L) := fun hj => by
        rw [← he]
        have : pChain (lex b n) R jT (m + 1) r = r := by
          unfold pChain; rw [if_pos hg, hj]
        rw [this]
        exact ⟨rfl, J, rfl, hf, h6, hrt, hsc⟩
      refine gbr_eq (y := 42) h7 (fun hq => ?_) (fun hq => ?_)
      · have hz0 : r.2.2.tk ≠ 0 := by rw [hq]; decide
        have hjo : jT r.2.2.tk = some (-9) := by rw [hq]; rfl
        have hpc : pChain (lex b n) R jT (m + 1) r = pChain (lex b n) R jT m ((R (nxt (lex b n) r.2.2)).1, r.2.1 ++ (R (nxt (lex b n) r.2.2)).2.1 ++ [-9], (R (nxt (lex b n) r.2.2)).2.2) := by
          show (if r.1 = true then _ else _) = _
          rw [if_pos hg, hjo]
        rw [hpc] at he
        have hx := vL_nxt hl hvr
        obtain ⟨k1, k2, k3⟩ := hp (nxt (lex b n) r.2.2) hx.1
        have hs := vL_nxt1 hl hvr hz0
        refine gcall0 hca (c_advance E c ln J L n r.2.2.nx hn hvr.2.1 hr.1 hr.2.1.1) (blt_t (by omega)) ?_
        rintro w u' - ⟨rfl, J1, rfl, f1, s1⟩
        rw [hJb] at s1
        have hlen' := hlen hg
        refine gcall0 hca (hR J1 (nxt (lex b n) r.2.2) (ops ++ r.2.1) (by rw [f1.1 14 (by decide), hJb]) (rdT_tkf hr f1 s1) hx.1 (by rw [List.length_append]; omega)) (blt_t (by omega)) ?_
        rintro w u' - ⟨rfl, J2, rfl, f2, a6, art, ⟨sc, hsc1, hsc2⟩⟩
        refine gcall0 hca (c_step E c ln J2 L (-9) sc hsc1 hsc2) (blt_t (by omega)) ?_
        rintro w u' - ⟨rfl, J3, rfl, f3, f4, f5, f6⟩
        have := ih (i + 1) J3 ((R (nxt (lex b n) r.2.2)).1, r.2.1 ++ (R (nxt (lex b n) r.2.2)).2.1 ++ [-9], (R (nxt (lex b n) r.2.2)).2.2) (by omega) k1 (psf_trans hf (psf_trans (psf_tkf f1) (psf_trans f2 f3))) (by rw [f4 6 (by decide)]; exact a6) (fun z => by
          have h1 := art z
          have h2 := f6 n _ _ (by
            have := (k3 z).1
            have q1 := k1.1
            have q2 := k1.2.1
            rw [List.length_append, List.length_append]
            omega) h1
          rw [List.append_assoc, List.append_assoc] at h2
          show rdT J3 n _ (ops ++ (r.2.1 ++ (R (nxt (lex b n) r.2.2)).2.1 ++ [-9]))
          rw [List.append_assoc]
          exact h2) f5 (fun z => by
          have := (k3 z).1
          show (r.2.1 ++ (R (nxt (lex b n) r.2.2)).2.1 ++ [-9]).length + t.at_ ≤ _
          rw [List.length_append, List.length_append, List.length_singleton]
          have q : (R (nxt (lex b n) r.2.2)).2.1.length + (nxt (lex b n) r.2.2).at_ ≤ (R (nxt (lex b n) r.2.2)).2.2.at_ := this
          show r.2.1.length + _ + 1 + t.at_ ≤ (R (nxt (lex b n) r.2.2)).2.2.at_
          omega) he
        rw [← nI_1] at this
        exact this
      · exact gsd_i (Or.inr (if_pos hg)) (hne (if_neg hq))
  refine hK [8] 60 _ _ _ _ _ _ ?_
  refine gcall0 hca (hR I t ops hb hrd hv hops) (blt_t (by omega)) ?_
  rintro w u' - ⟨rfl, I1, rfl, g1, g2, g3, g4⟩
  obtain ⟨k1, k2, k3⟩ := hp t hv
  exact loop 160 0 I1 (R t) (by omega) k1 g1 g2 g3 g4 (fun z => (k3 z).1) rfl
set_option maxHeartbeats 1000000 in
theorem c_readBoth (hn : n ≤ 160) {d : Nat} (h8 : 7 < d) {x : Int32} {R : Rdr} (hp : prg n R) (hR : cR E c ln L b n d nX5_readDenied [.int x] R) : cR E c ln L b n (d + 1) nX5_readBoth [.int x] (fun t => pChain (lex b n) R jB 160 (R t)) := by
  have hl := lex_okL b n
  intro I t ops hb hrd hv hops
  show gCtr E (d + 1) 0 0 nX5_readBoth [.ref 13, .int x] (wX c ln I L) (pR c ln L I n (pChain (lex b n) R jB 160 (R t)) ops)
  refine gstart iX5_readBoth tX5_readBoth rfl rfl (fun K ca hK hca => ?_)
  have loop : ∀ (m i : Nat) (J : Nat → Nat → Int32) (r : Rs), i + m = 160 → vL n r.2.2 → psf I J → J 13 6 = nI r.2.2.at_ → (r.1 = true → rdT J n r.2.2 (ops ++ r.2.1)) → (∃ sc, sc ≤ 160 ∧ J 13 4 = nI sc) → (r.1 = true → r.2.1.length + t.at_ ≤ r.2.2.at_) → pChain (lex b n) R jB m r = pChain (lex b n) R jB 160 (R t) → K 0 0 8 [some (.ref 13), some (.int x), some (.int (oneB r.1)), some (.int (nI i))] [] (wX c ln J L) := by
    intro m
    induction m with
    | zero =>
      intro i J r hi hvr hf h6 hrt hsc hlen he
      refine hK [8] 60 _ _ _ _ _ _ ?_
      refine gbr_lp (n := 160) rfl (by omega) (by omega) (fun _ => ?_) (fun z => by omega)
      rw [← he]
      refine gsd_i ?_ ⟨rfl, J, rfl, hf, h6, hrt, hsc⟩
      by_cases hg : r.1 = true
      · exact Or.inr (if_pos hg)
      · exact Or.inl (if_neg hg)
    | succ m ih =>
      intro i J r hi hvr hf h6 hrt hsc hlen he
      have hJb : J 14 = b := by rw [hf 14 (by decide) (by decide), hb]
      refine hK [8] 60 _ _ _ _ _ _ ?_
      refine gbr_lp (n := 160) rfl (by omega) (by omega) (fun e => by omega) (fun _ => ?_)
      refine gbr_p (fun hg => ?_) (fun hg => ?_)
      · rw [show pChain (lex b n) R jB (m + 1) r = r from if_neg hg] at he
        rw [← he]
        exact gsd_i (Or.inl (if_neg hg)) ⟨rfl, J, rfl, hf, h6, hrt, hsc⟩
      have hr := hrt hg
      have h7 : J 13 7 = r.2.2.tk := hr.2.1.2.2.1
      have hne : jB r.2.2.tk = none → pR c ln L I n (pChain (lex b n) R jB 160 (R t)) ops (some (.int (oneB r.1))) (wX c ln J L) := fun hj => by
        rw [← he]
        have : pChain (lex b n) R jB (m + 1) r = r := by
          unfold pChain; rw [if_pos hg, hj]
        rw [this]
        exact ⟨rfl, J, rfl, hf, h6, hrt, hsc⟩
      refine gbr_eq (y := 132) h7 (fun hq => ?_) (fun hq => ?_)
      · have hz0 : r.2.2.tk ≠ 0 := by rw [hq]; decide
        have hjo : jB r.2.2.tk = some (-14) := by rw [hq]; rfl
        have hpc : pChain (lex b n) R jB (m + 1) r = pChain (lex b n) R jB m ((R (nxt (lex b n) r.2.2)).1, r.2.1 ++ (R (nxt (lex b n) r.2.2)).2.1 ++ [-14], (R (nxt (lex b n) r.2.2)).2.2) := by
          show (if r.1 = true then _ else _) = _
          rw [if_pos hg, hjo]
        rw [hpc] at he
        have hx := vL_nxt hl hvr
        obtain ⟨k1, k2, k3⟩ := hp (nxt (lex b n) r.2.2) hx.1
        have hs := vL_nxt1 hl hvr hz0
        refine gcall0 hca (c_advance E c ln J L n r.2.2.nx hn hvr.2.1 hr.1 hr.2.1.1) (blt_t (by omega)) ?_
        rintro w u' - ⟨rfl, J1, rfl, f1, s1⟩
        rw [hJb] at s1
        have hlen' := hlen hg
        refine gcall0 hca (hR J1 (nxt (lex b n) r.2.2) (ops ++ r.2.1) (by rw [f1.1 14 (by decide), hJb]) (rdT_tkf hr f1 s1) hx.1 (by rw [List.length_append]; omega)) (blt_t (by omega)) ?_
        rintro w u' - ⟨rfl, J2, rfl, f2, a6, art, ⟨sc, hsc1, hsc2⟩⟩
        refine gcall0 hca (c_step E c ln J2 L (-14) sc hsc1 hsc2) (blt_t (by omega)) ?_
        rintro w u' - ⟨rfl, J3, rfl, f3, f4, f5, f6⟩
        have := ih (i + 1) J3 ((R (nxt (lex b n) r.2.2)).1, r.2.1 ++ (R (nxt (lex b n) r.2.2)).2.1 ++ [-14], (R (nxt (lex b n) r.2.2)).2.2) (by omega) k1 (psf_trans hf (psf_trans (psf_tkf f1) (psf_trans f2 f3))) (by rw [f4 6 (by decide)]; exact a6) (fun z => by
          have h1 := art z
          have h2 := f6 n _ _ (by
            have := (k3 z).1
            have q1 := k1.1
            have q2 := k1.2.1
            rw [List.length_append, List.length_append]
            omega) h1
          rw [List.append_assoc, List.append_assoc] at h2
          show rdT J3 n _ (ops ++ (r.2.1 ++ (R (nxt (lex b n) r.2.2)).2.1 ++ [-14]))
          rw [List.append_assoc]
          exact h2) f5 (fun z => by
          have := (k3 z).1
          show (r.2.1 ++ (R (nxt (lex b n) r.2.2)).2.1 ++ [-14]).length + t.at_ ≤ _
          rw [List.length_append, List.length_append, List.length_singleton]
          have q : (R (nxt (lex b n) r.2.2)).2.1.length + (nxt (lex b n) r.2.2).at_ ≤ (R (nxt (lex b n) r.2.2)).2.2.at_ := this
          show r.2.1.length + _ + 1 + t.at_ ≤ (R (nxt (lex b n) r.2.2)).2.2.at_
          omega) he
        rw [← nI_1] at this
        exact this
      · exact gsd_i (Or.inr (if_pos hg)) (hne (if_neg hq))
  refine hK [8] 60 _ _ _ _ _ _ ?_
  refine gcall0 hca (hR I t ops hb hrd hv hops) (blt_t (by omega)) ?_
  rintro w u' - ⟨rfl, I1, rfl, g1, g2, g3, g4⟩
  obtain ⟨k1, k2, k3⟩ := hp t hv
  exact loop 160 0 I1 (R t) (by omega) k1 g1 g2 g3 g4 (fun z => (k3 z).1) rfl
set_option maxHeartbeats 1000000 in
theorem c_readEither (hn : n ≤ 160) {d : Nat} (h8 : 7 < d) {x : Int32} {R : Rdr} (hp : prg n R) (hR : cR E c ln L b n d nX5_readBoth [.int x] R) : cR E c ln L b n (d + 1) nX5_readEither [.int x] (fun t => pChain (lex b n) R jE 160 (R t)) := by
  have hl := lex_okL b n
  intro I t ops hb hrd hv hops
  show gCtr E (d + 1) 0 0 nX5_readEither [.ref 13, .int x] (wX c ln I L) (pR c ln L I n (pChain (lex b n) R jE 160 (R t)) ops)
  refine gstart iX5_readEither tX5_readEither rfl rfl (fun K ca hK hca => ?_)
  have loop : ∀ (m i : Nat) (J : Nat → Nat → Int32) (r : Rs), i + m = 160 → vL n r.2.2 → psf I J → J 13 6 = nI r.2.2.at_ → (r.1 = true → rdT J n r.2.2 (ops ++ r.2.1)) → (∃ sc, sc ≤ 160 ∧ J 13 4 = nI sc) → (r.1 = true → r.2.1.length + t.at_ ≤ r.2.2.at_) → pChain (lex b n) R jE m r = pChain (lex b n) R jE 160 (R t) → K 0 0 8 [some (.ref 13), some (.int x), some (.int (oneB r.1)), some (.int (nI i))] [] (wX c ln J L) := by
    intro m
    induction m with
    | zero =>
      intro i J r hi hvr hf h6 hrt hsc hlen he
      refine hK [8] 60 _ _ _ _ _ _ ?_
      refine gbr_lp (n := 160) rfl (by omega) (by omega) (fun _ => ?_) (fun z => by omega)
      rw [← he]
      refine gsd_i ?_ ⟨rfl, J, rfl, hf, h6, hrt, hsc⟩
      by_cases hg : r.1 = true
      · exact Or.inr (if_pos hg)
      · exact Or.inl (if_neg hg)
    | succ m ih =>
      intro i J r hi hvr hf h6 hrt hsc hlen he
      have hJb : J 14 = b := by rw [hf 14 (by decide) (by decide), hb]
      refine hK [8] 60 _ _ _ _ _ _ ?_
      refine gbr_lp (n := 160) rfl (by omega) (by omega) (fun e => by omega) (fun _ => ?_)
      refine gbr_p (fun hg => ?_) (fun hg => ?_)
      · rw [show pChain (lex b n) R jE (m + 1) r = r from if_neg hg] at he
        rw [← he]
        exact gsd_i (Or.inl (if_neg hg)) ⟨rfl, J, rfl, hf, h6, hrt, hsc⟩
      have hr := hrt hg
      have h7 : J 13 7 = r.2.2.tk := hr.2.1.2.2.1
      have hne : jE r.2.2.tk = none → pR c ln L I n (pChain (lex b n) R jE 160 (R t)) ops (some (.int (oneB r.1))) (wX c ln J L) := fun hj => by
        rw [← he]
        have : pChain (lex b n) R jE (m + 1) r = r := by
          unfold pChain; rw [if_pos hg, hj]
        rw [this]
        exact ⟨rfl, J, rfl, hf, h6, hrt, hsc⟩
      refine gbr_eq (y := 131) h7 (fun hq => ?_) (fun hq => ?_)
      · have hz0 : r.2.2.tk ≠ 0 := by rw [hq]; decide
        have hjo : jE r.2.2.tk = some (-15) := by rw [hq]; rfl
        have hpc : pChain (lex b n) R jE (m + 1) r = pChain (lex b n) R jE m ((R (nxt (lex b n) r.2.2)).1, r.2.1 ++ (R (nxt (lex b n) r.2.2)).2.1 ++ [-15], (R (nxt (lex b n) r.2.2)).2.2) := by
          show (if r.1 = true then _ else _) = _
          rw [if_pos hg, hjo]
        rw [hpc] at he
        have hx := vL_nxt hl hvr
        obtain ⟨k1, k2, k3⟩ := hp (nxt (lex b n) r.2.2) hx.1
        have hs := vL_nxt1 hl hvr hz0
        refine gcall0 hca (c_advance E c ln J L n r.2.2.nx hn hvr.2.1 hr.1 hr.2.1.1) (blt_t (by omega)) ?_
        rintro w u' - ⟨rfl, J1, rfl, f1, s1⟩
        rw [hJb] at s1
        have hlen' := hlen hg
        refine gcall0 hca (hR J1 (nxt (lex b n) r.2.2) (ops ++ r.2.1) (by rw [f1.1 14 (by decide), hJb]) (rdT_tkf hr f1 s1) hx.1 (by rw [List.length_append]; omega)) (blt_t (by omega)) ?_
        rintro w u' - ⟨rfl, J2, rfl, f2, a6, art, ⟨sc, hsc1, hsc2⟩⟩
        refine gcall0 hca (c_step E c ln J2 L (-15) sc hsc1 hsc2) (blt_t (by omega)) ?_
        rintro w u' - ⟨rfl, J3, rfl, f3, f4, f5, f6⟩
        have := ih (i + 1) J3 ((R (nxt (lex b n) r.2.2)).1, r.2.1 ++ (R (nxt (lex b n) r.2.2)).2.1 ++ [-15], (R (nxt (lex b n) r.2.2)).2.2) (by omega) k1 (psf_trans hf (psf_trans (psf_tkf f1) (psf_trans f2 f3))) (by rw [f4 6 (by decide)]; exact a6) (fun z => by
          have h1 := art z
          have h2 := f6 n _ _ (by
            have := (k3 z).1
            have q1 := k1.1
            have q2 := k1.2.1
            rw [List.length_append, List.length_append]
            omega) h1
          rw [List.append_assoc, List.append_assoc] at h2
          show rdT J3 n _ (ops ++ (r.2.1 ++ (R (nxt (lex b n) r.2.2)).2.1 ++ [-15]))
          rw [List.append_assoc]
          exact h2) f5 (fun z => by
          have := (k3 z).1
          show (r.2.1 ++ (R (nxt (lex b n) r.2.2)).2.1 ++ [-15]).length + t.at_ ≤ _
          rw [List.length_append, List.length_append, List.length_singleton]
          have q : (R (nxt (lex b n) r.2.2)).2.1.length + (nxt (lex b n) r.2.2).at_ ≤ (R (nxt (lex b n) r.2.2)).2.2.at_ := this
          show r.2.1.length + _ + 1 + t.at_ ≤ (R (nxt (lex b n) r.2.2)).2.2.at_
          omega) he
        rw [← nI_1] at this
        exact this
      · exact gsd_i (Or.inr (if_pos hg)) (hne (if_neg hq))
  refine hK [8] 60 _ _ _ _ _ _ ?_
  refine gcall0 hca (hR I t ops hb hrd hv hops) (blt_t (by omega)) ?_
  rintro w u' - ⟨rfl, I1, rfl, g1, g2, g3, g4⟩
  obtain ⟨k1, k2, k3⟩ := hp t hv
  exact loop 160 0 I1 (R t) (by omega) k1 g1 g2 g3 g4 (fun z => (k3 z).1) rfl
set_option maxHeartbeats 1000000 in
theorem c_readSum (hn : n ≤ 160) {d : Nat} (h8 : 7 < d) {x : Int32} {R : Rdr} (hp : prg n R) (hR : cR E c ln L b n d nX5_readTerm [.int x] R) : cR E c ln L b n (d + 1) nX5_readSum [.int x] (fun t => pChain (lex b n) R jS 160 (R t)) := by
  have hl := lex_okL b n
  intro I t ops hb hrd hv hops
  show gCtr E (d + 1) 0 0 nX5_readSum [.ref 13, .int x] (wX c ln I L) (pR c ln L I n (pChain (lex b n) R jS 160 (R t)) ops)
  refine gstart iX5_readSum tX5_readSum rfl rfl (fun K ca hK hca => ?_)
  have loop : ∀ (m i : Nat) (J : Nat → Nat → Int32) (r : Rs) (x4 : Option Value), i + m = 160 → vL n r.2.2 → psf I J → J 13 6 = nI r.2.2.at_ → (r.1 = true → rdT J n r.2.2 (ops ++ r.2.1)) → (∃ sc, sc ≤ 160 ∧ J 13 4 = nI sc) → (r.1 = true → r.2.1.length + t.at_ ≤ r.2.2.at_) → pChain (lex b n) R jS m r = pChain (lex b n) R jS 160 (R t) → K 0 0 8 [some (.ref 13), some (.int x), some (.int (oneB r.1)), some (.int (nI i)), x4] [] (wX c ln J L) := by
    intro m
    induction m with
    | zero =>
      intro i J r x4 hi hvr hf h6 hrt hsc hlen he
      refine hK [8] 60 _ _ _ _ _ _ ?_
      refine gbr_lp (n := 160) rfl (by omega) (by omega) (fun _ => ?_) (fun z => by omega)
      rw [← he]
      refine gsd_i ?_ ⟨rfl, J, rfl, hf, h6, hrt, hsc⟩
      by_cases hg : r.1 = true
      · exact Or.inr (if_pos hg)
      · exact Or.inl (if_neg hg)
    | succ m ih =>
      intro i J r x4 hi hvr hf h6 hrt hsc hlen he
      have hJb : J 14 = b := by rw [hf 14 (by decide) (by decide), hb]
      refine hK [8, 55] 60 _ _ _ _ _ _ ?_
      refine gbr_lp (n := 160) rfl (by omega) (by omega) (fun e => by omega) (fun _ => ?_)
      refine gbr_p (fun hg => ?_) (fun hg => ?_)
      · rw [show pChain (lex b n) R jS (m + 1) r = r from if_neg hg] at he
        rw [← he]
        exact gsd_i (Or.inl (if_neg hg)) ⟨rfl, J, rfl, hf, h6, hrt, hsc⟩
      have hr := hrt hg
      have h7 : J 13 7 = r.2.2.tk := hr.2.1.2.2.1
      have hne : jS r.2.2.tk = none → pR c ln L I n (pChain (lex b n) R jS 160 (R t)) ops (some (.int (oneB r.1))) (wX c ln J L) := fun hj => by
        rw [← he]
        have : pChain (lex b n) R jS (m + 1) r = r := by
          unfold pChain; rw [if_pos hg, hj]
        rw [this]
        exact ⟨rfl, J, rfl, hf, h6, hrt, hsc⟩
      have tail : ∀ op : Int32, jS r.2.2.tk = some op → r.2.2.tk ≠ 0 → K 0 0 55 [some (.ref 13), some (.int x), some (.int (oneB r.1)), some (.int (nI i)), some (.int op)] [] (wX c ln J L) := by
        intro op hjo hz0
        refine hK [8] 60 _ _ _ _ _ _ ?_
        have hpc : pChain (lex b n) R jS (m + 1) r = pChain (lex b n) R jS m ((R (nxt (lex b n) r.2.2)).1, r.2.1 ++ (R (nxt (lex b n) r.2.2)).2.1 ++ [op], (R (nxt (lex b n) r.2.2)).2.2) := by
          show (if r.1 = true then _ else _) = _
          rw [if_pos hg, hjo]
        rw [hpc] at he
        have hx := vL_nxt hl hvr
        obtain ⟨k1, k2, k3⟩ := hp (nxt (lex b n) r.2.2) hx.1
        have hs := vL_nxt1 hl hvr hz0
        refine gcall0 hca (c_advance E c ln J L n r.2.2.nx hn hvr.2.1 hr.1 hr.2.1.1) (blt_t (by omega)) ?_
        rintro w u' - ⟨rfl, J1, rfl, f1, s1⟩
        rw [hJb] at s1
        have hlen' := hlen hg
        refine gcall0 hca (hR J1 (nxt (lex b n) r.2.2) (ops ++ r.2.1) (by rw [f1.1 14 (by decide), hJb]) (rdT_tkf hr f1 s1) hx.1 (by rw [List.length_append]; omega)) (blt_t (by omega)) ?_
        rintro w u' - ⟨rfl, J2, rfl, f2, a6, art, ⟨sc, hsc1, hsc2⟩⟩
        refine gcall0 hca (c_step E c ln J2 L (op) sc hsc1 hsc2) (blt_t (by omega)) ?_
        rintro w u' - ⟨rfl, J3, rfl, f3, f4, f5, f6⟩
        have := ih (i + 1) J3 ((R (nxt (lex b n) r.2.2)).1, r.2.1 ++ (R (nxt (lex b n) r.2.2)).2.1 ++ [op], (R (nxt (lex b n) r.2.2)).2.2) (some (.int op)) (by omega) k1 (psf_trans hf (psf_trans (psf_tkf f1) (psf_trans f2 f3))) (by rw [f4 6 (by decide)]; exact a6) (fun z => by
          have h1 := art z
          have h2 := f6 n _ _ (by
            have := (k3 z).1
            have q1 := k1.1
            have q2 := k1.2.1
            rw [List.length_append, List.length_append]
            omega) h1
          rw [List.append_assoc, List.append_assoc] at h2
          show rdT J3 n _ (ops ++ (r.2.1 ++ (R (nxt (lex b n) r.2.2)).2.1 ++ [op]))
          rw [List.append_assoc]
          exact h2) f5 (fun z => by
          have := (k3 z).1
          show (r.2.1 ++ (R (nxt (lex b n) r.2.2)).2.1 ++ [op]).length + t.at_ ≤ _
          rw [List.length_append, List.length_append, List.length_singleton]
          have q : (R (nxt (lex b n) r.2.2)).2.1.length + (nxt (lex b n) r.2.2).at_ ≤ (R (nxt (lex b n) r.2.2)).2.2.at_ := this
          show r.2.1.length + _ + 1 + t.at_ ≤ (R (nxt (lex b n) r.2.2)).2.2.at_
          omega) he
        rw [← nI_1] at this
        exact this
      refine gbr_eq (y := 43) h7 (fun hq => ?_) (fun hq => ?_)
      · refine gbr_eq (y := 43) h7 (fun _ => ?_) (fun z => absurd hq z)
        exact tail (-10) (by rw [hq]; rfl) (by rw [hq]; decide)
      · refine gbr_eq (y := 45) h7 (fun hq2 => ?_) (fun hq2 => ?_)
        · refine gbr_eq (y := 43) h7 (fun z => absurd z hq) (fun _ => ?_)
          exact tail (-11) (by rw [hq2]; rfl) (by rw [hq2]; decide)
        · exact gsd_i (Or.inr (if_pos hg)) (hne (by unfold jS; rw [if_neg hq, if_neg hq2]))
  refine hK [8] 60 _ _ _ _ _ _ ?_
  refine gcall0 hca (hR I t ops hb hrd hv hops) (blt_t (by omega)) ?_
  rintro w u' - ⟨rfl, I1, rfl, g1, g2, g3, g4⟩
  obtain ⟨k1, k2, k3⟩ := hp t hv
  exact loop 160 0 I1 (R t) none (by omega) k1 g1 g2 g3 g4 (fun z => (k3 z).1) rfl
end
