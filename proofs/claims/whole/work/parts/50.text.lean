-- reading a text whole
abbrev Tx := Bool × (List Int32 × List Int32 × List Int32) × Nat
def pTxt (lx : Nat → Lx) : Tx :=
  if (pPart lx 0 (lx 0)).1 = true then
    (if (pPart lx 1 (pPart lx 0 (lx 0)).2.2).1 = true then
      (if (pPart lx 2 (pPart lx 1 (pPart lx 0 (lx 0)).2.2).2.2).1 = true then
        (if (pPart lx 2 (pPart lx 1 (pPart lx 0 (lx 0)).2.2).2.2).2.2.tk = 0 then (true, ((pPart lx 0 (lx 0)).2.1, (pPart lx 1 (pPart lx 0 (lx 0)).2.2).2.1, (pPart lx 2 (pPart lx 1 (pPart lx 0 (lx 0)).2.2).2.2).2.1), 0)
        else (false, ([], [], []), (pPart lx 2 (pPart lx 1 (pPart lx 0 (lx 0)).2.2).2.2).2.2.at_))
      else (false, ([], [], []), (pPart lx 2 (pPart lx 1 (pPart lx 0 (lx 0)).2.2).2.2).2.2.at_))
    else (false, ([], [], []), (pPart lx 1 (pPart lx 0 (lx 0)).2.2).2.2.at_))
  else (false, ([], [], []), (pPart lx 0 (lx 0)).2.2.at_)
/-- the steps as they lie behind a reading -/
def layT (I : Nat → Nat → Int32) (o : List Int32 × List Int32 × List Int32) : Prop := I 13 4 = nI (o.1 ++ o.2.1 ++ o.2.2).length ∧ (o.1 ++ o.2.1 ++ o.2.2).length < 160 ∧ (∀ j, j < (o.1 ++ o.2.1 ++ o.2.2).length → I 15 j = (o.1 ++ o.2.1 ++ o.2.2).getD j 0) ∧ I 16 1 = nI o.1.length ∧ I 16 2 = nI (o.1 ++ o.2.1).length
def rst (I I' : Nat → Nat → Int32) : Prop := ∀ k, k ≠ 13 → k ≠ 15 → k ≠ 16 → I' k = I k
theorem rst_psf {I J : Nat → Nat → Int32} (h : psf I J) : rst I J := fun k a b _ => h k a b
theorem rst_trans {I J H : Nat → Nat → Int32} (h1 : rst I J) (h2 : rst J H) : rst I H := fun k a b d => (h2 k a b d).trans (h1 k a b d)
theorem sum3 {a b d w x y z n : Nat} (h0 : a + w < x) (h1 : b + x < y) (h2 : d + y < z) (h3 : z ≤ n) (h4 : n ≤ 160) : a + b + d < 160 := by omega
section
variable (E : gEnv) (c : Nat) (ln : Nat → Nat) (I : Nat → Nat → Int32) (L : Nat → Nat → Int64)
/-- one part of a text: its key, what is read, a ; -/
theorem prg_part {b : Nat → Int32} {n : Nat} (key : Int32) {t : Lx} (ht : vL n t) : vL n (pPart (lex b n) key t).2.2 ∧ ((pPart (lex b n) key t).1 = true → (pPart (lex b n) key t).2.1.length + t.at_ < (pPart (lex b n) key t).2.2.at_) := by
  have hl := lex_okL b n
  obtain ⟨_, _, p3⟩ := prg_lvl hl 5
  unfold pPart
  by_cases h1 : t.tk = 128 + key
  · rw [if_pos h1]
    obtain ⟨g1, g2, g3⟩ := p3 _ (vL_nxt hl ht).1
    by_cases h2 : ((lvl (lex b n) 5).2.2 (nxt (lex b n) t)).1 = true ∧ ((lvl (lex b n) 5).2.2 (nxt (lex b n) t)).2.2.tk = 59
    · rw [if_pos h2]
      refine ⟨(vL_nxt hl g1).1, fun _ => ?_⟩
      have := (g3 h2.1).1
      have h4 := vL_nxt1 hl g1 (by rw [h2.2]; decide)
      have h5 := (vL_nxt hl ht).2
      have h6 := ht.1
      show ((lvl (lex b n) 5).2.2 (nxt (lex b n) t)).2.1.length + t.at_ < (nxt (lex b n) ((lvl (lex b n) 5).2.2 (nxt (lex b n) t)).2.2).at_
      omega
    · rw [if_neg h2]; exact ⟨g1, fun z => ff z⟩
  · rw [if_neg h1]; exact ⟨ht, fun z => ff z⟩
set_option maxHeartbeats 1000000 in
theorem c_readText (n : Nat) (hn : n ≤ 160) (h3 : I 13 3 = nI n) : gCtr E 50 0 0 nX5_readText [.ref 13] (wX c ln I L) (fun v u' => ((pTxt (lex (I 14) n)).1 = true → v = some (.int (-1)) ∧ ∃ I', u' = wX c ln I' L ∧ rst I I' ∧ layT I' (pTxt (lex (I 14) n)).2.1) ∧ (¬ (pTxt (lex (I 14) n)).1 = true → v = some (.int (nI (pTxt (lex (I 14) n)).2.2)) ∧ (pTxt (lex (I 14) n)).2.2 ≤ 160 ∧ ∃ I', u' = wX c ln I' L ∧ rst I I')) := by
  obtain ⟨b, hb⟩ : ∃ b, I 14 = b := ⟨_, rfl⟩
  rw [hb]
  have hl := lex_okL b n
  have hE : cR E c ln L b n 49 nX5_readEither [.int 0] (lvl (lex b n) 5).2.2 := (c_lvl hn 5 (Nat.le_refl _)).2.2
  obtain ⟨_, _, p3⟩ := prg_lvl hl 5
  refine gstart iX5_readText tX5_readText rfl rfl (fun K ca hK hca => ?_)
  -- one part
  have part : ∀ k, k < 3 → ∀ (J : Nat → Nat → Int32) (t : Lx) (ops : List Int32), rst I J → rdT J n t ops → vL n t → ops.length ≤ t.at_ → (¬ (pPart (lex b n) (nI k) t).1 = true → ¬ (pTxt (lex b n)).1 = true ∧ (pTxt (lex b n)).2.2 = (pPart (lex b n) (nI k) t).2.2.at_) → ((pPart (lex b n) (nI k) t).1 = true → ∀ J', rst I J' → J' 16 = gupd (J 16) k (nI ops.length) → rdT J' n (pPart (lex b n) (nI k) t).2.2 (ops ++ (pPart (lex b n) (nI k) t).2.1) → K 0 0 16 [some (.ref 13), some (.int (nI (k + 1)))] [] (wX c ln J' L)) → K 0 0 16 [some (.ref 13), some (.int (nI k))] [] (wX c ln J L) := by
    intro k hk J t ops hf hr hv hops hbad hgood
    have hclk : (nI k).toNatClampNeg = k := nI_clamp (by omega)
    have hvk : vp_in (nI k) 3 := vp_in_nI hk (by omega)
    have hJb : J 14 = b := by rw [hf 14 (by decide) (by decide) (by decide), hb]
    have hv1 := hv.1
    have hv2 := hv.2.1
    -- where it ends with a fault
    have flt : ¬ (pPart (lex b n) (nI k) t).1 = true → ∀ J2, rst I J2 → J2 13 6 = nI (pPart (lex b n) (nI k) t).2.2.at_ → (pPart (lex b n) (nI k) t).2.2.at_ ≤ n → ((pTxt (lex b n)).1 = true → some (Value.int (J2 13 6)) = some (.int (-1)) ∧ ∃ I', wX c ln J2 L = wX c ln I' L ∧ rst I I' ∧ layT I' (pTxt (lex b n)).2.1) ∧ (¬ (pTxt (lex b n)).1 = true → some (Value.int (J2 13 6)) = some (.int (nI (pTxt (lex b n)).2.2)) ∧ (pTxt (lex b n)).2.2 ≤ 160 ∧ ∃ I', wX c ln J2 L = wX c ln I' L ∧ rst I I') := by
      intro hb2 J2 hf2 h6 hle
      obtain ⟨q1, q2⟩ := hbad hb2
      refine ⟨fun z => absurd z q1, fun _ => ⟨by rw [q2, h6], by omega, J2, rfl, hf2⟩⟩
    refine hK [16] 80 _ _ _ _ _ _ ?_
    refine gbr_lt2 (x := 2) (y := nI k) (n := 2) (i := k) rfl rfl (by omega) (by omega) (fun z => by omega) (fun _ => ?_)
    refine gbr_eq (y := 128 + nI k) hr.2.1.2.2.1 (fun h1 => ?_) (fun h1 => ?_)
    · refine gsd_i hvk ?_
      have hx := vL_nxt hl hv
      have hs := vL_nxt1 hl hv (fun z => by
        rw [z] at h1
        rw [show (128 : Int32) = nI 128 from rfl, nI_add] at h1
        exact nI_ne0 (by omega) (by omega) h1.symm)
      have hr1 : rdT (gset J 16 (gupd (J 16) (nI k).toNatClampNeg (J 13 4))) n t ops := hr
      refine gcall0 hca (c_advance E c ln (gset J 16 (gupd (J 16) (nI k).toNatClampNeg (J 13 4))) L n t.nx hn hv.2.1 hr1.1 hr1.2.1.1) rfl ?_
      rintro w u' - ⟨rfl, J1, rfl, f1, s1⟩
      rw [show gset J 16 (gupd (J 16) (nI k).toNatClampNeg (J 13 4)) 14 = b from hJb] at s1
      have hJ1b : J1 14 = b := by rw [f1.1 14 (by decide)]; exact hJb
      have f0 : rst J (gset J 16 (gupd (J 16) (nI k).toNatClampNeg (J 13 4))) := fun k _ _ d => gset_n d
      refine gcall0 hca (hE J1 (nxt (lex b n) t) ops hJ1b (rdT_tkf hr1 f1 s1) hx.1 (by omega)) rfl ?_
      rintro w u' - ⟨rfl, J2, rfl, f2, a6, art, hsc⟩
      obtain ⟨m1, m2, m3⟩ := p3 _ hx.1
      have fall : rst I J2 := rst_trans hf (rst_trans f0 (rst_trans (rst_psf (psf_tkf f1)) (rst_psf f2)))
      have bad2 : ¬ (((lvl (lex b n) 5).2.2 (nxt (lex b n) t)).1 = true ∧ ((lvl (lex b n) 5).2.2 (nxt (lex b n) t)).2.2.tk = 59) → pPart (lex b n) (nI k) t = (false, [], ((lvl (lex b n) 5).2.2 (nxt (lex b n) t)).2.2) := fun h => (if_pos h1).trans (if_neg h)
      have le2 : ((lvl (lex b n) 5).2.2 (nxt (lex b n) t)).2.2.at_ ≤ n := by have := m1.1; have := m1.2.1; omega
      refine gbr_p (fun hg => ?_) (fun hg => ?_)
      · have e := bad2 (fun z => hg z.1)
        rw [e] at flt
        exact flt (fun z => ff z) J2 fall a6 le2
      · have hr2 := art hg
        refine gbr_eq (y := 59) hr2.2.1.2.2.1 (fun hq => ?_) (fun hq => ?_)
        · have e : pPart (lex b n) (nI k) t = (true, ((lvl (lex b n) 5).2.2 (nxt (lex b n) t)).2.1, nxt (lex b n) ((lvl (lex b n) 5).2.2 (nxt (lex b n) t)).2.2) := (if_pos h1).trans (if_pos ⟨hg, hq⟩)
          refine gcall0 hca (c_advance E c ln J2 L n ((lvl (lex b n) 5).2.2 (nxt (lex b n) t)).2.2.nx hn m1.2.1 hr2.1 hr2.2.1.1) rfl ?_
          rintro w u' - ⟨rfl, J3, rfl, f3, s3⟩
          rw [f2 14 (by decide) (by decide), hJ1b] at s3
          rw [e] at hgood
          have := hgood rfl J3 (rst_trans fall (rst_psf (psf_tkf f3))) (by
            rw [f3.1 16 (by decide), f2 16 (by decide) (by decide), f1.1 16 (by decide), gset_s, hclk, hr.2.2.1]) (rdT_tkf hr2 f3 s3)
          rw [← nI_1] at this
          exact this
        · have e := bad2 (fun z => hq z.2)
          rw [e] at flt
          exact flt (fun z => ff z) J2 fall a6 le2
    · have e : pPart (lex b n) (nI k) t = (false, [], t) := if_neg h1
      rw [e] at flt
      exact flt (fun z => ff z) J hf hr.2.1.2.1 (by show t.at_ ≤ n; omega)
  have h00 : gset (gset I 13 (gupd (I 13) 5 0)) 13 (gupd (gset I 13 (gupd (I 13) 5 0) 13) 4 0) 14 = b := hb
  refine hK [16] 60 _ _ _ _ _ _ ?_
  refine gcall0 hca (c_advance E c ln (gset (gset I 13 (gupd (I 13) 5 0)) 13 (gupd (gset I 13 (gupd (I 13) 5 0) 13) 4 0)) L n 0 hn (Nat.zero_le _) h3 rfl) rfl ?_
  rintro w u' - ⟨rfl, J0, rfl, f0, s0⟩
  rw [h00] at s0
  have v0 : vL n (lex b n 0) := by
    obtain ⟨⟨h1, h2, h3, h4⟩, h5⟩ := hl 0 (Nat.zero_le _)
    exact ⟨h2, h3, h4, h5⟩
  have fI : rst I J0 := fun k a b' d => by
    rw [f0.1 k a, gset_n a, gset_n a]
  have r0 : rdT J0 n (lex b n 0) [] := ⟨f0.2.1.trans h3, s0, f0.2.2, fun j hj => absurd hj (Nat.not_lt_zero _)⟩
  -- the three parts
  have q0 := prg_part (b := b) (n := n) (nI 0) v0
  refine part 0 (by omega) J0 (lex b n 0) [] fI r0 v0 (Nat.zero_le _) (fun z => ?_) (fun g0 J1 fJ1 b1 r1 => ?_)
  · have e : pTxt (lex b n) = (false, ([], [], []), (pPart (lex b n) 0 (lex b n 0)).2.2.at_) := if_neg z
    rw [e]; exact ⟨fun z => ff z, rfl⟩
  have l0 := q0.2 g0
  rw [List.nil_append] at r1
  have q1 := prg_part (b := b) (n := n) (nI 1) q0.1
  refine part 1 (by omega) J1 _ _ fJ1 r1 q0.1 (by omega) (fun z => ?_) (fun g1 J2 fJ2 b2 r2 => ?_)
  · have e : pTxt (lex b n) = (false, ([], [], []), (pPart (lex b n) 1 (pPart (lex b n) 0 (lex b n 0)).2.2).2.2.at_) := (if_pos g0).trans (if_neg z)
    rw [e]; exact ⟨fun z => ff z, rfl⟩
  have l1 := q1.2 g1
  have q2 := prg_part (b := b) (n := n) (nI 2) q1.1
  refine part 2 (by omega) J2 _ _ fJ2 r2 q1.1 (by rw [List.length_append]; omega) (fun z => ?_) (fun g2 J3 fJ3 b3 r3 => ?_)
  · have e : pTxt (lex b n) = (false, ([], [], []), (pPart (lex b n) 2 (pPart (lex b n) 1 (pPart (lex b n) 0 (lex b n 0)).2.2).2.2).2.2.at_) := ((if_pos g0).trans (if_pos g1)).trans (if_neg z)
    rw [e]; exact ⟨fun z => ff z, rfl⟩
  have l2 := q2.2 g2
  have q2v1 := q2.1.1
  have q2v2 := q2.1.2.1
  have r37 : J3 13 7 = (pPart (lex b n) 2 (pPart (lex b n) 1 (pPart (lex b n) 0 (lex b n 0)).2.2).2.2).2.2.tk := r3.2.1.2.2.1
  refine hK [16] 60 _ _ _ _ _ _ ?_
  refine gbr_lt2 (x := 2) (y := nI 3) (n := 2) (i := 3) rfl rfl (by omega) (by omega) (fun _ => ?_) (fun z => by omega)
  refine gbr_eq (y := 0) r37 (fun hq => ?_) (fun hq => ?_)
  · have e : pTxt (lex b n) = (true, ((pPart (lex b n) 0 (lex b n 0)).2.1, (pPart (lex b n) 1 (pPart (lex b n) 0 (lex b n 0)).2.2).2.1, (pPart (lex b n) 2 (pPart (lex b n) 1 (pPart (lex b n) 0 (lex b n 0)).2.2).2.2).2.1), 0) := (((if_pos g0).trans (if_pos g1)).trans (if_pos g2)).trans (if_pos hq)
    rw [e]
    refine ⟨fun _ => ⟨rfl, J3, rfl, fJ3, r3.2.2.1, ?_, r3.2.2.2, ?_, ?_⟩, fun z => absurd rfl z⟩
    · show List.length (_ ++ _ ++ _) < 160
      rw [List.length_append, List.length_append]
      exact sum3 l0 l1 l2 (Nat.le_trans q2v1 q2v2) hn
    · rw [b3, gupd_n (by decide), b2, gupd_s]; rfl
    · rw [b3, gupd_s]; rfl
  · have e : pTxt (lex b n) = (false, ([], [], []), (pPart (lex b n) 2 (pPart (lex b n) 1 (pPart (lex b n) 0 (lex b n 0)).2.2).2.2).2.2.at_) := (((if_pos g0).trans (if_pos g1)).trans (if_pos g2)).trans (if_neg hq)
    rw [e]
    refine ⟨fun z => ff z, fun _ => ⟨congrArg (fun z => some (Value.int z)) r3.2.1.2.1, ?_, J3, rfl, fJ3⟩⟩
    exact Nat.le_trans q2v1 (Nat.le_trans q2v2 hn)
end
