-- the model reads a text
theorem gbad (J : Nat → Nat → Int32) {A B : Prop} (h : J 0 25 = 1) (hB : B) : gbr (J 0 25 = 0) A B := ⟨fun z => by rw [h] at z; exact absurd z (by decide), fun _ => hB⟩
section
variable {E : gEnv} {b : Nat → Int32} {x n : Nat} {nm : Nat → Int32}
set_option maxRecDepth 4000 in
set_option maxHeartbeats 2000000 in
theorem m_part (I : Nat → Nat → Int32) (L : Nat → Nat → Int64) (q : Nat) (hq : q < 3) (t : Lx) (hc : mcx I b x n nm) (hS : mtS I L t) (hv : vL n t) (h0 : I 0 25 = 0) (ho2 : I 0 24 = nI 0) : gCtr E 41 0 0 nX10_part [.ref 0, .long (wcd q)] (wM I L) (mPR I L nm 0 (pPart (lex b n) (nI q) t)) := by
  have hl := lex_okL b n
  have hR : mcR E b x n nm 0 40 nX10_either (lvl (lex b n) 5).2.2 := (m_lvl 5 (Nat.le_refl _)).2.2
  obtain ⟨_, _, hp⟩ := prg_lvl hl 5
  refine gstart iX10_part tX10_part rfl rfl (fun K ca hK hca => ?_)
  have hx := (vL_nxt hl hv).1
  -- with a fault on the way: nothing more is read
  have flt : ∀ (J : Nat → Nat → Int32) (M : Nat → Nat → Int64) (w : Int32) (x3 : Option Value) (a : Nat), pPart (lex b n) (nI q) t = (false, [], (pPart (lex b n) (nI q) t).2.2) → (pPart (lex b n) (nI q) t).2.2.at_ = a → mpf I J L M → J 0 25 = 1 → J 0 26 = nI a → K 0 0 38 [some (.ref 0), some (.long (wcd q)), none, x3] [.int w] (wM J M) := by
    intro J M w x3 a e ha hf c1 c2
    refine hK [] 60 _ _ _ _ _ _ ?_
    refine gsignB hca (by omega) c1 ?_
    refine gbr_i (fun _ => ?_) (fun z => absurd rfl z)
    refine gfailB hca (by omega) c1 ?_
    refine gbad J c1 ?_
    rw [e]
    exact ⟨w, J, M, rfl, rfl, hf, fun z => ff z, fun _ => ⟨c1, by rw [c2]; show nI a = nI (pPart (lex b n) (nI q) t).2.2.at_; rw [ha]⟩⟩
  refine hK [38] 60 _ _ _ _ _ _ ?_
  refine gword hca (by omega) h0 hS (by omega) (fun h1 => ?_) (fun h1 => ?_)
  · refine gbr_i (fun z => absurd z (by decide)) (fun _ => ?_)
    refine gbr_i (fun _ => ?_) (fun z => absurd h0 z)
    have hne : t.tk ≠ 1 := by rw [h1]; exact fun z => ne128 (n := 1) (by omega) (show q < 12 by omega) z.symm
    refine gnext hca (by omega) hc hS hv hne (fun J1 M1 g1 g2 g3 g4 g5 => ?_)
    have c1 := g2.trans h0
    refine gbr_i (fun _ => ?_) (fun z => absurd c1 z)
    refine gcall0 hca (hR J1 M1 _ (mcx_mpf hc g1) g5 hx c1 (g3.trans ho2)) rfl ?_
    rintro _ u' - ⟨w, J, M, rfl, rfl, f1, gd, bd⟩
    obtain ⟨k1, k2, k3⟩ := hp _ hx
    have fa := mpf_trans g1 f1
    by_cases hg : ((lvl (lex b n) 5).2.2 (nxt (lex b n) t)).1 = true
    · obtain ⟨d1, d2, d3, d4⟩ := gd hg
      refine hK [] 60 _ _ _ _ _ _ ?_
      refine gsign hca (by omega) d2 d1 (by decide) (fun h59 => ?_) (fun h59 => ?_)
      · refine gbr_i (fun z => absurd z (by decide)) (fun _ => ?_)
        refine gbr_i (fun _ => ?_) (fun z => absurd d2 z)
        refine gnext hca (by omega) (mcx_mpf hc fa) d1 k1 (by rw [h59]; decide) (fun J3 M3 e1 e2 e3 e4 e5 => ?_)
        have e : pPart (lex b n) (nI q) t = (true, ((lvl (lex b n) 5).2.2 (nxt (lex b n) t)).2.1, nxt (lex b n) ((lvl (lex b n) 5).2.2 (nxt (lex b n) t)).2.2) := (if_pos h1).trans (if_pos ⟨hg, h59⟩)
        rw [e]
        exact ⟨w, J3, M3, rfl, rfl, mpf_trans fa e1, fun _ => ⟨e5, e2.trans d2, e3.trans d3, d4⟩, fun z => absurd rfl z⟩
      · refine gbr_i (fun _ => ?_) (fun z => absurd rfl z)
        refine gfail hca (by omega) d2 d1.1 (fun J3 e1 e2 e3 => ?_)
        have e : pPart (lex b n) (nI q) t = (false, [], ((lvl (lex b n) 5).2.2 (nxt (lex b n) t)).2.2) := (if_pos h1).trans (if_neg (fun z => h59 z.2))
        refine gbad J3 e2 ?_
        rw [e]
        exact ⟨w, J3, M, rfl, rfl, mpf_trans fa e1, fun z => ff z, fun _ => ⟨e2, e3⟩⟩
    · obtain ⟨d1, d2⟩ := bd hg
      have e : pPart (lex b n) (nI q) t = (false, [], ((lvl (lex b n) 5).2.2 (nxt (lex b n) t)).2.2) := (if_pos h1).trans (if_neg (fun z => hg z.1))
      exact flt J M w none _ (by rw [e]) (by rw [e]) fa d1 d2
  · refine gbr_i (fun _ => ?_) (fun z => absurd rfl z)
    refine gfail hca (by omega) h0 hS.1 (fun J e1 e2 e3 => ?_)
    have e : pPart (lex b n) (nI q) t = (false, [], t) := if_neg h1
    refine gbad J e2 ?_
    refine gbad J e2 ?_
    exact flt J L 0 none t.at_ (by rw [e]) (by rw [e]) e1 e2 e3
end
/-- nothing but the reading has changed -/
def mqf (I I' : Nat → Nat → Int32) (L L' : Nat → Nat → Int64) : Prop := (∀ k, k ≠ 0 → I' k = I k) ∧ (∀ j, (j < 18 ∨ 26 < j) → I' 0 j = I 0 j) ∧ (∀ k, k ≠ 0 → L' k = L k) ∧ ∀ j, j ≠ 22 → L' 0 j = L 0 j
theorem mqf_mpf {I J : Nat → Nat → Int32} {L M : Nat → Nat → Int64} (h : mpf I J L M) : mqf I J L M := ⟨h.1, fun j hj => h.2.1 j (by omega) (by omega) (by omega) (by omega) (by omega) (by omega), h.2.2.1, h.2.2.2⟩
theorem mqf_trans {I J H : Nat → Nat → Int32} {L M N : Nat → Nat → Int64} (h1 : mqf I J L M) (h2 : mqf J H M N) : mqf I H L N :=
  ⟨fun k a => (h2.1 k a).trans (h1.1 k a), fun j a => (h2.2.1 j a).trans (h1.2.1 j a), fun k a => (h2.2.2.1 k a).trans (h1.2.2.1 k a), fun j a => (h2.2.2.2 j a).trans (h1.2.2.2 j a)⟩
/-- text x lies in the model: n bytes b -/
def mtl (I : Nat → Nat → Int32) (b : Nat → Int32) (x n : Nat) : Prop := I 2 x = nI n ∧ n ≤ 160 ∧ x ≤ 5 ∧ ∀ j, j < n → I 1 (160 * x + j) = b j ∧ 0 ≤ b j
/-- what a text's reading comes to -/
def mRd (I : Nat → Nat → Int32) (L : Nat → Nat → Int64) (nm : Nat → Int32) (T : Tx) (which : Int32) (v : Option Value) (u' : gS) : Prop :=
  ∃ w I' L', v = some (.int w) ∧ u' = wM I' L' ∧ mqf I I' L L' ∧ (T.1 = true → I' 0 25 = 0 ∧ ∃ w0 w1 w2, VS nm T.2.1.1 w0 ∧ VS nm T.2.1.2.1 w1 ∧ VS nm T.2.1.2.2 w2 ∧ w = (if which = 0 then w0 else if which = 1 then w1 else w2)) ∧ (¬ T.1 = true → I' 0 25 = 1 ∧ I' 0 26 = nI T.2.2)
section
variable (E : gEnv) (I : Nat → Nat → Int32) (L : Nat → Nat → Int64)
set_option maxRecDepth 4000 in
set_option maxHeartbeats 4000000 in
theorem m_read (b : Nat → Int32) (x n : Nat) (nm : Nat → Int32) (hx : mtl I b x n) (hnm : ∀ j, j < 6 → I 0 (27 + j) = nm j) (which : Int32) : gCtr E 42 0 0 nX10_read [.ref 0, .int (nI x), .int which] (wM I L) (mRd I L nm (pTxt (lex b n)) which) := by
  obtain ⟨x1, x2, x3, x4⟩ := hx
  have hl := lex_okL b n
  have hcx : (nI x).toNatClampNeg = x := nI_clamp (by omega)
  refine gstart iX10_read tX10_read rfl rfl (fun K ca hK hca => ?_)
  refine hK [34] 60 _ _ _ _ _ _ ?_
  refine gsd_i (vp_in_nI (by omega) (by omega)) (gsd_i (Or.inl rfl) ?_)
  -- as it begins
  have main : ∀ J, mqf I J L L → mcx J b x n nm → J 0 23 = nI 0 → J 0 24 = nI 0 → J 0 25 = 0 → K 0 0 34 [some (.ref 0), some (.int (nI x)), some (.int which), none, none, none] [] (wM J L) := by
    intro J hf hc j23 j24 j25
    have v0 : vL n (lex b n 0) := by
      obtain ⟨⟨h1, h2, h3, h4⟩, h5⟩ := hl 0 (Nat.zero_le _)
      exact ⟨h2, h3, h4, h5⟩
    have q0 := prg_part (b := b) (n := n) (nI 0) v0
    have q1 := prg_part (b := b) (n := n) (nI 1) q0.1
    have q2 := prg_part (b := b) (n := n) (nI 2) q1.1
    -- the answer
    have ans : ∀ (w0 w1 w2 : Int32) (J2 : Nat → Nat → Int32) (M2 : Nat → Nat → Int64), (∀ w, w = (if which = 0 then w0 else if which = 1 then w1 else w2) → mRd I L nm (pTxt (lex b n)) which (some (.int w)) (wM J2 M2)) → K 0 0 104 [some (.ref 0), some (.int (nI x)), some (.int which), some (.int w0), some (.int w1), some (.int w2)] [] (wM J2 M2) := by
      intro w0 w1 w2 J2 M2 h
      refine hK [] 40 _ _ _ _ _ _ ?_
      refine gbr_i (fun e => h w0 (if_pos e).symm) (fun e => ?_)
      exact gbr_i (fun e2 => h w1 ((if_neg e).trans (if_pos e2)).symm) (fun e2 => h w2 ((if_neg e).trans (if_neg e2)).symm)
    have bad : ∀ (w0 w1 w2 : Int32) (J2 : Nat → Nat → Int32) (M2 : Nat → Nat → Int64) (a : Nat), pTxt (lex b n) = (false, ([], [], []), a) → mqf I J2 L M2 → J2 0 25 = 1 → J2 0 26 = nI a → K 0 0 86 [some (.ref 0), some (.int (nI x)), some (.int which), some (.int w0), some (.int w1), some (.int w2)] [] (wM J2 M2) := by
      intro w0 w1 w2 J2 M2 a e hf2 c1 c2
      refine hK [104] 40 _ _ _ _ _ _ ?_
      refine gbad J2 c1 ?_
      refine ans w0 w1 w2 J2 M2 (fun w hw => ?_)
      rw [e]
      exact ⟨w, J2, M2, rfl, rfl, hf2, fun z => ff z, fun _ => ⟨c1, c2⟩⟩
    refine hK [86, 104] 80 _ _ _ _ _ _ ?_
    refine gcall0 hca (m_next E J L b x n 0 hc.1 (Nat.zero_le _) j23) rfl ?_
    rintro w u' - ⟨rfl, J0, M0, rfl, f0, s0⟩
    have f0' := mpf_mkf f0
    have a25 : J0 0 25 = 0 := (f0.2.1 25 (by decide) (by decide) (by decide)).trans j25
    have a24 : J0 0 24 = nI 0 := (f0.2.1 24 (by decide) (by decide) (by decide)).trans j24
    refine gcall0 hca (m_part (E := E) J0 M0 0 (by omega) _ (mcx_mpf hc f0') s0 v0 a25 a24) rfl ?_
    rintro _ u' - ⟨w0, J1, M1, rfl, rfl, f1, gd0, bd0⟩
    have fa := mqf_trans hf (mqf_trans (mqf_mpf f0') (mqf_mpf f1))
    have fc1 := mcx_mpf (mcx_mpf hc f0') f1
    by_cases g0 : (pPart (lex b n) (nI 0) (lex b n 0)).1 = true
    · obtain ⟨b1, b2, b3, b4⟩ := gd0 g0
      refine gbr_i (fun _ => ?_) (fun z => absurd b2 z)
      refine gcall0 hca (m_part (E := E) J1 M1 1 (by omega) _ fc1 b1 q0.1 b2 b3) rfl ?_
      rintro _ u' - ⟨w1, J2, M2, rfl, rfl, f2, gd1, bd1⟩
      have fb := mqf_trans fa (mqf_mpf f2)
      have fc2 := mcx_mpf fc1 f2
      by_cases g1 : (pPart (lex b n) (nI 1) (pPart (lex b n) (nI 0) (lex b n 0)).2.2).1 = true
      · obtain ⟨c1, c2, c3, c4⟩ := gd1 g1
        refine gbr_i (fun _ => ?_) (fun z => absurd c2 z)
        refine gcall0 hca (m_part (E := E) J2 M2 2 (by omega) _ fc2 c1 q1.1 c2 c3) rfl ?_
        rintro _ u' - ⟨w2, J3, M3, rfl, rfl, f3, gd2, bd2⟩
        have fd := mqf_trans fb (mqf_mpf f3)
        by_cases g2 : (pPart (lex b n) (nI 2) (pPart (lex b n) (nI 1) (pPart (lex b n) (nI 0) (lex b n 0)).2.2).2.2).1 = true
        · obtain ⟨d1, d2, d3, d4⟩ := gd2 g2
          have hT : pTxt (lex b n) = (if (pPart (lex b n) (nI 2) (pPart (lex b n) (nI 1) (pPart (lex b n) (nI 0) (lex b n 0)).2.2).2.2).2.2.tk = 0 then (true, ((pPart (lex b n) (nI 0) (lex b n 0)).2.1, (pPart (lex b n) (nI 1) (pPart (lex b n) (nI 0) (lex b n 0)).2.2).2.1, (pPart (lex b n) (nI 2) (pPart (lex b n) (nI 1) (pPart (lex b n) (nI 0) (lex b n 0)).2.2).2.2).2.1), 0) else (false, ([], [], []), (pPart (lex b n) (nI 2) (pPart (lex b n) (nI 1) (pPart (lex b n) (nI 0) (lex b n 0)).2.2).2.2).2.2.at_)) := ((if_pos g0).trans (if_pos g1)).trans (if_pos g2)
          generalize pPart (lex b n) (nI 2) (pPart (lex b n) (nI 1) (pPart (lex b n) (nI 0) (lex b n 0)).2.2).2.2 = P2 at *
          generalize pPart (lex b n) (nI 1) (pPart (lex b n) (nI 0) (lex b n 0)).2.2 = P1 at *
          generalize pPart (lex b n) (nI 0) (lex b n 0) = P0 at *
          refine hK [104] 60 _ _ _ _ _ _ ?_
          refine gbr_i (fun _ => ?_) (fun z => absurd d2 z)
          refine gbr_i (fun hz => ?_) (fun hz => ?_)
          · have hz' : P2.2.2.tk = 0 := d1.2.2.2.2.2.2.mp hz
            rw [if_pos hz'] at hT
            refine ans w0 w1 w2 J3 M3 (fun w hw => ?_)
            rw [hT]
            exact ⟨w, J3, M3, rfl, rfl, fd, fun _ => ⟨d2, w0, w1, w2, b4, c4, d4, hw⟩, fun z => absurd rfl z⟩
          · have hz' : ¬ P2.2.2.tk = 0 := fun y => hz (d1.2.2.2.2.2.2.mpr y)
            rw [if_neg hz'] at hT
            refine gfail hca (by omega) d2 d1.1 (fun J4 e1 e2 e3 => ?_)
            refine ans w0 w1 w2 J4 M3 (fun w hw => ?_)
            rw [hT]
            exact ⟨w, J4, M3, rfl, rfl, mqf_trans fd (mqf_mpf e1), fun z => ff z, fun _ => ⟨e2, e3⟩⟩
        · obtain ⟨d1, d2⟩ := bd2 g2
          exact bad w0 w1 w2 J3 M3 _ (((if_pos g0).trans (if_pos g1)).trans (if_neg g2)) fd d1 d2
      · obtain ⟨d1, d2⟩ := bd1 g1
        refine gbad J2 d1 ?_
        exact bad w0 w1 0 J2 M2 _ ((if_pos g0).trans (if_neg g1)) fb d1 d2
    · obtain ⟨d1, d2⟩ := bd0 g0
      refine gbad J1 d1 ?_
      refine gbad J1 d1 ?_
      exact bad w0 0 0 J1 M1 _ (if_neg g0) fa d1 d2
  refine main _ ⟨fun k hk => ?_, fun j hj => ?_, fun _ _ => rfl, fun _ _ => rfl⟩ ⟨⟨?_, ?_, x2, x3, x4⟩, fun j hj => ?_⟩ rfl rfl rfl
  · dsimp only
    rw [gset_n hk, gset_n hk, gset_n hk, gset_n hk, gset_n hk]
  · show gupd (gupd (gupd (gupd (gupd (I 0) 18 _) 19 _) 23 _) 24 _) 25 _ j = I 0 j
    rw [gupd_n (by omega), gupd_n (by omega), gupd_n (by omega), gupd_n (by omega), gupd_n (by omega)]
  · show (160 : Int32) * nI x = _
    rw [show (160 : Int32) = nI 160 from rfl, pk_mul]
  · show I 2 (nI x).toNatClampNeg = _
    rw [hcx, x1]
  · show gupd (gupd (gupd (gupd (gupd (I 0) 18 _) 19 _) 23 _) 24 _) 25 _ (27 + j) = _
    rw [gupd_n (by omega), gupd_n (by omega), gupd_n (by omega), gupd_n (by omega), gupd_n (by omega)]
    exact hnm j hj
end
