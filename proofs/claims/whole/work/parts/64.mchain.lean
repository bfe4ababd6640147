-- the model's chains of readers
theorem wcd_sub (k : Nat) : True := trivial
section
variable {E : gEnv} {b : Nat → Int32} {x n : Nat} {nm : Nat → Int32}
set_option maxRecDepth 4000 in
set_option maxHeartbeats 2000000 in
theorem m_term {o d : Nat} (h4 : 3 < d) {R : Rdr} (hp : prg n R) (hR : mcR E b x n nm o d nX10_one R) : mcR E b x n nm o (d + 1) nX10_term (fun t => pChain (lex b n) R jT 160 (R t)) := by
  have hl := lex_okL b n
  intro I L t hc hS hv h0 ho2
  show gCtr E (d + 1) 0 0 nX10_term [.ref 0] (wM I L) (mPR I L nm o (pChain (lex b n) R jT 160 (R t)))
  refine gstart iX10_term tX10_term rfl rfl (fun K ca hK hca => ?_)
  have loop : ∀ (f : Nat) (r : Rs) (J : Nat → Nat → Int32) (M : Nat → Nat → Int64) (w : Int32), vL n r.2.2 → mpf I J L M → (r.1 = true → mtS J M r.2.2 ∧ J 0 25 = 0 ∧ J 0 24 = nI o ∧ VS nm r.2.1 w) → (¬ r.1 = true → J 0 25 = 1 ∧ J 0 26 = nI r.2.2.at_) → (r.1 = true → 161 ≤ f + r.2.2.at_) → pChain (lex b n) R jT f r = pChain (lex b n) R jT 160 (R t) → K 0 0 5 [some (.ref 0), some (.int w)] [] (wM J M) := by
    intro f
    induction f with
    | zero =>
      intro r J M w hvr hf hg hb hm he
      by_cases hgd : r.1 = true
      · exfalso
        have := hm hgd
        have q1 := hvr.1
        have q2 := hvr.2.1
        have q3 := hc.1.2.2.1
        omega
      · obtain ⟨c1, c2⟩ := hb hgd
        refine hK [5] 60 _ _ _ _ _ _ ?_
        refine gsignB hca (by omega) c1 ?_
        refine gbr_i (fun _ => ?_) (fun z => absurd rfl z)
        rw [← he]
        exact ⟨w, J, M, rfl, rfl, hf, fun z => absurd z hgd, fun _ => ⟨c1, c2⟩⟩
    | succ f ih =>
      intro r J M w hvr hf hg hb hm he
      by_cases hgd : r.1 = true
      · obtain ⟨c1, c2, c3, c4⟩ := hg hgd
        have stop : jT r.2.2.tk = none → mPR I L nm o (pChain (lex b n) R jT 160 (R t)) (some (.int w)) (wM J M) := fun hj => by
          rw [← he]
          have : pChain (lex b n) R jT (f + 1) r = r := by
            unfold pChain; rw [if_pos hgd, hj]
          rw [this]
          exact ⟨w, J, M, rfl, rfl, hf, fun _ => ⟨c1, c2, c3, c4⟩, fun z => absurd hgd z⟩
        refine hK [5] 60 _ _ _ _ _ _ ?_
        refine gsign hca (by omega) c2 c1 (s := 42) (by decide) (fun hq => ?_) (fun hq => ?_)
        · refine gbr_i (fun z => absurd z (by decide)) (fun _ => ?_)
          have hz0 : r.2.2.tk ≠ 0 := by rw [hq]; decide
          have hz1 : r.2.2.tk ≠ 1 := by rw [hq]; decide
          have hjo : jT r.2.2.tk = some (-9) := by rw [hq]; rfl
          have hpc : pChain (lex b n) R jT (f + 1) r = pChain (lex b n) R jT f ((R (nxt (lex b n) r.2.2)).1, r.2.1 ++ (R (nxt (lex b n) r.2.2)).2.1 ++ [-9], (R (nxt (lex b n) r.2.2)).2.2) := by
            show (if r.1 = true then _ else _) = _
            rw [if_pos hgd, hjo]
          rw [hpc] at he
          have hx := vL_nxt hl hvr
          have hs := vL_nxt1 hl hvr hz0
          obtain ⟨k1, k2, k3⟩ := hp _ hx.1
          refine gnext hca (by omega) (mcx_mpf hc hf) c1 hvr hz1 (fun J1 M1 g1 g2 g3 g4 g5 => ?_)
          refine gcall0 hca (hR J1 M1 _ (mcx_mpf hc (mpf_trans hf g1)) g5 hx.1 (g2.trans c2) (g3.trans c3)) (blt_t (by omega)) ?_
          rintro _ u' - ⟨w2, J2, M2, rfl, rfl, f2, gd, bd⟩
          have nxtK : ∀ (y : Int32), y = jn (-9) w w2 → K 0 0 5 [some (.ref 0), some (.int y)] [] (wM J2 M2) := fun y hy =>
            ih ((R (nxt (lex b n) r.2.2)).1, r.2.1 ++ (R (nxt (lex b n) r.2.2)).2.1 ++ [-9], (R (nxt (lex b n) r.2.2)).2.2) J2 M2 y k1 (mpf_trans hf (mpf_trans g1 f2)) (fun z => by
              obtain ⟨a1, a2, a3, a4⟩ := gd z
              refine ⟨a1, a2, a3, ?_⟩
              rw [hy]
              exact VS_bin c4 a4 (by decide)) bd (fun z => by
              have hz := hm hgd
              have := (k3 z)
              show 161 ≤ f + (R (nxt (lex b n) r.2.2)).2.2.at_
              omega) he
          exact nxtK _ rfl
        · exact gbr_i (fun _ => stop (if_neg hq)) (fun z => absurd rfl z)
      · obtain ⟨c1, c2⟩ := hb hgd
        refine hK [5] 60 _ _ _ _ _ _ ?_
        refine gsignB hca (by omega) c1 ?_
        refine gbr_i (fun _ => ?_) (fun z => absurd rfl z)
        rw [← he]
        rw [show pChain (lex b n) R jT (f + 1) r = r from if_neg hgd]
        exact ⟨w, J, M, rfl, rfl, hf, fun z => absurd z hgd, fun _ => ⟨c1, c2⟩⟩
  refine hK [5] 60 _ _ _ _ _ _ ?_
  refine gcall0 hca (hR I L t hc hS hv h0 ho2) (blt_t (by omega)) ?_
  rintro _ u' - ⟨w, J, M, rfl, rfl, f1, gd, bd⟩
  obtain ⟨p1, p2, p3⟩ := hp t hv
  refine loop 160 (R t) J M w p1 f1 gd bd (fun z => ?_) rfl
  have := p3 z
  omega
set_option maxRecDepth 4000 in
set_option maxHeartbeats 2000000 in
theorem m_both {o d : Nat} (h4 : 3 < d) {R : Rdr} (hp : prg n R) (hR : mcR E b x n nm o d nX10_not R) : mcR E b x n nm o (d + 1) nX10_both (fun t => pChain (lex b n) R jB 160 (R t)) := by
  have hl := lex_okL b n
  intro I L t hc hS hv h0 ho2
  show gCtr E (d + 1) 0 0 nX10_both [.ref 0] (wM I L) (mPR I L nm o (pChain (lex b n) R jB 160 (R t)))
  refine gstart iX10_both tX10_both rfl rfl (fun K ca hK hca => ?_)
  have loop : ∀ (f : Nat) (r : Rs) (J : Nat → Nat → Int32) (M : Nat → Nat → Int64) (w : Int32) (x2 : Option Value), vL n r.2.2 → mpf I J L M → (r.1 = true → mtS J M r.2.2 ∧ J 0 25 = 0 ∧ J 0 24 = nI o ∧ VS nm r.2.1 w) → (¬ r.1 = true → J 0 25 = 1 ∧ J 0 26 = nI r.2.2.at_) → (r.1 = true → 161 ≤ f + r.2.2.at_) → pChain (lex b n) R jB f r = pChain (lex b n) R jB 160 (R t) → K 0 0 5 [some (.ref 0), some (.int w), x2] [] (wM J M) := by
    intro f
    induction f with
    | zero =>
      intro r J M w x2 hvr hf hg hb hm he
      by_cases hgd : r.1 = true
      · exfalso
        have := hm hgd
        have q1 := hvr.1
        have q2 := hvr.2.1
        have q3 := hc.1.2.2.1
        omega
      · obtain ⟨c1, c2⟩ := hb hgd
        refine hK [5] 60 _ _ _ _ _ _ ?_
        refine gwordB hca (by omega) c1 ?_
        refine gbr_i (fun _ => ?_) (fun z => absurd rfl z)
        rw [← he]
        exact ⟨w, J, M, rfl, rfl, hf, fun z => absurd z hgd, fun _ => ⟨c1, c2⟩⟩
    | succ f ih =>
      intro r J M w x2 hvr hf hg hb hm he
      by_cases hgd : r.1 = true
      · obtain ⟨c1, c2, c3, c4⟩ := hg hgd
        have stop : jB r.2.2.tk = none → mPR I L nm o (pChain (lex b n) R jB 160 (R t)) (some (.int w)) (wM J M) := fun hj => by
          rw [← he]
          have : pChain (lex b n) R jB (f + 1) r = r := by
            unfold pChain; rw [if_pos hgd, hj]
          rw [this]
          exact ⟨w, J, M, rfl, rfl, hf, fun _ => ⟨c1, c2, c3, c4⟩, fun z => absurd hgd z⟩
        refine hK [5] 60 _ _ _ _ _ _ ?_
        refine gword hca (by omega) c2 c1 (q := 4) (by decide) (fun hq => ?_) (fun hq => ?_)
        · refine gbr_i (fun z => absurd z (by decide)) (fun _ => ?_)
          have hz0 : r.2.2.tk ≠ 0 := by rw [hq]; decide
          have hz1 : r.2.2.tk ≠ 1 := by rw [hq]; decide
          have hjo : jB r.2.2.tk = some (-14) := by rw [hq]; rfl
          have hpc : pChain (lex b n) R jB (f + 1) r = pChain (lex b n) R jB f ((R (nxt (lex b n) r.2.2)).1, r.2.1 ++ (R (nxt (lex b n) r.2.2)).2.1 ++ [-14], (R (nxt (lex b n) r.2.2)).2.2) := by
            show (if r.1 = true then _ else _) = _
            rw [if_pos hgd, hjo]
          rw [hpc] at he
          have hx := vL_nxt hl hvr
          have hs := vL_nxt1 hl hvr hz0
          obtain ⟨k1, k2, k3⟩ := hp _ hx.1
          refine gnext hca (by omega) (mcx_mpf hc hf) c1 hvr hz1 (fun J1 M1 g1 g2 g3 g4 g5 => ?_)
          refine gcall0 hca (hR J1 M1 _ (mcx_mpf hc (mpf_trans hf g1)) g5 hx.1 (g2.trans c2) (g3.trans c3)) (blt_t (by omega)) ?_
          rintro _ u' - ⟨w2, J2, M2, rfl, rfl, f2, gd, bd⟩
          have nxtK : ∀ (y : Int32) (x2 : Option Value), y = jn (-14) w w2 → K 0 0 5 [some (.ref 0), some (.int y), x2] [] (wM J2 M2) := fun y x2 hy =>
            ih ((R (nxt (lex b n) r.2.2)).1, r.2.1 ++ (R (nxt (lex b n) r.2.2)).2.1 ++ [-14], (R (nxt (lex b n) r.2.2)).2.2) J2 M2 y x2 k1 (mpf_trans hf (mpf_trans g1 f2)) (fun z => by
              obtain ⟨a1, a2, a3, a4⟩ := gd z
              refine ⟨a1, a2, a3, ?_⟩
              rw [hy]
              exact VS_bin c4 a4 (by decide)) bd (fun z => by
              have hz := hm hgd
              have := (k3 z)
              show 161 ≤ f + (R (nxt (lex b n) r.2.2)).2.2.at_
              omega) he
          refine gbr_i (fun h1 => ?_) (fun h1 => ?_)
          · refine nxtK 0 (some (.int w2)) ?_
            exact (if_pos (Or.inl h1)).symm
          · refine gbr_i (fun h2 => ?_) (fun h2 => ?_)
            · refine nxtK 0 (some (.int w2)) ?_
              exact (if_pos (Or.inr h2)).symm
            · refine nxtK 1 (some (.int w2)) ?_
              exact (if_neg (fun z => z.elim h1 h2)).symm
        · exact gbr_i (fun _ => stop (if_neg hq)) (fun z => absurd rfl z)
      · obtain ⟨c1, c2⟩ := hb hgd
        refine hK [5] 60 _ _ _ _ _ _ ?_
        refine gwordB hca (by omega) c1 ?_
        refine gbr_i (fun _ => ?_) (fun z => absurd rfl z)
        rw [← he]
        rw [show pChain (lex b n) R jB (f + 1) r = r from if_neg hgd]
        exact ⟨w, J, M, rfl, rfl, hf, fun z => absurd z hgd, fun _ => ⟨c1, c2⟩⟩
  refine hK [5] 60 _ _ _ _ _ _ ?_
  refine gcall0 hca (hR I L t hc hS hv h0 ho2) (blt_t (by omega)) ?_
  rintro _ u' - ⟨w, J, M, rfl, rfl, f1, gd, bd⟩
  obtain ⟨p1, p2, p3⟩ := hp t hv
  refine loop 160 (R t) J M w none p1 f1 gd bd (fun z => ?_) rfl
  have := p3 z
  omega
set_option maxRecDepth 4000 in
set_option maxHeartbeats 2000000 in
theorem m_either {o d : Nat} (h4 : 3 < d) {R : Rdr} (hp : prg n R) (hR : mcR E b x n nm o d nX10_both R) : mcR E b x n nm o (d + 1) nX10_either (fun t => pChain (lex b n) R jE 160 (R t)) := by
  have hl := lex_okL b n
  intro I L t hc hS hv h0 ho2
  show gCtr E (d + 1) 0 0 nX10_either [.ref 0] (wM I L) (mPR I L nm o (pChain (lex b n) R jE 160 (R t)))
  refine gstart iX10_either tX10_either rfl rfl (fun K ca hK hca => ?_)
  have loop : ∀ (f : Nat) (r : Rs) (J : Nat → Nat → Int32) (M : Nat → Nat → Int64) (w : Int32) (x2 : Option Value), vL n r.2.2 → mpf I J L M → (r.1 = true → mtS J M r.2.2 ∧ J 0 25 = 0 ∧ J 0 24 = nI o ∧ VS nm r.2.1 w) → (¬ r.1 = true → J 0 25 = 1 ∧ J 0 26 = nI r.2.2.at_) → (r.1 = true → 161 ≤ f + r.2.2.at_) → pChain (lex b n) R jE f r = pChain (lex b n) R jE 160 (R t) → K 0 0 5 [some (.ref 0), some (.int w), x2] [] (wM J M) := by
    intro f
    induction f with
    | zero =>
      intro r J M w x2 hvr hf hg hb hm he
      by_cases hgd : r.1 = true
      · exfalso
        have := hm hgd
        have q1 := hvr.1
        have q2 := hvr.2.1
        have q3 := hc.1.2.2.1
        omega
      · obtain ⟨c1, c2⟩ := hb hgd
        refine hK [5] 60 _ _ _ _ _ _ ?_
        refine gwordB hca (by omega) c1 ?_
        refine gbr_i (fun _ => ?_) (fun z => absurd rfl z)
        rw [← he]
        exact ⟨w, J, M, rfl, rfl, hf, fun z => absurd z hgd, fun _ => ⟨c1, c2⟩⟩
    | succ f ih =>
      intro r J M w x2 hvr hf hg hb hm he
      by_cases hgd : r.1 = true
      · obtain ⟨c1, c2, c3, c4⟩ := hg hgd
        have stop : jE r.2.2.tk = none → mPR I L nm o (pChain (lex b n) R jE 160 (R t)) (some (.int w)) (wM J M) := fun hj => by
          rw [← he]
          have : pChain (lex b n) R jE (f + 1) r = r := by
            unfold pChain; rw [if_pos hgd, hj]
          rw [this]
          exact ⟨w, J, M, rfl, rfl, hf, fun _ => ⟨c1, c2, c3, c4⟩, fun z => absurd hgd z⟩
        refine hK [5] 60 _ _ _ _ _ _ ?_
        refine gword hca (by omega) c2 c1 (q := 3) (by decide) (fun hq => ?_) (fun hq => ?_)
        · refine gbr_i (fun z => absurd z (by decide)) (fun _ => ?_)
          have hz0 : r.2.2.tk ≠ 0 := by rw [hq]; decide
          have hz1 : r.2.2.tk ≠ 1 := by rw [hq]; decide
          have hjo : jE r.2.2.tk = some (-15) := by rw [hq]; rfl
          have hpc : pChain (lex b n) R jE (f + 1) r = pChain (lex b n) R jE f ((R (nxt (lex b n) r.2.2)).1, r.2.1 ++ (R (nxt (lex b n) r.2.2)).2.1 ++ [-15], (R (nxt (lex b n) r.2.2)).2.2) := by
            show (if r.1 = true then _ else _) = _
            rw [if_pos hgd, hjo]
          rw [hpc] at he
          have hx := vL_nxt hl hvr
          have hs := vL_nxt1 hl hvr hz0
          obtain ⟨k1, k2, k3⟩ := hp _ hx.1
          refine gnext hca (by omega) (mcx_mpf hc hf) c1 hvr hz1 (fun J1 M1 g1 g2 g3 g4 g5 => ?_)
          refine gcall0 hca (hR J1 M1 _ (mcx_mpf hc (mpf_trans hf g1)) g5 hx.1 (g2.trans c2) (g3.trans c3)) (blt_t (by omega)) ?_
          rintro _ u' - ⟨w2, J2, M2, rfl, rfl, f2, gd, bd⟩
          have nxtK : ∀ (y : Int32) (x2 : Option Value), y = jn (-15) w w2 → K 0 0 5 [some (.ref 0), some (.int y), x2] [] (wM J2 M2) := fun y x2 hy =>
            ih ((R (nxt (lex b n) r.2.2)).1, r.2.1 ++ (R (nxt (lex b n) r.2.2)).2.1 ++ [-15], (R (nxt (lex b n) r.2.2)).2.2) J2 M2 y x2 k1 (mpf_trans hf (mpf_trans g1 f2)) (fun z => by
              obtain ⟨a1, a2, a3, a4⟩ := gd z
              refine ⟨a1, a2, a3, ?_⟩
              rw [hy]
              exact VS_bin c4 a4 (by decide)) bd (fun z => by
              have hz := hm hgd
              have := (k3 z)
              show 161 ≤ f + (R (nxt (lex b n) r.2.2)).2.2.at_
              omega) he
          refine gbr_i (fun h1 => ?_) (fun h1 => ?_)
          · refine gbr_i (fun h2 => ?_) (fun h2 => ?_)
            · refine nxtK 0 (some (.int w2)) ?_
              exact (if_pos (show w = 0 ∧ w2 = 0 from ⟨h1, h2⟩)).symm
            · refine nxtK 1 (some (.int w2)) ?_
              exact (if_neg (fun z : w = 0 ∧ w2 = 0 => h2 z.2)).symm
          · refine nxtK 1 (some (.int w2)) ?_
            exact (if_neg (fun z : w = 0 ∧ w2 = 0 => h1 z.1)).symm
        · exact gbr_i (fun _ => stop (if_neg hq)) (fun z => absurd rfl z)
      · obtain ⟨c1, c2⟩ := hb hgd
        refine hK [5] 60 _ _ _ _ _ _ ?_
        refine gwordB hca (by omega) c1 ?_
        refine gbr_i (fun _ => ?_) (fun z => absurd rfl z)
        rw [← he]
        rw [show pChain (lex b n) R jE (f + 1) r = r from if_neg hgd]
        exact ⟨w, J, M, rfl, rfl, hf, fun z => absurd z hgd, fun _ => ⟨c1, c2⟩⟩
  refine hK [5] 60 _ _ _ _ _ _ ?_
  refine gcall0 hca (hR I L t hc hS hv h0 ho2) (blt_t (by omega)) ?_
  rintro _ u' - ⟨w, J, M, rfl, rfl, f1, gd, bd⟩
  obtain ⟨p1, p2, p3⟩ := hp t hv
  refine loop 160 (R t) J M w none p1 f1 gd bd (fun z => ?_) rfl
  have := p3 z
  omega
set_option maxRecDepth 4000 in
set_option maxHeartbeats 2000000 in
theorem m_added {o d : Nat} (h4 : 3 < d) {R : Rdr} (hp : prg n R) (hR : mcR E b x n nm o d nX10_term R) : mcR E b x n nm o (d + 1) nX10_added (fun t => pChain (lex b n) R jS 160 (R t)) := by
  have hl := lex_okL b n
  intro I L t hc hS hv h0 ho2
  show gCtr E (d + 1) 0 0 nX10_added [.ref 0] (wM I L) (mPR I L nm o (pChain (lex b n) R jS 160 (R t)))
  refine gstart iX10_added tX10_added rfl rfl (fun K ca hK hca => ?_)
  have loop : ∀ (f : Nat) (r : Rs) (J : Nat → Nat → Int32) (M : Nat → Nat → Int64) (w : Int32) (x2 x3 : Option Value), vL n r.2.2 → mpf I J L M → (r.1 = true → mtS J M r.2.2 ∧ J 0 25 = 0 ∧ J 0 24 = nI o ∧ VS nm r.2.1 w) → (¬ r.1 = true → J 0 25 = 1 ∧ J 0 26 = nI r.2.2.at_) → (r.1 = true → 161 ≤ f + r.2.2.at_) → pChain (lex b n) R jS f r = pChain (lex b n) R jS 160 (R t) → K 0 0 5 [some (.ref 0), some (.int w), x2, x3] [] (wM J M) := by
    intro f
    induction f with
    | zero =>
      intro r J M w x2 x3 hvr hf hg hb hm he
      by_cases hgd : r.1 = true
      · exfalso
        have := hm hgd
        have q1 := hvr.1
        have q2 := hvr.2.1
        have q3 := hc.1.2.2.1
        omega
      · obtain ⟨c1, c2⟩ := hb hgd
        refine hK [5] 60 _ _ _ _ _ _ ?_
        refine gsignB hca (by omega) c1 ?_
        refine gbr_i (fun _ => ?_) (fun z => absurd rfl z)
        refine gsignB hca (by omega) c1 ?_
        refine gbr_i (fun _ => ?_) (fun z => absurd rfl z)
        rw [← he]
        exact ⟨w, J, M, rfl, rfl, hf, fun z => absurd z hgd, fun _ => ⟨c1, c2⟩⟩
    | succ f ih =>
      intro r J M w x2 x3 hvr hf hg hb hm he
      by_cases hgd : r.1 = true
      · obtain ⟨c1, c2, c3, c4⟩ := hg hgd
        have stop : jS r.2.2.tk = none → mPR I L nm o (pChain (lex b n) R jS 160 (R t)) (some (.int w)) (wM J M) := fun hj => by
          rw [← he]
          have : pChain (lex b n) R jS (f + 1) r = r := by
            unfold pChain; rw [if_pos hgd, hj]
          rw [this]
          exact ⟨w, J, M, rfl, rfl, hf, fun _ => ⟨c1, c2, c3, c4⟩, fun z => absurd hgd z⟩
        have tail : ∀ (op m : Int32), jS r.2.2.tk = some op → r.2.2.tk ≠ 0 → r.2.2.tk ≠ 1 → (op = -10 ∧ m = 1 ∨ op = -11 ∧ m = 0) → K 0 0 39 [some (.ref 0), some (.int w), x2, x3] [.int m] (wM J M) := by
          intro op m hjo hz0 hz1 hom
          refine hK [5] 60 _ _ _ _ _ _ ?_
          have hpc : pChain (lex b n) R jS (f + 1) r = pChain (lex b n) R jS f ((R (nxt (lex b n) r.2.2)).1, r.2.1 ++ (R (nxt (lex b n) r.2.2)).2.1 ++ [op], (R (nxt (lex b n) r.2.2)).2.2) := by
            show (if r.1 = true then _ else _) = _
            rw [if_pos hgd, hjo]
          rw [hpc] at he
          have hx := vL_nxt hl hvr
          have hs := vL_nxt1 hl hvr hz0
          obtain ⟨k1, k2, k3⟩ := hp _ hx.1
          refine gnext hca (by omega) (mcx_mpf hc hf) c1 hvr hz1 (fun J1 M1 g1 g2 g3 g4 g5 => ?_)
          refine gcall0 hca (hR J1 M1 _ (mcx_mpf hc (mpf_trans hf g1)) g5 hx.1 (g2.trans c2) (g3.trans c3)) (blt_t (by omega)) ?_
          rintro _ u' - ⟨w2, J2, M2, rfl, rfl, f2, gd, bd⟩
          have nxtK : ∀ (y : Int32) (x2 x3 : Option Value), y = jn (op) w w2 → K 0 0 5 [some (.ref 0), some (.int y), x2, x3] [] (wM J2 M2) := fun y x2 x3 hy =>
            ih ((R (nxt (lex b n) r.2.2)).1, r.2.1 ++ (R (nxt (lex b n) r.2.2)).2.1 ++ [op], (R (nxt (lex b n) r.2.2)).2.2) J2 M2 y x2 x3 k1 (mpf_trans hf (mpf_trans g1 f2)) (fun z => by
              obtain ⟨a1, a2, a3, a4⟩ := gd z
              refine ⟨a1, a2, a3, ?_⟩
              rw [hy]
              exact VS_bin c4 a4 (by rcases hom with ⟨rfl, _⟩ | ⟨rfl, _⟩ <;> decide)) bd (fun z => by
              have hz := hm hgd
              have := (k3 z)
              show 161 ≤ f + (R (nxt (lex b n) r.2.2)).2.2.at_
              omega) he
          rcases hom with ⟨rfl, rfl⟩ | ⟨rfl, rfl⟩
          · refine gbr_i (fun z => absurd z (by decide)) (fun _ => ?_)
            exact nxtK _ (some (.int 1)) (some (.int w2)) rfl
          · refine gbr_i (fun _ => ?_) (fun z => absurd rfl z)
            exact nxtK _ (some (.int 0)) (some (.int w2)) rfl
        have worth : ∀ s : Int32, isSg s = true → r.2.2.tk = s → M 0 22 = s.toInt64 := fun s hs hq => ((c1.2.2.2.1 s hs).mpr hq).2
        refine hK [5, 39] 60 _ _ _ _ _ _ ?_
        refine gsign hca (by omega) c2 c1 (s := 43) (by decide) (fun hq => ?_) (fun hq => ?_)
        · refine gbr_i (fun z => absurd z (by decide)) (fun _ => ?_)
          have hw := worth 43 (by decide) hq
          refine gbr_i (fun _ => ?_) (fun z => absurd ((lgc_0 _ _).mpr hw) z)
          exact tail (-10) 1 (by rw [hq]; rfl) (by rw [hq]; decide) (by rw [hq]; decide) (Or.inl ⟨rfl, rfl⟩)
        · refine gbr_i (fun _ => ?_) (fun z => absurd rfl z)
          refine gsign hca (by omega) c2 c1 (s := 45) (by decide) (fun hq2 => ?_) (fun hq2 => ?_)
          · refine gbr_i (fun z => absurd z (by decide)) (fun _ => ?_)
            have hw := worth 45 (by decide) hq2
            refine gbr_i (fun z => ?_) (fun _ => ?_)
            · exfalso
              have z' := (lgc_0 _ _).mp z
              have z2 : (45 : Int32).toInt64 = 43 := hw.symm.trans z'
              exact absurd z2 (by decide)
            · exact tail (-11) 0 (by rw [hq2]; rfl) (by rw [hq2]; decide) (by rw [hq2]; decide) (Or.inr ⟨rfl, rfl⟩)
          · exact gbr_i (fun _ => stop (by unfold jS; rw [if_neg hq, if_neg hq2])) (fun z => absurd rfl z)
      · obtain ⟨c1, c2⟩ := hb hgd
        refine hK [5] 60 _ _ _ _ _ _ ?_
        refine gsignB hca (by omega) c1 ?_
        refine gbr_i (fun _ => ?_) (fun z => absurd rfl z)
        refine gsignB hca (by omega) c1 ?_
        refine gbr_i (fun _ => ?_) (fun z => absurd rfl z)
        rw [← he]
        rw [show pChain (lex b n) R jS (f + 1) r = r from if_neg hgd]
        exact ⟨w, J, M, rfl, rfl, hf, fun z => absurd z hgd, fun _ => ⟨c1, c2⟩⟩
  refine hK [5] 60 _ _ _ _ _ _ ?_
  refine gcall0 hca (hR I L t hc hS hv h0 ho2) (blt_t (by omega)) ?_
  rintro _ u' - ⟨w, J, M, rfl, rfl, f1, gd, bd⟩
  obtain ⟨p1, p2, p3⟩ := hp t hv
  refine loop 160 (R t) J M w none none p1 f1 gd bd (fun z => ?_) rfl
  have := p3 z
  omega
end
