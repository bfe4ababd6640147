-- the model's readers of one
/-- what a reader needs of the deeper ones -/
def mdX (E : gEnv) (b : Nat → Int32) (x n : Nat) (nm : Nat → Int32) (o d : Nat) (deep : Option (Rdr × Rdr × Rdr)) : Prop := match deep with
  | none => o = 5
  | some q => o < 5 ∧ (∃ d1, d1 ≤ d ∧ mcR E b x n nm (o + 1) d1 nX10_one q.1) ∧ (∃ d1, d1 ≤ d ∧ mcR E b x n nm (o + 1) d1 nX10_not q.2.1) ∧ ∃ d1, d1 ≤ d ∧ mcR E b x n nm (o + 1) d1 nX10_either q.2.2
theorem mtS_open {I : Nat → Nat → Int32} {L : Nat → Nat → Int64} {t : Lx} (h : mtS I L t) (y : Int32) : mtS (gset I 0 (gupd (I 0) 24 y)) L t := h
section
variable {E : gEnv} {b : Nat → Int32} {x n : Nat} {nm : Nat → Int32}
set_option maxRecDepth 4000 in
set_option maxHeartbeats 2000000 in
theorem m_one {o d : Nat} (ho : o ≤ 5) (h4 : 3 < d) {deep : Option (Rdr × Rdr × Rdr)} (hpd : prgD n deep) (hd : mdX E b x n nm o d deep) : mcR E b x n nm o (d + 1) nX10_one (pOne (lex b n) deep) := by
  have hl := lex_okL b n
  intro I L t hc hS hv h0 ho2
  refine gstart iX10_one tX10_one rfl rfl (fun K ca hK hca => ?_)
  have fin : ∀ (w : Int32) (J : Nat → Nat → Int32) (M : Nat → Nat → Int64), mPR I L nm o (pOne (lex b n) deep t) (some (.int w)) (wM J M) → K 0 0 161 [some (.ref 0), some (.int w)] [] (wM J M) := by
    intro w J M h
    refine hK [] 40 _ _ _ _ _ _ ?_
    exact h
  have hx := (vL_nxt hl hv).1
  -- it ends with a fault here
  have flt : pOne (lex b n) deep t = (false, [], t) → ∀ (J : Nat → Nat → Int32) (M : Nat → Nat → Int64) (w : Int32), mpf I J L M → J 0 25 = 1 → J 0 26 = nI t.at_ → K 0 0 161 [some (.ref 0), some (.int w)] [] (wM J M) := by
    intro e J M w hf a1 a2
    refine fin w J M ?_
    rw [e]
    exact ⟨w, J, M, rfl, rfl, hf, fun z => ff z, fun _ => ⟨a1, a2⟩⟩
  refine hK [161, 58] 80 _ _ _ _ _ _ ?_
  refine gsign hca (by omega) h0 hS (by decide) (fun h1 => ?_) (fun h1 => ?_)
  · have hne : t.tk ≠ 1 := by rw [h1]; decide
    refine gbr_i (fun z => absurd z (by decide)) (fun _ => ?_)
    refine gcall0 hca (m_opens E I L b x n nm o ho t hc hS hv hne h0 ho2) (blt_t (by omega)) ?_
    rintro w u' - ⟨J, M, rfl, f1, g5, g4⟩
    match deep, hd, hpd, fin, flt, hK with
    | none, hd, _, _, flt, _ =>
      obtain ⟨rfl, a1, a2⟩ := g5 hd
      exact gbr_i (fun _ => flt (if_pos h1) J M 0 f1 a1 a2) (fun z => absurd rfl z)
    | some q, hd, hpd, fin, _, _ =>
      obtain ⟨rfl, a1, a2, a3⟩ := g4 hd.1
      refine gbr_i (fun z => absurd z (by decide)) (fun _ => ?_)
      obtain ⟨d1, hd1, hcr⟩ := hd.2.1
      refine gcall0 hca (hcr J M (nxt (lex b n) t) (mcx_mpf hc f1) a3 hx a1 a2) (blt_t (by omega)) ?_
      rintro _ u' - ⟨w, J2, M2, rfl, rfl, f2, gd, bd⟩
      have e : pOne (lex b n) (some q) t = ((q.1 (nxt (lex b n) t)).1, (q.1 (nxt (lex b n) t)).2.1 ++ [-7], (q.1 (nxt (lex b n) t)).2.2) := if_pos h1
      refine fin (-w) _ M2 ?_
      rw [e]
      refine ⟨-w, _, M2, rfl, rfl, mpf_trans f1 (mpf_trans f2 (mpf_I (j := 24) (by decide) (J2 0 24 - 1))), fun z => ?_, fun z => bd z⟩
      obtain ⟨c1, c2, c3, c4⟩ := gd z
      refine ⟨mtS_open c1 _, c2, ?_, VS_neg c4⟩
      show J2 0 24 - 1 = _
      rw [c3, nI_pred]
  refine gbr_i (fun _ => ?_) (fun z => absurd rfl z)
  refine gsign hca (by omega) h0 hS (by decide) (fun h2 => ?_) (fun h2 => ?_)
  · have hne : t.tk ≠ 1 := by rw [h2]; decide
    refine gbr_i (fun z => absurd z (by decide)) (fun _ => ?_)
    refine gcall0 hca (m_opens E I L b x n nm o ho t hc hS hv hne h0 ho2) (blt_t (by omega)) ?_
    rintro w u' - ⟨J, M, rfl, f1, g5, g4⟩
    match deep, hd, hpd, fin, flt, hK with
    | none, hd, _, _, flt, _ =>
      obtain ⟨rfl, a1, a2⟩ := g5 hd
      exact gbr_i (fun _ => flt ((if_neg h1).trans (if_pos h2)) J M 0 f1 a1 a2) (fun z => absurd rfl z)
    | some q, hd, hpd, fin, _, hK =>
      obtain ⟨rfl, a1, a2, a3⟩ := g4 hd.1
      refine gbr_i (fun z => absurd z (by decide)) (fun _ => ?_)
      obtain ⟨d1, hd1, hcr⟩ := hd.2.2.2
      refine gcall0 hca (hcr J M (nxt (lex b n) t) (mcx_mpf hc f1) a3 hx a1 a2) (blt_t (by omega)) ?_
      rintro _ u' - ⟨w, J2, M2, rfl, rfl, f2, gd, bd⟩
      obtain ⟨p1, p2, p3⟩ := hpd.2.2 (nxt (lex b n) t) hx
      have f12 := mpf_trans f1 f2
      -- behind a fault: open less, then the end
      have bad : ¬ ((q.2.2 (nxt (lex b n) t)).1 = true ∧ (q.2.2 (nxt (lex b n) t)).2.2.tk = 41) → ∀ J3, mpf I J3 L M2 → J3 0 25 = 1 → J3 0 26 = nI (q.2.2 (nxt (lex b n) t)).2.2.at_ → K 0 0 71 [some (.ref 0), some (.int w)] [] (wM J3 M2) := by
        intro hno J3 f3 c1 c2
        have e : pOne (lex b n) (some q) t = (false, [], (q.2.2 (nxt (lex b n) t)).2.2) := ((if_neg h1).trans (if_pos h2)).trans (if_neg hno)
        refine hK [161] 60 _ _ _ _ _ _ ?_
        refine gbr_i (fun z => ?_) (fun _ => ?_)
        · exfalso
          have z' : J3 0 25 = 0 := z
          rw [c1] at z'
          exact absurd z' (by decide)
        · refine fin w _ M2 ?_
          rw [e]
          exact ⟨w, _, M2, rfl, rfl, mpf_trans f3 (mpf_I (j := 24) (by decide) (J3 0 24 - 1)), fun z => ff z, fun _ => ⟨c1, c2⟩⟩
      have main : K 0 0 58 [some (.ref 0), some (.int w)] [] (wM J2 M2) := by
        by_cases hg : (q.2.2 (nxt (lex b n) t)).1 = true
        · obtain ⟨c1, c2, c3, c4⟩ := gd hg
          refine hK [71] 60 _ _ _ _ _ _ ?_
          refine gsign hca (by omega) c2 c1 (by decide) (fun h41 => ?_) (fun h41 => ?_)
          · refine gbr_i (fun z => absurd z (by decide)) (fun _ => ?_)
            refine hK [161] 60 _ _ _ _ _ _ ?_
            refine gbr_i (fun _ => ?_) (fun z => absurd c2 z)
            have hm := mpf_I (I := J2) (L := M2) (j := 24) (by decide) (J2 0 24 - 1)
            refine gnext hca (by omega) (mcx_mpf hc (mpf_trans f12 hm)) (mtS_open c1 _) p1 (by rw [h41]; decide) (fun J3 M3 g1 g2 g3 g4 g5 => ?_)
            have e : pOne (lex b n) (some q) t = (true, (q.2.2 (nxt (lex b n) t)).2.1, nxt (lex b n) (q.2.2 (nxt (lex b n) t)).2.2) := ((if_neg h1).trans (if_pos h2)).trans (if_pos ⟨hg, h41⟩)
            refine fin w J3 M3 ?_
            rw [e]
            refine ⟨w, J3, M3, rfl, rfl, mpf_trans f12 (mpf_trans hm g1), fun _ => ⟨g5, g2.trans c2, ?_, c4⟩, fun z => absurd rfl z⟩
            rw [g3]
            show J2 0 24 - 1 = _
            rw [c3, nI_pred]
          · refine gbr_i (fun _ => ?_) (fun z => absurd rfl z)
            refine gfail hca (by omega) c2 c1.1 (fun J3 g1 g2 g3 => ?_)
            exact bad (fun z => h41 z.2) J3 (mpf_trans f12 g1) g2 g3
        · obtain ⟨c1, c2⟩ := bd hg
          refine hK [71] 60 _ _ _ _ _ _ ?_
          refine gsignB hca (by omega) c1 ?_
          refine gbr_i (fun _ => ?_) (fun z => absurd rfl z)
          refine gfailB hca (by omega) c1 ?_
          exact bad (fun z => hg z.1) J2 f12 c1 c2
      exact main
  refine gbr_i (fun _ => ?_) (fun z => absurd rfl z)
  refine gbr_i (fun _ => ?_) (fun z => absurd h0 z)
  refine gbr_i (fun h3 => ?_) (fun h3 => ?_)
  · -- a number
    have ht2 : t.tk = 2 := hS.2.2.2.2.1.mp h3
    have hne : t.tk ≠ 1 := by rw [ht2]; decide
    have hnm : (L 0 22).toInt32 = t.nm := hS.2.2.2.2.2.1 ht2
    obtain ⟨v, hv1, hv2⟩ := hv.2.2.2.1 ht2
    have e : pOne (lex b n) deep t = (true, [t.nm], nxt (lex b n) t) := ((if_neg h1).trans (if_neg h2)).trans (if_pos ht2)
    refine gnext hca (by omega) hc hS hv hne (fun J M g1 g2 g3 g4 g5 => ?_)
    refine fin (L 0 22).toInt32 J M ?_
    rw [e, hnm]
    refine ⟨t.nm, J, M, rfl, rfl, g1, fun _ => ⟨g5, g2.trans h0, g3.trans ho2, ?_⟩, fun z => absurd rfl z⟩
    have hpos : ¬ t.nm < 0 := by rw [hv2]; exact nI_pos (by omega)
    have := VS_push (nm := nm) (s := t.nm) (Int32.le_trans (by decide : (-6 : Int32) ≤ 0) (Int32.not_lt.mp hpos))
    rw [if_neg hpos] at this
    exact this
  have ht2 : ¬ t.tk = 2 := fun z => h3 (hS.2.2.2.2.1.mpr z)
  refine gbr_i (fun _ => ?_) (fun z => absurd h0 z)
  -- no name
  have nonm : (∀ q, q < 6 → ¬ t.tk = 128 + nI (6 + q)) → pOne (lex b n) deep t = (false, [], t) := fun h => by
    refine (((if_neg h1).trans (if_neg h2)).trans (if_neg ht2)).trans (if_neg (fun z => ?_))
    have h139 := hv.2.2.2.2
    obtain ⟨m, hm, he⟩ := nI_of2 (M := 139) (n := 139) rfl (x := t.tk) (fun y => Int32.lt_irrefl (Int32.lt_of_lt_of_le y (Int32.le_trans (by decide : (0 : Int32) ≤ 134) z))) h139
    rw [he] at z
    have hm2 : 134 ≤ m := (nI_leI (a := 134) (by omega) (by omega)).mp z
    refine h (m - 134) (by omega) ?_
    rw [he, show (128 : Int32) = nI 128 from rfl, nI_add]
    congr 1; omega
  refine gbr_i (fun h5 => ?_) (fun h5 => ?_)
  · refine gcall0 hca (m_name E I L b x n nm t hc hS h0) (blt_t (by omega)) ?_
    intro w1 u1 _ hpost
    by_cases hn : ∃ q, q < 6 ∧ t.tk = 128 + nI (6 + q)
    · obtain ⟨q, hq, htq⟩ := hn
      obtain ⟨rfl, rfl⟩ := hpost.1 q hq htq
      have hne : t.tk ≠ 1 := by
        rw [htq]
        exact fun z => ne128 (n := 1) (by omega) (show 6 + q < 12 by omega) z.symm
      have h134 : 134 ≤ t.tk := by
        rw [htq, show (128 : Int32) = nI 128 from rfl, nI_add]
        exact nI_le (a := 134) (by omega) (by omega)
      refine gbr_i (fun _ => ?_) (fun z => absurd h0 z)
      refine gnext hca (by omega) hc hS hv hne (fun J M g1 g2 g3 g4 g5 => ?_)
      have e : pOne (lex b n) deep t = (true, [134 - t.tk - 1], nxt (lex b n) t) := (((if_neg h1).trans (if_neg h2)).trans (if_neg ht2)).trans (if_pos h134)
      refine fin (nm q) J M ?_
      rw [e]
      refine ⟨nm q, J, M, rfl, rfl, g1, fun _ => ⟨g5, g2.trans h0, g3.trans ho2, ?_⟩, fun z => absurd rfl z⟩
      have hop : (134 : Int32) - t.tk - 1 = -1 - nI q ∧ -6 ≤ (-1 : Int32) - nI q ∧ (-1 : Int32) - nI q < 0 ∧ (-1 - ((-1 : Int32) - nI q)).toNatClampNeg = q := by
        rw [htq]
        have h6 : q = 0 ∨ q = 1 ∨ q = 2 ∨ q = 3 ∨ q = 4 ∨ q = 5 := by omega
        rcases h6 with rfl | rfl | rfl | rfl | rfl | rfl <;> decide
      rw [hop.1]
      have := VS_push (nm := nm) hop.2.1
      rw [if_pos hop.2.2.1, hop.2.2.2] at this
      exact this
    · have hn' : ∀ q, q < 6 → ¬ t.tk = 128 + nI (6 + q) := fun q hq z => hn ⟨q, hq, z⟩
      obtain ⟨rfl, J, rfl, f1, f2, f3⟩ := hpost.2 hn'
      refine gbr_i (fun z => ?_) (fun _ => ?_)
      · exfalso
        have z' : J 0 25 = 0 := z
        rw [f2] at z'
        exact absurd z' (by decide)
      · exact flt (nonm hn') J L 0 f1 f2 f3
  · have hn' : ∀ q, q < 6 → ¬ t.tk = 128 + nI (6 + q) := fun q hq z => h5 (((hS.2.2.1 (6 + q) (by omega)).mpr z).1)
    refine gfail hca (by omega) h0 hS.1 (fun J f1 f2 f3 => ?_)
    exact flt (nonm hn') J L 0 f1 f2 f3
end
