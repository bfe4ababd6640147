-- the model's readers of a not, of all
section
variable {E : gEnv} {b : Nat → Int32} {x n : Nat} {nm : Nat → Int32}
set_option maxRecDepth 4000 in
set_option maxHeartbeats 2000000 in
theorem m_not {o d : Nat} (ho : o ≤ 5) (h4 : 3 < d) {deep : Option (Rdr × Rdr × Rdr)} {R : Rdr} (hd : mdX E b x n nm o d deep) (hp : prg n (pSum (lex b n) R)) (hR : mcR E b x n nm o d nX10_added (pSum (lex b n) R)) : mcR E b x n nm o (d + 1) nX10_not (pDen (lex b n) deep R) := by
  have hl := lex_okL b n
  intro I L t hc hS hv h0 ho2
  refine gstart iX10_not tX10_not rfl rfl (fun K ca hK hca => ?_)
  have hx := (vL_nxt hl hv).1
  refine hK [69] 80 _ _ _ _ _ _ ?_
  refine gword hca (by omega) h0 hS (q := 5) (by decide) (fun h1 => ?_) (fun h1 => ?_)
  · have h133 : t.tk = 133 := h1
    have hne : t.tk ≠ 1 := by rw [h133]; decide
    refine gbr_i (fun z => absurd z (by decide)) (fun _ => ?_)
    refine gcall0 hca (m_opens E I L b x n nm o ho t hc hS hv hne h0 ho2) (blt_t (by omega)) ?_
    rintro w u' - ⟨J, M, rfl, f1, g5, g4⟩
    match deep, hd, hK with
    | none, hd, _ =>
      obtain ⟨rfl, a1, a2⟩ := g5 hd
      have e : pDen (lex b n) none R t = (false, [], t) := if_pos h133
      rw [e]
      exact gbr_i (fun _ => ⟨0, J, M, rfl, rfl, f1, fun z => ff z, fun _ => ⟨a1, a2⟩⟩) (fun z => absurd rfl z)
    | some q, hd, _ =>
      obtain ⟨rfl, a1, a2, a3⟩ := g4 hd.1
      have e : pDen (lex b n) (some q) R t = ((q.2.1 (nxt (lex b n) t)).1, (q.2.1 (nxt (lex b n) t)).2.1 ++ [-8], (q.2.1 (nxt (lex b n) t)).2.2) := if_pos h133
      rw [e]
      refine gbr_i (fun z => absurd z (by decide)) (fun _ => ?_)
      obtain ⟨d1, hd1, hcr⟩ := hd.2.2.1
      refine gcall0 hca (hcr J M (nxt (lex b n) t) (mcx_mpf hc f1) a3 hx a1 a2) (blt_t (by omega)) ?_
      rintro _ u' - ⟨w, J2, M2, rfl, rfl, f2, gd, bd⟩
      have fin : ∀ y : Int32, y = (if w = 0 then 1 else 0) → mPR I L nm o ((q.2.1 (nxt (lex b n) t)).1, (q.2.1 (nxt (lex b n) t)).2.1 ++ [-8], (q.2.1 (nxt (lex b n) t)).2.2) (some (.int y)) (wM (gset J2 0 (gupd (J2 0) 24 (J2 0 24 - 1))) M2) := by
        intro y hy
        refine ⟨y, _, M2, rfl, rfl, mpf_trans f1 (mpf_trans f2 (mpf_I (j := 24) (by decide) (J2 0 24 - 1))), fun z => ?_, fun z => bd z⟩
        obtain ⟨c1, c2, c3, c4⟩ := gd z
        refine ⟨mtS_open c1 _, c2, ?_, ?_⟩
        · show J2 0 24 - 1 = _
          rw [c3, nI_pred]
        · rw [hy]; exact VS_den c4
      refine gbr_i (fun h => fin 1 (if_pos h).symm) (fun h => fin 0 (if_neg h).symm)
  have n133 : ¬ t.tk = 133 := fun z => h1 z
  have e0 : pDen (lex b n) deep R t = pCmp (lex b n) R t := if_neg n133
  rw [e0] at hK ⊢
  obtain ⟨k1, k2, k3⟩ := hp t hv
  refine gbr_i (fun _ => ?_) (fun z => absurd rfl z)
  refine gcall0 hca (hR I L t hc hS hv h0 ho2) (blt_t (by omega)) ?_
  rintro _ u' - ⟨w, J, M, rfl, rfl, f1, gd, bd⟩
  by_cases hg : (pSum (lex b n) R t).1 = true
  · obtain ⟨c1, c2, c3, c4⟩ := gd hg
    have tail : ∀ op m : Int32, (op = -12 ∧ m = 1 ∨ op = -13 ∧ m = 0) → pCmp (lex b n) R t = ((pSum (lex b n) R (nxt (lex b n) (pSum (lex b n) R t).2.2)).1, (pSum (lex b n) R t).2.1 ++ (pSum (lex b n) R (nxt (lex b n) (pSum (lex b n) R t).2.2)).2.1 ++ [op], (pSum (lex b n) R (nxt (lex b n) (pSum (lex b n) R t).2.2)).2.2) → (pSum (lex b n) R t).2.2.tk ≠ 1 → K 0 0 85 [some (.ref 0), some (.int w), none, none] [.int m] (wM J M) := by
      intro op m hom e hz1
      rw [e] at hK
      have hx2 := (vL_nxt hl k1).1
      refine hK [] 60 _ _ _ _ _ _ ?_
      refine gnext hca (by omega) (mcx_mpf hc f1) c1 k1 hz1 (fun J1 M1 g1 g2 g3 g4 g5 => ?_)
      refine gcall0 hca (hR J1 M1 _ (mcx_mpf hc (mpf_trans f1 g1)) g5 hx2 (g2.trans c2) (g3.trans c3)) (blt_t (by omega)) ?_
      rintro _ u' - ⟨w3, J2, M2, rfl, rfl, f2, gd2, bd2⟩
      have fin : ∀ y : Int32, y = jn op w w3 → mPR I L nm o ((pSum (lex b n) R (nxt (lex b n) (pSum (lex b n) R t).2.2)).1, (pSum (lex b n) R t).2.1 ++ (pSum (lex b n) R (nxt (lex b n) (pSum (lex b n) R t).2.2)).2.1 ++ [op], (pSum (lex b n) R (nxt (lex b n) (pSum (lex b n) R t).2.2)).2.2) (some (.int y)) (wM J2 M2) := by
        intro y hy
        refine ⟨y, J2, M2, rfl, rfl, mpf_trans f1 (mpf_trans g1 f2), fun z => ?_, bd2⟩
        obtain ⟨a1, a2, a3, a4⟩ := gd2 z
        refine ⟨a1, a2, a3, ?_⟩
        rw [hy]
        exact VS_bin c4 a4 (by rcases hom with ⟨rfl, _⟩ | ⟨rfl, _⟩ <;> decide)
      rcases hom with ⟨rfl, rfl⟩ | ⟨rfl, rfl⟩
      · refine gbr_i (fun z => absurd z (by decide)) (fun _ => ?_)
        refine gbr_i (fun h => fin 0 ?_) (fun h => fin 1 ?_)
        · exact (if_neg (Int32.not_lt.mpr h)).symm
        · exact (if_pos (Int32.not_le.mp h)).symm
      · refine gbr_i (fun _ => ?_) (fun z => absurd rfl z)
        refine gbr_i (fun h => fin 1 ?_) (fun h => fin 0 ?_)
        · exact (if_pos h).symm
        · exact (if_neg h).symm
    have worth : ∀ s : Int32, isSg s = true → (pSum (lex b n) R t).2.2.tk = s → M 0 22 = s.toInt64 := fun s hs hq => ((c1.2.2.2.1 s hs).mpr hq).2
    refine gsign hca (by omega) c2 c1 (s := 60) (by decide) (fun hq => ?_) (fun hq => ?_)
    · refine gbr_i (fun z => absurd z (by decide)) (fun _ => ?_)
      refine hK [85] 60 _ _ _ _ _ _ ?_
      have hw := worth 60 (by decide) hq
      refine gbr_i (fun _ => ?_) (fun z => absurd ((lgc_0 _ _).mpr hw) z)
      refine tail (-12) 1 (Or.inl ⟨rfl, rfl⟩) ?_ (by rw [hq]; decide)
      refine (if_pos hg).trans ((if_pos (Or.inl hq)).trans ?_)
      rw [if_pos hq]
    · refine gbr_i (fun _ => ?_) (fun z => absurd rfl z)
      refine gsign hca (by omega) c2 c1 (s := 61) (by decide) (fun hq2 => ?_) (fun hq2 => ?_)
      · refine gbr_i (fun z => absurd z (by decide)) (fun _ => ?_)
        refine hK [85] 60 _ _ _ _ _ _ ?_
        have hw := worth 61 (by decide) hq2
        refine gbr_i (fun z => ?_) (fun _ => ?_)
        · exfalso
          have z' := (lgc_0 _ _).mp z
          have z2 : (61 : Int32).toInt64 = 60 := hw.symm.trans z'
          exact absurd z2 (by decide)
        · refine tail (-13) 0 (Or.inr ⟨rfl, rfl⟩) ?_ (by rw [hq2]; decide)
          refine (if_pos hg).trans ((if_pos (Or.inr hq2)).trans ?_)
          rw [if_neg hq]
      · refine gbr_i (fun _ => ?_) (fun z => absurd rfl z)
        have e : pCmp (lex b n) R t = pSum (lex b n) R t := (if_pos hg).trans (if_neg (fun z => z.elim hq hq2))
        rw [e]
        exact ⟨w, J, M, rfl, rfl, f1, gd, bd⟩
  · obtain ⟨c1, c2⟩ := bd hg
    refine gsignB hca (by omega) c1 ?_
    refine gbr_i (fun _ => ?_) (fun z => absurd rfl z)
    refine gsignB hca (by omega) c1 ?_
    refine gbr_i (fun _ => ?_) (fun z => absurd rfl z)
    have e : pCmp (lex b n) R t = (false, [], (pSum (lex b n) R t).2.2) := if_neg hg
    rw [e]
    exact ⟨w, J, M, rfl, rfl, f1, fun z => ff z, fun _ => ⟨c1, c2⟩⟩
theorem m_mk {o d : Nat} (ho : o ≤ 5) (h4 : 3 < d) {deep : Option (Rdr × Rdr × Rdr)} (hpd : prgD n deep) (hd : mdX E b x n nm o d deep) :
    mcR E b x n nm o (d + 1) nX10_one (pMk (lex b n) deep).1 ∧ mcR E b x n nm o (d + 4) nX10_not (pMk (lex b n) deep).2.1 ∧ mcR E b x n nm o (d + 6) nX10_either (pMk (lex b n) deep).2.2 := by
  have hl := lex_okL b n
  have p1 := prg_one hl hpd
  have p2 := prg_den hl p1 hpd
  have pT : prg n (pTerm (lex b n) (pOne (lex b n) deep)) := prg_ch (jo := jT) hl p1 rfl
  have pS : prg n (pSum (lex b n) (pOne (lex b n) deep)) := prg_ch (jo := jS) hl pT rfl
  have c1 := m_one ho h4 hpd hd
  have cT : mcR E b x n nm o (d + 2) nX10_term (pTerm (lex b n) (pOne (lex b n) deep)) := m_term (by omega) p1 c1
  have cS : mcR E b x n nm o (d + 3) nX10_added (pSum (lex b n) (pOne (lex b n) deep)) := m_added (by omega) pT cT
  have hd3 : mdX E b x n nm o (d + 3) deep := by
    match deep, hd with
    | none, hd => exact hd
    | some q, hd =>
      obtain ⟨h0, ⟨d1, e1, h1⟩, ⟨d2, e2, h2⟩, ⟨d3, e3, h3⟩⟩ := hd
      exact ⟨h0, ⟨d1, by omega, h1⟩, ⟨d2, by omega, h2⟩, ⟨d3, by omega, h3⟩⟩
  have c2 := m_not ho (by omega) hd3 pS cS
  have pB : prg n (pBoth (lex b n) (pDen (lex b n) deep (pOne (lex b n) deep))) := prg_ch (jo := jB) hl p2 rfl
  have cB : mcR E b x n nm o (d + 5) nX10_both (pBoth (lex b n) (pDen (lex b n) deep (pOne (lex b n) deep))) := m_both (by omega) p2 c2
  exact ⟨c1, c2, m_either (by omega) pB cB⟩
/-- every reader of the model keeps its contract -/
theorem m_lvl : ∀ k, k ≤ 5 → mcR E b x n nm (5 - k) (6 * k + 5) nX10_one (lvl (lex b n) k).1 ∧ mcR E b x n nm (5 - k) (6 * k + 8) nX10_not (lvl (lex b n) k).2.1 ∧ mcR E b x n nm (5 - k) (6 * k + 10) nX10_either (lvl (lex b n) k).2.2 := by
  have hl := lex_okL b n
  intro k
  induction k with
  | zero =>
    intro _
    exact m_mk (d := 4) (by omega) (by omega) trivial rfl
  | succ k ih =>
    intro hk
    obtain ⟨i1, i2, i3⟩ := ih (by omega)
    obtain ⟨q1, q2, q3⟩ := prg_lvl hl k
    have e : 5 - (k + 1) + 1 = 5 - k := by omega
    exact m_mk (o := 5 - (k + 1)) (d := 6 * k + 10) (deep := some (lvl (lex b n) k)) (by omega) (by omega) ⟨q1, q2, q3⟩ ⟨by omega, by rw [e]; exact ⟨_, by omega, i1⟩, by rw [e]; exact ⟨_, by omega, i2⟩, by rw [e]; exact ⟨_, by omega, i3⟩⟩
end
