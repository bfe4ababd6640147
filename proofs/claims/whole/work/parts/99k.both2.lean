-- each method on both sides, continued: rides, sheets, image, text
theorem relS_x {I J : Nat → Nat → Int32} (h : relS I J) : ∀ s : Int32, 0 ≤ s ∧ s < 4 → ¬ I (kS s) 1 = -1 → ∃ z, z ≤ 40 ∧ I (kS s) 2 = nI z := by
  intro s hs hn
  obtain ⟨k, hk, rfl⟩ := nI_of (Int32.not_lt.mpr hs.1)
  have hk4 : k < 4 := (nI_ltI hk (by decide : 4 < 2 ^ 31)).mp hs.2
  unfold kS at hn ⊢
  rw [nI_clamp hk] at hn ⊢
  obtain ⟨a, b⟩ := h k hk4
  obtain ⟨b1, z, b2, b3, b4, b5⟩ := b (fun q => hn (a.mpr q))
  exact ⟨z, b2, b3⟩
theorem relS_m {I J : Nat → Nat → Int32} (h : relS I J) : ∀ s, s < 4 → ¬ J 21 s = 0 → ∃ z, z ≤ 40 ∧ J 23 s = nI z := by
  intro s hs hn
  obtain ⟨b1, z, b2, b3, b4, b5⟩ := (h s hs).2 hn
  exact ⟨z, b2, b4⟩
theorem kS_6 (s : Int32) (I : Nat → Nat → Int32) (f g : Nat → Int32) : gset (gset I (kS s) f) (kS s + 1) g 6 = I 6 ∧ gset I (kS s + 1) g 6 = I 6 := by
  unfold kS
  exact ⟨by rw [gset_n (by omega), gset_n (by omega)], by rw [gset_n (by omega)]⟩
theorem radd_6 (I : Nat → Nat → Int32) (a b z : Int32) : (radd I a b z).2 6 = I 6 := by
  unfold radd
  split
  · split <;> rfl
  · rfl
theorem tnX_6 {f : Nat → Int32} {z fr : Int32} : ∀ (m k : Nat) (came : Int32) (I : Nat → Nat → Int32), (tnX f z fr m k came I).2 6 = I 6 := by
  intro m
  induction m with
  | zero => intro k came I; rfl
  | succ m ih =>
    intro k came I
    unfold tnX
    split
    · rw [ih, radd_6]
    · rfl
section
variable (E : gEnv)
theorem b_ride (g t what : Int32) : gB Value.int E nX9_ride nX10_ride [.int g, .int t, .int what] := by
  intro c ln I L J M h hz
  obtain ⟨nr, nt, ru, n, TT, hA, hT, hP, hF, hI, hS⟩ := id h
  obtain ⟨⟨n1, n2, n3⟩, t1, t2, t3⟩ := relA_c hA
  obtain ⟨r1, r2, r3, r4, r5, r6⟩ := relT_rule hT
  have hs := sv3_svX hA.1 r6
  exact gB_fr (by decide) (p_ride E c ln I L ru r1 r2 r3 r4 nr n1 n2 nt t1 t2 g t what) (m_ride E J M (TT ru) r5 nr n1 n3 (relA_st hA) nt t1 t3 g t what) (rideX_ag hA.1 hs nr g t what) h hz
theorem b_spent (g t r : Int32) : gB Value.long E nX9_spent nX10_spent [.int g, .int t, .int r] := by
  intro c ln I L J M h hz
  obtain ⟨nr, nt, ru, n, TT, hA, hT, hP, hF, hI, hS⟩ := id h
  obtain ⟨⟨n1, n2, n3⟩, t1, t2, t3⟩ := relA_c hA
  obtain ⟨r1, r2, r3, r4, r5, r6⟩ := relT_rule hT
  have hs := sv3_svX hA.1 r6
  exact gB_fr (by decide) (p_spent E c ln I L ru r1 r2 r3 r4 nr n1 n2 nt t1 t2 g t r) (m_spent E J M (TT ru) r5 nr n1 n3 (relA_st hA) nt t1 t3 g t r) (spentX_ag hA.1 hs nr g t r) h hz
theorem b_caught (g o t gap what : Int32) : gB Value.long E nX9_caught nX10_caught [.int g, .int o, .int t, .int gap, .int what] := by
  intro c ln I L J M h hz
  obtain ⟨nr, nt, ru, n, TT, hA, hT, hP, hF, hI, hS⟩ := id h
  obtain ⟨⟨n1, n2, n3⟩, t1, t2, t3⟩ := relA_c hA
  obtain ⟨r1, r2, r3, r4, r5, r6⟩ := relT_rule hT
  have hs := sv3_svX hA.1 r6
  exact gB_fr (by decide) (p_caught E c ln I L ru r1 r2 r3 r4 nr n1 n2 nt t1 t2 g o t gap what) (m_caught E J M (TT ru) r5 nr n1 n3 (relA_st hA) nt t1 t3 g o t gap what) (caugX_ag hA.1 hs nr g o t gap what) h hz
theorem b_clock (g o t gap y : Int32) : gB Value.long E nX9_clock nX10_clock [.int g, .int o, .int t, .int gap, .int y] := by
  intro c ln I L J M h hz
  obtain ⟨nr, nt, ru, n, TT, hA, hT, hP, hF, hI, hS⟩ := id h
  obtain ⟨⟨n1, n2, n3⟩, t1, t2, t3⟩ := relA_c hA
  obtain ⟨r1, r2, r3, r4, r5, r6⟩ := relT_rule hT
  have hs := sv3_svX hA.1 r6
  exact gB_fr (by decide) (p_clock E c ln I L ru r1 r2 r3 r4 nr n1 n2 nt t1 t2 g o t gap y) (m_clock E J M (TT ru) r5 nr n1 n3 (relA_st hA) nt t1 t3 g o t gap y) (clkX_ag hA.1 hs nr g o t gap y) h hz
theorem b_worth (r t p : Int32) : gB Value.long E nX9_worth nX10_worth [.int r, .int t, .int p] := by
  intro c ln I L J M h hz
  obtain ⟨nr, nt, ru, n, TT, hA, hT, hP, hF, hI, hS⟩ := id h
  obtain ⟨⟨n1, n2, n3⟩, t1, t2, t3⟩ := relA_c hA
  obtain ⟨r1, r2, r3, r4, r5, r6⟩ := relT_rule hT
  have hs := sv3_svX hA.1 r6
  exact gB_fr (by decide) (p_worth E c ln I L ru r1 r2 r3 r4 nr n1 n2 nt t1 t2 r t p) (m_worth E J M (TT ru) r5 nr n1 n3 nt t1 t3 r t p) (worthX_ag hA.1 hs r t p) h hz
theorem b_turns (g t what : Int32) : gB Value.long E nX9_turns nX10_turns [.int g, .int t, .int what] := by
  intro c ln I L J M h hz
  obtain ⟨nr, nt, ru, n, TT, hA, hT, hP, hF, hI, hS⟩ := id h
  obtain ⟨⟨n1, n2, n3⟩, t1, t2, t3⟩ := relA_c hA
  obtain ⟨r1, r2, r3, r4, r5, r6⟩ := relT_rule hT
  have hs := sv3_svX hA.1 r6
  exact gB_fr (by decide) (p_turns E c ln I L ru r1 r2 r3 r4 nr n1 n2 nt t1 t2 g t what) (m_turns E J M (TT ru) r5 nr n1 n3 nt t1 t3 g t what) (turnX_ag hA.1 hs nr g t what) h hz
theorem b_goes (r g : Int32) : gB Value.int E nX9_goes nX10_goes [.int r, .int g] := by
  intro c ln I L J M h hz
  obtain ⟨nr, nt, ru, n, TT, hA, hT, hP, hF, hI, hS⟩ := id h
  obtain ⟨⟨n1, n2, n3⟩, t1, t2, t3⟩ := relA_c hA
  obtain ⟨r1, r2, r3, r4, r5, r6⟩ := relT_rule hT
  have hs := sv3_svX hA.1 r6
  exact gB_fr (by decide) (p_goes E c ln I L ru r1 r2 r3 r4 nr n1 n2 nt t1 t2 r g) (m_goes E J M (TT ru) r5 nr n1 n3 (relA_st hA) nt t1 t3 r g) (goesX_ag hA.1 hs nr nt r g) h hz
theorem b_wrong (g t : Int32) : gB Value.int E nX9_wrong nX10_wrong [.int g, .int t] := by
  intro c ln I L J M h hz
  obtain ⟨nr, nt, ru, n, TT, hA, hT, hP, hF, hI, hS⟩ := id h
  obtain ⟨⟨n1, n2, n3⟩, t1, t2, t3⟩ := relA_c hA
  obtain ⟨r1, r2, r3, r4, r5, r6⟩ := relT_rule hT
  have hs := sv3_svX hA.1 r6
  exact gB_fr (by decide) (p_wrong E c ln I L ru r1 r2 r3 r4 nr n1 n2 nt t1 t2 g t) (m_wrong E J M (TT ru) r5 nr n1 n3 (relA_st hA) nt t1 t3 g t) (wrongX_eq hA hs hF g t) h hz
theorem b_says (r t p key : Int32) : gB Value.int E nX9_says nX10_says [.int r, .int t, .int p, .int key] := by
  intro c ln I L J M h hz
  obtain ⟨nr, nt, ru, n, TT, hA, hT, hP, hF, hI, hS⟩ := id h
  obtain ⟨⟨n1, n2, n3⟩, t1, t2, t3⟩ := relA_c hA
  obtain ⟨r1, r2, r3, r4, r5, r6⟩ := relT_rule hT
  have hs := sv3_svX hA.1 r6
  exact gB_fr (by decide) (p_says E c ln I L ru r1 r2 r3 r4 nr n1 n2 nt t1 t2 r t p key) (m_says E J M (TT ru) r5 nr n1 n3 nt t1 t3 r t p key) (saysX_ag hA.1 hs r t p key) h hz
theorem b_ridden (g t : Int32) : gB Value.int E nX9_ridden nX10_ridden [.int g, .int t] := by
  intro c ln I L J M h hz
  obtain ⟨nr, nt, ru, n, TT, hA, hT, hP, hF, hI, hS⟩ := id h
  obtain ⟨⟨n1, n2, n3⟩, t1, t2, t3⟩ := relA_c hA
  obtain ⟨r1, r2, r3, r4, r5, r6⟩ := relT_rule hT
  have hs := sv3_svX hA.1 r6
  refine ⟨8, 46, 0, 0, _, _, by decide, p_ridden E c ln I L ru r1 r2 r3 r4 nr n1 n2 nt t1 t2 g t, m_ridden E J M (TT ru) r5 nr n1 n3 (relA_st hA) nt t1 t3 g t, ?_⟩
  rintro w u w' u' ⟨rfl, I', rfl, h11, hf⟩ ⟨rfl, J', M', rfl, g12, hg, hg0⟩
  rw [riddX_ag hA.1 hs] at h11 ⊢
  refine ⟨_, c, ln, I', L, J', M', ⟨rfl, rfl⟩, ⟨rfl, rfl⟩, Rel_ridden hA hT hP hF hI hS h11 hf g12 hg hg0, relZ_keep hz ?_ rfl⟩
  rw [hf 6 (by decide) (by decide) (by decide) (by decide)]
theorem b_train (g what : Int32) : gB Value.int E nX9_train nX10_train [.int g, .int what] := by
  intro c ln I L J M h hz
  obtain ⟨nr, nt, ru, n, TT, hA, hT, hP, hF, hI, hS⟩ := id h
  obtain ⟨⟨n1, n2, n3⟩, t1, t2, t3⟩ := relA_c hA
  refine ⟨16, 16, 0, 0, _, _, by decide, p_train E c ln I L nr n1 n2 g what, m_train E J M nr n1 n3 (relA_sm hA) g what, ?_⟩
  rintro w u w' u' ⟨rfl, I', rfl, hf⟩ ⟨rfl, J', M', rfl, hJ⟩
  rw [trainX_ag hA.1]
  refine ⟨_, c, ln, I', L, J', M', ⟨rfl, rfl⟩, ⟨rfl, rfl⟩, Rel_fr h (fun k k1 k2 k3 => hf k (by omega)) hJ, relZ_keep hz ?_ rfl⟩
  rw [hf 6 (by decide)]
theorem b_image : gB Value.int E nX9_image nX10_image [] := by
  intro c ln I L J M h hz
  obtain ⟨nr, nt, ru, n, TT, hA, hT, hP, hF, hI, hS⟩ := id h
  obtain ⟨⟨n1, n2, n3⟩, t1, t2, t3⟩ := relA_c hA
  refine ⟨3, 3, 0, 0, _, _, by decide, p_image E c ln I L nr n1 n2, m_image E J M nr n1 n3 nt t1 t3, ?_⟩
  rintro w u w' u' ⟨rfl, I', L', rfl, x28, x29, x30, x31, xI, xL⟩ ⟨rfl, J', rfl, y0, y18, y19, y20, yJ⟩
  refine ⟨nI nr, c, ln, I', L', J', M, ⟨rfl, rfl⟩, ⟨rfl, rfl⟩, Rel_image hA hT hP hF hS x28 x29 x30 x31 xI xL y0 y18 y19 y20 yJ, relZ_keep hz ?_ (xL 12 (by decide))⟩
  rw [xI 6 (by decide) (by decide) (by decide)]
theorem b_back : gB Value.int E nX9_back nX10_back [] := by
  intro c ln I L J M h hz
  obtain ⟨nr, nt, ru, n, TT, hA, hT, hP, hF, hI, hS⟩ := id h
  obtain ⟨⟨n1, n2, n3⟩, t1, t2, t3⟩ := relA_c hA
  obtain ⟨hi0, ic, it, iru, h1, h2, h3, ⟨h4, h4'⟩, h5, h6, h7, h8, h9⟩ := id hI
  refine ⟨3, 3, 0, 0, _, _, by decide, p_back E c ln I L ic (by omega) h4, m_back E J M nr n1 n3 nt t1 t3 ic (by omega) h4' it (by omega) h5, ?_⟩
  rintro w u w' u' hx hm
  rcases hx with ⟨e, rfl, rfl⟩ | ⟨e, rfl, I', L', rfl, x17, x10, x11, x12, xI, xL⟩
  · rcases hm with ⟨e', rfl, rfl⟩ | ⟨e', -⟩
    · exact ⟨-3, c, ln, I, L, J, M, ⟨rfl, rfl⟩, ⟨rfl, rfl⟩, h, hz⟩
    · exact absurd (hi0.mp e) e'
  · rcases hm with ⟨e', -⟩ | ⟨e', rfl, J', rfl, m0, m11, m12, m7, mJ⟩
    · exact absurd (hi0.mpr e') e
    · refine ⟨nI nr, c, ln, I', L', J', M, ⟨by rw [n2], rfl⟩, ⟨rfl, rfl⟩, Rel_back hA hT hP hF hI hS h1 h2 h3 h6 h7 h8 h9 x17 x10 x11 x12 xI xL m0 m11 m12 m7 mJ, ?_⟩
      refine relZ_at hz n1 n2 (by rw [xI 6 (by decide) (by decide) (by decide)]) (fun r hr => ?_)
      rw [x12, cpy_hi _ _ (by omega)]
theorem b_sheet (s sort k : Int32) : gB Value.int E nX9_sheet nX10_sheet [.int s, .int sort, .int k] := by
  intro c ln I L J M h hz
  obtain ⟨nr, nt, ru, n, TT, hA, hT, hP, hF, hI, hS⟩ := id h
  obtain ⟨⟨n1, n2, n3⟩, t1, t2, t3⟩ := relA_c hA
  refine gB_upd (by decide) (p_sheet E c ln I L s sort k) (m_sheet E J M s sort k) (Rel_sheet h s sort k) (relZ_keep hz ?_ rfl)
  unfold sheetX
  split
  · split
    · rfl
    · split
      · rfl
      · exact congrFun (kS_6 s I _ _).1 6
  · rfl
theorem b_cell (s i v : Int32) : gB Value.int E nX9_cell nX10_cell [.int s, .int i, .int v] := by
  intro c ln I L J M h hz
  obtain ⟨nr, nt, ru, n, TT, hA, hT, hP, hF, hI, hS⟩ := id h
  obtain ⟨⟨n1, n2, n3⟩, t1, t2, t3⟩ := relA_c hA
  refine gB_upd (by decide) (p_cell E c ln I L s i v (relS_x hS)) (m_cell E J M s i v (relS_m hS)) (Rel_cell h s i v) (relZ_keep hz ?_ rfl)
  unfold cellX
  split
  · split
    · rfl
    · split
      · exact congrFun (kS_6 s I (fun _ => 0) _).2 6
      · rfl
  · rfl
theorem b_copy (s i o j k : Int32) : gB Value.int E nX9_copy nX10_copy [.int s, .int i, .int o, .int j, .int k] := by
  intro c ln I L J M h hz
  obtain ⟨nr, nt, ru, n, TT, hA, hT, hP, hF, hI, hS⟩ := id h
  obtain ⟨⟨n1, n2, n3⟩, t1, t2, t3⟩ := relA_c hA
  refine gB_upd (by decide) (p_copy E c ln I L s i o j k (relS_x hS)) (m_copy E J M s i o j k (relS_m hS)) (Rel_copy h s i o j k) (relZ_keep hz ?_ rfl)
  unfold copyX
  split
  · split
    · rfl
    · split
      · rfl
      · split
        · exact congrFun (kS_6 o I (fun _ => 0) _).2 6
        · rfl
  · rfl
theorem b_tenths (s sort fr k : Int32) : gB Value.int E nX9_tenths nX10_tenths [.int s, .int sort, .int fr, .int k] := by
  intro c ln I L J M h hz
  obtain ⟨nr, nt, ru, n, TT, hA, hT, hP, hF, hI, hS⟩ := id h
  obtain ⟨⟨n1, n2, n3⟩, t1, t2, t3⟩ := relA_c hA
  refine gB_upd (by decide) (p_tenths E c ln I L s sort fr k nt t1 t2 (relS_x hS)) (m_tenths E J M s sort fr k nt t1 t3 (relS_m hS)) (Rel_tenths h s sort fr k) (relZ_keep hz ?_ rfl)
  unfold tenthsX
  split
  · split
    · rfl
    · split
      · exact congrFun (tnX_6 _ _ _ _) 6
      · rfl
  · rfl
theorem b_text : gB Value.int E nX9_text nX10_text [] := by
  intro c ln I L J M h hz
  obtain ⟨nr, nt, ru, n, TT, hA, hT, hP, hF, hI, hS⟩ := id h
  obtain ⟨⟨n1, n2, n3⟩, t1, t2, t3⟩ := relA_c hA
  have e := relP_text hP
  refine ⟨52, 43, 2, 163, _, _, by decide, p_text E c ln I L hT.1.2.1 hT.2.1.1 n hP.1 hP.2.1, m_text E J M c hT.1.2.1 hT.2.2.1.1 n hP.1 hP.2.2.1 (fun j hj => (hP.2.2.2 j hj).2.1), ?_⟩
  rintro w u w' u' ⟨x1, x2, x3⟩ ⟨m1, m2, m3⟩
  rw [e] at x2 x3
  have hc := hT.1.2.1
  rcases Nat.lt_or_ge c 6 with c6 | c6
  · by_cases good : (pTxt (lex (J 3) n)).1 = true
    · obtain ⟨rfl, hb, I', L', rfl, y1, ⟨y2, y2'⟩, y3, y4, y5, y6, y7⟩ := x2 (by omega) good
      obtain ⟨rfl, J', M', rfl, z1, z2, z3⟩ := m2 (by omega) good
      refine ⟨nI c, c + 1, _, I', L', J', M', ⟨rfl, rfl⟩, ⟨rfl, rfl⟩, Rel_text hA hT hP hF hI hS ⟨by omega, by omega, by omega⟩ y1 ⟨y2, y2' 6 (by decide)⟩ y6 y7 (fun x hx => gupd_n (by omega)) (fun _ => ⟨good, gupd_s, hb, y3, y4, y5⟩) z1, relZ_keep hz ?_ (y7 12 (by omega) (by omega))⟩
      rw [y6 6 (by decide) (by decide) (by decide) (by decide) (by omega) (by omega)]
    · obtain ⟨rfl, I', rfl, y1, y2⟩ := x3 (by omega) good
      obtain ⟨rfl, J', M', rfl, z1, z2, z3⟩ := m3 (by omega) good
      have k17 := y2 17 (by decide) (by decide) (by decide)
      refine ⟨_, c, ln, I', L, J', M', ⟨rfl, rfl⟩, ⟨rfl, rfl⟩, Rel_text hA hT hP hF hI hS ⟨by omega, by omega, by omega⟩ y1 ⟨by rw [k17]; exact hT.2.1.1, by rw [k17]⟩ (fun k k1 k2 k3 k4 k5 k6 => y2 k k1 k2 k3) (fun _ _ _ => rfl) (fun _ _ => rfl) (fun hh => absurd hh (Nat.lt_irrefl _)) z1, relZ_keep hz ?_ rfl⟩
      rw [y2 6 (by decide) (by decide) (by decide)]
  · obtain ⟨rfl, rfl⟩ := x1 (by omega)
    obtain ⟨rfl, rfl⟩ := m1 (by omega)
    exact ⟨-4, c, ln, I, L, J, M, ⟨rfl, rfl⟩, ⟨rfl, rfl⟩, h, hz⟩
end
