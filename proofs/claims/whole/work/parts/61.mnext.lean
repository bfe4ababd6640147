-- the model's next token
theorem ne128 {n k : Nat} (hn : n < 128) (hk : k < 12) : ¬ nI n = 128 + nI k := by
  rw [show (128 : Int32) = nI 128 from rfl, nI_add, nI_eq (by omega) (by omega)]
  omega
theorem sg_rng {s : Int32} (h : isSg s = true) : ∃ m, 40 ≤ m ∧ m ≤ 61 ∧ s = nI m := by
  rcases isSg_i.mp h with rfl | rfl | rfl | rfl | rfl | rfl | rfl | rfl
  · exact ⟨40, by omega, by omega, rfl⟩
  · exact ⟨41, by omega, by omega, rfl⟩
  · exact ⟨42, by omega, by omega, rfl⟩
  · exact ⟨43, by omega, by omega, rfl⟩
  · exact ⟨45, by omega, by omega, rfl⟩
  · exact ⟨59, by omega, by omega, rfl⟩
  · exact ⟨60, by omega, by omega, rfl⟩
  · exact ⟨61, by omega, by omega, rfl⟩
theorem i64_inj {x y : Int32} : x.toInt64 = y.toInt64 ↔ x = y := by
  constructor
  · intro h
    have := congrArg Int64.toInt h
    rw [Int32.toInt_toInt64, Int32.toInt_toInt64] at this
    exact Int32.toInt_inj.mp this
  · intro h; rw [h]
theorem wtk_n {l : List Int32} : ∃ n, wtk l 12 = nI n ∧ (n = 1 ∨ 128 ≤ n ∧ n < 140) := by
  obtain ⟨h1, h2⟩ := wtk_le (l := l) 12 (Nat.le_refl _)
  obtain ⟨m, hm, he⟩ := nI_of2 (M := 139) (n := 139) rfl (x := wtk l 12) (by
    intro z
    rcases h2 with q | q
    · rw [q] at z; exact absurd z (by decide)
    · exact Int32.lt_irrefl (Int32.lt_trans (Int32.lt_of_le_of_lt q z) (by decide : (0 : Int32) < 128))) h1
  refine ⟨m, he, ?_⟩
  rw [he] at h2
  rcases h2 with q | q
  · exact Or.inl ((nI_eq (b := 1) (by omega) (by omega)).mp q)
  · exact Or.inr ⟨(nI_leI (a := 128) (by omega) (by omega)).mp q, by omega⟩
theorem nIne {a b : Nat} (ha : a < 2 ^ 31) (hb : b < 2 ^ 31) (h : a ≠ b) : ¬ nI a = nI b := fun z => h ((nI_eq ha hb).mp z)
section
variable (E : gEnv) (I : Nat → Nat → Int32) (L : Nat → Nat → Int64)
set_option maxRecDepth 20000 in
set_option maxHeartbeats 4000000 in
theorem m_next (b : Nat → Int32) (x n p : Nat) (ht : mtx I b x n) (hp : p ≤ n) (h23 : I 0 23 = nI p) : gCtr E 2 0 0 nX10_next [.ref 0] (wM I L) (fun v u' => v = none ∧ ∃ I' L', u' = wM I' L' ∧ mkf I I' L L' ∧ mtS I' L' (lex b n p)) := by
  refine gstart iX10_next tX10_next rfl rfl (fun K ca hK hca => ?_)
  obtain ⟨q1, q2, q3, q4⟩ := eat_spec (q := isBl) (b := b) (n := n) (n - p) p rfl
  have q2 := q2 hp
  have h160 := ht.2.2.1
  obtain ⟨T, hT⟩ : ∃ T, lex b n p = T := ⟨_, rfl⟩
  rw [hT] at hK
  unfold lex at hT
  generalize hA : eat isBl b n p = a at *
  have tail61 : ∀ J, mkf I J L L → J 0 23 = nI a → J 0 21 = nI a → J 0 20 = 4 → K 0 0 61 [some (.ref 0), some (.int (if a < n then b a else -1)), none] [] (wM J L) := by
    intro J hf j23 j21 j20
    have htJ := mtx_mkf ht hf
    by_cases han : n ≤ a
    · rw [if_pos han] at hT
      rw [if_neg (by omega)]
      subst hT
      have han2 : a = n := by omega
      refine hK [61] 60 _ _ _ _ _ _ ?_
      refine gbr_i (fun z => absurd z (by decide)) (fun _ => ?_)
      refine ⟨rfl, _, L, rfl, mkf_trans hf (mkf_trans (mkf_I (j := 20) (by decide) 0) (mkf_I (j := 21) (by decide) (J 0 19))), ?_, fun _ => j23, fun k hk => ⟨fun z => absurd (show (0 : Int32) = 1 from z.1) (by decide), fun z => absurd z (ne128 (n := 0) (by omega) hk)⟩, fun s hs => ⟨fun z => absurd (show (0 : Int32) = 3 from z.1) (by decide), fun z => ?_⟩, ?_, fun z => absurd (show (0 : Int32) = 2 from z) (by decide), ?_⟩
      · show J 0 19 = _
        rw [htJ.2.1, han2]
      · exfalso
        obtain ⟨m, hm1, hm2, rfl⟩ := sg_rng hs
        have z' : nI 0 = nI m := z
        exact nIne (by omega) (by omega) (by omega) z'
      · exact ⟨fun z => absurd (show (0 : Int32) = 2 from z) (by decide), fun z => absurd (show (0 : Int32) = 2 from z) (by decide)⟩
      · exact ⟨fun _ => rfl, fun _ => rfl⟩
    rw [if_neg han] at hT
    have hlt : a < n := by omega
    rw [if_pos hlt]
    obtain ⟨t1, t2, t3, t4, t5⟩ := ht
    have hb0 := (t5 a hlt).2
    have ht : mtx I b x n := ⟨t1, t2, t3, t4, t5⟩
    refine hK [61, 107, 211, 303] 80 _ _ _ _ _ _ ?_
    refine gbr_i (fun _ => ?_) (fun z => absurd hb0 z)
    refine gcall0 hca (m_in E (wM J L) (b a) 97 122) rfl ?_
    rintro w u' - ⟨rfl, rfl⟩
    have isL : (97 ≤ b a ∧ b a ≤ 122) ↔ isLt (b a) = true := isLt_i.symm
    refine gbr_p (fun hl => ?_) (fun hl => ?_)
    · have hl' : ¬ isLt (b a) = true := fun z => hl (isL.mpr z)
      rw [if_neg hl'] at hT
      refine gcall0 hca (m_in E (wM J L) (b a) 48 57) rfl ?_
      rintro w u' - ⟨rfl, rfl⟩
      refine gbr_p (fun hd => ?_) (fun hd => ?_)
      · have hd' : ¬ isDg (b a) = true := fun z => hd (isDg_i.mp z)
        rw [if_neg hd'] at hT
        -- a sign
        have sgn : isSg (b a) = true → K 0 0 351 [some (.ref 0), some (.int (b a)), none] [] (wM J L) := by
          intro hs
          rw [if_pos hs] at hT
          subst hT
          obtain ⟨m, hm1, hm2, hm⟩ := sg_rng hs
          refine hK [61] 60 _ _ _ _ _ _ ?_
          refine ⟨rfl, gset (gset J 0 (gupd (J 0) 20 3)) 0 (gupd (gset J 0 (gupd (J 0) 20 3) 0) 23 (J 0 23 + 1)), gset L 0 (gupd (L 0) 22 (b a).toInt64), rfl, ?_, j21, fun _ => ?_, fun k hk => ⟨fun z => absurd (show (3 : Int32) = 1 from z.1) (by decide), fun z => ?_⟩, fun s hs2 => ⟨fun z => i64_inj.mp z.2, fun z => ⟨rfl, i64_inj.mpr z⟩⟩, ?_, fun z => ?_, ?_⟩
          · exact mkf_trans hf (mkf_trans (mkf_I (I := J) (L := L) (j := 20) (by decide) 3) (mkf_trans (mkf_L (I := gset J 0 (gupd (J 0) 20 3)) (L := L) (b a).toInt64) (mkf_I (I := gset J 0 (gupd (J 0) 20 3)) (L := gset L 0 (gupd (L 0) 22 (b a).toInt64)) (j := 23) (by decide) (J 0 23 + 1))))
          · show J 0 23 + 1 = _
            rw [j23, nI_1]
          · exfalso
            have z' : b a = 128 + nI k := z
            rw [hm] at z'
            exact ne128 (by omega) hk z'
          · refine ⟨fun z => absurd (show (3 : Int32) = 2 from z) (by decide), fun z => ?_⟩
            exfalso
            have z' : b a = nI 2 := z
            rw [hm] at z'
            exact nIne (by omega) (by omega) (by omega) z'
          · exfalso
            have z' : b a = nI 2 := z
            rw [hm] at z'
            exact nIne (by omega) (by omega) (by omega) z'
          · refine ⟨fun z => absurd (show (3 : Int32) = 0 from z) (by decide), fun z => ?_⟩
            exfalso
            have z' : b a = nI 0 := z
            rw [hm] at z'
            exact nIne (by omega) (by omega) (by omega) z'
        have go : K 0 0 303 [some (.ref 0), some (.int (b a)), none] [] (wM J L) := by
          refine hK [61, 351] 80 _ _ _ _ _ _ ?_
          refine gbr_i (fun h => sgn (isSg_i.mpr (by simp [h]))) (fun n1 => ?_)
          refine gbr_i (fun h => sgn (isSg_i.mpr (by simp [h]))) (fun n2 => ?_)
          refine gbr_i (fun h => sgn (isSg_i.mpr (by simp [h]))) (fun n3 => ?_)
          refine gbr_i (fun h => sgn (isSg_i.mpr (by simp [h]))) (fun n4 => ?_)
          refine gbr_i (fun h => sgn (isSg_i.mpr (by simp [h]))) (fun n5 => ?_)
          refine gbr_i (fun h => sgn (isSg_i.mpr (by simp [h]))) (fun n6 => ?_)
          refine gbr_i (fun h => sgn (isSg_i.mpr (by simp [h]))) (fun n7 => ?_)
          refine gbr_i (fun h => sgn (isSg_i.mpr (by simp [h]))) (fun n8 => ?_)
          have ns : ¬ isSg (b a) = true := fun z => by
            rcases isSg_i.mp z with h | h | h | h | h | h | h | h
            · exact n1 h
            · exact n2 h
            · exact n6 h
            · exact n4 h
            · exact n5 h
            · exact n3 h
            · exact n7 h
            · exact n8 h
          rw [if_neg ns] at hT
          subst hT
          refine ⟨rfl, J, L, rfl, hf, j21, fun z => absurd rfl z, fun k hk => ⟨fun z => absurd (j20.symm.trans z.1) (by decide), fun z => absurd z (ne128 (n := 1) (by omega) hk)⟩, fun s hs => ⟨fun z => absurd (j20.symm.trans z.1) (by decide), fun z => ?_⟩, ?_, fun z => absurd (show (1 : Int32) = 2 from z) (by decide), ?_⟩
          · exfalso
            obtain ⟨m, hm1, hm2, rfl⟩ := sg_rng hs
            have z' : nI 1 = nI m := z
            exact nIne (by omega) (by omega) (by omega) z'
          · exact ⟨fun z => absurd (j20.symm.trans z) (by decide), fun z => absurd (show (1 : Int32) = 2 from z) (by decide)⟩
          · exact ⟨fun z => absurd (j20.symm.trans z) (by decide), fun z => absurd (show (1 : Int32) = 0 from z) (by decide)⟩
        exact go
      · -- a number
        have hd' : isDg (b a) = true := isDg_i.mpr hd
        rw [if_pos hd'] at hT
        obtain ⟨e1, e2, e3, e4⟩ := eat_spec (q := isDg) (b := b) (n := n) (n - a) a rfl
        have e2 := e2 (by omega)
        generalize hE : eat isDg b n a = e at *
        subst hT
        have fin : ∀ J M, mkf I J L M → J 0 21 = nI a → J 0 23 = nI e → M 0 22 = mnv b a (e - a) → K 0 0 286 [some (.ref 0), some (.int (b a)), some (.int (nI (e - a)))] [] (wM J M) := by
          intro J M hf j21 j23 m22
          refine hK [211] 60 _ _ _ _ _ _ ?_
          refine gbr_lq (x := nI (e - a)) (y := 4) (n := e - a) (i := 4) rfl rfl (by omega) (by omega) (fun h4 => ?_) (fun h4 => ?_)
          · obtain ⟨v, hv, hv1, hv2⟩ := mnv_v (b := b) (a := a) (e - a) h4 (fun j h1 h2 => e3 j h1 (by omega))
            refine ⟨rfl, _, M, rfl, mkf_trans hf (mkf_I (j := 20) (by decide) 2), j21, fun _ => j23, fun k hk => ⟨fun z => absurd (show (2 : Int32) = 1 from z.1) (by decide), fun z => ?_⟩, fun s hs => ⟨fun z => absurd (show (2 : Int32) = 3 from z.1) (by decide), fun z => ?_⟩, ?_, fun _ => ?_, ?_⟩
            · exfalso
              have z' : (if e - a ≤ 4 then (2 : Int32) else 1) = 128 + nI k := z
              rw [if_pos h4] at z'
              exact ne128 (n := 2) (by omega) hk z'
            · exfalso
              obtain ⟨m, hm1, hm2, rfl⟩ := sg_rng hs
              have z' : (if e - a ≤ 4 then (2 : Int32) else 1) = nI m := z
              rw [if_pos h4] at z'
              exact nIne (a := 2) (by omega) (by omega) (by omega) z'
            · refine ⟨fun _ => ?_, fun _ => rfl⟩
              show (if e - a ≤ 4 then (2 : Int32) else 1) = 2
              rw [if_pos h4]
            · show (M 0 22).toInt32 = nvl b a (e - a)
              rw [m22, hv1, hv2, lN_i]
            · refine ⟨fun z => absurd (show (2 : Int32) = 0 from z) (by decide), fun z => ?_⟩
              exfalso
              have z' : (if e - a ≤ 4 then (2 : Int32) else 1) = 0 := z
              rw [if_pos h4] at z'
              exact absurd z' (by decide)
          · refine ⟨rfl, _, M, rfl, mkf_trans hf (mkf_I (j := 20) (by decide) 4), j21, fun _ => j23, fun k hk => ⟨fun z => absurd (show (4 : Int32) = 1 from z.1) (by decide), fun z => ?_⟩, fun s hs => ⟨fun z => absurd (show (4 : Int32) = 3 from z.1) (by decide), fun z => ?_⟩, ?_, fun z => ?_, ?_⟩
            · exfalso
              have z' : (if e - a ≤ 4 then (2 : Int32) else 1) = 128 + nI k := z
              rw [if_neg (by omega)] at z'
              exact ne128 (n := 1) (by omega) hk z'
            · exfalso
              obtain ⟨m, hm1, hm2, rfl⟩ := sg_rng hs
              have z' : (if e - a ≤ 4 then (2 : Int32) else 1) = nI m := z
              rw [if_neg (by omega)] at z'
              exact nIne (a := 1) (by omega) (by omega) (by omega) z'
            · refine ⟨fun z => absurd (show (4 : Int32) = 2 from z) (by decide), fun z => ?_⟩
              exfalso
              have z' : (if e - a ≤ 4 then (2 : Int32) else 1) = 2 := z
              rw [if_neg (by omega)] at z'
              exact absurd z' (by decide)
            · exfalso
              have z' : (if e - a ≤ 4 then (2 : Int32) else 1) = 2 := z
              rw [if_neg (by omega)] at z'
              exact absurd z' (by decide)
            · refine ⟨fun z => absurd (show (4 : Int32) = 0 from z) (by decide), fun z => ?_⟩
              exfalso
              have z' : (if e - a ≤ 4 then (2 : Int32) else 1) = 0 := z
              rw [if_neg (by omega)] at z'
              exact absurd z' (by decide)
        have loop : ∀ (m k : Nat) (J : Nat → Nat → Int32) (M : Nat → Nat → Int64), n - (a + k) = m → a + k ≤ n → mkf I J L M → J 0 21 = nI a → J 0 23 = nI (a + k) → M 0 22 = mnv b a k → eat isDg b n (a + k) = e → K 0 0 211 [some (.ref 0), some (.int (b a)), some (.int (nI k))] [] (wM J M) := by
          intro m
          induction m with
          | zero =>
            intro k J M hm hk hf j21 j23 m22 he
            have hke : a + k = e := by rw [← he, eat_n (fun z => by have := z.1; omega)]
            have hkk : k = e - a := by omega
            refine hK [211, 286] 60 _ _ _ _ _ _ ?_
            refine gcall0 hca (m_byteAt E J M b x n (a + k) (mtx_mkf ht hf) hk (J 0 23) j23) rfl ?_
            rintro w u' - ⟨rfl, rfl⟩
            rw [if_neg (show ¬ a + k < n by omega)]
            refine gcall0 hca (m_in E (wM J M) (-1) 48 57) rfl ?_
            rintro w u' - ⟨rfl, rfl⟩
            refine gbr_p (fun _ => ?_) (fun z => absurd z (by decide))
            rw [hkk]
            exact fin J M hf j21 (by rw [j23, hke]) (by rw [m22, hkk])
          | succ m ih =>
            intro k J M hm hk hf j21 j23 m22 he
            have hlt : a + k < n := by omega
            have htJ := mtx_mkf ht hf
            refine hK [211, 286, 267] 60 _ _ _ _ _ _ ?_
            refine gcall0 hca (m_byteAt E J M b x n (a + k) htJ hk (J 0 23) j23) rfl ?_
            rintro w u' - ⟨rfl, rfl⟩
            rw [if_pos hlt]
            refine gcall0 hca (m_in E (wM J M) (b (a + k)) 48 57) rfl ?_
            rintro w u' - ⟨rfl, rfl⟩
            refine gbr_p (fun h => ?_) (fun h => ?_)
            · have h' : ¬ isDg (b (a + k)) = true := fun z => h (isDg_i.mp z)
              have hke : a + k = e := by rw [← he, eat_n (fun z => h' z.2)]
              have hkk : k = e - a := by omega
              rw [hkk]
              exact fin J M hf j21 (by rw [j23, hke]) (by rw [m22, hkk])
            · have h' : isDg (b (a + k)) = true := isDg_i.mpr h
              have put : ∀ y : Int64, y = mnv b a (k + 1) → K 0 0 267 [some (.ref 0), some (.int (b a)), some (.int (nI k))] [.long y, .ref 0] (wM J M) := by
                intro y hy
                refine hK [211] 60 _ _ _ _ _ _ ?_
                have := ih (k + 1) (gset J 0 (gupd (J 0) 23 (J 0 23 + 1))) (gset M 0 (gupd (M 0) 22 y)) (by omega) (by omega) (mkf_trans hf (mkf_trans (mkf_L y) (mkf_I (j := 23) (by decide) (J 0 23 + 1)))) j21 (by show J 0 23 + 1 = _; rw [j23, nI_1]; rfl) (by show y = _; exact hy) (by rw [← he, eat_y ⟨hlt, h'⟩]; rfl)
                rw [← nI_1] at this
                exact this
              refine gbr_lq (x := 4) (y := nI k) (n := 4) (i := k) rfl rfl (by omega) (by omega) (fun h4 => ?_) (fun h4 => ?_)
              · refine put (M 0 22) ?_
                rw [m22]
                exact (if_neg (by omega)).symm
              · refine gcall0 hca (m_byteAt E J M b x n (a + k) htJ hk (J 0 23) j23) rfl ?_
                rintro w u' - ⟨rfl, rfl⟩
                rw [if_pos hlt]
                refine put (10 * M 0 22 + (b (a + k)).toInt64 - 48) ?_
                rw [m22]
                exact (if_pos h4).symm
        exact loop (n - a) 0 _ _ rfl (by omega) (mkf_trans hf (mkf_trans (mkf_I (j := 20) (by decide) 2) (mkf_L 0))) j21 j23 rfl hE
    · -- a word
      have hl' : isLt (b a) = true := isL.mp hl
      rw [if_pos hl'] at hT
      obtain ⟨e1, e2, e3, e4⟩ := eat_spec (q := isLt) (b := b) (n := n) (n - a) a rfl
      have e2 := e2 (by omega)
      generalize hE : eat isLt b n a = e at *
      subst hT
      have fin : ∀ J M, mkf I J L M → J 0 20 = 1 → J 0 21 = nI a → J 0 23 = nI e → M 0 22 = whs b a (e - a) → K 0 0 182 [some (.ref 0), some (.int (b a)), some (.int (nI (e - a)))] [] (wM J M) := by
        intro J M hf j20 j21 j23 m22
        obtain ⟨wn, hwn, hwn2⟩ := wtk_n (l := sbl b a e)
        refine hK [107] 60 _ _ _ _ _ _ ?_
        refine ⟨rfl, J, M, rfl, hf, j21, fun _ => j23, fun k hk => ?_, fun s hs => ⟨fun z => absurd (j20.symm.trans z.1) (by decide), fun z => ?_⟩, ?_, fun z => ?_, ?_⟩
        · show (J 0 20 = 1 ∧ M 0 22 = wcd k) ↔ wtk (sbl b a e) 12 = 128 + nI k
          rw [wtk_iff 12 (Nat.le_refl _) k hk, ← whs_word e1 e3 hk, m22]
          exact ⟨fun z => z.2, fun z => ⟨j20, z⟩⟩
        · exfalso
          obtain ⟨m, hm1, hm2, rfl⟩ := sg_rng hs
          have z' : wtk (sbl b a e) 12 = nI m := z
          rw [hwn] at z'
          exact nIne (by omega) (by omega) (by omega) z'
        · refine ⟨fun z => absurd (j20.symm.trans z) (by decide), fun z => ?_⟩
          exfalso
          have z' : wtk (sbl b a e) 12 = nI 2 := z
          rw [hwn] at z'
          exact nIne (by omega) (by omega) (by omega) z'
        · exfalso
          have z' : wtk (sbl b a e) 12 = nI 2 := z
          rw [hwn] at z'
          exact nIne (by omega) (by omega) (by omega) z'
        · refine ⟨fun z => absurd (j20.symm.trans z) (by decide), fun z => ?_⟩
          exfalso
          have z' : wtk (sbl b a e) 12 = nI 0 := z
          rw [hwn] at z'
          exact nIne (by omega) (by omega) (by omega) z'
      have loop : ∀ (m k : Nat) (J : Nat → Nat → Int32) (M : Nat → Nat → Int64), n - (a + k) = m → a + k ≤ n → mkf I J L M → J 0 20 = 1 → J 0 21 = nI a → J 0 23 = nI (a + k) → M 0 22 = whs b a k → eat isLt b n (a + k) = e → K 0 0 107 [some (.ref 0), some (.int (b a)), some (.int (nI k))] [] (wM J M) := by
        intro m
        induction m with
        | zero =>
          intro k J M hm hk hf j20 j21 j23 m22 he
          have hke : a + k = e := by rw [← he, eat_n (fun z => by have := z.1; omega)]
          have hkk : k = e - a := by omega
          refine hK [107, 182] 60 _ _ _ _ _ _ ?_
          refine gcall0 hca (m_byteAt E J M b x n (a + k) (mtx_mkf ht hf) hk (J 0 23) j23) rfl ?_
          rintro w u' - ⟨rfl, rfl⟩
          rw [if_neg (show ¬ a + k < n by omega)]
          refine gcall0 hca (m_in E (wM J M) (-1) 97 122) rfl ?_
          rintro w u' - ⟨rfl, rfl⟩
          refine gbr_p (fun _ => ?_) (fun z => absurd z (by decide))
          rw [hkk]
          exact fin J M hf j20 j21 (by rw [j23, hke]) (by rw [m22, hkk])
        | succ m ih =>
          intro k J M hm hk hf j20 j21 j23 m22 he
          have hlt : a + k < n := by omega
          have htJ := mtx_mkf ht hf
          refine hK [107, 182, 163] 60 _ _ _ _ _ _ ?_
          refine gcall0 hca (m_byteAt E J M b x n (a + k) htJ hk (J 0 23) j23) rfl ?_
          rintro w u' - ⟨rfl, rfl⟩
          rw [if_pos hlt]
          refine gcall0 hca (m_in E (wM J M) (b (a + k)) 97 122) rfl ?_
          rintro w u' - ⟨rfl, rfl⟩
          refine gbr_p (fun h => ?_) (fun h => ?_)
          · have h' : ¬ isLt (b (a + k)) = true := fun z => h (isLt_i.mp z)
            have hke : a + k = e := by rw [← he, eat_n (fun z => h' z.2)]
            have hkk : k = e - a := by omega
            rw [hkk]
            exact fin J M hf j20 j21 (by rw [j23, hke]) (by rw [m22, hkk])
          · have h' : isLt (b (a + k)) = true := isLt_i.mpr h
            have put : ∀ y : Int64, y = whs b a (k + 1) → K 0 0 163 [some (.ref 0), some (.int (b a)), some (.int (nI k))] [.long y, .ref 0] (wM J M) := by
              intro y hy
              refine hK [107] 60 _ _ _ _ _ _ ?_
              have := ih (k + 1) (gset J 0 (gupd (J 0) 23 (J 0 23 + 1))) (gset M 0 (gupd (M 0) 22 y)) (by omega) (by omega) (mkf_trans hf (mkf_trans (mkf_L y) (mkf_I (j := 23) (by decide) (J 0 23 + 1)))) j20 j21 (by show J 0 23 + 1 = _; rw [j23, nI_1]; rfl) (by show y = _; exact hy) (by rw [← he, eat_y ⟨hlt, h'⟩]; rfl)
              rw [← nI_1] at this
              exact this
            refine gbr_lq (x := 8) (y := nI k) (n := 8) (i := k) rfl rfl (by omega) (by omega) (fun h8 => ?_) (fun h8 => ?_)
            · refine put (-1) ?_
              exact (if_neg (by omega)).symm
            · refine gcall0 hca (m_byteAt E J M b x n (a + k) htJ hk (J 0 23) j23) rfl ?_
              rintro w u' - ⟨rfl, rfl⟩
              rw [if_pos hlt]
              refine put (27 * M 0 22 + (b (a + k)).toInt64 - 96) ?_
              rw [m22]
              exact (if_pos h8).symm
      exact loop (n - a) 0 _ _ rfl (by omega) (mkf_trans hf (mkf_trans (mkf_I (j := 20) (by decide) 1) (mkf_L 0))) rfl j21 j23 rfl hE
  have tail39 : ∀ J, mkf I J L L → J 0 23 = nI a → K 0 0 39 [some (.ref 0), none, none] [] (wM J L) := by
    intro J hf j23
    have hf1 := mkf_trans hf (mkf_I (I := J) (j := 21) (by decide) (J 0 23))
    refine hK [61] 60 _ _ _ _ _ _ ?_
    refine gcall0 hca (m_byteAt E (gset J 0 (gupd (J 0) 21 (J 0 23))) L b x n a (mtx_mkf ht hf1) q2 (J 0 23) j23) rfl ?_
    rintro w u' - ⟨rfl, rfl⟩
    exact tail61 _ (mkf_trans hf1 (mkf_I (j := 20) (by decide) 4)) j23 j23 rfl
  have loop : ∀ (m p' : Nat) (J : Nat → Nat → Int32), n - p' = m → p' ≤ n → mkf I J L L → J 0 23 = nI p' → eat isBl b n p' = a → K 0 0 0 [some (.ref 0), none, none] [] (wM J L) := by
    intro m
    induction m with
    | zero =>
      intro p' J hm hp' hf j23 he
      have hpa : p' = a := by rw [← he, eat_n (fun z => by have := z.1; omega)]
      have htJ := mtx_mkf ht hf
      refine hK [0, 39] 60 _ _ _ _ _ _ ?_
      refine gcall0 hca (m_byteAt E J L b x n p' htJ hp' (J 0 23) j23) rfl ?_
      rintro w u' - ⟨rfl, rfl⟩
      rw [if_neg (show ¬ p' < n by omega)]
      refine gbr_i (fun z => absurd z (by decide)) (fun _ => ?_)
      refine gcall0 hca (m_byteAt E J L b x n p' htJ hp' (J 0 23) j23) rfl ?_
      rintro w u' - ⟨rfl, rfl⟩
      rw [if_neg (show ¬ p' < n by omega)]
      refine gbr_i (fun z => absurd z (by decide)) (fun _ => ?_)
      exact tail39 J hf (by rw [j23, hpa])
    | succ m ih =>
      intro p' J hm hp' hf j23 he
      have hlt : p' < n := by omega
      have htJ := mtx_mkf ht hf
      have yes : isBl (b p') = true → K 0 0 26 [some (.ref 0), none, none] [] (wM J L) := by
        intro hb
        refine hK [0] 60 _ _ _ _ _ _ ?_
        exact ih (p' + 1) _ (by omega) (by omega) (mkf_trans hf (mkf_I (j := 23) (by decide) (J 0 23 + 1))) (by show J 0 23 + 1 = _; rw [j23, nI_1]) (by rw [← he, eat_y ⟨hlt, hb⟩])
      refine hK [0, 39, 26] 60 _ _ _ _ _ _ ?_
      refine gcall0 hca (m_byteAt E J L b x n p' htJ hp' (J 0 23) j23) rfl ?_
      rintro w u' - ⟨rfl, rfl⟩
      rw [if_pos hlt]
      refine gbr_i (fun h => yes (isBl_i.mpr (Or.inl h))) (fun h1 => ?_)
      refine gcall0 hca (m_byteAt E J L b x n p' htJ hp' (J 0 23) j23) rfl ?_
      rintro w u' - ⟨rfl, rfl⟩
      rw [if_pos hlt]
      refine gbr_i (fun h => yes (isBl_i.mpr (Or.inr h))) (fun h2 => ?_)
      have hpa : p' = a := by rw [← he, eat_n (fun z => (isBl_i.mp z.2).elim h1 h2)]
      exact tail39 J hf (by rw [j23, hpa])
  exact loop (n - p) p I rfl hp (mkf_refl I L) h23 hA
end
