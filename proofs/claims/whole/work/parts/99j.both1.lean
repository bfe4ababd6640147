-- EACH METHOD ON BOTH SIDES: from the relation the same answer, and the relation behind it
/-- what the law's walk wants of a call on both sides, from these two memories -/
def gB1 {α : Type} (mk : α → Value) (E : gEnv) (yx ym : Nat) (av : List Value) (c : Nat) (ln : Nat → Nat) (I : Nat → Nat → Int32) (L : Nat → Nat → Int64) (J : Nat → Nat → Int32) (M : Nat → Nat → Int64) : Prop :=
  ∃ (d1 d2 mc ms : Nat) (px pm : Option Value → gS → Prop), (d1 ≤ 100 ∧ d2 ≤ 100 ∧ mc ≤ 2 ∧ ms ≤ 163) ∧ gCtr E d1 mc ms yx (.ref 0 :: av) (wX c ln I L) px ∧ gCtr E d2 0 0 ym (.ref 0 :: av) (wM J M) pm ∧
    ∀ w u w' u', px w u → pm w' u' → ∃ (r : α) (c' : Nat) (ln' : Nat → Nat) (I' : Nat → Nat → Int32) (L' : Nat → Nat → Int64) (J' : Nat → Nat → Int32) (M' : Nat → Nat → Int64), (w = some (mk r) ∧ w' = some (mk r)) ∧ (u = wX c' ln' I' L' ∧ u' = wM J' M') ∧ Rel c' ln' I' L' J' ∧ relZ I' L'
def gB {α : Type} (mk : α → Value) (E : gEnv) (yx ym : Nat) (av : List Value) : Prop :=
  ∀ (c : Nat) (ln : Nat → Nat) (I : Nat → Nat → Int32) (L : Nat → Nat → Int64) (J : Nat → Nat → Int32) (M : Nat → Nat → Int64), Rel c ln I L J → relZ I L → gB1 mk E yx ym av c ln I L J M
theorem relA_c {I J : Nat → Nat → Int32} {nr nt : Nat} (h : relA I J nr nt) : (nr ≤ 12 ∧ I 6 6 = nI nr ∧ J 0 17 = nI nr) ∧ nt ≤ 40 ∧ I 1 4 = nI nt ∧ J 0 11 = nI nt :=
  ⟨⟨h.2.2.1.2, h.2.2.1.1, by have := h.1.nr; rw [h.2.2.1.1] at this; exact this.symm⟩, h.2.1.2, h.2.1.1, by have := h.1.nt; rw [h.2.1.1] at this; exact this.symm⟩
theorem relA_st {I J : Nat → Nat → Int32} {nr nt : Nat} (h : relA I J nr nt) : ∀ r, r < nr → 0 ≤ J 12 r := fun r hr => (store_of.mp (h.2.2.2.2 r hr).2.2).1
theorem relA_sm {I J : Nat → Nat → Int32} {nr nt : Nat} (h : relA I J nr nt) : ∀ r, r < nr → smalls (J 11 r) (J 10 r) := fun r hr => (h.2.2.2.2 r hr).2.1
theorem relA_k {I J : Nat → Nat → Int32} {nr nt : Nat} (h : relA I J nr nt) : (∀ i, i < nr → 0 ≤ I 7 i ∧ I 7 i ≤ 5) ∧ ∀ i, i < nr → 0 ≤ J 8 i ∧ J 8 i ≤ 5 :=
  ⟨fun i hi => by rw [h.1.a7]; exact (h.2.2.2.2 i hi).1, fun i hi => (h.2.2.2.2 i hi).1⟩
theorem full_in {x : Int32} {n k : Nat} (hx : x = nI n) (hn : n ≤ k) (hk : k < 2 ^ 31) (h : ¬ nI k ≤ x) : vp_in x k := by
  rcases Nat.lt_or_ge n k with q | q
  · rw [hx]; exact vp_in_nI q hk
  · exact absurd (show nI k ≤ x by rw [hx, Nat.le_antisymm hn q]; exact Int32.le_refl _) h
theorem Rel_Z {c : Nat} {ln : Nat → Nat} {I I' J : Nat → Nat → Int32} {L : Nat → Nat → Int64} (h : Rel c ln I L J) (hz : relZ I L) (hI : I' 6 6 = I 6 6) : relZ I' L := relZ_keep hz hI rfl
section
variable {α : Type} {mk : α → Value} {E : gEnv} {yx ym d1 d2 : Nat} {av : List Value} {c : Nat} {ln : Nat → Nat} {I I' J J' : Nat → Nat → Int32} {L L' M : Nat → Nat → Int64} {a b : α}
/-- a method that writes what its answer's function tells -/
theorem gB_upd (hd : d1 ≤ 100 ∧ d2 ≤ 100) (hx : gCtr E d1 0 0 yx (.ref 0 :: av) (wX c ln I L) (fun w u' => u' = wX c ln I' L' ∧ w = some (mk a))) (hm : gCtr E d2 0 0 ym (.ref 0 :: av) (wM J M) (fun w u' => u' = wM J' M ∧ w = some (mk b))) (hab : a = b ∧ Rel c ln I' L' J') (hz : relZ I' L') : gB1 mk E yx ym av c ln I L J M := by
  refine ⟨d1, d2, 0, 0, _, _, ⟨hd.1, hd.2, by omega, by omega⟩, hx, hm, ?_⟩
  rintro w u w' u' ⟨rfl, rfl⟩ ⟨rfl, rfl⟩
  exact ⟨a, c, ln, I', L', J', M, ⟨rfl, by rw [hab.1]⟩, ⟨rfl, rfl⟩, hab.2, hz⟩
/-- a method that rides -/
theorem gB_fr (hd : d1 ≤ 100 ∧ d2 ≤ 100) (hx : gCtr E d1 0 0 yx (.ref 0 :: av) (wX c ln I L) (fun w u' => w = some (mk a) ∧ ∃ I', u' = wX c ln I' L ∧ frh I I')) (hm : gCtr E d2 0 0 ym (.ref 0 :: av) (wM J M) (fun w u' => w = some (mk b) ∧ ∃ J' M', u' = wM J' M' ∧ mgf J J')) (hab : a = b) (h : Rel c ln I L J) (hz : relZ I L) : gB1 mk E yx ym av c ln I L J M := by
  refine ⟨d1, d2, 0, 0, _, _, ⟨hd.1, hd.2, by omega, by omega⟩, hx, hm, ?_⟩
  rintro w u w' u' ⟨rfl, I', rfl, hI⟩ ⟨rfl, J', M', rfl, hJ⟩
  refine ⟨a, c, ln, I', L, J', M', ⟨rfl, by rw [hab]⟩, ⟨rfl, rfl⟩, Rel_fr h (fun k k1 k2 k3 => hI k k1 k2 (by omega)) hJ, relZ_keep hz ?_ rfl⟩
  rw [hI 6 (by decide) (by decide) (by decide)]
/-- a method that reads -/
theorem gB_rd (hd : d1 ≤ 100 ∧ d2 ≤ 100) (hx : gCtr E d1 0 0 yx (.ref 0 :: av) (wX c ln I L) (fun w u' => u' = wX c ln I L ∧ w = some (mk a))) (hm : gCtr E d2 0 0 ym (.ref 0 :: av) (wM J M) (fun w u' => u' = wM J M ∧ w = some (mk b))) (hab : a = b) (h : Rel c ln I L J) (hz : relZ I L) : gB1 mk E yx ym av c ln I L J M := gB_upd hd hx hm ⟨hab, h⟩ hz
end
section
variable (E : gEnv)
theorem b_tenth (a b z : Int32) : gB Value.int E nX9_tenth nX10_tenth [.int a, .int b, .int z] := by
  intro c ln I L J M h hz
  obtain ⟨nr, nt, ru, n, TT, hA, hT, hP, hF, hI, hS⟩ := id h
  obtain ⟨⟨n1, n2, n3⟩, t1, t2, t3⟩ := relA_c hA
  refine gB_upd (by decide) (p_tenth E c ln I L a b z (fun hh => full_in t2 t1 (by decide) hh)) (m_tenth E J M a b z nt t1 t3) (Rel_tenth h a b z) (relZ_keep hz ?_ rfl)
  unfold radd
  split
  · split <;> rfl
  · rfl
theorem b_rider (k hn p s : Int32) : gB Value.int E nX9_rider nX10_rider [.int k, .int hn, .int p, .int s] := by
  intro c ln I L J M h hz
  obtain ⟨nr, nt, ru, n, TT, hA, hT, hP, hF, hI, hS⟩ := id h
  obtain ⟨⟨n1, n2, n3⟩, t1, t2, t3⟩ := relA_c hA
  refine gB_upd (by decide) (p_rider E c ln I L k hn p s (fun hh => full_in n2 n1 (by decide) hh)) (m_rider E J M k hn p s nr n1 n3) (Rel_rider h k hn p s) ?_
  unfold tadd
  split
  · split
    · exact hz
    · rename_i hh
      have hv := full_in n2 n1 (by decide) hh
      have hlt : nr < 12 := by
        rcases Nat.lt_or_ge nr 12 with q | q
        · exact q
        · exact absurd (show (12 : Int32) ≤ I 6 6 by rw [n2, Nat.le_antisymm n1 q]; exact Int32.le_refl _) hh
      refine relZ_more hz hlt n2 ?_
      show I 6 6 + 1 = _
      rw [n2, nI_1]
  · exact hz
theorem b_set (r what v : Int32) : gB Value.int E nX9_set nX10_set [.int r, .int what, .int v] := by
  intro c ln I L J M h hz
  obtain ⟨nr, nt, ru, n, TT, hA, hT, hP, hF, hI, hS⟩ := id h
  obtain ⟨⟨n1, n2, n3⟩, t1, t2, t3⟩ := relA_c hA
  refine gB_upd (by decide) (p_set E c ln I L r what v nr n1 n2) (m_set E J M r what v nr n1 n3) (Rel_set h r what v) (relZ_keep hz ?_ rfl)
  unfold setX
  split
  · rfl
  · split <;> rfl
theorem b_told (r lf what : Int32) : gB Value.int E nX9_told nX10_told [.int r, .int lf, .int what] := by
  intro c ln I L J M h hz
  obtain ⟨nr, nt, ru, n, TT, hA, hT, hP, hF, hI, hS⟩ := id h
  obtain ⟨⟨n1, n2, n3⟩, t1, t2, t3⟩ := relA_c hA
  exact gB_rd (by decide) (p_told E c ln I L r lf what nr n1 n2) (m_told E J M r lf what nr n1 n3 (relA_st hA) (relA_sm hA)) (toldX_ag hA.1 r lf what) h hz
theorem b_house (g : Int32) : gB Value.int E nX9_house nX10_house [.int g] := by
  intro c ln I L J M h hz
  obtain ⟨nr, nt, ru, n, TT, hA, hT, hP, hF, hI, hS⟩ := id h
  obtain ⟨⟨n1, n2, n3⟩, t1, t2, t3⟩ := relA_c hA
  exact gB_rd (by decide) (p_house E c ln I L g nr n1 n2) (m_house E J M g nr n1 n3) (by rw [house_eq hA g]) h hz
theorem b_feed (k : Int32) (x : Int64) : gB Value.int E nX9_feed nX10_feed [.int k, .long x] := by
  intro c ln I L J M h hz
  obtain ⟨tp, h1, h2, h3, h4⟩ := Rel_feed h k x
  refine gB_upd (by decide) (p_feed E c ln I L k x tp h1 h2) (m_feed E J M k x tp h1 h3) h4 (relZ_keep hz ?_ rfl)
  unfold feedX
  split
  · split <;> rfl
  · rfl
theorem b_force (t : Int32) : gB Value.int E nX9_force nX10_force [.int t] := by
  intro c ln I L J M h hz
  obtain ⟨nr, nt, ru, n, TT, hA, hT, hP, hF, hI, hS⟩ := id h
  refine gB_upd (by decide) (p_force E c ln I L t) (m_force E J M t c hT.1.2.1 hT.2.2.1.1) (Rel_force h t) (relZ_keep hz ?_ rfl)
  unfold forceX
  split <;> rfl
theorem b_split (g t : Int32) : gB Value.int E nX9_split nX10_split [.int g, .int t] := by
  intro c ln I L J M h hz
  obtain ⟨nr, nt, ru, n, TT, hA, hT, hP, hF, hI, hS⟩ := id h
  obtain ⟨⟨n1, n2, n3⟩, t1, t2, t3⟩ := relA_c hA
  obtain ⟨e1, e2, e3, e4⟩ := split_eq hA t
  exact gB_rd (by decide) (p_split E c ln I L g t nt t1 t2) (m_split E J M g t nr n1 n3 nt t1 t3 hA.2.2.2.1) (by rw [e1, e2, e3, e4]) h hz
theorem b_taken (r k : Int32) : gB Value.int E nX9_taken nX10_taken [.int r, .int k] := by
  intro c ln I L J M h hz
  obtain ⟨nr, nt, ru, n, TT, hA, hT, hP, hF, hI, hS⟩ := id h
  obtain ⟨⟨n1, n2, n3⟩, t1, t2, t3⟩ := relA_c hA
  exact gB_rd (by decide) (p_taken E c ln I L r k nr n1 n2 (relA_k hA).1) (m_taken E J M r k nr n1 n3 (relA_k hA).2) (takenX_ag hA.1 r k) h hz
theorem b_count (what : Int32) : gB Value.int E nX9_count nX10_count [.int what] := by
  intro c ln I L J M h hz
  obtain ⟨nr, nt, ru, n, TT, hA, hT, hP, hF, hI, hS⟩ := id h
  obtain ⟨⟨n1, n2, n3⟩, t1, t2, t3⟩ := relA_c hA
  exact gB_rd (by decide) (p_count E c ln I L what nr n1 n2) (m_count E J M what nr n1 n3 nt t1 t3 hF.1) (count_eq hA hT hP (count5' (c := c) (n := n) (ru := ru) (ln := ln) (TT := TT) hA hF hz) what) h hz
theorem b_game (g s what : Int32) : gB Value.int E nX9_game nX10_game [.int g, .int s, .int what] := by
  intro c ln I L J M h hz
  obtain ⟨nr, nt, ru, n, TT, hA, hT, hP, hF, hI, hS⟩ := id h
  obtain ⟨⟨n1, n2, n3⟩, t1, t2, t3⟩ := relA_c hA
  exact gB_rd (by decide) (p_game E c ln I L g s what) (m_game E J M g s what nr n1 n3) (gameX_eq h g s what) h hz
theorem b_film (r t is : Int32) : gB Value.int E nX9_film nX10_film [.int r, .int t, .int is] := by
  intro c ln I L J M h hz
  obtain ⟨nr, nt, ru, n, TT, hA, hT, hP, hF, hI, hS⟩ := id h
  obtain ⟨⟨n1, n2, n3⟩, t1, t2, t3⟩ := relA_c hA
  refine gB_upd (by decide) (p_film E c ln I L r t is nr n1 n2) (m_film E J M r t is nr n1 n3 nt t1 t3) (Rel_film h r t is) ?_
  unfold filmX
  split
  · rename_i hh
    obtain ⟨⟨r0, r1⟩, -⟩ := hh
    obtain ⟨k, hk, rfl⟩ := nI_of (Int32.not_lt.mpr r0)
    rw [n2] at r1
    have hkn : k < nr := (nI_ltI hk (by omega)).mp r1
    refine relZ_at hz n1 n2 rfl (fun q hq => ?_)
    dsimp only
    rw [gset_s, nI_clamp hk, gupd_n (by omega)]
  · exact hz
end
