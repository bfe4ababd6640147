-- whole rides, chases
theorem gbr_gt {x : Int32} {i b : Nat} {A B : Prop} (hx : x = nI b) (hb : b + 1 < 2 ^ 31) (hi : i ≤ b + 1) (h1 : i = b + 1 → A) (h2 : i ≤ b → B) : gbr (x < nI i) A B := by
  subst hx
  refine ⟨fun z => ?_, fun z => ?_⟩
  · rcases Nat.lt_or_ge b i with q | q
    · exact h1 (by omega)
    · exact absurd z (nI_nlt q (by omega))
  · rcases Nat.lt_or_ge b i with q | q
    · exact absurd (nI_lt q (by omega)) z
    · exact h2 q
/-- two tenths told as one number -/
theorem spn {t : Int32} {nt : Nat} (hnt : nt ≤ 40) (h : 0 ≤ t ∧ t / 100 ≤ t - t / 100 * 100 ∧ t - t / 100 * 100 < nI nt) : ∃ a b, t / 100 = nI a ∧ t - t / 100 * 100 = nI b ∧ a ≤ b ∧ b < nt ∧ t.toInt = 100 * a + b := by
  obtain ⟨h1, h2, h3⟩ := h
  obtain ⟨n, hn, rfl⟩ := nI_of (x := t) (by clear h2 h3; (simp only [Int32.lt_iff_toInt_lt, Int32.le_iff_toInt_le, ← Int32.toInt_inj, Int32.reduceToInt] at *; omega))
  have e1 : nI n / 100 = nI (n / 100) := pk_div (d := 100) hn (by decide) (by decide)
  have e2 : nI n - nI n / 100 * 100 = nI (n % 100) := pk_rem (d := 100) hn (by decide) (by decide)
  rw [e2] at h2 h3
  rw [e1] at h2
  rw [nI_leI (by omega) (by omega)] at h2
  rw [nI_ltI (by omega) (by omega)] at h3
  refine ⟨n / 100, n % 100, e1, e2, h2, h3, ?_⟩
  rw [nI_toInt hn]
  omega
theorem svX_eq {I I' : Nat → Nat → Int32} {ln : Nat → Nat} {ru : Nat} (h : ∀ k, k ≠ 19 → k ≠ 20 → (k < 21 ∨ 26 < k) → I' k = I k) : svX I' ln ru = svX I ln ru := by
  funext key r st t p
  have hI : ∀ k, 41 ≤ k → I' k = I k := fun k hk => h k (by omega) (by omega) (by omega)
  have hL : ∀ k, k < 19 → I' k = I k := fun k hk => h k (by omega) (by omega) (by omega)
  unfold svX shelt
  rw [hL 10 (by decide), hL 2 (by decide), hL 3 (by decide), hL 1 (by decide), hL 4 (by decide), hL 5 (by decide), evX_congr hI (fun _ _ => rfl)]
/-- what a step of a ride is told by -/
noncomputable def stpX (I : Nat → Nat → Int32) (sv : Say) (t : Nat) (s : RdS) : RdS := gon I sv (I 1 4 - nI t) (nI t) s
noncomputable def ron (I : Nat → Nat → Int32) (sv : Say) : Nat → Nat → RdS → RdS
  | 0, _, s => s
  | m + 1, t, s => ron I sv m (t + 1) (stpX I sv t s)
noncomputable def rfr (I : Nat → Nat → Int32) (sv : Say) : Nat → Nat → RdS → Int32 → Int32
  | 0, _, _, f => f
  | m + 1, t, s, f => rfr I sv m (t + 1) (stpX I sv t s) (f + (stpX I sv t s).2.2.2.2)
def bgn (I : Nat → Nat → Int32) (o : Nat) (g : Int32) (nr : Nat) : RdS := (bgR g nr, 0, bgS g (I 11) (I (o + 1)) nr, I o 7, I o 8)
/-- nothing but rides, names and the stack has changed -/
def frh (I I' : Nat → Nat → Int32) : Prop := ∀ k, k ≠ 19 → k ≠ 20 → (k < 21 ∨ 26 < k) → I' k = I k
theorem frh_refl (I : Nat → Nat → Int32) : frh I I := fun _ _ _ _ => rfl
theorem frh_trans {I J H : Nat → Nat → Int32} (h1 : frh I J) (h2 : frh J H) : frh I H := fun k a b d => (h2 k a b d).trans (h1 k a b d)
theorem frh_frg {I J : Nat → Nat → Int32} {o : Nat} (ho : 21 ≤ o ∧ o ≤ 24) (h : frg I J o) : frh I J := fun k a b d => h k a b (by omega) (by omega) (by omega)
theorem stpX_eq {I J : Nat → Nat → Int32} {ln : Nat → Nat} {ru t : Nat} {s : RdS} (h : frh I J) : gon J (svX J ln ru) (J 1 4 - nI t) (nI t) s = stpX I (svX I ln ru) t s := by
  unfold stpX
  rw [svX_eq h, h 1 (by decide) (by decide) (by decide), gon_congr (h 7 (by decide) (by decide) (by decide)) (h 9 (by decide) (by decide) (by decide))]
section
variable (E : gEnv) (c : Nat) (ln : Nat → Nat) (I : Nat → Nat → Int32) (L : Nat → Nat → Int64)
set_option maxHeartbeats 1000000 in
theorem c_rideAll (ru : Nat) (hru : ru < c) (hc : c ≤ 6) (hrl : I 17 6 = nI ru) (hok : ruleOk I ln ru) (nr : Nat) (hnr : nr ≤ 12) (hcr : I 6 6 = nI nr) (nt : Nat) (hnt : nt ≤ 40) (g t : Int32) (a b : Nat) (ha : t / 100 = nI a) (hb : t - t / 100 * 100 = nI b) (hab : a ≤ b) (hbn : b < nt) :
    gCtr E 7 0 0 nX1_rideAll [.ref 21, .int g, .int t] (wX c ln I L) (fun v u' => v = some (.int (rfr I (svX I ln ru) (b + 1 - a) a (bgn I 21 g nr) 0)) ∧ ∃ I', u' = wX c ln I' L ∧ rdS I' 21 (ron I (svX I ln ru) (b + 1 - a) a (bgn I 21 g nr)) ∧ frg I I' 21) := by
  refine gstart iX1_rideAll tX1_rideAll rfl rfl (fun K ca hK hca => ?_)
  have loop : ∀ (m i : Nat) (J : Nat → Nat → Int32) (s : RdS) (f : Int32), i + m = b + 1 → rdS J 21 s → frg I J 21 → ron I (svX I ln ru) m i s = ron I (svX I ln ru) (b + 1 - a) a (bgn I 21 g nr) → rfr I (svX I ln ru) m i s f = rfr I (svX I ln ru) (b + 1 - a) a (bgn I 21 g nr) 0 → K 0 0 17 [some (.ref 21), some (.int g), some (.int t), some (.int f), some (.int (nI i))] [] (wX c ln J L) := by
    intro m
    induction m with
    | zero =>
      intro i J s f hi hr hf e1 e2
      refine hK [17] 60 _ _ _ _ _ _ ?_
      refine gcall0 hca (c_spanTo E c ln J L t) rfl ?_
      rintro w u' - ⟨rfl, rfl⟩
      rw [hb]
      refine gbr_gt rfl (by omega) (by omega) (fun _ => ⟨?_, J, rfl, ?_, hf⟩) (fun z => by omega)
      · rw [← e2]; rfl
      · rw [← e1]; exact hr
    | succ m ih =>
      intro i J s f hi hr hf e1 e2
      refine hK [17] 60 _ _ _ _ _ _ ?_
      refine gcall0 hca (c_spanTo E c ln J L t) rfl ?_
      rintro w u' - ⟨rfl, rfl⟩
      rw [hb]
      refine gbr_gt rfl (by omega) (by omega) (fun e => by omega) (fun _ => ?_)
      refine gcall0 hca (c21_go E c ln J L ru hru hc (by rw [hf 17 (by decide) (by decide) (by decide) (by decide) (by decide), hrl]) (ruleOk_congr (fun k hk => hf k (by omega) (by omega) (by omega) (by omega) (by omega)) hok) s hr.1 (nI i) (vp_in_nI (by omega) (by omega))) rfl ?_
      rintro w u' - ⟨rfl, J', rfl, hr', hf'⟩
      rw [stpX_eq (frh_frg (by decide) hf)] at hr'
      have := ih (i + 1) J' _ (f + J' 21 8) (by omega) hr' (frg_trans hf hf') e1 (by rw [hr'.2.2]; exact e2)
      rw [← nI_1] at this
      exact this
  refine hK [17] 60 _ _ _ _ _ _ ?_
  refine gcall0 hca (c21_begin E c ln I L nr hnr hcr g) rfl ?_
  rintro w u' - ⟨rfl, I', rfl, hr, h7, h8, hf⟩
  refine gcall0 hca (c_spanFrom E c ln I' L t) rfl ?_
  rintro w u' - ⟨rfl, rfl⟩
  rw [ha]
  exact loop (b + 1 - a) a I' (bgn I 21 g nr) 0 (by omega) ⟨hr, h7, h8⟩ hf rfl rfl
set_option maxHeartbeats 1000000 in
theorem c_beginChase (nr : Nat) (hnr : nr ≤ 12) (hcr : I 6 6 = nI nr) (g o : Int32) :
    gCtr E 2 0 0 nX9_beginChase [.ref 0, .int g, .int o] (wX c ln I L) (fun v u' => v = none ∧ ∃ I', u' = wX c ln I' L ∧ rdS I' 21 (bgn I 21 g nr) ∧ rdS I' 24 (bgn I 24 o nr) ∧ frh I I') := by
  refine gstart iX9_beginChase tX9_beginChase rfl rfl (fun K ca hK hca => ?_)
  refine hK [] 80 _ _ _ _ _ _ ?_
  clear hK
  refine gcall0 hca (c21_begin E c ln I L nr hnr hcr g) rfl ?_
  rintro w u' - ⟨rfl, I', rfl, hr, h7, h8, hf⟩
  refine gcall0 hca (c24_begin E c ln I' L nr hnr (by rw [hf 6 (by decide) (by decide) (by decide) (by decide) (by decide), hcr]) o) rfl ?_
  rintro w u' - ⟨rfl, I2, rfl, hr2, h72, h82, hf2⟩
  refine ⟨rfl, I2, rfl, ⟨?_, ?_, ?_⟩, ⟨?_, ?_, ?_⟩, ?_⟩
  · obtain ⟨a1, a2, a3, a4, a5, a6⟩ := hr
    exact ⟨by rw [hf2 21 (by decide) (by decide) (by decide) (by decide) (by decide)]; exact a1, by rw [hf2 21 (by decide) (by decide) (by decide) (by decide) (by decide)]; exact a2, by rw [hf2 23 (by decide) (by decide) (by decide) (by decide) (by decide)]; exact a3, by rw [hf2 22 (by decide) (by decide) (by decide) (by decide) (by decide)]; exact a4, a5, a6⟩
  · rw [hf2 21 (by decide) (by decide) (by decide) (by decide) (by decide)]; exact h7
  · rw [hf2 21 (by decide) (by decide) (by decide) (by decide) (by decide)]; exact h8
  · rw [hf 11 (by decide) (by decide) (by decide) (by decide) (by decide), hf 25 (by decide) (by decide) (by decide) (by decide) (by decide)] at hr2
    exact hr2
  · rw [h72, hf 24 (by decide) (by decide) (by decide) (by decide) (by decide)]; rfl
  · rw [h82, hf 24 (by decide) (by decide) (by decide) (by decide) (by decide)]; rfl
  · exact frh_trans (frh_frg (by decide) hf) (frh_frg (by decide) hf2)
set_option maxHeartbeats 1000000 in
theorem c_gained (ru : Nat) (hru : ru < c) (hc : c ≤ 6) (hrl : I 17 6 = nI ru) (hok : ruleOk I ln ru) (s1 s2 : RdS) (h1 : rdS I 21 s1) (h2 : rdS I 24 s2) (t : Nat) (ht : t < 40) :
    gCtr E 7 0 0 nX9_gained [.ref 0, .int (nI t)] (wX c ln I L) (fun v u' => v = some (.int ((stpX I (svX I ln ru) t s1).2.2.2.2 - (stpX I (svX I ln ru) t s2).2.2.2.2)) ∧ ∃ I', u' = wX c ln I' L ∧ rdS I' 21 (stpX I (svX I ln ru) t s1) ∧ rdS I' 24 (stpX I (svX I ln ru) t s2) ∧ frh I I') := by
  refine gstart iX9_gained tX9_gained rfl rfl (fun K ca hK hca => ?_)
  refine hK [] 80 _ _ _ _ _ _ ?_
  clear hK
  refine gcall0 hca (c21_go E c ln I L ru hru hc hrl hok s1 h1.1 (nI t) (vp_in_nI ht (by omega))) rfl ?_
  rintro w u' - ⟨rfl, J, rfl, hr, hf⟩
  rw [stpX_eq (frh_refl I)] at hr
  refine gcall0 hca (c24_go E c ln J L ru hru hc (by rw [hf 17 (by decide) (by decide) (by decide) (by decide) (by decide), hrl]) (ruleOk_congr (fun k hk => hf k (by omega) (by omega) (by omega) (by omega) (by omega)) hok) s2 ?_ (nI t) (vp_in_nI ht (by omega))) rfl ?_
  · obtain ⟨a1, a2, a3, a4, a5, a6⟩ := h2.1
    exact ⟨by rw [hf 24 (by decide) (by decide) (by decide) (by decide) (by decide)]; exact a1, by rw [hf 24 (by decide) (by decide) (by decide) (by decide) (by decide)]; exact a2, by rw [hf 26 (by decide) (by decide) (by decide) (by decide) (by decide)]; exact a3, by rw [hf 25 (by decide) (by decide) (by decide) (by decide) (by decide)]; exact a4, a5, a6⟩
  rintro w u' - ⟨rfl, J2, rfl, hr2, hf2⟩
  rw [stpX_eq (frh_frg (by decide) hf)] at hr2
  have hr21 : rdS J2 21 (stpX I (svX I ln ru) t s1) := by
    obtain ⟨⟨a1, a2, a3, a4, a5, a6⟩, a7, a8⟩ := hr
    have e := hf2 21 (by decide) (by decide) (by decide) (by decide) (by decide)
    exact ⟨⟨by rw [e]; exact a1, by rw [e]; exact a2, by rw [hf2 23 (by decide) (by decide) (by decide) (by decide) (by decide)]; exact a3, by rw [hf2 22 (by decide) (by decide) (by decide) (by decide) (by decide)]; exact a4, a5, a6⟩, by rw [e]; exact a7, by rw [e]; exact a8⟩
  refine ⟨?_, J2, rfl, hr21, hr2, frh_trans (frh_frg (by decide) hf) (frh_frg (by decide) hf2)⟩
  show some (Value.int (J2 21 8 - J2 24 8)) = _
  rw [hr21.2.2, hr2.2.2]
end
