-- tiring and falling back
/-- what the rule says, key, rider, store, tenth, place -/
abbrev Say := Int32 → Int32 → Int32 → Int32 → Int32 → Int32
def tir (sv : Say) (t : Int32) : Nat → List Nat → (Nat → Int32) → Nat → Int32
  | _, [], st => st
  | i, r :: l, st => tir sv t (i + 1) l (gupd st r (wthn 0 (st r - sv 0 (nI r) (st r) t (nI i) + sv 1 (nI r) (st r) t (nI i)) 999))
/-- nothing but the rules' scratch and the ride o has changed -/
def frg (I I' : Nat → Nat → Int32) (o : Nat) : Prop := ∀ k, k ≠ 19 → k ≠ 20 → k ≠ o → k ≠ o + 1 → k ≠ o + 2 → I' k = I k
theorem frg_refl (I : Nat → Nat → Int32) (o : Nat) : frg I I o := fun _ _ _ _ _ _ => rfl
theorem frg_trans {I J H : Nat → Nat → Int32} {o : Nat} (h1 : frg I J o) (h2 : frg J H o) : frg I H o := fun k a b d e f => (h2 k a b d e f).trans (h1 k a b d e f)
theorem frg_frm {I J : Nat → Nat → Int32} {o : Nat} (h : frm I J o) : frg I J o := fun k _ _ d _ f => h.1 k d f
theorem frg_19 (I : Nat → Nat → Int32) (o : Nat) (f g : Nat → Int32) : frg I (gset (gset I 19 f) 20 g) o := fun k a b _ _ _ => by rw [gset_n b, gset_n a]
theorem svX_congr {I I' : Nat → Nat → Int32} {ln : Nat → Nat} {ru : Nat} {o : Nat} (ho : 21 ≤ o ∧ o ≤ 24) (h : frg I I' o) : svX I' ln ru = svX I ln ru := by
  funext key r st t p
  have hI : ∀ k, 41 ≤ k → I' k = I k := fun k hk => h k (by omega) (by omega) (by omega) (by omega) (by omega)
  have hL : ∀ k, k < 19 → I' k = I k := fun k hk => h k (by omega) (by omega) (by omega) (by omega) (by omega)
  unfold svX shelt
  rw [hL 10 (by decide), hL 2 (by decide), hL 3 (by decide), hL 1 (by decide), hL 4 (by decide), hL 5 (by decide), evX_congr hI (fun _ _ => rfl)]
section
variable (E : gEnv) (c : Nat) (ln : Nat → Nat) (I : Nat → Nat → Int32) (L : Nat → Nat → Int64)
set_option maxHeartbeats 1000000 in
theorem c21_tire (ru : Nat) (hru : ru < c) (hc : c ≤ 6) (hrl : I 17 6 = nI ru) (hok : ruleOk I ln ru) (row : List Nat) (since : Int32) (st : Nat → Int32) (h : rdX I 21 row since st) (t : Int32) (ht : vp_in t 40) :
    gCtr E 5 0 0 nX1_tire [.ref 21, .int t] (wX c ln I L) (fun v u' => v = none ∧ ∃ I', u' = wX c ln I' L ∧ I' 21 = I 21 ∧ I' 23 = I 23 ∧ I' 22 = tir (svX I ln ru) t 0 row st ∧ frg I I' 21) := by
  obtain ⟨h1, h2, h3, h4, h5, h6⟩ := h
  refine gstart iX1_tire tX1_tire rfl rfl (fun K ca hK hca => ?_)
  have loop := gloop (P := fun i => ∀ (J : Nat → Nat → Int32) (x3 x4 x5 x6 : Option Value), J 21 = I 21 → J 23 = I 23 → tir (svX I ln ru) t i (row.drop i) (J 22) = tir (svX I ln ru) t 0 row st → frg I J 21 → K 0 0 2 [some (.ref 21), some (.int t), some (.int (nI i)), x3, x4, x5, x6] [] (wX c ln J L)) (n := row.length) (by
    intro J x3 x4 x5 x6 hJo hJr hJs hf
    refine hK [2] 100 _ _ _ _ _ _ ?_
    refine gbr_lp (n := row.length) (by show J 21 5 = _; rw [hJo, h1]) (by omega) (Nat.le_refl _) (fun _ => ⟨rfl, J, rfl, hJo, hJr, ?_, hf⟩) (fun z => absurd z (Nat.lt_irrefl _))
    rw [← hJs, List.drop_length]
    rfl) (by
    intro i hi ih J x3 x4 x5 x6 hJo hJr hJs hf
    have hr12 := rd_lt h6 hi
    obtain ⟨r, hr⟩ : ∃ r, row.getD i 0 = r := ⟨_, rfl⟩
    rw [hr] at hr12
    have hx : J 23 (nI i).toNatClampNeg = nI r := by rw [nI_clamp (by omega), hJr, ← hr]; exact h3 i hi
    have hcr : (nI r).toNatClampNeg = r := nI_clamp (by omega)
    have hvr : vp_in (J 23 (nI i).toNatClampNeg) 12 := by rw [hx]; exact vp_in_nI hr12 (by omega)
    have hsv : svX J ln ru = svX I ln ru := svX_congr (by decide) hf
    have hokJ : ruleOk J ln ru := ruleOk_congr (fun k hk => hf k (by omega) (by omega) (by omega) (by omega) (by omega)) hok
    have hrlJ : J 17 6 = nI ru := by rw [hf 17 (by decide) (by decide) (by decide) (by decide) (by decide), hrl]
    refine hK [2] 100 _ _ _ _ _ _ ?_
    refine gbr_lp (n := row.length) (by show J 21 5 = _; rw [hJo, h1]) (by omega) (by omega) (fun e => by omega) (fun _ => ?_)
    refine gsd_i (vp_in_nI (by omega) (by omega)) (gsd_i hvr ?_)
    refine gcall0 hca (c_comesTo E c ln J L ru hru hc hrlJ hokJ 0 (J 23 (nI i).toNatClampNeg) (J 22 (J 23 (nI i).toNatClampNeg).toNatClampNeg) t (nI i) (by decide) hvr ht) rfl ?_
    rintro w u' - ⟨⟨f, g, rfl⟩, rfl⟩
    have hf2 := frg_trans hf (frg_19 J 21 f g)
    refine gcall0 hca (c_comesTo E c ln (gset (gset J 19 f) 20 g) L ru hru hc hrlJ (ruleOk_congr (fun k hk => hf2 k (by omega) (by omega) (by omega) (by omega) (by omega)) hok) 1 (J 23 (nI i).toNatClampNeg) (J 22 (J 23 (nI i).toNatClampNeg).toNatClampNeg) t (nI i) (by decide) hvr ht) rfl ?_
    rintro w u' - ⟨⟨f', g', rfl⟩, rfl⟩
    refine gcall0 hca (c_within E _ 0 _ 999) rfl ?_
    rintro w u' - ⟨rfl, rfl⟩
    refine gsd_i hvr ?_
    have hf3 := frg_trans hf2 (frg_19 (gset (gset J 19 f) 20 g) 21 f' g')
    have hsv2 : svX (gset (gset J 19 f) 20 g) ln ru = svX I ln ru := svX_congr (by decide) hf2
    rw [hsv, hsv2]
    have := ih (gset (gset (gset (gset (gset J 19 f) 20 g) 19 f') 20 g') 22 (gupd (J 22) (J 23 (nI i).toNatClampNeg).toNatClampNeg (wthn 0 (J 22 (J 23 (nI i).toNatClampNeg).toNatClampNeg - svX I ln ru 0 (J 23 (nI i).toNatClampNeg) (J 22 (J 23 (nI i).toNatClampNeg).toNatClampNeg) t (nI i) + svX I ln ru 1 (J 23 (nI i).toNatClampNeg) (J 22 (J 23 (nI i).toNatClampNeg).toNatClampNeg) t (nI i)) 999))) (some (.int (J 23 (nI i).toNatClampNeg))) (some (.int (J 22 (J 23 (nI i).toNatClampNeg).toNatClampNeg))) (some (.int (svX I ln ru 0 (J 23 (nI i).toNatClampNeg) (J 22 (J 23 (nI i).toNatClampNeg).toNatClampNeg) t (nI i)))) (some (.int (svX I ln ru 1 (J 23 (nI i).toNatClampNeg) (J 22 (J 23 (nI i).toNatClampNeg).toNatClampNeg) t (nI i)))) hJo hJr ?_ ?_
    · rw [← nI_1] at this
      exact this
    · rw [gset_s, ← hJs, drop_cons hi, hr, hx, hcr]
      rfl
    · intro k a b d e z
      rw [gset_n e]
      exact hf3 k a b d e z)
  exact hK [2] 100 _ _ _ _ _ _ (loop 0 (Nat.zero_le _) I none none none none rfl rfl (by rw [h4]; rfl) (frg_refl I 21))
end
section
variable (E : gEnv) (c : Nat) (ln : Nat → Nat) (I : Nat → Nat → Int32) (L : Nat → Nat → Int64)
set_option maxHeartbeats 1000000 in
theorem c24_tire (ru : Nat) (hru : ru < c) (hc : c ≤ 6) (hrl : I 17 6 = nI ru) (hok : ruleOk I ln ru) (row : List Nat) (since : Int32) (st : Nat → Int32) (h : rdX I 24 row since st) (t : Int32) (ht : vp_in t 40) :
    gCtr E 5 0 0 nX1_tire [.ref 24, .int t] (wX c ln I L) (fun v u' => v = none ∧ ∃ I', u' = wX c ln I' L ∧ I' 24 = I 24 ∧ I' 26 = I 26 ∧ I' 25 = tir (svX I ln ru) t 0 row st ∧ frg I I' 24) := by
  obtain ⟨h1, h2, h3, h4, h5, h6⟩ := h
  refine gstart iX1_tire tX1_tire rfl rfl (fun K ca hK hca => ?_)
  have loop := gloop (P := fun i => ∀ (J : Nat → Nat → Int32) (x3 x4 x5 x6 : Option Value), J 24 = I 24 → J 26 = I 26 → tir (svX I ln ru) t i (row.drop i) (J 25) = tir (svX I ln ru) t 0 row st → frg I J 24 → K 0 0 2 [some (.ref 24), some (.int t), some (.int (nI i)), x3, x4, x5, x6] [] (wX c ln J L)) (n := row.length) (by
    intro J x3 x4 x5 x6 hJo hJr hJs hf
    refine hK [2] 100 _ _ _ _ _ _ ?_
    refine gbr_lp (n := row.length) (by show J 24 5 = _; rw [hJo, h1]) (by omega) (Nat.le_refl _) (fun _ => ⟨rfl, J, rfl, hJo, hJr, ?_, hf⟩) (fun z => absurd z (Nat.lt_irrefl _))
    rw [← hJs, List.drop_length]
    rfl) (by
    intro i hi ih J x3 x4 x5 x6 hJo hJr hJs hf
    have hr12 := rd_lt h6 hi
    obtain ⟨r, hr⟩ : ∃ r, row.getD i 0 = r := ⟨_, rfl⟩
    rw [hr] at hr12
    have hx : J 26 (nI i).toNatClampNeg = nI r := by rw [nI_clamp (by omega), hJr, ← hr]; exact h3 i hi
    have hcr : (nI r).toNatClampNeg = r := nI_clamp (by omega)
    have hvr : vp_in (J 26 (nI i).toNatClampNeg) 12 := by rw [hx]; exact vp_in_nI hr12 (by omega)
    have hsv : svX J ln ru = svX I ln ru := svX_congr (by decide) hf
    have hokJ : ruleOk J ln ru := ruleOk_congr (fun k hk => hf k (by omega) (by omega) (by omega) (by omega) (by omega)) hok
    have hrlJ : J 17 6 = nI ru := by rw [hf 17 (by decide) (by decide) (by decide) (by decide) (by decide), hrl]
    refine hK [2] 100 _ _ _ _ _ _ ?_
    refine gbr_lp (n := row.length) (by show J 24 5 = _; rw [hJo, h1]) (by omega) (by omega) (fun e => by omega) (fun _ => ?_)
    refine gsd_i (vp_in_nI (by omega) (by omega)) (gsd_i hvr ?_)
    refine gcall0 hca (c_comesTo E c ln J L ru hru hc hrlJ hokJ 0 (J 26 (nI i).toNatClampNeg) (J 25 (J 26 (nI i).toNatClampNeg).toNatClampNeg) t (nI i) (by decide) hvr ht) rfl ?_
    rintro w u' - ⟨⟨f, g, rfl⟩, rfl⟩
    have hf2 := frg_trans hf (frg_19 J 24 f g)
    refine gcall0 hca (c_comesTo E c ln (gset (gset J 19 f) 20 g) L ru hru hc hrlJ (ruleOk_congr (fun k hk => hf2 k (by omega) (by omega) (by omega) (by omega) (by omega)) hok) 1 (J 26 (nI i).toNatClampNeg) (J 25 (J 26 (nI i).toNatClampNeg).toNatClampNeg) t (nI i) (by decide) hvr ht) rfl ?_
    rintro w u' - ⟨⟨f', g', rfl⟩, rfl⟩
    refine gcall0 hca (c_within E _ 0 _ 999) rfl ?_
    rintro w u' - ⟨rfl, rfl⟩
    refine gsd_i hvr ?_
    have hf3 := frg_trans hf2 (frg_19 (gset (gset J 19 f) 20 g) 24 f' g')
    have hsv2 : svX (gset (gset J 19 f) 20 g) ln ru = svX I ln ru := svX_congr (by decide) hf2
    rw [hsv, hsv2]
    have := ih (gset (gset (gset (gset (gset J 19 f) 20 g) 19 f') 20 g') 25 (gupd (J 25) (J 26 (nI i).toNatClampNeg).toNatClampNeg (wthn 0 (J 25 (J 26 (nI i).toNatClampNeg).toNatClampNeg - svX I ln ru 0 (J 26 (nI i).toNatClampNeg) (J 25 (J 26 (nI i).toNatClampNeg).toNatClampNeg) t (nI i) + svX I ln ru 1 (J 26 (nI i).toNatClampNeg) (J 25 (J 26 (nI i).toNatClampNeg).toNatClampNeg) t (nI i)) 999))) (some (.int (J 26 (nI i).toNatClampNeg))) (some (.int (J 25 (J 26 (nI i).toNatClampNeg).toNatClampNeg))) (some (.int (svX I ln ru 0 (J 26 (nI i).toNatClampNeg) (J 25 (J 26 (nI i).toNatClampNeg).toNatClampNeg) t (nI i)))) (some (.int (svX I ln ru 1 (J 26 (nI i).toNatClampNeg) (J 25 (J 26 (nI i).toNatClampNeg).toNatClampNeg) t (nI i)))) hJo hJr ?_ ?_
    · rw [← nI_1] at this
      exact this
    · rw [gset_s, ← hJs, drop_cons hi, hr, hx, hcr]
      rfl
    · intro k a b d e z
      rw [gset_n e]
      exact hf3 k a b d e z)
  exact hK [2] 100 _ _ _ _ _ _ (loop 0 (Nat.zero_le _) I none none none none rfl rfl (by rw [h4]; rfl) (frg_refl I 24))
end
