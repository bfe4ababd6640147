theorem gisr_e {av : List Value} {P : Prop} (h : gisr av P) : (∃ o tl, av = .ref o :: tl) ∧ P := by
  unfold gisr at h
  split at h
  · exact ⟨⟨_, _, rfl⟩, h⟩
  · exact h.elim
theorem gmath : Cond.initialized "java/lang/Math" ∈ gT := gat_mem (c := 78) (by decide +kernel)
theorem gmax1 : Cond.static Lib.Math.max.name ∈ gT := gat_mem (c := 593) (by decide +kernel)
theorem gmin1 : Cond.static Lib.Math.min.name ∈ gT := gat_mem (c := 488) (by decide +kernel)
theorem gmax2 : Cond.code Lib.Math.max.name Lib.Math.max.code 2 (some .int) ∈ gT := gat_mem (c := 594) (by decide +kernel)
theorem gmin2 : Cond.code Lib.Math.min.name Lib.Math.min.code 2 (some .int) ∈ gT := gat_mem (c := 489) (by decide +kernel)
theorem gobj1 : Cond.instanceMethod objectInit ∈ gT := gat_mem (c := 89) (by decide +kernel)
theorem gobj2 : Cond.code objectInit ⟨#[0xb1]⟩ 1 none ∈ gT := gat_mem (c := 90) (by decide +kernel)
theorem gcpy1 : Cond.native arraycopyName ∈ gT := gat_mem (c := 492) (by decide +kernel)
theorem gcpy2 : Cond.static arraycopyName ∈ gT := gat_mem (c := 491) (by decide +kernel)
theorem gcpy3 : Cond.initialized "java/lang/System" ∈ gT := gat_mem (c := 79) (by decide +kernel)
section GV
variable {E : gEnv} {p : Program} {e : Env} {s : State} {m : MethodId} {args : Array Value} {below : List Frame} {meth : Method} {c : Code} {own : String} {cc : ByteArray} {nL d mc ms : Nat} {ret : Option FieldType} {ini : Bool} {ad0 : Nat → Nat} {n0 : Nat} {post : Option Value → gS → Prop} {k : Nat → Nat → Nat → gLv → List Value → gS → Prop}
/-- a new cell that lies at q -/
theorem gborn_go {Q : State → Prop} {kc ks pc q : Nat} {lv : gLv} {st : List Value} {u : gS} {x : gSh} {ad : Nat → Nat} {H1 : Heap} {locs : List Loc} {ls : Array Slot} {w : va_E} (hlt : u.1 < 900) (hlv : glive x = true) (hmc : mc ≠ 0) (hrs : ∀ r ∈ grefs lv st, r < u.1 ∨ 1000 ≤ r)
    (hw : gE1 E.2.2.1 (gupd ad u.1 q) (gborn u x) u.1 = w)
    (a1 : (∀ k, k < n0 ∨ 1000 ≤ k → ad k = ad0 k) ∧ (mc = 0 → ad = ad0)) (a5 : gok u) (a6 : n0 ≤ u.1) (a7 : gL ad ls nL lv) (a8 : gnd lv)
    (b1 : va_P E.2.1 vwCl (gW E.2.2.1 ad u ++ [(q, w)]) H1) (b2 : va_D (gA ad0 n0 s.heap.size) (gW E.2.2.1 ad u ++ [(q, w)])) (b3 : va_S (gA ad0 n0 s.heap.size) s.heap H1 locs)
    (hg : gG E p e (gRm d mc ms) s m args below meth c nL mc (gA ad0 n0 s.heap.size) ad0 n0 Q kc ks pc lv (.ref u.1 :: st) (gborn u x)) :
    W p E.1 e (gRm d mc ms) s m args below meth c H1 locs kc ks Q (F0 m pc ls (.ref q :: st.map (gcv ad))) := by
  have hW := gW_born (cy := E.2.2.1) (ad := ad) (x := x) (q := q) a5 hlt hw
  have hs : ∀ r ∈ grefs lv st, gupd ad u.1 q r = ad r := fun r hr => gupd_n (by have := hrs r hr; omega)
  have K := hg (gupd ad u.1 q) H1 locs ls ⟨fun k hk => by rw [gupd_n (by omega)]; exact a1.1 k hk, fun h => absurd h hmc⟩ (hW ▸ b1) (hW ▸ b2) b3 (gok_born a5 hlt hlv) (Nat.le_trans a6 (Nat.le_succ _)) (a7.agree hs) a8
  rw [List.map_cons, gst_agree hs] at K
  have e1 : gcv (gupd ad u.1 q) (.ref u.1) = .ref q := by show Value.ref _ = _; rw [gupd_s]
  rw [e1] at K
  exact K
theorem gar_new {ad : Nat → Nat} {u : gS} {t N : Nat} (ht : t < 4) (cA : ClassId) : vp_cell cA (gAr ad (gborn u (.inr (t, N))) t N u.1) = arrV cA N (fun _ => defaultValue (gtc t)) := by
  obtain ⟨n, sh, I, L, R⟩ := u
  match t, ht with
  | 0, _ => show vp_cell cA (N, .inl (gset I n (fun _ => 0) n)) = _; rw [gset_s]; rfl
  | 1, _ => show vp_cell cA (N, .inl (gset I n (fun _ => 0) n)) = _; rw [gset_s]; rfl
  | 2, _ => show vp_cell cA (N, .inr (.inl (gset L n (fun _ => 0) n))) = _; rw [gset_s]; rfl
  | 3, _ => show vp_cell cA (N, .inl (gset I n (fun _ => 0) n)) = _; rw [gset_s]; rfl
set_option maxHeartbeats 4000000 in
theorem gstp_iv {C : List gI} (h00 : ∀ k, 1000 ≤ k → ad0 k = E.2.2.2 k) (hC : gCx E p s m args meth c own cc nL ret ini (gA ad0 n0 s.heap.size)) (hT : ∀ r ∈ C, gchk own cc nL ret ini r = true)
    (hk : ∀ kc ks pc lv st u, k kc ks pc lv st u → gG E p e (gRm d mc ms) s m args below meth c nL mc (gA ad0 n0 s.heap.size) ad0 n0 (MQ below (gQc E ad0 n0 s.heap.size mc post) args s mc ms (gA ad0 n0 s.heap.size)) kc ks pc lv st u)
    {kc ks pc : Nat} {lv : gLv} {st : List Value} {u : gS} (h : gIv C (gCall E d mc ms) d ret post mc ms k kc ks pc lv st u) :
    gG E p e (gRm d mc ms) s m args below meth c nL mc (gA ad0 n0 s.heap.size) ad0 n0 (MQ below (gQc E ad0 n0 s.heap.size mc post) args s mc ms (gA ad0 n0 s.heap.size)) kc ks pc lv st u := by
  obtain ⟨q, hf, hiv, h⟩ := h
  obtain ⟨hx, hb, hml, hown, hts, hK, hlk, hrt, hini, hX, hA⟩ := id hC
  have hCF : CallFix p m c cc nL s args gT own := ⟨hx, hb, hml, hown, hts⟩
  unfold gstp at h
  obtain ⟨nx, ins, ⟨a, b, cw⟩, v, sw⟩ := q
  rw [hf] at h
  dsimp only at h hiv
  have hok := hT _ (gfind_mem hf)
  unfold gchk at hok
  dsimp only at hok
  have hd : decode cc pc = .ok (ins, nx - pc) := by
    rw [Bool.and_eq_true] at hok
    exact of_decide_eq_true hok.1
  cases ins with
  | ldc idx =>
    obtain ⟨rfl, hv⟩ := gk2b hok
    have h1 : gstr a k kc ks (pc + 2) lv v st u := h
    have hd2 : decode cc pc = .ok (.ldc idx, 2) := by simpa using hd
    intro ad H locs ls a1 a2 a3 a4 a5 a6 a7 a8
    have hstr : (Nat.beq a (cw + 1) && (match gStr[cw]? with
        | some q => decide (q.1 = own) && decide (q.2.1 = idx)
        | none => false)) = true → W p E.1 e (gRm d mc ms) s m args below meth c H locs kc ks (MQ below (gQc E ad0 n0 s.heap.size mc post) args s mc ms (gA ad0 n0 s.heap.size)) (F0 m pc ls (st.map (gcv ad))) := by
      intro hv
      rw [Bool.and_eq_true] at hv
      have ha := Nat.eq_of_beq_eq_true hv.1
      subst ha
      cases hq : gStr[cw]? with
      | none => rw [hq] at hv; cases hv.2
      | some q =>
        rw [hq] at hv
        have hv2 := hv.2
        rw [Bool.and_eq_true] at hv2
        have e1 : q.1 = own := of_decide_eq_true hv2.1
        have e2 : q.2.1 = idx := of_decide_eq_true hv2.2
        have hR := hX.2.2.1.2 cw q hq
        rw [e1, e2] at hR
        have K := hk _ _ _ _ _ _ h1 ad H locs ls a1 a2 a3 a4 a5 a6 a7 a8
        have e3 : gcv ad (.ref (1000 + cw)) = .ref (E.2.2.2 (1000 + cw)) := by show Value.ref _ = _; rw [a1.1 _ (Or.inr (by omega)), h00 _ (by omega)]
        rw [List.map_cons, e3] at K
        exact va_ldcS hx hb hown hR hd2 K
    cases v with
    | int x =>
      rw [Bool.and_eq_true] at hv
      have ha := Nat.eq_of_beq_eq_true hv.2
      subst ha
      exact lv_ldc hx hb hown (hts _ (gat_mem hv.1)) hd2 (hk _ _ _ _ _ _ h1 ad H locs ls a1 a2 a3 a4 a5 a6 a7 a8)
    | long x => exact hstr hv
    | float x => exact hstr hv
    | double x => exact hstr hv
    | null => exact hstr hv
    | ref x => exact hstr hv
    | retAddr x => exact hstr hv
  | new idx =>
    obtain ⟨rfl, hv⟩ := gk2b hok
    obtain ⟨⟨hrs, hlt, hmc, hms⟩, hkk⟩ := gsd_e (h : gsd ((∀ r ∈ grefs lv st, r < u.1 ∨ 1000 ≤ r) ∧ u.1 < 900 ∧ kc + 1 ≤ mc ∧ ks + gN a ≤ ms) (k (kc + 1) (ks + gN a) (pc + 3) lv (.ref u.1 :: st) (gborn u (.inl a))))
    cases hq : vwCl[a]? with
    | none => rw [hq] at hv; cases hv
    | some q =>
      rw [hq] at hv
      simp only [Bool.and_eq_true] at hv
      obtain ⟨w1, w2, w3⟩ := hv
      obtain ⟨g1, g2, g3, g4⟩ := gcl hq
      obtain ⟨Cn, T, N⟩ := q
      dsimp only at w1 w2 w3 g1 g2 g3 g4
      subst g1
      have w4 : (Cond.initialized Cn).before args s = true := by
        split at w3
        · exact hts _ (gat_mem w3)
        · cases w3
      intro ad H locs ls a1 a2 a3 a4 a5 a6 a7 a8
      refine va_new (ci := a) (fs := (List.range (gN a)).map (fun j => gdv (gkd (gTy a j)))) (C := Cn) (T := T) (N := gN a) hx hb hts g4 (gTy a) g2 hown (hts _ (gat_mem w1)) (hts _ (gat_mem w2)) w4 hK a2 a3 a4 hA hq (fun j hj => ?_) hmc hms (by simpa using hd) (fun q H1 b1 b2 b3 => ?_)
      · rw [gdv_ok a (gci hq) j hj]
        simp [vp_V, hj]
      · exact gborn_go (x := .inl a) hlt (Nat.ble_eq_true_of_le (gci hq)) (by omega) hrs (by rw [gE1_obj (show (gborn u (.inl a)).2.1 u.1 = .inl a from gupd_s), gF_born]) a1 a5 a6 a7 a8 b1 b2 b3 (hk _ _ _ _ _ _ hkk)
  | newarray at_ =>
    obtain ⟨rfl, hv⟩ := gk2b hok
    simp only [Bool.and_eq_true, decide_eq_true_eq] at hv
    obtain ⟨w1, w2, w3⟩ := hv
    have ha : a < 4 := Nat.le_of_ble_eq_true w2
    obtain ⟨n, r, rfl, ⟨hrs, hlt, hn, hmc, hms, hbig⟩, hkk⟩ := g1i_e h
    intro ad H locs ls a1 a2 a3 a4 a5 a6 a7 a8
    refine va_newa (a0 := gAr ad (gborn u (.inr (a, n.toNatClampNeg))) a n.toNatClampNeg u.1) (ty := gtc a) hx hb (hts _ (gat_mem w1)) w3.symm hK a2 a3 a4 hA (fun cA => gar_new ha cA) hn rfl ?_ hmc hms (by simpa using hd) (fun q cA H1 bK b1 b2 b3 => ?_)
    · have hcb : componentBytes (gtc a) ≤ 8 := by
        match a, ha with
        | 0, _ => decide
        | 1, _ => decide
        | 2, _ => decide
        | 3, _ => decide
      calc n.toNatClampNeg * componentBytes (gtc a) ≤ 100000 * 8 := Nat.mul_le_mul hbig hcb
        _ ≤ 536870912 := by decide
    · have hA1 := (bK.2 6 (cA, gtc a) (by rw [List.getElem?_append_right (by simp [gty])]; simp [gty])).2
      have hA2 := (hK.2 a _ (gty_at (show a < 6 by omega))).2
      have hcA : cA = E.2.2.1 a := by
        match a, ha, hA1, hA2 with
        | 0, _, hA1, hA2 => exact Option.some.inj (Eq.trans (Eq.symm hA1) hA2)
        | 1, _, hA1, hA2 => exact Option.some.inj (Eq.trans (Eq.symm hA1) hA2)
        | 2, _, hA1, hA2 => exact Option.some.inj (Eq.trans (Eq.symm hA1) hA2)
        | 3, _, hA1, hA2 => exact Option.some.inj (Eq.trans (Eq.symm hA1) hA2)
      subst hcA
      have hsame : gAr (gupd ad u.1 q) (gborn u (.inr (a, n.toNatClampNeg))) a n.toNatClampNeg u.1 = gAr ad (gborn u (.inr (a, n.toNatClampNeg))) a n.toNatClampNeg u.1 := by
        match a, ha with
        | 0, _ => rfl
        | 1, _ => rfl
        | 2, _ => rfl
        | 3, _ => rfl
      exact gborn_go (x := .inr (a, n.toNatClampNeg)) hlt (Nat.ble_eq_true_of_le (show a + 1 ≤ 6 by omega)) (by omega) hrs (by rw [gE1_arr (show (gborn u (.inr (a, n.toNatClampNeg))).2.1 u.1 = .inr (a, n.toNatClampNeg) from gupd_s), hsame]) a1 a5 a6 a7 a8 b1 b2 b3 (hk _ _ _ _ _ _ hkk)
  | anewarray idx =>
    obtain ⟨rfl, hv⟩ := gk2b hok
    obtain ⟨n, r, rfl, ⟨hrs, hlt, hn, hmc, hms, hbig⟩, hkk⟩ := g1i_e h
    intro ad H locs ls a1 a2 a3 a4 a5 a6 a7 a8
    have hsh : ∀ t, (gborn u (.inr (t, n.toNatClampNeg))).2.1 u.1 = .inr (t, n.toNatClampNeg) := fun t => gupd_s
    have har : ∀ (ad' : Nat → Nat) (t : Nat), t = 4 ∨ t = 5 → gAr ad' (gborn u (.inr (t, n.toNatClampNeg))) t n.toNatClampNeg u.1 = (n.toNatClampNeg, .inr (.inr (.inr (.inr (fun _ => none))))) := fun ad' t ht => by
      obtain ⟨n1, sh, I, L, R⟩ := u
      rcases ht with rfl | rfl
      · show ((_ , .inr (.inr (.inr (.inr (fun j => (gset R n1 (fun _ => none) n1 j).map ad'))))) : vp_A) = _
        rw [gset_s]; rfl
      · show ((_ , .inr (.inr (.inr (.inr (fun j => (gset R n1 (fun _ => none) n1 j).map ad'))))) : vp_A) = _
        rw [gset_s]; rfl
    rw [Bool.or_eq_true, Bool.and_eq_true, Bool.and_eq_true] at hv
    rcases hv with ⟨ha, w1⟩ | ⟨ha, w1⟩
    · have ha := Nat.eq_of_beq_eq_true ha
      subst ha
      refine va_newq (C := RX4) hx hb hown (hts _ (gat_mem w1)) hX.2.1.1 hK a2 a3 a4 hA hn rfl (by omega) hmc hms (by simpa using hd) (fun q cA H1 bK b1 b2 b3 => ?_)
      have hA1 := (bK.2 6 (cA, .object RX4) (by rw [List.getElem?_append_right (by simp [gty])]; simp [gty])).2
      have hA2 := (hK.2 4 _ (gty_at (show 4 < 6 by omega))).2
      obtain ⟨_, _, _, _, _, f1⟩ := hA1
      obtain ⟨_, _, _, _, _, f2⟩ := hA2
      have hcA : cA = E.2.2.1 4 := Option.some.inj (Eq.trans (Eq.symm f1) f2)
      subst hcA
      exact gborn_go hlt rfl (by omega) hrs (by rw [gE1_arr (hsh 4), har _ 4 (Or.inl rfl)]) a1 a5 a6 a7 a8 b1 b2 b3 (hk _ _ _ _ _ _ hkk)
    · have ha := Nat.eq_of_beq_eq_true ha
      subst ha
      refine va_newq (C := RX7) hx hb hown (hts _ (gat_mem w1)) hX.2.1.2 hK a2 a3 a4 hA hn rfl (by omega) hmc hms (by simpa using hd) (fun q cA H1 bK b1 b2 b3 => ?_)
      have hA1 := (bK.2 6 (cA, .object RX7) (by rw [List.getElem?_append_right (by simp [gty])]; simp [gty])).2
      have hA2 := (hK.2 5 _ (gty_at (show 5 < 6 by omega))).2
      obtain ⟨_, _, _, _, _, f1⟩ := hA1
      obtain ⟨_, _, _, _, _, f2⟩ := hA2
      have hcA : cA = E.2.2.1 5 := Option.some.inj (Eq.trans (Eq.symm f1) f2)
      subst hcA
      exact gborn_go hlt rfl (by omega) hrs (by rw [gE1_arr (hsh 5), har _ 5 (Or.inr rfl)]) a1 a5 a6 a7 a8 b1 b2 b3 (hk _ _ _ _ _ _ hkk)
  | ireturn =>
    obtain ⟨rfl, hv⟩ := gk2b hok
    dsimp only at h
    split at h
    · rename_i x
      have h1 : ∃ ty, ret = some ty ∧ narrow ty (.int x) = .int x ∧ gfit kc ks mc ms (post (some (.int x)) u) := by
        unfold gzr at h
        split at h
        · exact ⟨_, rfl, gnz (ad := id) (gsd_e h).1, (gsd_e h).2⟩
        · exact ⟨_, rfl, rfl, h⟩
        · exact ⟨_, rfl, (gsd_e h).1, (gsd_e h).2⟩
        · exact ⟨_, rfl, (gsd_e h).1, (gsd_e h).2⟩
        · exact h.elim
      obtain ⟨ty, hty, hnr, hfit⟩ := h1
      obtain ⟨f1, f2, hp⟩ := gfit_e hfit
      intro ad H locs ls a1 a2 a3 a4 a5 a6 a7 a8
      refine W.widen f1 f2 ?_
      exact W.zret (ty := ty) hx hb (hrt.trans hty) hnr (fun t ht _ => ⟨⟨some (.int x), u, ad, rfl, a1, a6, hp, by rw [ht]; exact a2, a3, a5⟩, a4.F ht⟩) a4.2.2 (by simpa using hd) hlk
    · exact h.elim
  | lreturn =>
    obtain ⟨rfl, hv⟩ := gk2 hok
    dsimp only at h
    split at h
    · rename_i x
      obtain ⟨f1, f2, hp⟩ := gfit_e h
      intro ad H locs ls a1 a2 a3 a4 a5 a6 a7 a8
      refine W.widen f1 f2 ?_
      exact W.lret hx hb (hrt.trans hv) (fun t ht _ => ⟨⟨some (.long x), u, ad, rfl, a1, a6, hp, by rw [ht]; exact a2, a3, a5⟩, a4.F ht⟩) a4.2.2 (by simpa using hd) hlk
    · exact h.elim
  | areturn =>
    obtain ⟨rfl, hv⟩ := gk2b hok
    dsimp only at h
    split at h
    · rename_i x
      obtain ⟨f1, f2, hp⟩ := gfit_e h
      have hv2 : ∃ rt, ret = some rt ∧ ((∃ n, rt = .object n) ∨ ∃ t, rt = .array t) := by
        unfold gzo at hv
        split at hv
        · exact ⟨_, rfl, Or.inl ⟨_, rfl⟩⟩
        · exact ⟨_, rfl, Or.inr ⟨_, rfl⟩⟩
        · cases hv
      obtain ⟨rt, hr1, hr2⟩ := hv2
      intro ad H locs ls a1 a2 a3 a4 a5 a6 a7 a8
      refine W.widen f1 f2 ?_
      exact W.aret (v := .ref (ad x)) hx hb (hrt.trans hr1) hr2 (Or.inr ⟨_, rfl⟩) (fun t ht _ => ⟨⟨some (.ref x), u, ad, rfl, a1, a6, hp, by rw [ht]; exact a2, a3, a5⟩, a4.F ht⟩) a4.2.2 (by simpa using hd) hlk
    · exact h.elim
  | return_ =>
    obtain ⟨rfl, hv⟩ := gk2 hok
    dsimp only at h
    split at h
    · obtain ⟨f1, f2, hp⟩ := gfit_e h
      intro ad H locs ls a1 a2 a3 a4 a5 a6 a7 a8
      refine W.widen f1 f2 ?_
      exact W.vret hx hb (hrt.trans hv) (fun t ht _ => ⟨⟨none, u, ad, rfl, a1, a6, hp, by rw [ht]; exact a2, a3, a5⟩, a4.F ht⟩) a4.2.2 (by simpa using hd) hlk
    · exact h.elim
  | invokevirtual idx =>
    obtain ⟨rfl, hv⟩ := gk2b hok
    obtain ⟨bv, r, hbl, rfl, hr0⟩ := gargs_e h
    obtain ⟨o, tl, z, hbv, rfl, hsh, h1⟩ := grecv_e hr0
    obtain ⟨hcat, h2⟩ := gcatok_e h1
    rw [List.append_nil] at hbv h2
    obtain ⟨d1, mc1, ms1, post1, hd1, hmc1, hms1, hrs, hctr, hkk⟩ := h2
    cases hq : gMt[a]? with
    | none => rw [hq] at hv; cases hv
    | some q =>
      rw [hq] at hv
      simp only [Bool.and_eq_true] at hv
      obtain ⟨w1, w2, w3, w4⟩ := hv
      obtain ⟨m1, m2, m3, m4, m5, m6, m7, m8⟩ := gMf hq
      have hb1 := Nat.eq_of_beq_eq_true w1
      have hkd := Nat.eq_of_beq_eq_true w2
      cases bv with
      | nil => simp at hbl
      | cons v0 av =>
        have hav : av.length = b := by simpa using hbl
        · obtain ⟨e1, e2⟩ := List.cons.inj hbv
          subst e1
          subst e2
          intro ad H locs ls a1 a2 a3 a4 a5 a6 a7 a8
          have hPre := gPre (av := .ref o :: av) hC a2 a3 a4 a5
          have hcell : ∃ cellB : Cell, H[ad o]? = some cellB ∧ cellB.vm.isStatics = false ∧ s.vm.findClass q.1.cls = some cellB.cls := by
            cases hz : Nat.beq z.2 20 with
            | true =>
              rw [hz] at w4
              have hz2 := Nat.eq_of_beq_eq_true hz
              rw [hz2] at hsh
              have hcs : q.1.cls = "java/lang/String" := of_decide_eq_true w4
              obtain ⟨ho1, ho2⟩ := a5.str hsh
              have := vk_recv (i := o - 1000) hX.2.2.1.1 (g1000 ho1 ho2).1 a4
              rw [(g1000 ho1 ho2).2] at this
              rw [a1.1 o (Or.inr ho1), h00 o ho1, hcs]
              exact this
            | false =>
              rw [hz] at w4
              dsimp only [cond] at w4
              cases hcq : vwCl[z.2]? with
              | none => rw [hcq] at w4; cases w4
              | some cq =>
                rw [hcq] at w4
                have hce : cq.1 = q.1.cls := of_decide_eq_true w4
                rw [← hce]
                exact va_recv hK a2 hcq (q0 := o) (fs := gF ad u z.2 o) (by rw [gW_at (a5.lt (by have := gci hcq; omega) hsh), gE1_obj hsh])
          have hrun := va_runV (rest := r.map (gcv ad)) (As := av.map (gcv ad)) (b := ad o) (g := F0 m pc ls (((Value.ref o :: av).reverse ++ r).map (gcv ad))) (locs := locs) (cells := kc) (slots := ks) (R := gRm d mc ms) (e := e) (below := below) (meth := meth) hCF (hctr q hq ad H.size (fun k hk => by rw [a1.1 k (Or.inr hk), h00 k hk])) (cwV (C := q.1.cls) b hts (gGood (fun w hw => by
              unfold wsV at hw
              rcases List.mem_append.mp hw with hw | hw
              · simp only [List.mem_cons, List.not_mem_nil, or_false] at hw
                rcases hw with rfl | rfl | rfl | rfl
                · exact gat_mem w3
                · exact (m4 hkd).1
                · exact (m4 hkd).2
                · exact m2
              · exact gGoodq hq w hw)) rfl rfl rfl ⟨rfl, m7.1, m7.2.1, by rw [hb1]; exact m7.2.2⟩ (gRoom hd1 m8)) ⟨hPre.1, hcell, hPre.2⟩ rfl (by simp [hav]) (a7.1) (by simp [gcv]) (lv_room (by rw [gcats_sum]; exact hcat)) (by simpa using hd) ⟨hmc1, hms1⟩
          exact gcall_go hC hrun a1 a3 a4 a6 a7 a8 hmc1 hrs (fun w u' hn hp => hk _ _ _ _ _ _ (hkk w u' hn hp))
  | invokestatic idx =>
    obtain ⟨rfl, hv⟩ := gk2b hok
    have h1 : gstc a st d kc ks mc ms (fun w st => k kc ks (pc + 3) lv (w :: st) u) (fun st u => k kc ks (pc + 3) lv st u) u (gargs b st [] (fun av st => gcatok st (gCall E d mc ms a av (grefs lv st) u kc ks (fun kc ks w u => k kc ks (pc + 3) lv (w.toList ++ st) u)))) := h
    cases ha : Nat.blt a 9000 with
    | true =>
      rw [ha] at hv
      dsimp only [cond] at hv
      have hlt : a < 9000 := Nat.le_of_ble_eq_true ha
      have h2 : gargs b st [] (fun av st => gcatok st (gCall E d mc ms a av (grefs lv st) u kc ks (fun kc ks w u => k kc ks (pc + 3) lv (w.toList ++ st) u))) := by
        unfold gstc at h1
        split at h1
        · omega
        · omega
        · omega
        · omega
        · exact h1
      obtain ⟨bv, r, hbl, rfl, h3⟩ := gargs_e h2
      obtain ⟨hcat, h4⟩ := gcatok_e h3
      rw [List.append_nil] at h4
      obtain ⟨d1, mc1, ms1, post1, hd1, hmc1, hms1, hrs, hctr, hkk⟩ := h4
      cases hq : gMt[a]? with
      | none => rw [hq] at hv; cases hv
      | some q =>
        rw [hq] at hv
        simp only [Bool.and_eq_true] at hv
        obtain ⟨w1, w2, w3⟩ := hv
        obtain ⟨m1, m2, m3, m4, m5, m6, m7, m8⟩ := gMf hq
        have hb1 := Nat.eq_of_beq_eq_true w1
        have hkd := Nat.eq_of_beq_eq_true w2
        intro ad H locs ls a1 a2 a3 a4 a5 a6 a7 a8
        have hPre := gPre (av := bv) hC a2 a3 a4 a5
        have hGI := gGood (gGoodq hq)
        have hdd : q.1.cls ≠ "java/lang/invoke/MethodHandle" ∧ q.1.cls ≠ "java/lang/invoke/VarHandle" ∧ (parseMethodDescriptor q.1.desc).map (fun d => d.parameters.length) = some b := ⟨m7.1, m7.2.1, by rw [hb1]; exact m7.2.2⟩
        have hM := hctr q hq ad H.size (fun k hk => by rw [a1.1 k (Or.inr hk), h00 k hk])
        cases hc5 : Nat.blt cw 5000 with
        | true =>
          rw [hc5] at w3
          dsimp only [cond] at w3
          have hrun := va_runS (rest := r.map (gcv ad)) (As := bv.map (gcv ad)) (g := F0 m pc ls ((bv.reverse ++ r).map (gcv ad))) (locs := locs) (cells := kc) (slots := ks) (R := gRm d mc ms) (e := e) (below := below) (meth := meth) hCF hM ⟨callB_of b hts hGI rfl rfl rfl (hts _ m2) (hts _ (gat_mem w3)) hdd (gRoom hd1 m8), hts _ (m3 hkd)⟩ hPre rfl (by simp [hbl]) (a7.1) (by simp) (lv_room (by rw [gcats_sum]; exact hcat)) (by simpa using hd) ⟨hmc1, hms1⟩
          exact gcall_go hC hrun a1 a3 a4 a6 a7 a8 hmc1 hrs (fun w u' hn hp => hk _ _ _ _ _ _ (hkk w u' hn hp))
        | false =>
          rw [hc5] at w3
          dsimp only [cond] at w3
          have hnw := hX.1 _ (List.mem_of_getElem? (of_decide_eq_true w3))
          have hrun := va_runSN (rest := r.map (gcv ad)) (As := bv.map (gcv ad)) (g := F0 m pc ls ((bv.reverse ++ r).map (gcv ad))) (locs := locs) (cells := kc) (slots := ks) (R := gRm d mc ms) (e := e) (below := below) (meth := meth) hCF hM ⟨va_cnB b hts hGI rfl rfl rfl hnw (hts _ m2) hdd (gRoom hd1 m8), hts _ (m3 hkd), trivial⟩ hPre rfl (by simp [hbl]) (a7.1) (by simp) (lv_room (by rw [gcats_sum]; exact hcat)) (by simpa using hd) ⟨hmc1, hms1⟩
          exact gcall_go hC hrun a1 a3 a4 a6 a7 a8 hmc1 hrs (fun w u' hn hp => hk _ _ _ _ _ _ (hkk w u' hn hp))
    | false =>
      rw [ha] at hv
      dsimp only [cond] at hv
      split at hv
      · obtain ⟨y, x, r, rfl, h2⟩ := g2i_e (h1 : g2i st (fun y x st => cond (Nat.blt 0 d) (gcatok st (gfit kc ks mc ms (k kc ks (pc + 3) lv (.int (if x < y then y else x) :: st) u))) False))
        cases hd0 : Nat.blt 0 d with
        | false => rw [hd0] at h2; exact h2.elim
        | true =>
          rw [hd0] at h2
          obtain ⟨hcat, h2f⟩ := gcatok_e h2
          obtain ⟨hkc, hks, h3⟩ := gfit_e h2f
          have hdp : 0 < d := Nat.le_of_ble_eq_true hd0
          intro ad H locs ls a1 a2 a3 a4 a5 a6 a7 a8
          exact va_mmax (R := gRm d mc ms) hx hb (by rw [hml]; exact a7.1.symm) hown (hts _ (gat_mem hv)) (hts _ gmax1) (hts _ gmath) (hts _ gmax2) hdp (by rw [gcats_sum]; show gcats r + 13 ≤ 40 * d; omega) hkc hks (by simpa using hd) (hk _ _ _ _ _ _ h3 ad H locs ls a1 a2 a3 a4 a5 a6 a7 a8)
      · obtain ⟨y, x, r, rfl, h2⟩ := g2i_e (h1 : g2i st (fun y x st => cond (Nat.blt 0 d) (gcatok st (gfit kc ks mc ms (k kc ks (pc + 3) lv (.int (if y < x then y else x) :: st) u))) False))
        cases hd0 : Nat.blt 0 d with
        | false => rw [hd0] at h2; exact h2.elim
        | true =>
          rw [hd0] at h2
          obtain ⟨hcat, h2f⟩ := gcatok_e h2
          obtain ⟨hkc, hks, h3⟩ := gfit_e h2f
          have hdp : 0 < d := Nat.le_of_ble_eq_true hd0
          intro ad H locs ls a1 a2 a3 a4 a5 a6 a7 a8
          exact va_mmin (R := gRm d mc ms) hx hb (by rw [hml]; exact a7.1.symm) hown (hts _ (gat_mem hv)) (hts _ gmin1) (hts _ gmath) (hts _ gmin2) hdp (by rw [gcats_sum]; show gcats r + 13 ≤ 40 * d; omega) hkc hks (by simpa using hd) (hk _ _ _ _ _ _ h3 ad H locs ls a1 a2 a3 a4 a5 a6 a7 a8)
      · obtain ⟨s0, sp, d0, dp, n, r, rfl, h2⟩ := gcpyp_e (h1 : gcpyp st (fun s0 sp d0 dp n st => garr u s0 0 (fun n0 => garr u d0 0 (fun n1 => gcpyc d st sp dp n n0 n1 (k kc ks (pc + 3) lv st (u.1, u.2.1, gset u.2.2.1 d0 (va_cpy (u.2.2.1 s0) (u.2.2.1 d0) sp.toNatClampNeg dp.toNatClampNeg n.toNatClampNeg), u.2.2.2.1, u.2.2.2.2))))))
        obtain ⟨l0, hs0, h3⟩ := garr_e h2
        obtain ⟨l1, hs1, h4⟩ := garr_e h3
        obtain ⟨hdp, hcat, ⟨c1, c2, c3, c4, c5⟩, h5⟩ := gcpyc_e h4
        obtain ⟨nn, sh, I, L, R⟩ := u
        intro ad H locs ls a1 a2 a3 a4 a5 a6 a7 a8
        refine va_copyi (R := gRm d mc ms) (ty := .int) hx hb (by rw [hml]; exact a7.1.symm) hown (hts _ (gat_mem hv)) (hts _ gcpy1) (hts _ gcpy2) (hts _ gcpy3) hK a2 a3 a4 s0 d0 0 0 (by rw [gW_at (a5.lta (by omega) hs0), gE1_arr hs0]; rfl) (by rw [gW_at (a5.lta (by omega) hs1), gE1_arr hs1]; rfl) (gty_at (by omega)) (gty_at (by omega)) rfl c1 c2 c3 c4 c5 (fun _ _ => rfl) hdp (by rw [gcats_sum]; show gcats r + (nativeFrameWords "java/lang/System" "arraycopy" 5 + 11) ≤ 40 * d; rw [show nativeFrameWords "java/lang/System" "arraycopy" 5 = 7 by decide +kernel]; omega) (by simpa using hd) (fun H1 locs1 b1 b2 b3 => ?_)
        have hW := gWc_I (cy := E.2.2.1) (ad := ad) (n := nn) (I := I) (L := L) (R := R) (f := va_cpy (I s0) (I d0) sp.toNatClampNeg dp.toNatClampNeg n.toNatClampNeg) hs1
        exact hk _ _ _ _ _ _ h5 ad H1 locs1 ls a1 (hW ▸ b1) (hW ▸ b2) b3 (gok_I a5) a6 a7 a8
      · obtain ⟨s0, sp, d0, dp, n, r, rfl, h2⟩ := gcpyp_e (h1 : gcpyp st (fun s0 sp d0 dp n st => garr u s0 2 (fun n0 => garr u d0 2 (fun n1 => gcpyc d st sp dp n n0 n1 (k kc ks (pc + 3) lv st (u.1, u.2.1, u.2.2.1, gset u.2.2.2.1 d0 (va_cpy (u.2.2.2.1 s0) (u.2.2.2.1 d0) sp.toNatClampNeg dp.toNatClampNeg n.toNatClampNeg), u.2.2.2.2))))))
        obtain ⟨l0, hs0, h3⟩ := garr_e h2
        obtain ⟨l1, hs1, h4⟩ := garr_e h3
        obtain ⟨hdp, hcat, ⟨c1, c2, c3, c4, c5⟩, h5⟩ := gcpyc_e h4
        obtain ⟨nn, sh, I, L, R⟩ := u
        intro ad H locs ls a1 a2 a3 a4 a5 a6 a7 a8
        refine va_copyl (R := gRm d mc ms) (ty := .long) hx hb (by rw [hml]; exact a7.1.symm) hown (hts _ (gat_mem hv)) (hts _ gcpy1) (hts _ gcpy2) (hts _ gcpy3) hK a2 a3 a4 s0 d0 2 2 (by rw [gW_at (a5.lta (by omega) hs0), gE1_arr hs0]; rfl) (by rw [gW_at (a5.lta (by omega) hs1), gE1_arr hs1]; rfl) (gty_at (by omega)) (gty_at (by omega)) rfl c1 c2 c3 c4 c5 (fun _ _ => rfl) hdp (by rw [gcats_sum]; show gcats r + (nativeFrameWords "java/lang/System" "arraycopy" 5 + 11) ≤ 40 * d; rw [show nativeFrameWords "java/lang/System" "arraycopy" 5 = 7 by decide +kernel]; omega) (by simpa using hd) (fun H1 locs1 b1 b2 b3 => ?_)
        have hW := gWc_L (cy := E.2.2.1) (ad := ad) (n := nn) (I := I) (L := L) (R := R) (f := va_cpy (L s0) (L d0) sp.toNatClampNeg dp.toNatClampNeg n.toNatClampNeg) hs1
        exact hk _ _ _ _ _ _ h5 ad H1 locs1 ls a1 (hW ▸ b1) (hW ▸ b2) b3 (gok_I a5) a6 a7 a8
      · cases hv
  | invokespecial idx =>
    obtain ⟨rfl, hv⟩ := gk2b hok
    cases ha : Nat.beq a 9999 with
    | true =>
      rw [ha] at hv
      have h1 : cond (Nat.beq a 9999) (g1r st (fun _ st => cond (Nat.blt 0 d) (gcatok st (k kc ks (pc + 3) lv st u)) False)) (gargs (b + 1) st [] (fun av st => gisr av (gcatok st (gCall E d mc ms a av (grefs lv st) u kc ks (fun kc ks w u => k kc ks (pc + 3) lv (w.toList ++ st) u))))) := h
      rw [ha] at h1
      obtain ⟨o, r, rfl, h2⟩ := g1r_e h1
      cases hd0 : Nat.blt 0 d with
      | false => rw [hd0] at h2; exact h2.elim
      | true =>
        rw [hd0] at h2
        obtain ⟨hcat, h3⟩ := gcatok_e h2
        have hdp : 0 < d := Nat.le_of_ble_eq_true hd0
        intro ad H locs ls a1 a2 a3 a4 a5 a6 a7 a8
        exact W.objInit hx hb hown (hts _ (gat_mem hv)) (hts _ gobj1) (hts _ gobj2) rfl (by rw [hml]; exact a7.1) rfl (by simpa using hd) hdp (by show _ + ((r.map (gcv ad)).map (fun v => v.category)).sum + 12 ≤ 40 * d; rw [gcats_sum]; have : 2 * (F0 m pc ls (List.map (gcv ad) (Value.ref o :: r))).monitorRoom = 0 := rfl; omega) (hk _ _ _ _ _ _ h3 ad H locs ls a1 a2 a3 a4 a5 a6 a7 a8)
    | false =>
      rw [ha] at hv
      have h1 : cond (Nat.beq a 9999) (g1r st (fun _ st => cond (Nat.blt 0 d) (gcatok st (k kc ks (pc + 3) lv st u)) False)) (gargs (b + 1) st [] (fun av st => gisr av (gcatok st (gCall E d mc ms a av (grefs lv st) u kc ks (fun kc ks w u => k kc ks (pc + 3) lv (w.toList ++ st) u))))) := h
      rw [ha] at h1
      dsimp only [cond] at hv
      obtain ⟨bv, r, hbl, rfl, h3'⟩ := gargs_e h1
      rw [List.append_nil] at h3'
      obtain ⟨⟨o, av, hrfe⟩, h3⟩ := gisr_e h3'
      obtain ⟨hcat, h4⟩ := gcatok_e h3
      obtain ⟨d1, mc1, ms1, post1, hd1, hmc1, hms1, hrs, hctr, hkk⟩ := h4
      cases hq : gMt[a]? with
      | none => rw [hq] at hv; cases hv
      | some q =>
        rw [hq] at hv
        simp only [Bool.and_eq_true] at hv
        obtain ⟨w1, w2, w3⟩ := hv
        obtain ⟨m1, m2, m3, m4, m5, m6, m7, m8⟩ := gMf hq
        have hb1 := Nat.eq_of_beq_eq_true w1
        have hkd := Nat.eq_of_beq_eq_true w2
        obtain ⟨y1, y2, y3⟩ := m5 hkd
        subst hrfe
        have hav : av.length = b := by simpa using hbl
        intro ad H locs ls a1 a2 a3 a4 a5 a6 a7 a8
        have hPre := gPre (av := .ref o :: av) hC a2 a3 a4 a5
        have hGI := gGood (gGoodq hq)
        have hdd : q.1.cls ≠ "java/lang/invoke/MethodHandle" ∧ q.1.cls ≠ "java/lang/invoke/VarHandle" ∧ (parseMethodDescriptor q.1.desc).map (fun d => d.parameters.length) = some b := ⟨m7.1, m7.2.1, by rw [hb1]; exact m7.2.2⟩
        have hM := hctr q hq ad H.size (fun k hk => by rw [a1.1 k (Or.inr hk), h00 k hk])
        have hw0 : gws q = Cond.code q.1 q.2.1 q.2.2.1 none :: gT := by unfold gws; rw [y3]
        cases hc5 : Nat.blt cw 5000 with
        | true =>
          rw [hc5] at w3
          dsimp only [cond] at w3
          have hrun := va_runI (rest := r.map (gcv ad)) (As := av.map (gcv ad)) (b := ad o) (g := F0 m pc ls (((Value.ref o :: av).reverse ++ r).map (gcv ad))) (locs := locs) (cells := kc) (slots := ks) (R := gRm d mc ms) (e := e) (below := below) (meth := meth) hCF hM (cwI b hts hGI hw0 rfl rfl (hts _ m2) (hts _ (gat_mem w3)) (hts _ y1) y2 hdd (gRoom hd1 m8)) hPre rfl (by simp [hav]) (a7.1) (by simp [gcv]) (lv_room (by rw [gcats_sum]; exact hcat)) (by simpa using hd) ⟨hmc1, hms1⟩
          exact gcall_go hC hrun a1 a3 a4 a6 a7 a8 hmc1 hrs (fun w u' hn hp => hk _ _ _ _ _ _ (hkk w u' hn hp))
        | false =>
          rw [hc5] at w3
          dsimp only [cond] at w3
          have hnw := hX.1 _ (List.mem_of_getElem? (of_decide_eq_true w3))
          have hrun := va_runIN (rest := r.map (gcv ad)) (As := av.map (gcv ad)) (b := ad o) (g := F0 m pc ls (((Value.ref o :: av).reverse ++ r).map (gcv ad))) (locs := locs) (cells := kc) (slots := ks) (R := gRm d mc ms) (e := e) (below := below) (meth := meth) hCF hM ⟨va_cnB b hts hGI hw0 rfl rfl hnw (hts _ m2) hdd (gRoom hd1 m8), y2, hts _ y1⟩ hPre rfl (by simp [hav]) (a7.1) (by simp [gcv]) (lv_room (by rw [gcats_sum]; exact hcat)) (by simpa using hd) ⟨hmc1, hms1⟩
          exact gcall_go hC hrun a1 a3 a4 a6 a7 a8 hmc1 hrs (fun w u' hn hp => hk _ _ _ _ _ _ (hkk w u' hn hp))
  | _ => cases hiv
end GV
