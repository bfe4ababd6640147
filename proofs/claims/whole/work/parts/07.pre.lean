theorem gk1 {a : Bool} {n m : Nat} (h : (a && Nat.beq n m) = true) : n = m := by
  rw [Bool.and_eq_true] at h
  exact Nat.eq_of_beq_eq_true h.2
theorem gk2 {a : Bool} {n m : Nat} {P : Prop} {_ : Decidable P} (h : (a && (Nat.beq n m && decide P)) = true) : n = m ∧ P := by
  rw [Bool.and_eq_true, Bool.and_eq_true] at h
  exact ⟨Nat.eq_of_beq_eq_true h.2.1, of_decide_eq_true h.2.2⟩
theorem gk2b {a b : Bool} {n m : Nat} (h : (a && (Nat.beq n m && b)) = true) : n = m ∧ b = true := by
  rw [Bool.and_eq_true, Bool.and_eq_true] at h
  exact ⟨Nat.eq_of_beq_eq_true h.2.1, h.2.2⟩
theorem gk3 {a b : Bool} {n m : Nat} {P : Prop} {_ : Decidable P} (h : (a && (Nat.beq n m && (b && decide P))) = true) : n = m ∧ b = true ∧ P := by
  rw [Bool.and_eq_true, Bool.and_eq_true, Bool.and_eq_true] at h
  exact ⟨Nat.eq_of_beq_eq_true h.2.1, h.2.2.1, of_decide_eq_true h.2.2.2⟩
theorem gk2i {a b : Bool} (h : (a && b) = true) : b = true := by
  rw [Bool.and_eq_true] at h
  exact h.2
theorem gobj_e {u : gS} {o a : Nat} {P : Prop} (h : gobj u o a P) : u.2.1 o = .inl a ∧ P := by
  unfold gobj at h
  split at h
  · rename_i ci hc
    cases hb : Nat.beq ci a with
    | true => rw [hb] at h; exact ⟨by rw [hc, Nat.eq_of_beq_eq_true hb], h⟩
    | false => rw [hb] at h; exact h.elim
  · exact h.elim
theorem garr_e {u : gS} {o t : Nat} {P : Nat → Prop} (h : garr u o t P) : ∃ len, u.2.1 o = .inr (t, len) ∧ P len := by
  unfold garr at h
  split at h
  · exact h.elim
  · rename_i q hc
    cases hb : Nat.beq q.1 t with
    | true => rw [hb] at h; exact ⟨q.2, by rw [hc, ← Nat.eq_of_beq_eq_true hb], h⟩
    | false => rw [hb] at h; exact h.elim
theorem garri_e {u : gS} {o : Nat} {i : Int32} {P : Nat → Int32 → Prop} (h : garri u o i P) : ∃ len, (u.2.1 o = .inr (0, len) ∧ P len (u.2.2.1 o i.toNatClampNeg)) ∨ (u.2.1 o = .inr (10, len) ∧ P 6 (gUNDER i.toNatClampNeg)) := by
  unfold garri at h
  split at h
  · exact h.elim
  · rename_i q hc
    obtain ⟨t, len⟩ := q
    dsimp only at h
    split at h
    · exact ⟨len, Or.inl ⟨hc, h⟩⟩
    · exact ⟨len, Or.inr ⟨hc, h⟩⟩
    · exact h.elim
theorem garrb_e {u : gS} {o : Nat} {i : Int32} {P : Nat → Int32 → Prop} (h : garrb u o i P) : ∃ len, ((u.2.1 o = .inr (1, len) ∨ u.2.1 o = .inr (3, len)) ∧ P len (u.2.2.1 o i.toNatClampNeg)) ∨ (u.2.1 o = .inr (11, len) ∧ P len ((gStrB.getD (o - 1100) []).getD i.toNatClampNeg 0)) := by
  unfold garrb at h
  split at h
  · exact h.elim
  · rename_i q hc
    obtain ⟨t, len⟩ := q
    dsimp only at h
    split at h
    · exact ⟨len, Or.inl ⟨Or.inl hc, h⟩⟩
    · exact ⟨len, Or.inl ⟨Or.inr hc, h⟩⟩
    · exact ⟨len, Or.inr ⟨hc, h⟩⟩
    · exact h.elim
theorem garrq_e {u : gS} {o : Nat} {P : Nat → Prop} (h : garrq u o P) : ∃ len, (u.2.1 o = .inr (4, len) ∨ u.2.1 o = .inr (5, len)) ∧ P len := by
  unfold garrq at h
  split at h
  · exact h.elim
  · rename_i q hc
    obtain ⟨t, len⟩ := q
    dsimp only at h
    split at h
    · exact ⟨len, Or.inl hc, h⟩
    · exact ⟨len, Or.inr hc, h⟩
    · exact h.elim
theorem garrl_e {u : gS} {o : Nat} {P : Nat → Prop} (h : garrl u o P) : ∃ t len, ((t < 6 ∨ t = 11) ∧ u.2.1 o = .inr (t, len) ∧ P len) ∨ (t = 10 ∧ u.2.1 o = .inr (10, len) ∧ P 6) := by
  unfold garrl at h
  split at h
  · exact h.elim
  · rename_i q hc
    obtain ⟨t, len⟩ := q
    cases hb : Nat.blt t 6 with
    | true => rw [hb] at h; exact ⟨t, len, Or.inl ⟨Or.inl (Nat.le_of_ble_eq_true hb), hc, h⟩⟩
    | false =>
      rw [hb] at h
      cases hb2 : Nat.beq t 11 with
      | true => rw [hb2] at h; exact ⟨t, len, Or.inl ⟨Or.inr (Nat.eq_of_beq_eq_true hb2), hc, h⟩⟩
      | false =>
        rw [hb2] at h
        cases hb3 : Nat.beq t 10 with
        | true => rw [hb3] at h; have ht := Nat.eq_of_beq_eq_true hb3; subst ht; exact ⟨10, len, Or.inr ⟨rfl, hc, h⟩⟩
        | false => rw [hb3] at h; exact h.elim
theorem gcpyp_e {st : List Value} {k : Nat → Int32 → Nat → Int32 → Int32 → List Value → Prop} (h : gcpyp st k) : ∃ s0 sp d0 dp n r, st = .int n :: .int dp :: .ref d0 :: .int sp :: .ref s0 :: r ∧ k s0 sp d0 dp n r := by
  obtain ⟨n, r1, e1, h1⟩ := g1i_e h
  obtain ⟨dp, r2, e2, h2⟩ := g1i_e h1
  obtain ⟨d0, r3, e3, h3⟩ := g1r_e h2
  obtain ⟨sp, r4, e4, h4⟩ := g1i_e h3
  obtain ⟨s0, r5, e5, h5⟩ := g1r_e h4
  exact ⟨s0, sp, d0, dp, n, r5, by rw [e1, e2, e3, e4, e5], h5⟩
theorem gbst_e {u : gS} {o : Nat} {x : Int32} {P : Nat → Int32 → Prop} (h : gbst u o x P) : ∃ len, (u.2.1 o = .inr (1, len) ∧ P len (vp_nar .byte x)) ∨ (u.2.1 o = .inr (3, len) ∧ P len (vp_nar .boolean x)) := by
  unfold gbst at h
  split at h
  · exact h.elim
  · rename_i q hc
    obtain ⟨t, len⟩ := q
    dsimp only at h
    split at h
    · exact ⟨len, Or.inl ⟨hc, h⟩⟩
    · exact ⟨len, Or.inr ⟨hc, h⟩⟩
    · exact h.elim
theorem gqst_e {u : gS} {o x : Nat} {P : Nat → Prop} (h : gqst u o x P) : ∃ len, ((u.2.1 o = .inr (4, len) ∧ u.2.1 x = .inl 4) ∨ (u.2.1 o = .inr (5, len) ∧ u.2.1 x = .inl 7)) ∧ P len := by
  unfold gqst at h
  split at h
  · exact h.elim
  · rename_i q hc
    obtain ⟨t, len⟩ := q
    dsimp only at h
    split at h
    · obtain ⟨h1, h2⟩ := gobj_e h
      exact ⟨len, Or.inl ⟨hc, h1⟩, h2⟩
    · obtain ⟨h1, h2⟩ := gobj_e h
      exact ⟨len, Or.inr ⟨hc, h1⟩, h2⟩
    · exact h.elim
theorem grecv_e {u : gS} {av : List Value} {sw : List (Int32 × Nat)} {P : Prop} (h : grecv u av sw P) : ∃ o tl q, av = .ref o :: tl ∧ sw = [q] ∧ u.2.1 o = .inl q.2 ∧ P := by
  unfold grecv at h
  split at h
  · split at h
    · obtain ⟨h1, h2⟩ := gobj_e h
      exact ⟨_, _, _, rfl, rfl, h1, h2⟩
    · exact h.elim
  · exact h.elim
theorem gfit_e {kc ks mc ms : Nat} {P : Prop} (h : gfit kc ks mc ms P) : kc ≤ mc ∧ ks ≤ ms ∧ P := by
  unfold gfit at h
  split at h
  · exact ⟨Nat.zero_le _, Nat.zero_le _, h⟩
  · obtain ⟨h1, h2⟩ := gsd_e h
    exact ⟨h1.1, h1.2, h2⟩
theorem gargs_e : ∀ {n : Nat} {st av : List Value} {k : List Value → List Value → Prop}, gargs n st av k → ∃ bv r, bv.length = n ∧ st = bv.reverse ++ r ∧ k (bv ++ av) r := by
  intro n
  induction n with
  | zero => intro st av k h; exact ⟨[], st, rfl, rfl, h⟩
  | succ n ih =>
    intro st av k h
    cases st with
    | nil => exact h.elim
    | cons v st =>
      obtain ⟨bv, r, h1, h2, h3⟩ := ih h
      refine ⟨bv ++ [v], r, by simp [h1], by simp [h2], ?_⟩
      rw [List.append_assoc]
      exact h3
theorem gcats_sum (ad : Nat → Nat) : ∀ (st : List Value), ((st.map (gcv ad)).map (fun v => v.category)).sum = gcats st := by
  intro st
  induction st with
  | nil => rfl
  | cons v st ih => simp only [List.map_cons, List.sum_cons, ih, gcats, gcat]
theorem gcatok_e {st : List Value} {P : Prop} (h : gcatok st P) : gcats st ≤ 8 ∧ P := by
  unfold gcatok at h
  cases hb : Nat.ble (gcats st) 8 with
  | true => rw [hb] at h; exact ⟨Nat.le_of_ble_eq_true hb, h⟩
  | false => rw [hb] at h; exact h.elim
theorem gcpyc_e {d : Nat} {st : List Value} {sp dp n : Int32} {n0 n1 : Nat} {P : Prop} (h : gcpyc d st sp dp n n0 n1 P) : 0 < d ∧ gcats st ≤ 8 ∧ ((¬ sp < 0) ∧ (¬ dp < 0) ∧ (¬ n < 0) ∧ sp.toNatClampNeg + n.toNatClampNeg ≤ n0 ∧ dp.toNatClampNeg + n.toNatClampNeg ≤ n1) ∧ P := by
  unfold gcpyc at h
  cases hb : Nat.blt 0 d with
  | true =>
    rw [hb] at h
    obtain ⟨h1, h2⟩ := gcatok_e h
    exact ⟨Nat.le_of_ble_eq_true hb, h1, gsd_e h2⟩
  | false => rw [hb] at h; exact h.elim
theorem grefs1_of : ∀ {st : List Value} {r : Nat}, Value.ref r ∈ st → r ∈ grefs1 st := by
  intro st
  induction st with
  | nil => intro r h; cases h
  | cons v st ih =>
    intro r h
    rcases List.mem_cons.mp h with h0 | h0
    · subst h0; exact List.mem_cons_self
    · have h1 := ih h0
      cases v <;> first | exact List.mem_cons_of_mem _ h1 | exact h1
theorem grefs_st : ∀ {lv : gLv} {st : List Value} {r : Nat}, Value.ref r ∈ st → r ∈ grefs lv st := by
  intro lv
  induction lv with
  | nil => intro st r h; exact grefs1_of h
  | cons w lv ih =>
    intro st r h
    cases w with
    | none => exact ih h
    | some w => cases w <;> first | exact List.mem_cons_of_mem _ (ih h) | exact ih h
theorem grefs_lv : ∀ {lv : gLv} {st : List Value} {i r : Nat}, gnth lv i = some (.ref r) → r ∈ grefs lv st := by
  intro lv
  induction lv with
  | nil => intro st i r h; cases h
  | cons w lv ih =>
    intro st i r h
    cases i with
    | zero =>
      have hw : w = some (.ref r) := h
      subst hw
      exact List.mem_cons_self
    | succ i =>
      have h2 := ih (st := st) (i := i) h
      cases w with
      | none => exact h2
      | some w => cases w <;> first | exact List.mem_cons_of_mem _ h2 | exact h2
theorem gcv_agree {ad ad' : Nat → Nat} {v : Value} (h : ∀ r, v = .ref r → ad' r = ad r) : gcv ad' v = gcv ad v := by
  cases v <;> first | rfl | (show Value.ref _ = Value.ref _; rw [h _ rfl])
theorem gL.agree {ad ad' : Nat → Nat} {ls : Array Slot} {nL : Nat} {lv : gLv} {st : List Value} (h : gL ad ls nL lv) (ha : ∀ r ∈ grefs lv st, ad' r = ad r) : gL ad' ls nL lv := ⟨h.1, h.2.1, fun i v hv => by
  rw [gcv_agree (ad := ad) (fun r e => ha r (grefs_lv (i := i) (by rw [hv, e])))]
  exact h.2.2 i v hv⟩
theorem gst_agree {ad ad' : Nat → Nat} {lv : gLv} {st : List Value} (ha : ∀ r ∈ grefs lv st, ad' r = ad r) : st.map (gcv ad') = st.map (gcv ad) := List.map_congr_left fun v hv => gcv_agree fun r e => ha r (grefs_st (by rw [← e]; exact hv))
-- switches
theorem gsw_out {x : Int32} : ∀ {sw : List (Int32 × Nat)} {d : Nat} {kk : Nat → Prop}, gsw x sw d kk → (∀ q ∈ sw, x ≠ q.1) → kk d := by
  intro sw
  induction sw with
  | nil => intro d kk h _; exact h
  | cons q r ih => intro d kk h hn; exact ih ((gbr_e h).2 (hn q List.mem_cons_self)) (fun z hz => hn z (List.mem_cons_of_mem _ hz))
theorem gsw_in {x : Int32} : ∀ {sw : List (Int32 × Nat)} {d : Nat} {kk : Nat → Prop}, gsw x sw d kk → ∀ (j t : Nat), sw[j]? = some (x, t) → (∀ (i t' : Nat), i < j → sw[i]? ≠ some (x, t')) → kk t := by
  intro sw
  induction sw with
  | nil => intro d kk _ j t hj; simp at hj
  | cons q r ih =>
    intro d kk h j t hj hn
    cases j with
    | zero =>
      have hq : q = (x, t) := by simpa using hj
      subst hq
      exact (gbr_e h).1 rfl
    | succ j =>
      have hne : ¬ x = q.1 := fun e => hn 0 q.2 (by omega) (by simp [e])
      exact ih ((gbr_e h).2 hne) j t (by simpa using hj) (fun i t' hi hz => hn (i + 1) t' (by omega) (by simpa using hz))
section GZ
variable {p : Program} {l : Launch} {e : Env} {R : Room} {s : State} {m : MethodId} {args : Array Value} {below : List Frame} {meth : Method} {c : Code} {H : Heap} {locs : List Loc} {cells slots : Nat} {Q : State → Prop} {cc : ByteArray} {pc a : Nat} {ls : Array Slot} {rest : List Value}
theorem gsw_table (hx : p.tables.exec = Jvm.exec) (hb : c.code = cc) {df lo hi : Int} {offs : Array Int} {len : Nat} {x : Int32} {sw : List (Int32 × Nat)} (hd : decode cc pc = .ok (.tableswitch df lo hi offs, len))
    (hok : (decide ((pc : Int) + df = (a : Int)) && (decide (sw.map (fun q => q.1.toInt) = (List.range offs.size).map (fun j : Nat => lo + (j : Int))) && (decide (sw.map (fun q => (q.2 : Int)) = offs.toList.map (fun o => (pc : Int) + o)) && decide (hi = lo + (offs.size : Int) - 1)))) = true)
    {kk : Nat → Prop} (h : gsw x sw a kk) (hk : ∀ t, kk t → W p l e R s m args below meth c H locs cells slots Q (F0 m t ls rest)) : W p l e R s m args below meth c H locs cells slots Q (F0 m pc ls (.int x :: rest)) := by
  simp only [Bool.and_eq_true, decide_eq_true_eq] at hok
  obtain ⟨h1, h2, h3, h4⟩ := hok
  have hlen : sw.length = offs.size := by have := congrArg List.length h2; simpa using this
  have hkey : ∀ (j : Nat) (q : Int32 × Nat), sw[j]? = some q → q.1.toInt = lo + (j : Int) ∧ j < offs.size := fun j q hq => by
    have hj : j < sw.length := (List.getElem?_eq_some_iff.mp hq).1
    have e1 := congrArg (fun l => l[j]?) h2
    simp only [List.getElem?_map, hq, Option.map_some] at e1
    rw [List.getElem?_range (by omega)] at e1
    exact ⟨by simpa using e1, by omega⟩
  by_cases ho : x.toInt < lo ∨ hi < x.toInt
  · refine lv_tableOut hx hb hd ho h1 (hk a (gsw_out h fun q hq e => ?_))
    obtain ⟨j, hj⟩ := List.mem_iff_getElem?.mp hq
    obtain ⟨e1, e2⟩ := hkey j q hj
    rw [← e] at e1
    omega
  · have hlo : ¬ x.toInt < lo := fun z => ho (Or.inl z)
    have hhi : ¬ hi < x.toInt := fun z => ho (Or.inr z)
    have hj : (x.toInt - lo).toNat < offs.size := by omega
    obtain ⟨o, hoo⟩ : ∃ o, offs[(x.toInt - lo).toNat]? = some o := ⟨_, Array.getElem?_eq_getElem hj⟩
    obtain ⟨q, hq⟩ : ∃ q, sw[(x.toInt - lo).toNat]? = some q := ⟨_, List.getElem?_eq_getElem (by omega)⟩
    have e1 := (hkey _ q hq).1
    have hxq : q.1 = x := Int32.toInt_inj.mp (by rw [e1]; omega)
    have e2 := congrArg (fun l => l[(x.toInt - lo).toNat]?) h3
    simp only [List.getElem?_map, hq, Option.map_some, Array.getElem?_toList, hoo] at e2
    refine lv_tableIn hx hb hd hlo hhi hoo (tgt := q.2) (by simpa using (Option.some.inj e2).symm) (hk q.2 (gsw_in h _ q.2 (by rw [hq, ← hxq]) fun i t' hi hz => ?_))
    have e3 := (hkey i _ hz).1
    dsimp only at e3
    omega
theorem gsw_off {x : Int32} {pc : Nat} : ∀ {sw : List (Int32 × Nat)} {ps : List (Int × Int)} {a : Nat} {df : Int} {kk : Nat → Prop}, sw.map (fun q => (q.1.toInt, (q.2 : Int))) = ps.map (fun o => (o.1, (pc : Int) + o.2)) → (pc : Int) + df = (a : Int) → gsw x sw a kk → ∃ t : Nat, (pc : Int) + Op.lookupswitch.offset ps df x.toInt = (t : Int) ∧ kk t := by
  intro sw
  induction sw with
  | nil =>
    intro ps a df kk h hd hs
    cases ps with
    | nil => exact ⟨a, hd, hs⟩
    | cons o ps => simp at h
  | cons q r ih =>
    intro ps a df kk h hd hs
    cases ps with
    | nil => simp at h
    | cons o ps =>
      simp only [List.map_cons, List.cons.injEq, Prod.mk.injEq] at h
      obtain ⟨⟨h1, h2⟩, h3⟩ := h
      obtain ⟨o1, o2⟩ := o
      by_cases hx : x = q.1
      · refine ⟨q.2, ?_, (gbr_e hs).1 hx⟩
        subst hx
        dsimp only at h1 h2
        rw [h2, h1]
        simp [Op.lookupswitch.offset]
      · obtain ⟨t, ht, hkt⟩ := ih h3 hd ((gbr_e hs).2 hx)
        refine ⟨t, ?_, hkt⟩
        rw [← ht]
        rw [lv_osw hx h1]
theorem gsw_lookup (hx : p.tables.exec = Jvm.exec) (hb : c.code = cc) {df : Int} {ps : Array (Int × Int)} {len : Nat} {x : Int32} {sw : List (Int32 × Nat)} (hd : decode cc pc = .ok (.lookupswitch df ps, len))
    (hok : (decide ((pc : Int) + df = (a : Int)) && (decide (sw.map (fun q => (q.1.toInt, (q.2 : Int))) = ps.toList.map (fun o => (o.1, (pc : Int) + o.2))) && (ps.toList.zip (ps.toList.drop 1)).all (fun (a, next) => a.1 < next.1))) = true)
    {kk : Nat → Prop} (h : gsw x sw a kk) (hk : ∀ t, kk t → W p l e R s m args below meth c H locs cells slots Q (F0 m t ls rest)) : W p l e R s m args below meth c H locs cells slots Q (F0 m pc ls (.int x :: rest)) := by
  simp only [Bool.and_eq_true, decide_eq_true_eq] at hok
  obtain ⟨h1, h2, h3⟩ := hok
  obtain ⟨t, ht, hkt⟩ := gsw_off h2 h1 h
  exact lv_lookup hx hb hd (by simpa using h3) rfl ht (hk t hkt)
end GZ
