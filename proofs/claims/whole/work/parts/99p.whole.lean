-- THE LAW, FROM ITS ENTRY
/-- a world of one object, all 0 -/
theorem gW_one {cy : Nat → ClassId} {ad : Nat → Nat} {sh : Nat → gSh} {R : Nat → Nat → Option Nat} {a : Nat} (hs : sh 0 = .inl a) (hR : ∀ j, R 0 j = none) : gW cy ad (0 + 1, sh, Zi, Zl, R) = [(ad 0, .inr (a, (List.range (gN a)).map (fun j => gdv (gkd (gTy a j)))))] := by
  show [(ad 0, gE1 cy ad (0 + 1, sh, Zi, Zl, R) 0)] = _
  rw [gE1_obj (a := a) hs]
  congr 4
  unfold gF
  apply List.map_congr_left
  intro j _
  generalize gkd (gTy a j) = kd
  match kd with
  | 0 => rfl
  | 1 => rfl
  | kd + 2 =>
    show gcv ad (va_rf (R 0 j)) = .null
    rw [hR j]
    rfl
theorem gok_one {s : Nat → gSh} {R : Nat → Nat → Option Nat} {a : Nat} (ha : a < 11) (hs : s 0 = .inl a) (hR : ∀ k j, R k j = none) : gok (0 + 1, shp s 0, Zi, Zl, R) := by
  refine ⟨⟨by show 0 + 1 ≤ 900; omega, fun k h1 h2 => ?_, fun k h1 => ?_⟩, fun k j r hr => ?_, fun k hk => ?_⟩
  · have h1 : 1 ≤ k := h1
    show shp s 0 k = _
    unfold shp
    rw [show Nat.ble k 0 = false from by
      cases hb : Nat.ble k 0 with
      | false => rfl
      | true => exact absurd (Nat.le_of_ble_eq_true hb) (by omega), show Nat.blt k 1000 = true from Nat.ble_eq_true_of_le h2]
    rfl
  · show shp s 0 k = _
    unfold shp
    rw [show Nat.ble k 0 = false from by
      cases hb : Nat.ble k 0 with
      | false => rfl
      | true => exact absurd (Nat.le_of_ble_eq_true hb) (by omega), show Nat.blt k 1000 = false from by
      cases hb : Nat.blt k 1000 with
      | false => rfl
      | true => exact absurd (Nat.le_of_ble_eq_true hb) (by omega)]
    rfl
  · have hr : R k j = some r := hr
    rw [hR] at hr
    cases hr
  · have hk : k < 0 + 1 := hk
    have : k = 0 := by omega
    subst this
    show glive (s 0) = true
    rw [hs]
    exact Nat.ble_eq_true_of_le ha
theorem rfp_0 : ∀ k f, rfp rM 0 k f = none := by
  intro k f
  unfold rfp
  by_cases e : k = 0
  · rw [if_pos e]
    cases h : rM 0 f with
    | none => rfl
    | some c =>
      have hc : 1 ≤ c := by
        unfold rM at h
        repeat' split at h
        all_goals first | (cases h; decide) | cases h
      show (if c ≤ 0 then some c else none) = none
      rw [if_neg (by omega)]
  · rw [if_neg e]
/-- a world of no cells -/
def wNo : gS := (0, fun k => cond (Nat.blt k 1000) (.inr (9, 0)) (gFx k), Zi, Zl, fun _ _ => none)
theorem gok_no : gok wNo := by
  refine ⟨⟨by show 0 ≤ 900; omega, fun k h1 h2 => ?_, fun k h1 => ?_⟩, fun k j r hr => ?_, fun k hk => absurd hk (Nat.not_lt_zero k)⟩
  · show cond (Nat.blt k 1000) (Sum.inr (9, 0)) (gFx k) = _
    rw [show Nat.blt k 1000 = true from Nat.ble_eq_true_of_le h2]
    rfl
  · show cond (Nat.blt k 1000) (Sum.inr (9, 0)) (gFx k) = _
    rw [show Nat.blt k 1000 = false from by
      cases hb : Nat.blt k 1000 with
      | false => rfl
      | true => exact absurd (Nat.le_of_ble_eq_true hb) (by omega)]
    rfl
  · cases hr
/-- where the one cell lies -/
def lwOne (E : gEnv) (q : Nat) : Nat → Nat := fun k => cond (Nat.blt k 1000) q (E.2.2.2 k)
theorem lwOne_0 {E : gEnv} {q : Nat} : lwOne E q 0 = q := rfl
theorem lwOne_k {E : gEnv} {q k : Nat} (h : 1000 ≤ k) : lwOne E q k = E.2.2.2 k := by
  unfold lwOne
  rw [show Nat.blt k 1000 = false from by
    cases hb : Nat.blt k 1000 with
    | false => rfl
    | true => exact absurd (Nat.le_of_ble_eq_true hb) (by omega)]
  rfl
section LZ
variable {E : gEnv} {p : Program} {e : Env} {s : State} {m : MethodId} {below : List Frame} {meth : Method} {c : Code} {b L : Nat} {xs : Nat → Int32} {H : Heap} {locs : List Loc} {kc ks pc : Nat} {ls : Array Slot} {Q : State → Prop}
/-- a constructor called -/
theorem lw_callI (hC : lwC E p s m meth c b L xs) {y index d1 mc1 ms1 : Nat} {q : gM} {u v : gS} {ad bd : Nat → Nat} {post : Option Value → gS → Prop} {rest : List Value}
    (hy : gMt[y]? = some q) (hkd : q.2.2.2.2.1 = 2) (hlink : Cond.methodLink R_law index q.1 ∈ gT) (hd : decode code pc = .ok (.invokespecial index, 3))
    (hctr : gCtr E d1 mc1 ms1 y [.ref 0] u post) (hd1 : d1 ≤ 100) (hn : 0 = q.2.2.2.2.2.1) (hls : ls.size = 4) (hrs : (rest.map fun v => v.category).sum ≤ 8) (hroom : kc + mc1 ≤ 600000 ∧ ks + ms1 ≤ 7302250)
    (h2 : lw2 E s.heap.size u v ad bd H) (hS : va_S (fun q => s.heap.size ≤ q) s.heap H locs)
    (kk : ∀ w u' ad' H' locs', post w u' → (∀ k, k < u.1 → ad' k = ad k) → u.1 ≤ u'.1 → lw2 E s.heap.size u' v ad' bd H' → va_S (fun q => s.heap.size ≤ q) s.heap H' locs' →
      W p E.1 e room_1 s m #[Value.ref b] below meth c H' locs' (kc + mc1) (ks + ms1) Q (F0 m (pc + 3) ls ((w.map (gcv ad')).toList ++ rest))) :
    W p E.1 e room_1 s m #[Value.ref b] below meth c H locs kc ks Q (F0 m pc ls (.ref (ad 0) :: rest)) := by
  obtain ⟨hx, hb, hr, hml, hown, hts0, hXs, hbl, hlocks, hgv⟩ := id hC.1
  have hts := lwC.ts hC
  obtain ⟨m1, m2, m3, m4, m5, m6, m7, m8⟩ := gMf hy
  obtain ⟨y1, y2, y3⟩ := m5 hkd
  have hPre : PreS s H (gPc E ad H.size [.ref 0] u) [.ref (ad 0)] := lw_pre (av := [.ref 0]) hC h2.1 hS
  have hw0 : gws q = Cond.code q.1 q.2.1 q.2.2.1 none :: gT := by unfold gws; rw [y3]
  have hrun := va_runI (rest := rest) (As := []) (b := ad 0) (g := F0 m pc ls (.ref (ad 0) :: rest)) (locs := locs) (cells := kc) (slots := ks) (R := room_1) (e := e) (below := below) (meth := meth) ⟨hx, hb, hml, hown, hts⟩ (hctr q hy ad H.size h2.1.2.2.2) (cwI q.2.2.2.2.2.1 hts (gGood (gGoodq hy)) hw0 rfl rfl (hts _ m2) (hts _ hlink) (hts _ y1) y2 ⟨m7.1, m7.2.1, m7.2.2⟩ ⟨by show d1 + 1 ≤ 2048; omega, by show 8 + (q.2.2.1 + 11) + 40 * d1 ≤ 84000; omega⟩) hPre rfl hn hls rfl (lv_room hrs) hd hroom
  exact lw_go hrun h2 hS kk
/-- a new object beside another world -/
theorem lw_new (hC : lwC E p s m meth c b L xs) {v : gS} {bd : Nat → Nat} {sh : Nat → gSh} {R : Nat → Nat → Option Nat} {ci index : Nat} {q : vw_C} {st : List Value} (hq : vwCl[ci]? = some q) (hs : sh 0 = .inl ci) (hR : ∀ k j, R k j = none) (hlink : Cond.classLink R_law index q.1 ∈ gT) (hinst : Cond.instantiable q.1 q.2.2 ∈ gT) (hini : Cond.initialized q.1 ∈ gT) (hd : decode code pc = .ok (.new index, 3)) (hroom : kc + 1 ≤ 600000 ∧ ks + q.2.2 ≤ 7302250)
    (h1 : va_P E.2.1 vwCl (gW E.2.2.1 bd v) H ∧ va_D (fun q => s.heap.size ≤ q) (gW E.2.2.1 bd v) ∧ gok v ∧ ∀ k, 1000 ≤ k → bd k = E.2.2.2 k) (hS : va_S (fun q => s.heap.size ≤ q) s.heap H locs)
    (kk : ∀ (a : Nat) (H1 : Heap), lw2 E s.heap.size (0 + 1, shp sh 0, Zi, Zl, R) v (lwOne E a) bd H1 → va_S (fun q => s.heap.size ≤ q) s.heap H1 locs → W p E.1 e room_1 s m #[Value.ref b] below meth c H1 locs (kc + 1) (ks + q.2.2) Q (F0 m (pc + 3) ls (.ref a :: st))) :
    W p E.1 e room_1 s m #[Value.ref b] below meth c H locs kc ks Q (F0 m pc ls st) := by
  obtain ⟨hx, hb, hr, hml, hown, hts0, hXs, hbl, hlocks, hgv⟩ := id hC.1
  have hts := lwC.ts hC
  obtain ⟨g1, g2, g3, g4⟩ := gcl hq
  obtain ⟨Cn, T, N⟩ := q
  dsimp only at g1 g2 g3 g4 hlink hinst hini hroom kk
  subst g1
  obtain ⟨a2, a3, a5, a0⟩ := h1
  refine va_new (ci := ci) (fs := (List.range (gN ci)).map (fun j => gdv (gkd (gTy ci j)))) (C := Cn) (T := T) (N := gN ci) hx hb hts g4 (gTy ci) g2 hown (hts _ hlink) (hts _ hinst) (hts _ hini) hC.2.1 a2 a3 hS (fun _ h => h) hq (fun j hj => ?_) hroom.1 hroom.2 hd (fun a H1 b1 b2 b3 => ?_)
  · rw [gdv_ok ci (gci hq) j hj]
    simp [vp_V, hj]
  · have hlen : (gW E.2.2.1 bd v).length = v.1 := by simp [gW]
    have hlast : (gW E.2.2.1 bd v ++ [(a, (.inr (ci, (List.range (gN ci)).map (fun j => gdv (gkd (gTy ci j)))) : va_E))])[v.1]? = some (a, .inr (ci, (List.range (gN ci)).map (fun j => gdv (gkd (gTy ci j))))) := by
      rw [List.getElem?_append_right (by rw [hlen]; exact Nat.le_refl _), hlen, Nat.sub_self]
      rfl
    have hold : ∀ k z, (gW E.2.2.1 bd v)[k]? = some z → (gW E.2.2.1 bd v ++ [(a, (.inr (ci, (List.range (gN ci)).map (fun j => gdv (gkd (gTy ci j)))) : va_E))])[k]? = some z := fun k z hz => by
      rw [List.getElem?_append_left (List.getElem?_eq_some_iff.mp hz).1]
      exact hz
    have hW := gW_one (cy := E.2.2.1) (ad := lwOne E a) (sh := shp sh 0) (R := R) (a := ci) hs (fun j => hR 0 j)
    refine kk a H1 ⟨⟨?_, ?_, gok_one (gci hq) hs hR, fun k hk => lwOne_k hk⟩, ⟨fun k z hz => b1 k z (hold k z hz), ⟨fun i j p q hp hq' => b2.1 i j p q (hold i p hp) (hold j q hq'), fun k z hz => b2.2 k z (hold k z hz)⟩, a5, a0⟩, ?_⟩ b3
    · rw [hW]
      intro k z hz
      have hk : k = 0 := by
        have := (List.getElem?_eq_some_iff.mp hz).1
        simp at this
        exact this
      subst hk
      cases hz
      exact b1 v.1 _ hlast
    · rw [hW]
      refine ⟨fun i j p q hp hq' _ => ?_, fun k z hz => ?_⟩
      · have := (List.getElem?_eq_some_iff.mp hp).1
        have h3 := (List.getElem?_eq_some_iff.mp hq').1
        simp at this h3
        omega
      · have hk : k = 0 := by
          have := (List.getElem?_eq_some_iff.mp hz).1
          simp at this
          exact this
        subst hk
        cases hz
        exact b2.2 v.1 _ hlast
    · intro i j hi hj ee
      have hi : i < 0 + 1 := hi
      have : i = 0 := by omega
      subst this
      have ee : a = bd j := ee
      have := b2.1 v.1 j _ _ hlast (hold j _ (gW_at hj)) ee
      omega
end LZ
set_option maxHeartbeats 4000000 in
/-- the law, from its entry -/
theorem whole_start {p : Program} {e : Env} {s : State} {m : MethodId} {below : List Frame} {meth : Method} {c : Code} (l : Launch) (hflags : l.flags = flags0) {b L : Nat} {xs : Nat → Int32} (hL : L ≤ 3072) (C0 : lw_At p s m meth c b L xs) : W p l e room_1 s m #[Value.ref b] below meth c s.heap [] 0 0 (lw_Z below #[Value.ref b] s) (entryFrame m ([Value.ref b] : List Value).toArray 4) := by
  obtain ⟨E, hE, hC⟩ := lw_env l C0
  subst hE
  obtain ⟨hx, hb, hr, hml, hown, hts, hXs, hbl, hlocks, hgv⟩ := id C0
  have hl := lv_entry ([.ref b]) (n := 4) (Nat.le_of_ble_eq_true rfl)
  rw [lg_entry_eq]
  generalize (lg_sl ([.ref b]) ++ List.replicate (4 - (lg_sl ([.ref b])).length) Slot.unset).toArray = ls at hl ⊢
  have hl : lv_has ls 4 [(0, .ref b)] := hl
  have hno : va_P E.2.1 vwCl (gW E.2.2.1 E.2.2.2 wNo) s.heap ∧ va_D (fun q => s.heap.size ≤ q) (gW E.2.2.1 E.2.2.2 wNo) ∧ gok wNo ∧ ∀ k, 1000 ≤ k → E.2.2.2 k = E.2.2.2 k := by
    refine ⟨fun k q h => ?_, ⟨fun i j p q h => ?_, fun k q h => ?_⟩, gok_no, fun _ _ => rfl⟩
    · have := (gW_lt h).1; exact absurd this (Nat.not_lt_zero _)
    · have := (gW_lt h).1; exact absurd this (Nat.not_lt_zero _)
    · have := (gW_lt h).1; exact absurd this (Nat.not_lt_zero _)
  refine lw_new hC (ci := 9) (q := (RX9, TX9, 9)) (sh := shX 0 ln0) (R := rfo 0) (v := wNo) (bd := E.2.2.2) rfl rfl (fun _ _ => rfl) (lwLk_ok _ (List.mem_of_getElem? (i := 62) rfl)) (lwLk_ok _ (List.mem_of_getElem? (i := 64) rfl)) (lwLk_ok _ (List.mem_of_getElem? (i := 66) rfl)) lwd_0 ⟨Nat.le_of_ble_eq_true rfl, Nat.le_of_ble_eq_true rfl⟩ hno va_S.rf (fun q1 H1 h2 hS => ?_)
  refine lv_dup hx hb lwd_3 rfl ?_
  refine lw_callI hC (u := wXe 0 0 Zi) (v := wNo) (ad := lwOne E q1) (bd := E.2.2.2) iX9_init rfl (lwLk_ok _ (List.mem_of_getElem? (i := 60) rfl)) lwd_4 (x_init E) (by decide) rfl hl.1 (rest := [.ref q1]) (show 1 + 0 ≤ 8 by decide) ⟨Nat.le_of_ble_eq_true rfl, Nat.le_of_ble_eq_true rfl⟩ h2 hS ?_
  rintro w u' ad H2 locs2 ⟨rfl, I', L', rfl, hnew⟩ hag hun h2x hS2
  have hq1 : ad 0 = q1 := hag 0 (by show 0 < 0 + 1; omega)
  refine lv_astore_n (lv' := [(1, .ref q1), (0, .ref b)]) hx hb lwd_7 rfl hl (by decide) rfl (fun ls hl => ?_)
  refine lw_new hC (ci := 10) (q := (RX10, TX10, 55)) (sh := shM) (R := rfp rM 0) (bd := ad) rfl rfl rfp_0 (lwLk_ok _ (List.mem_of_getElem? (i := 63) rfl)) (lwLk_ok _ (List.mem_of_getElem? (i := 65) rfl)) (lwLk_ok _ (List.mem_of_getElem? (i := 67) rfl)) lwd_8 ⟨Nat.le_of_ble_eq_true rfl, Nat.le_of_ble_eq_true rfl⟩ h2x.1 hS2 (fun q2 H3 h2y hS3 => ?_)
  refine lv_dup hx hb lwd_11 rfl ?_
  refine lw_callI hC (u := wMp 0) (ad := lwOne E q2) (bd := ad) iX10_init rfl (lwLk_ok _ (List.mem_of_getElem? (i := 61) rfl)) lwd_12 (m_init E) (by decide) rfl hl.1 (rest := [.ref q2]) (show 1 + 0 ≤ 8 by decide) ⟨Nat.le_of_ble_eq_true rfl, Nat.le_of_ble_eq_true rfl⟩ h2y hS3 ?_
  rintro w v' bd H4 locs4 ⟨rfl, rfl⟩ hagm hvn h2z hS4
  have hq2 : bd 0 = q2 := hagm 0 (by show 0 < 0 + 1; omega)
  refine lv_astore_n (lv' := [(2, .ref q2), (1, .ref q1), (0, .ref b)]) hx hb lwd_15 rfl hl (by decide) rfl (fun ls hl => ?_)
  refine lv_iconst (v := 0) hx hb lwd_16 (by decide) ?_
  refine lv_istore_n (lv' := [(3, .int 0), (2, .ref q2), (1, .ref q1), (0, .ref b)]) hx hb lwd_17 rfl hl (by decide) rfl (fun ls hl => ?_)
  refine W.widen (k := 100) (n := 10000) (Nat.le_of_ble_eq_true rfl) (Nat.le_of_ble_eq_true rfl) ?_
  refine lw_loop hC hL (q1 := q1) (q2 := q2) (fun H locs ls hS => ?_) L 0 100 10000 H4 locs4 ls (by omega) (by omega) (by omega) (by omega) (lv_sub hl [3, 2, 1, 0] rfl) ⟨1, _, I', L', iM, Zl, ad, bd, ⟨hq1, hq2⟩, h2z.swap, Rel_start hnew frT_len, relZ_start ?_⟩ hS4
  · refine lv_iconst (v := 1) hx hb lwd_1369 (by decide) ?_
    refine va_forget (fun q hq => hS.2.2 q hq) ?_
    exact lw_ret hx hb hr hlocks lwd_1370
  · rw [hnew.2.2.2.2.2.2 12 (by decide) (by decide)]
    rfl
