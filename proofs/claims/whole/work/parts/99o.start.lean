-- THE LAW'S START: the classes, the arrays' classes, Strings and statics as the Statement gives them
theorem lall {ws : List Cond} (h : ws.all (fun w => decide (w ∈ lw_tbl)) = true) : ∀ w ∈ ws, w ∈ lw_tbl := fun w hw => of_decide_eq_true (List.all_eq_true.mp h w hw)
def lwFl : List Cond := flatC (Jvm.Cond.and given_1 narrow_1)
theorem lfl {ws : List Cond} (h : ws.all (fun w => decide (w ∈ lwFl)) = true) : ∀ w ∈ ws, w ∈ lwFl := fun w hw => of_decide_eq_true (List.all_eq_true.mp h w hw)
theorem linst : ∀ q ∈ vwCl, Cond.instantiable q.1 q.2.2 ∈ lw_tbl := fun q hq => lall (ws := vwCl.map (fun q => Cond.instantiable q.1 q.2.2)) (by decide +kernel) _ (List.mem_map.mpr ⟨q, hq, rfl⟩)
def lwW : List Cond := [.arrayClass .int, .arrayClass .byte, .arrayClass .long, .arrayClass .boolean, .arrayOver (.object RX4), .arrayOver (.object RX7), .laysStatic "java/lang/String" "COMPACT_STRINGS" "Z", .initialized "java/lang/String", .laysStatic "jdk/internal/util/Preconditions" "SIOOBE_FORMATTER" "Ljava/util/function/BiFunction;", .initialized "jdk/internal/util/Preconditions", .laysStatic RX6 "UNDER" "[I", .initialized RX6] ++ gNest
theorem lwW_ok : ∀ w ∈ lwW, w ∈ lw_tbl := lall (by decide +kernel)
theorem lwNest : ∀ w ∈ gNest, w.onTables = true := by decide +kernel
def lwU : Term := .static RX6 "UNDER" "[I"
def lwG : List Cond := [.eq (.static "java/lang/String" "COMPACT_STRINGS" "Z") (.int 1), .isRef (.static "jdk/internal/util/Preconditions" "SIOOBE_FORMATTER" "Ljava/util/function/BiFunction;"), .arrayOf lwU .int, .eq (.length lwU) (.int 6)] ++ (List.range 6).map (fun j => .eq (.elem lwU (.int (Int32.ofNat j))) (.int (gUNDER j)))
theorem lwG_ok : ∀ w ∈ lwG, w ∈ lwFl := lfl (by decide +kernel)
def lwT (i : Nat) : Term := .string (gStr.getD i ("", 0, "", 0)).1 (gStr.getD i ("", 0, "", 0)).2.1
def lwS1 (i : Nat) : List Cond := [.exactly (lwT i) "java/lang/String", .eq (.field (lwT i) "java/lang/String" "coder" "B") (.int 0), .arrayOf (.field (lwT i) "java/lang/String" "value" "[B") .byte, .eq (.length (.field (lwT i) "java/lang/String" "value" "[B")) (.int (Int32.ofNat (gStrL.getD i 0)))]
def lwS2 (i : Nat) : List Cond := (List.range (gStrL.getD i 0)).map (fun j => .eq (.elem (.field (lwT i) "java/lang/String" "value" "[B") (.int (Int32.ofNat j))) (.int ((gStrB.getD i []).getD j 0)))
def lwSt (i : Nat) : List Cond := lwS1 i ++ lwS2 i ++ (List.range i).map (fun k => .not (.eq (lwT k) (lwT i)))
set_option maxRecDepth 100000 in
theorem lwSt_eq : (lwFl.drop 40).take 257 = (List.range 13).flatMap lwSt := by decide +kernel
theorem lwSt_ok {i : Nat} (hi : i < 13) {w : Cond} (h : w ∈ lwSt i) : w ∈ lwFl := by
  have h1 : w ∈ (List.range 13).flatMap lwSt := List.mem_flatMap.mpr ⟨i, List.mem_range.mpr hi, h⟩
  rw [← lwSt_eq] at h1
  exact List.mem_of_mem_drop (List.mem_of_mem_take h1)
theorem lwS1_ok : ∀ i, i < 13 → ∀ w ∈ lwS1 i, w ∈ lwFl := fun i hi w hw => lwSt_ok hi (List.mem_append_left _ (List.mem_append_left _ hw))
theorem lwS2_ok : ∀ i, i < 13 → ∀ w ∈ lwS2 i, w ∈ lwFl := fun i hi w hw => lwSt_ok hi (List.mem_append_left _ (List.mem_append_right _ hw))
theorem lwS3_ok : ∀ i, i < 13 → ∀ j, j < 13 → i ≠ j → Cond.not (.eq (lwT i) (lwT j)) ∈ lwFl ∨ Cond.not (.eq (lwT j) (lwT i)) ∈ lwFl := by
  intro i hi j hj hij
  rcases Nat.lt_or_ge i j with h | h
  · exact Or.inl (lwSt_ok hj (List.mem_append_right _ (List.mem_map.mpr ⟨i, List.mem_range.mpr h, rfl⟩)))
  · exact Or.inr (lwSt_ok hi (List.mem_append_right _ (List.mem_map.mpr ⟨j, List.mem_range.mpr (by omega), rfl⟩)))
theorem lwS4_ok : ∀ q ∈ gStr, Cond.stringRef q.1 q.2.1 q.2.2.1 ∈ lw_tbl := fun q hq => lall (ws := gStr.map (fun q => Cond.stringRef q.1 q.2.1 q.2.2.1)) (by decide +kernel) _ (List.mem_map.mpr ⟨q, hq, rfl⟩)
theorem lwS5_ok : ∀ i, i < 13 → gStrL.getD i 0 < 2 ^ 31 := by
  have : ∀ i : Fin 13, gStrL.getD i.val 0 < 2 ^ 31 := by decide
  exact fun i hi => this ⟨i, hi⟩
section LA
variable {s : State} {b : Nat}
theorem lw_arr (hts : ∀ w ∈ lw_tbl, w.before #[Value.ref b] s = true) : ∃ cy : Nat → ClassId, ∀ t, t < 6 → ArrOfT s (cy t) (gtc t) ∧ va_RA s (cy t) (gtc t) := by
  have one : ∀ t, t < 6 → ∃ cA : ClassId, ArrOfT s cA (gtc t) ∧ va_RA s cA (gtc t) := by
    intro t ht
    match t, ht with
    | 0, _ =>
      obtain ⟨cA, k, comp, h1, h2, h3⟩ := Cond.arrayClass_spec (hts _ (lwW_ok (.arrayClass .int) (List.mem_of_getElem? (i := 0) rfl)))
      exact ⟨cA, fun n z => ⟨fun k h => (by cases h), k, h2, comp, h3⟩, h1⟩
    | 1, _ =>
      obtain ⟨cA, k, comp, h1, h2, h3⟩ := Cond.arrayClass_spec (hts _ (lwW_ok (.arrayClass .byte) (List.mem_of_getElem? (i := 1) rfl)))
      exact ⟨cA, fun n z => ⟨fun k h => (by cases h), k, h2, comp, h3⟩, h1⟩
    | 2, _ =>
      obtain ⟨cA, k, comp, h1, h2, h3⟩ := Cond.arrayClass_spec (hts _ (lwW_ok (.arrayClass .long) (List.mem_of_getElem? (i := 2) rfl)))
      exact ⟨cA, fun n z => ⟨fun k h => (by cases h), k, h2, comp, h3⟩, h1⟩
    | 3, _ =>
      obtain ⟨cA, k, comp, h1, h2, h3⟩ := Cond.arrayClass_spec (hts _ (lwW_ok (.arrayClass .boolean) (List.mem_of_getElem? (i := 3) rfl)))
      exact ⟨cA, fun n z => ⟨fun k h => (by cases h), k, h2, comp, h3⟩, h1⟩
    | 4, _ =>
      obtain ⟨comp, cA, k, h1, h2, h3, h4, h5⟩ := Cond.arrayOver_spec (hts _ (lwW_ok (.arrayOver (.object RX4)) (List.mem_of_getElem? (i := 4) rfl)))
      exact ⟨cA, fun n z => ⟨fun k h => (by cases h), k, h3, comp, h4⟩, k, comp, h3, h4, h1, h5⟩
    | 5, _ =>
      obtain ⟨comp, cA, k, h1, h2, h3, h4, h5⟩ := Cond.arrayOver_spec (hts _ (lwW_ok (.arrayOver (.object RX7)) (List.mem_of_getElem? (i := 5) rfl)))
      exact ⟨cA, fun n z => ⟨fun k h => (by cases h), k, h3, comp, h4⟩, k, comp, h3, h4, h1, h5⟩
  obtain ⟨c0, -⟩ := one 0 (by decide)
  have all : ∀ t, ∃ cA : ClassId, t < 6 → ArrOfT s cA (gtc t) ∧ va_RA s cA (gtc t) := fun t => by
    by_cases ht : t < 6
    · obtain ⟨cA, h⟩ := one t ht
      exact ⟨cA, fun _ => h⟩
    · exact ⟨c0, fun h => absurd h ht⟩
  exact Classical.axiomOfChoice all
theorem lw_cls (hts : ∀ w ∈ lw_tbl, w.before #[Value.ref b] s = true) : ∃ D : va_G, ∀ (k : Nat) (q : vw_C), vwCl[k]? = some q → u_Kn s q.1 q.2.1 q.2.2 (D.1 k) (D.2 k) := by
  have one : ∀ (k : Nat) (q : vw_C), vwCl[k]? = some q → ∃ z : ClassId × (Nat → Nat), u_Kn s q.1 q.2.1 q.2.2 z.1 z.2 := fun k q h => by
    obtain ⟨cC, iS, hK⟩ := u_known (ws := gT) (args := #[Value.ref b]) (n := q.2.2) (fun w hw => hts w (List.mem_filter.mp hw).1) (gcl h).2.2.2 (hts _ (linst q (List.mem_of_getElem? h)))
    exact ⟨(cC, iS), hK⟩
  obtain ⟨z0, -⟩ := one 0 _ rfl
  have all : ∀ k : Nat, ∃ z : ClassId × (Nat → Nat), ∀ q : vw_C, vwCl[k]? = some q → u_Kn s q.1 q.2.1 q.2.2 z.1 z.2 := fun k => by
    cases h : vwCl[k]? with
    | none => exact ⟨z0, fun q hq => by cases hq⟩
    | some q =>
      obtain ⟨z, hz⟩ := one k q h
      exact ⟨z, fun q' hq => by cases hq; exact hz⟩
  obtain ⟨f, hf⟩ := Classical.axiomOfChoice all
  exact ⟨(fun k => (f k).1, fun k => (f k).2), fun k q h => hf k q h⟩
/-- where the fixed cells lie -/
def lwAd (adK adV : Nat → Nat) (tU tF k : Nat) : Nat := cond (Nat.blt k 1100) (adK (k - 1000)) (cond (Nat.blt k 1200) (adV (k - 1100)) (cond (Nat.beq k 1200) tU tF))
theorem lwAd_K {adK adV : Nat → Nat} {tU tF i : Nat} (h : i < 13) : lwAd adK adV tU tF (1000 + i) = adK i := by
  unfold lwAd
  rw [show Nat.blt (1000 + i) 1100 = true from Nat.ble_eq_true_of_le (by omega)]
  show adK (1000 + i - 1000) = _
  rw [show 1000 + i - 1000 = i by omega]
theorem lwAd_V {adK adV : Nat → Nat} {tU tF i : Nat} (h : i < 13) : lwAd adK adV tU tF (1100 + i) = adV i := by
  unfold lwAd
  rw [show Nat.blt (1100 + i) 1100 = false from by
    cases hb : Nat.blt (1100 + i) 1100 with
    | false => rfl
    | true => exact absurd (Nat.le_of_ble_eq_true hb) (by omega), show Nat.blt (1100 + i) 1200 = true from Nat.ble_eq_true_of_le (by omega)]
  show adV (1100 + i - 1100) = _
  rw [show 1100 + i - 1100 = i by omega]
theorem lw_env (l : Launch) {p : Program} {m : MethodId} {meth : Method} {c : Code} {L : Nat} {xs : Nat → Int32} (C0 : lw_At p s m meth c b L xs) : ∃ E : gEnv, E.1 = l ∧ lwC E p s m meth c b L xs := by
  obtain ⟨hx, hb, hr, hml, hown, hts, hXs, hbl, hlocks, hgv⟩ := id C0
  have hfl : ∀ w ∈ lwFl, w.before #[Value.ref b] s = true := flat_of_before _ hgv
  have hA : ∀ a : Nat, a < s.heap.size → ¬ (fun q => s.heap.size ≤ q) a := fun a h => Nat.not_le.mpr h
  obtain ⟨D, hD⟩ := lw_cls hts
  obtain ⟨cy, hcy⟩ := lw_arr hts
  have hw : ∀ (i : Nat) (w : Cond), lwW[i]? = some w → w.before #[Value.ref b] s = true := fun i w h => hts w (lwW_ok w (List.mem_of_getElem? h))
  have hg : ∀ (i : Nat) (w : Cond), lwG[i]? = some w → w.before #[Value.ref b] s = true := fun i w h => hfl w (lwG_ok w (List.mem_of_getElem? h))
  obtain ⟨adK, adV, hS, hSe⟩ := vk_Sof (args := #[Value.ref b]) (s := s) (N := 13) (tm := lwT) (len := gStrL) (byt := gStrB) (A := fun q => s.heap.size ≤ q) lwS5_ok
    (fun i hi => hfl _ (lwS1_ok i hi _ (List.mem_of_getElem? (i := 0) rfl))) (fun i hi => hfl _ (lwS1_ok i hi _ (List.mem_of_getElem? (i := 1) rfl)))
    (fun i hi => hfl _ (lwS1_ok i hi _ (List.mem_of_getElem? (i := 2) rfl))) (fun i hi => hfl _ (lwS1_ok i hi _ (List.mem_of_getElem? (i := 3) rfl)))
    (fun i hi j hj => hfl _ (lwS2_ok i hi _ (List.mem_map.mpr ⟨j, List.mem_range.mpr hj, rfl⟩)))
    (fun i j hi hj hij => (lwS3_ok i hi j hj hij).imp (fun h => hfl _ h) (fun h => hfl _ h)) hA
  have hF := va_Zqof (A := fun q => s.heap.size ≤ q) (hw 8 _ rfl) (hw 9 _ rfl) (hg 1 _ rfl) hA
  obtain ⟨tU, hU, hUT⟩ := va_Tof (args := #[Value.ref b]) (s := s) (tm := lwU) (ty := .int) (N := 6) (f := fun j => .int (gUNDER j)) (A := fun q => s.heap.size ≤ q) (by decide) (hg 2 _ rfl) (va_eqt (hg 3 _ rfl)) (fun j hj => va_eqt (hfl _ (lwG_ok _ (List.mem_append_right _ (List.mem_map.mpr ⟨j, List.mem_range.mpr hj, rfl⟩))))) hA
  obtain ⟨tF, hF⟩ : ∃ tF : Nat, va_Z "jdk/internal/util/Preconditions" "SIOOBE_FORMATTER" "Ljava/util/function/BiFunction;" .null (fun q => s.heap.size ≤ q) s s.heap ∨ va_Z "jdk/internal/util/Preconditions" "SIOOBE_FORMATTER" "Ljava/util/function/BiFunction;" (.ref tF) (fun q => s.heap.size ≤ q) s s.heap := by
    rcases hF with h | ⟨t, h⟩
    · exact ⟨0, Or.inl h⟩
    · exact ⟨t, Or.inr h⟩
  refine ⟨(l, D, cy, lwAd adK adV tU tF), rfl, C0, ⟨hD, fun k q h => ?_⟩, fun w hwn => ?_, ⟨?_, ?_⟩, ⟨⟨fun i hi => ?_, fun i j hi hj e => ?_⟩, fun i q hq => ?_⟩, ⟨?_, hF⟩, ?_, hUT⟩
  · have hk : k < 6 := by
      have := (List.getElem?_eq_some_iff.mp h).1
      simpa [gty] using this
    rw [gty_at hk] at h
    cases h
    exact hcy k hk
  · exact va_Nw.of (lwNest w hwn) (hts w (lwW_ok w (List.mem_append_right _ hwn)))
  · exact va_AO.of (hw 4 _ rfl)
  · exact va_AO.of (hw 5 _ rfl)
  · have e1 : (fun i => ((l, D, cy, lwAd adK adV tU tF) : gEnv).2.2.2 (1000 + i)) i = adK i := lwAd_K hi
    have e2 : (fun i => ((l, D, cy, lwAd adK adV tU tF) : gEnv).2.2.2 (1100 + i)) i = adV i := lwAd_V hi
    rw [e1, e2]
    exact hS.1 i hi
  · have e' : lwAd adK adV tU tF (1000 + i) = lwAd adK adV tU tF (1000 + j) := e
    rw [lwAd_K hi, lwAd_K hj] at e'
    exact hS.2 i j hi hj e'
  · have hi : i < 13 := (List.getElem?_eq_some_iff.mp hq).1
    show vk_R q.1 q.2.1 q.2.2.1 (lwAd adK adV tU tF (1000 + i)) s
    rw [lwAd_K hi]
    have he := hSe i hi
    unfold lwT at he
    rw [List.getD_eq_getElem?_getD, hq] at he
    exact vk_R.of (hts _ (lwS4_ok q (List.mem_of_getElem? hq))) he
  · exact va_Zof (hw 6 _ rfl) (hw 7 _ rfl) (va_eqi (hg 0 _ rfl)) hA
  · exact va_Zref (hw 10 _ rfl) (hw 11 _ rfl) hU hA
end LA
