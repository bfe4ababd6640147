-- the world behind a store, behind a new cell
theorem gE1_obj {cy : Nat → ClassId} {ad : Nat → Nat} {u : gS} {o a : Nat} (h : u.2.1 o = .inl a) : gE1 cy ad u o = .inr (a, gF ad u a o) := by unfold gE1; rw [h]
theorem gE1_arr {cy : Nat → ClassId} {ad : Nat → Nat} {u : gS} {o t len : Nat} (h : u.2.1 o = .inr (t, len)) : gE1 cy ad u o = .inl (cy t, gAr ad u t len o) := by unfold gE1; rw [h]
theorem gFx_inl {k a : Nat} (h : gFx k = .inl a) : a = 20 ∧ k < 1013 := by
  unfold gFx at h
  cases h1 : Nat.blt k 1013 with
  | true => rw [h1] at h; cases h; exact ⟨rfl, Nat.le_of_ble_eq_true h1⟩
  | false =>
    rw [h1] at h
    cases h2 : Nat.blt k 1100 <;> rw [h2] at h
    · cases h3 : Nat.blt k 1113 <;> rw [h3] at h
      · cases h4 : Nat.beq k 1200 <;> rw [h4] at h <;> cases h
      · cases h
    · cases h
theorem gFx_inr {k t len : Nat} (h : gFx k = .inr (t, len)) : t = 9 ∨ (t = 10 ∧ k = 1200) ∨ (t = 11 ∧ 1100 ≤ k ∧ k < 1113 ∧ len = gStrL.getD (k - 1100) 0) := by
  unfold gFx at h
  cases h1 : Nat.blt k 1013 with
  | true => rw [h1] at h; cases h
  | false =>
    rw [h1] at h
    cases h2 : Nat.blt k 1100 <;> rw [h2] at h
    · have hk : ¬ k < 1100 := fun z => by have := Nat.ble_eq_true_of_le (show k + 1 ≤ 1100 from z); rw [show Nat.blt k 1100 = Nat.ble (k + 1) 1100 from rfl, this] at h2; cases h2
      cases h3 : Nat.blt k 1113 <;> rw [h3] at h
      · cases h4 : Nat.beq k 1200 <;> rw [h4] at h
        · cases h; exact Or.inl rfl
        · cases h; exact Or.inr (Or.inl ⟨rfl, Nat.eq_of_beq_eq_true h4⟩)
      · cases h; exact Or.inr (Or.inr ⟨rfl, Nat.le_of_not_lt hk, Nat.le_of_ble_eq_true h3, rfl⟩)
    · cases h; exact Or.inl rfl
theorem gok.lt {u : gS} (h : gok u) {o a : Nat} (ha : a < 20) (ho : u.2.1 o = .inl a) : o < u.1 := by
  rcases Nat.lt_or_ge o u.1 with q | q
  · exact q
  · rcases Nat.lt_or_ge o 1000 with z | z
    · have := h.1.2.1 o q z
      rw [ho] at this
      cases this
    · have := h.1.2.2 o z
      rw [ho] at this
      have := (gFx_inl this.symm).1
      omega
theorem gok.lta {u : gS} (h : gok u) {o t len : Nat} (ht : t < 6) (ho : u.2.1 o = .inr (t, len)) : o < u.1 := by
  rcases Nat.lt_or_ge o u.1 with q | q
  · exact q
  · rcases Nat.lt_or_ge o 1000 with z | z
    · have := h.1.2.1 o q z
      rw [ho] at this
      cases this
      omega
    · have := h.1.2.2 o z
      rw [ho] at this
      have := gFx_inr this.symm
      omega
theorem gok.ge {u : gS} (h : gok u) {o : Nat} (ho : glive (u.2.1 o) = false) (hd : u.2.1 o ≠ .inr (9, 0)) : 1000 ≤ o ∧ u.2.1 o = gFx o := by
  rcases Nat.lt_or_ge o 1000 with z | z
  · rcases Nat.lt_or_ge o u.1 with q | q
    · rw [h.2.2 o q] at ho; cases ho
    · exact absurd (h.1.2.1 o q z) hd
  · exact ⟨z, h.1.2.2 o z⟩
theorem gok.str {u : gS} (h : gok u) {o : Nat} (ho : u.2.1 o = .inl 20) : 1000 ≤ o ∧ o < 1013 := by
  obtain ⟨h1, h2⟩ := h.ge (o := o) (by rw [ho]; rfl) (by rw [ho]; exact fun z => by cases z)
  rw [ho] at h2
  exact ⟨h1, (gFx_inl h2.symm).2⟩
theorem gok.und {u : gS} (h : gok u) {o len : Nat} (ho : u.2.1 o = .inr (10, len)) : o = 1200 := by
  obtain ⟨h1, h2⟩ := h.ge (o := o) (by rw [ho]; rfl) (by rw [ho]; exact fun z => by cases z)
  rw [ho] at h2
  have := gFx_inr h2.symm
  omega
theorem gok.byt {u : gS} (h : gok u) {o len : Nat} (ho : u.2.1 o = .inr (11, len)) : 1100 ≤ o ∧ o < 1113 ∧ len = gStrL.getD (o - 1100) 0 := by
  obtain ⟨h1, h2⟩ := h.ge (o := o) (by rw [ho]; rfl) (by rw [ho]; exact fun z => by cases z)
  rw [ho] at h2
  rcases gFx_inr h2.symm with q | q | q
  · omega
  · omega
  · exact q.2
theorem gWf_I {cy : Nat → ClassId} {ad : Nat → Nat} {n : Nat} {sh : Nat → gSh} {I : Nat → Nat → Int32} {L : Nat → Nat → Int64} {R : Nat → Nat → Option Nat} {o a b : Nat} {x : Int32} (ho : sh o = .inl a) (hb : b < gN a) (hk : gkd (gTy a b) = 0) :
    (gW cy ad (n, sh, I, L, R)).set o (ad o, .inr (a, (gF ad (n, sh, I, L, R) a o).set b (.int x))) = gW cy ad (n, sh, gset I o (gupd (I o) b x), L, R) := by
  refine gW_set rfl ?_ (fun k _ hne => gE1_I (gset_n hne))
  rw [gE1_obj (a := a) ho]
  congr 2
  refine (gF_set hb ?_ (fun i _ hi => gv_I (by rw [gset_s, gupd_n hi]))).symm
  rw [hk]
  show Value.int _ = Value.int _
  dsimp only
  rw [gset_s, gupd_s]
theorem gWf_L {cy : Nat → ClassId} {ad : Nat → Nat} {n : Nat} {sh : Nat → gSh} {I : Nat → Nat → Int32} {L : Nat → Nat → Int64} {R : Nat → Nat → Option Nat} {o a b : Nat} {x : Int64} (ho : sh o = .inl a) (hb : b < gN a) (hk : gkd (gTy a b) = 1) :
    (gW cy ad (n, sh, I, L, R)).set o (ad o, .inr (a, (gF ad (n, sh, I, L, R) a o).set b (.long x))) = gW cy ad (n, sh, I, gset L o (gupd (L o) b x), R) := by
  refine gW_set rfl ?_ (fun k _ hne => gE1_L (gset_n hne))
  rw [gE1_obj (a := a) ho]
  congr 2
  refine (gF_set hb ?_ (fun i _ hi => gv_L (by rw [gset_s, gupd_n hi]))).symm
  rw [hk]
  show Value.long _ = Value.long _
  dsimp only
  rw [gset_s, gupd_s]
theorem gWf_R {cy : Nat → ClassId} {ad : Nat → Nat} {n : Nat} {sh : Nat → gSh} {I : Nat → Nat → Int32} {L : Nat → Nat → Int64} {R : Nat → Nat → Option Nat} {o a b x : Nat} (ho : sh o = .inl a) (hb : b < gN a) (hk : gkd (gTy a b) = 2) :
    (gW cy ad (n, sh, I, L, R)).set o (ad o, .inr (a, (gF ad (n, sh, I, L, R) a o).set b (.ref (ad x)))) = gW cy ad (n, sh, I, L, gset R o (gupd (R o) b (some x))) := by
  refine gW_set rfl ?_ (fun k _ hne => gE1_R (gset_n hne))
  rw [gE1_obj (a := a) ho]
  congr 2
  refine (gF_set hb ?_ (fun i _ hi => gv_R (by rw [gset_s, gupd_n hi]))).symm
  rw [hk]
  show gcv ad (va_rf _) = _
  dsimp only
  rw [gset_s, gupd_s]
  rfl
theorem gWa_I {cy : Nat → ClassId} {ad : Nat → Nat} {n : Nat} {sh : Nat → gSh} {I : Nat → Nat → Int32} {L : Nat → Nat → Int64} {R : Nat → Nat → Option Nat} {o t len i : Nat} {x : Int32} (ho : sh o = .inr (t, len)) (ht : t = 0 ∨ t = 1 ∨ t = 3) :
    (gW cy ad (n, sh, I, L, R)).set o (ad o, .inl (cy t, len, .inl (upd (I o) i x))) = gW cy ad (n, sh, gset I o (gupd (I o) i x), L, R) := by
  refine gW_set rfl ?_ (fun k _ hne => gE1_I (gset_n hne))
  rw [gE1_arr (t := t) (len := len) ho, gupd_upd]
  rcases ht with rfl | rfl | rfl
  · show (Sum.inl (cy 0, len, Sum.inl (gset I o (gupd (I o) i x) o)) : va_E) = _
    rw [gset_s]
  · show (Sum.inl (cy 1, len, Sum.inl (gset I o (gupd (I o) i x) o)) : va_E) = _
    rw [gset_s]
  · show (Sum.inl (cy 3, len, Sum.inl (gset I o (gupd (I o) i x) o)) : va_E) = _
    rw [gset_s]
theorem gWa_L {cy : Nat → ClassId} {ad : Nat → Nat} {n : Nat} {sh : Nat → gSh} {I : Nat → Nat → Int32} {L : Nat → Nat → Int64} {R : Nat → Nat → Option Nat} {o len i : Nat} {x : Int64} (ho : sh o = .inr (2, len)) :
    (gW cy ad (n, sh, I, L, R)).set o (ad o, .inl (cy 2, len, .inr (.inl (vp_updL (L o) i x)))) = gW cy ad (n, sh, I, gset L o (gupd (L o) i x), R) := by
  refine gW_set rfl ?_ (fun k _ hne => gE1_L (gset_n hne))
  rw [gE1_arr (t := 2) (len := len) ho, gupd_updL]
  show (Sum.inl (cy 2, len, Sum.inr (Sum.inl (gset L o (gupd (L o) i x) o))) : va_E) = _
  rw [gset_s]
theorem gWa_R {cy : Nat → ClassId} {ad : Nat → Nat} {n : Nat} {sh : Nat → gSh} {I : Nat → Nat → Int32} {L : Nat → Nat → Int64} {R : Nat → Nat → Option Nat} {o t len i x : Nat} (ho : sh o = .inr (t, len)) (ht : t = 4 ∨ t = 5) :
    (gW cy ad (n, sh, I, L, R)).set o (ad o, .inl (cy t, len, .inr (.inr (.inr (.inr (va_up (fun j => (R o j).map ad) i (some (ad x)))))))) = gW cy ad (n, sh, I, L, gset R o (gupd (R o) i (some x))) := by
  refine gW_set rfl ?_ (fun k _ hne => gE1_R (gset_n hne))
  have hf : (fun j => (gupd (R o) i (some x) j).map ad) = va_up (fun j => (R o j).map ad) i (some (ad x)) := by
    funext j
    by_cases h : j = i
    · subst h; simp [va_up, gupd_s]
    · simp [va_up, h, gupd_n h]
  rw [gE1_arr (t := t) (len := len) ho]
  rcases ht with rfl | rfl
  · show (Sum.inl (cy 4, len, Sum.inr (Sum.inr (Sum.inr (Sum.inr (fun j => (gset R o (gupd (R o) i (some x)) o j).map ad))))) : va_E) = _
    rw [gset_s, hf]
  · show (Sum.inl (cy 5, len, Sum.inr (Sum.inr (Sum.inr (Sum.inr (fun j => (gset R o (gupd (R o) i (some x)) o j).map ad))))) : va_E) = _
    rw [gset_s, hf]
theorem gWc_I {cy : Nat → ClassId} {ad : Nat → Nat} {n : Nat} {sh : Nat → gSh} {I : Nat → Nat → Int32} {L : Nat → Nat → Int64} {R : Nat → Nat → Option Nat} {o len : Nat} {f : Nat → Int32} (ho : sh o = .inr (0, len)) :
    (gW cy ad (n, sh, I, L, R)).set o (ad o, .inl (cy 0, len, .inl f)) = gW cy ad (n, sh, gset I o f, L, R) := by
  refine gW_set rfl ?_ (fun k _ hne => gE1_I (gset_n hne))
  rw [gE1_arr (t := 0) (len := len) ho]
  show (Sum.inl (cy 0, len, Sum.inl (gset I o f o)) : va_E) = _
  rw [gset_s]
theorem gWc_L {cy : Nat → ClassId} {ad : Nat → Nat} {n : Nat} {sh : Nat → gSh} {I : Nat → Nat → Int32} {L : Nat → Nat → Int64} {R : Nat → Nat → Option Nat} {o len : Nat} {f : Nat → Int64} (ho : sh o = .inr (2, len)) :
    (gW cy ad (n, sh, I, L, R)).set o (ad o, .inl (cy 2, len, .inr (.inl f))) = gW cy ad (n, sh, I, gset L o f, R) := by
  refine gW_set rfl ?_ (fun k _ hne => gE1_L (gset_n hne))
  rw [gE1_arr (t := 2) (len := len) ho]
  show (Sum.inl (cy 2, len, Sum.inr (Sum.inl (gset L o f o))) : va_E) = _
  rw [gset_s]
/-- the world with one cell more -/
theorem gW_born {cy : Nat → ClassId} {ad : Nat → Nat} {u : gS} {x : gSh} {q : Nat} {w : va_E} (hok : gok u) (hlt : u.1 < 900) (hw : gE1 cy (gupd ad u.1 q) (gborn u x) u.1 = w) : gW cy ad u ++ [(q, w)] = gW cy (gupd ad u.1 q) (gborn u x) := by
  obtain ⟨n, sh, I, L, R⟩ := u
  dsimp only at hlt hw ⊢
  have hr : ∀ k j, (R k j).map (gupd ad n q) = (R k j).map ad := fun k j => by
    cases h : R k j with
    | none => rfl
    | some r =>
      have := hok.2.1 k j r h
      dsimp only at this
      simp only [Option.map_some]
      rw [gupd_n (by omega)]
  have hc : ∀ k j, gcv (gupd ad n q) (va_rf (R k j)) = gcv ad (va_rf (R k j)) := fun k j => by
    have := hr k j
    cases h : R k j with
    | none => rfl
    | some r => rw [h] at this; show Value.ref _ = Value.ref _; exact congrArg Value.ref (Option.some.inj this)
  have hold : ∀ k, k < n → gE1 cy (gupd ad n q) (gborn (n, sh, I, L, R) x) k = gE1 cy ad (n, sh, I, L, R) k := fun k hk => by
    have hne : k ≠ n := Nat.ne_of_lt hk
    unfold gE1 gborn
    dsimp only
    rw [gupd_n hne]
    cases sh k with
    | inl ci =>
      dsimp only
      congr 2
      unfold gF
      apply List.map_congr_left
      intro j _
      unfold gv
      dsimp only
      split
      · rw [gset_n hne]; rfl
      · rw [gset_n hne]; rfl
      · rw [gset_n hne]; exact hc k j
    | inr tl =>
      obtain ⟨t, len⟩ := tl
      dsimp only
      congr 2
      unfold gAr
      dsimp only
      congr 1
      split
      · rw [gset_n hne]
      · simp only [gset_n hne, hr]
      · simp only [gset_n hne, hr]
      · rw [gset_n hne]
  apply List.ext_getElem?
  intro k
  have hl : (gW cy ad (n, sh, I, L, R)).length = n := by simp [gW]
  by_cases hk : k < n
  · rw [List.getElem?_append_left (by rw [hl]; exact hk), gW_at (u := (n, sh, I, L, R)) hk, gW_at (u := gborn (n, sh, I, L, R) x) (show k < n + 1 by omega), hold k hk, gupd_n (Nat.ne_of_lt hk)]
  · rw [List.getElem?_append_right (by rw [hl]; omega), hl]
    by_cases hk2 : k = n
    · subst hk2
      rw [gW_at (u := gborn (k, sh, I, L, R) x) (show k < k + 1 by omega), hw, gupd_s]
      simp
    · rw [List.getElem?_eq_none_iff.mpr (by simp; omega), List.getElem?_eq_none_iff.mpr (by simp [gW, gborn]; omega)]
theorem gok_born {u : gS} {x : gSh} (h : gok u) (hlt : u.1 < 900) (hx : glive x = true) : gok (gborn u x) := by
  obtain ⟨n, sh, I, L, R⟩ := u
  dsimp only at hlt
  refine ⟨⟨hlt, fun k hk hk2 => ?_, fun k hk => ?_⟩, fun k j r hr => ?_, fun k hk => ?_⟩
  · have hk' : n + 1 ≤ k := hk
    show gupd sh n x k = _
    rw [gupd_n (by omega)]
    exact h.1.2.1 k (by show n ≤ k; omega) hk2
  · show gupd sh n x k = _
    rw [gupd_n (by omega)]
    exact h.1.2.2 k hk
  · have hr' : gset R n (fun _ => none) k j = some r := hr
    show r < n + 1 ∨ _
    by_cases hk : k = n
    · subst hk; rw [gset_s] at hr'; cases hr'
    · rw [gset_n hk] at hr'
      have := h.2.1 k j r hr'
      dsimp only at this
      omega
  · have hk' : k < n + 1 := hk
    show glive (gupd sh n x k) = true
    by_cases hkn : k = n
    · subst hkn; rw [gupd_s]; exact hx
    · rw [gupd_n hkn]; exact h.2.2 k (by show k < n; omega)
def gdv (kd : Nat) : Value := match kd with
  | 0 => .int 0
  | 1 => .long 0
  | _ => .null
theorem gdv_ok : ∀ ci, ci < 11 → ∀ j, j < gN ci → defaultValue (gTy ci j) = gdv (gkd (gTy ci j)) := by decide +kernel
theorem gF_born {ad : Nat → Nat} {u : gS} {x : gSh} {a : Nat} : gF ad (gborn u x) a u.1 = (List.range (gN a)).map (fun j => gdv (gkd (gTy a j))) := by
  obtain ⟨n, sh, I, L, R⟩ := u
  unfold gF
  apply List.map_congr_left
  intro j _
  generalize gkd (gTy a j) = kd
  match kd with
  | 0 => show Value.int (gset I n (fun _ => 0) n j) = _; rw [gset_s]; rfl
  | 1 => show Value.long (gset L n (fun _ => 0) n j) = _; rw [gset_s]; rfl
  | kd + 2 => show gcv ad (va_rf (gset R n (fun _ => none) n j)) = _; rw [gset_s]; rfl
theorem gci {a : Nat} {q : vw_C} (h : vwCl[a]? = some q) : a < 11 := by
  have := (List.getElem?_eq_some_iff.mp h).1
  simpa [vwCl] using this
-- the premises beside the words, moved
theorem gX.same {E : gEnv} {A : Nat → Prop} {u U : State} (hv : u.vm = U.vm) (hh : u.heap = U.heap) (h : gX E A u) : gX E A U := by
  obtain ⟨h1, ⟨h2, h2'⟩, ⟨h3, h4⟩, ⟨h5, h6⟩, h7, h8⟩ := h
  have hal : u.vm.Alike U.vm := by rw [hv]; exact Vm.Alike.refl U.vm
  rw [hh] at h3 h5 h6 h7 h8
  refine ⟨fun w hw => ?_, ⟨h2.moved hal, h2'.moved hal⟩, ⟨h3.moved hal, fun i q hq => vk_R.same hv.symm (h4 i q hq)⟩, ⟨h5.moved hal, h6.imp (fun z => z.moved hal) (fun z => z.moved hal)⟩, h7.moved hal, h8.moved hal⟩
  refine va_Nw.same ?_ hv (h1 w hw)
  revert w
  exact (by decide +kernel : ∀ w ∈ gNest, w.onTables = true)
theorem gX.go {E : gEnv} {A B : Nat → Prop} {s U : State} {H : Heap} {locs : List Loc} (h : gX E A s) (hW : s.WarmedH U.vm) (hH : U.heap = H) (hS : va_S A s.heap H locs) (hB : ∀ q, B q → A q) : gX E B U := by
  obtain ⟨h1, ⟨h2, h2'⟩, ⟨h3, h4⟩, ⟨h5, h6⟩, h7, h8⟩ := h
  have hal : s.vm.Alike U.vm := hW.alike
  rw [← hH] at hS
  have hq : ∀ a : Nat, a < s.heap.size → ¬ A a → U.heap[a]? = s.heap[a]? := hS.2.1
  refine ⟨fun w hw => ?_, ⟨h2.moved hal, h2'.moved hal⟩, ⟨((h3.kept hq).narrow hB).moved hal, fun i q hi => vk_R.warm hW (h4 i q hi)⟩, ⟨((h5.kept hq).narrow hB).moved hal, h6.imp (fun z => ((z.kept hq).narrow hB).moved hal) (fun z => ((z.kept hq).narrow hB).moved hal)⟩, ((h7.kept hq).narrow hB).moved hal, ((h8.kept hq).narrow hB).moved hal⟩
  have h9 := h1 w hw
  simp only [gNest, List.mem_cons, List.not_mem_nil, or_false] at hw
  rcases hw with rfl | rfl | rfl | rfl | rfl | rfl | rfl | rfl | rfl <;> exact va_Nw.warmM hW h9
