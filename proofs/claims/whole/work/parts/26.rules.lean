-- RULES: cell 17 (count 5, rule 6), texts 18, names 19, stack 20; the text that is the rule: cell 41 + 2 ru, its steps cell 42 + 2 ru
theorem gobj_i {u : gS} {o a : Nat} {P : Prop} (h : u.2.1 o = .inl a) (hP : P) : gobj u o a P := by
  unfold gobj; rw [h]; show cond (Nat.beq a a) P False; rw [Nat.beq_refl]; exact hP
theorem garri_0 {u : gS} {o len : Nat} {i x : Int32} {P : Nat → Int32 → Prop} (h : u.2.1 o = .inr (0, len)) (hx : u.2.2.1 o i.toNatClampNeg = x) (hP : P len x) : garri u o i P := by
  unfold garri; rw [h]; show P len (u.2.2.1 o i.toNatClampNeg); rw [hx]; exact hP
theorem garrl_i {u : gS} {o len : Nat} {P : Nat → Prop} (h : u.2.1 o = .inr (0, len)) (hP : P len) : garrl u o P := by
  unfold garrl; rw [h]; exact hP
theorem gw_alen {C : List gI} {ca : Nat → List Value → List Nat → gS → Nat → Nat → (Nat → Nat → Option Value → gS → Prop) → Prop} {d : Nat} {ret : Option FieldType} {post : Option Value → gS → Prop} {mc ms : Nat} {S : List Nat} {K : Nat → Nat → Nat → gLv → List Value → gS → Prop} {f kc ks pc nx o len : Nat} {lv : gLv} {st : List Value} {u : gS} {abc : Nat × Nat × Nat} {v : Value} {sw : List (Int32 × Nat)} (hf : gfind C pc = some (nx, .arraylength, abc, v, sw)) (hs : u.2.1 o = .inr (0, len))
    (h : cond (S.elem nx) (K kc ks nx lv (.int (nI len) :: st) u) (gwp C ca d ret post mc ms S K f kc ks nx lv (.int (nI len) :: st) u)) : gwp C ca d ret post mc ms S K (f + 1) kc ks pc lv (.ref o :: st) u := by
  unfold gwp gstp
  rw [hf]
  exact garrl_i (P := fun len => cond (S.elem nx) (K kc ks nx lv (.int (nI len) :: st) u) (gwp C ca d ret post mc ms S K f kc ks nx lv (.int (nI len) :: st) u)) hs h
theorem gw_iald {C : List gI} {ca : Nat → List Value → List Nat → gS → Nat → Nat → (Nat → Nat → Option Value → gS → Prop) → Prop} {d : Nat} {ret : Option FieldType} {post : Option Value → gS → Prop} {mc ms : Nat} {S : List Nat} {K : Nat → Nat → Nat → gLv → List Value → gS → Prop} {f kc ks pc nx o len : Nat} {lv : gLv} {st : List Value} {u : gS} {abc : Nat × Nat × Nat} {v : Value} {sw : List (Int32 × Nat)} {i x : Int32} (hf : gfind C pc = some (nx, .iaload, abc, v, sw)) (hs : u.2.1 o = .inr (0, len)) (hv : vp_in i len) (hx : u.2.2.1 o i.toNatClampNeg = x)
    (h : cond (S.elem nx) (K kc ks nx lv (.int x :: st) u) (gwp C ca d ret post mc ms S K f kc ks nx lv (.int x :: st) u)) : gwp C ca d ret post mc ms S K (f + 1) kc ks pc lv (.int i :: .ref o :: st) u := by
  unfold gwp gstp
  rw [hf]
  exact garri_0 (P := fun len x => gsd (vp_in i len) (cond (S.elem nx) (K kc ks nx lv (.int x :: st) u) (gwp C ca d ret post mc ms S K f kc ks nx lv (.int x :: st) u))) hs hx (gsd_i hv h)
theorem blt_t {a b : Nat} (h : a < b) : Nat.blt a b = true := Nat.ble_eq_true_of_le h
theorem shX_text {c ru : Nat} {ln : Nat → Nat} (h : ru < c) (hc : c ≤ 6) : shX c ln (41 + 2 * ru) = .inl 7 := by
  have hb := blt_t h
  match ru, h, hb with
  | 0, _, hb => show cond (Nat.blt 0 c) _ _ = _; rw [hb]; rfl
  | 1, _, hb => show cond (Nat.blt 1 c) _ _ = _; rw [hb]; rfl
  | 2, _, hb => show cond (Nat.blt 2 c) _ _ = _; rw [hb]; rfl
  | 3, _, hb => show cond (Nat.blt 3 c) _ _ = _; rw [hb]; rfl
  | 4, _, hb => show cond (Nat.blt 4 c) _ _ = _; rw [hb]; rfl
  | 5, _, hb => show cond (Nat.blt 5 c) _ _ = _; rw [hb]; rfl
  | n + 6, h, _ => omega
theorem shX_steps {c ru : Nat} {ln : Nat → Nat} (h : ru < c) (hc : c ≤ 6) : shX c ln (42 + 2 * ru) = .inr (0, ln ru) := by
  have hb := blt_t h
  match ru, h, hb with
  | 0, _, hb => show cond (Nat.blt 0 c) _ _ = _; rw [hb]; rfl
  | 1, _, hb => show cond (Nat.blt 1 c) _ _ = _; rw [hb]; rfl
  | 2, _, hb => show cond (Nat.blt 2 c) _ _ = _; rw [hb]; rfl
  | 3, _, hb => show cond (Nat.blt 3 c) _ _ = _; rw [hb]; rfl
  | 4, _, hb => show cond (Nat.blt 4 c) _ _ = _; rw [hb]; rfl
  | 5, _, hb => show cond (Nat.blt 5 c) _ _ = _; rw [hb]; rfl
  | n + 6, h, _ => omega
theorem rX_text {c ru : Nat} (h : ru < c) : rX c 18 ru = some (41 + 2 * ru) := by
  show cond (Nat.blt ru c) _ _ = _; rw [blt_t h]; rfl
theorem rX_steps {c ru : Nat} (h : ru < c) (hc : c ≤ 6) : rX c (41 + 2 * ru) 0 = some (42 + 2 * ru) := by
  have hb := blt_t h
  match ru, h, hb with
  | 0, _, hb => show cond (Nat.blt 0 c) _ _ = _; rw [hb]; rfl
  | 1, _, hb => show cond (Nat.blt 1 c) _ _ = _; rw [hb]; rfl
  | 2, _, hb => show cond (Nat.blt 2 c) _ _ = _; rw [hb]; rfl
  | 3, _, hb => show cond (Nat.blt 3 c) _ _ = _; rw [hb]; rfl
  | 4, _, hb => show cond (Nat.blt 4 c) _ _ = _; rw [hb]; rfl
  | 5, _, hb => show cond (Nat.blt 5 c) _ _ = _; rw [hb]; rfl
  | n + 6, h, _ => omega
def jn (s a b : Int32) : Int32 := if s = -14 then (if a = 0 ∨ b = 0 then 0 else 1) else if s = -13 then (if a = b then 1 else 0) else if s = -12 then (if a < b then 1 else 0) else if s = -11 then a - b else if s = -10 then a + b else if s = -9 then a * b else (if a = 0 ∧ b = 0 then 0 else 1)
theorem c_joined (E : gEnv) (u : gS) (s a b : Int32) : gCtr E 2 0 0 nX3_joined [.int s, .int a, .int b] u (fun v u' => u' = u ∧ v = some (.int (jn s a b))) := by
  refine gstart iX3_joined tX3_joined rfl rfl (fun K ca hK hca => ?_)
  refine hK [] 80 _ _ _ _ _ _ ?_
  clear hK
  unfold jn
  repeat' first
    | refine gbr_i (fun _ => ?_) (fun _ => ?_)
    | fail
  all_goals refine ⟨rfl, congrArg (fun z => some (Value.int z)) ?_⟩
  all_goals clear hca
  all_goals simp_all
/-- one step of a text on a stack -/
def rstep (nm : Nat → Int32) (st : List Int32) (s : Int32) : List Int32 :=
  if -6 ≤ s then (if s < 0 then nm (-1 - s).toNatClampNeg else s) :: st
  else if -8 ≤ s then (match st with
    | [] => []
    | a :: r => (if s = -7 then -a else (if a = 0 then 1 else 0)) :: r)
  else (match st with
    | b :: a :: r => jn s a b :: r
    | st => st)
def rsm (ops nm : Nat → Int32) : Nat → Nat → List Int32 → List Int32
  | _, 0, st => st
  | i, m + 1, st => rsm ops nm (i + 1) m (rstep nm st (ops i))
/-- the steps from i on, m of them, are good on a stack of d -/
def rok (ops : Nat → Int32) : Nat → Nat → Nat → Prop
  | _, 0, d => d = 1
  | i, m + 1, d => if -6 ≤ ops i then d < 40 ∧ rok ops (i + 1) m (d + 1) else if -8 ≤ ops i then 0 < d ∧ rok ops (i + 1) m d else 1 < d ∧ rok ops (i + 1) m (d - 1)
/-- the stack's row: the top lies last -/
def stk (f : Nat → Int32) (st : List Int32) : Prop := ∀ j, j < st.length → f (st.length - 1 - j) = st.getD j 0
theorem stk_push {f : Nat → Int32} {st : List Int32} (h : stk f st) (x : Int32) : stk (gupd f st.length x) (x :: st) := by
  intro j hj
  simp only [List.length_cons] at hj ⊢
  cases j with
  | zero => rw [show st.length + 1 - 1 - 0 = st.length by omega, gupd_s]; rfl
  | succ j =>
    rw [show st.length + 1 - 1 - (j + 1) = st.length - 1 - j by omega, gupd_n (by omega), h j (by omega)]
    rfl
theorem stk_top {f : Nat → Int32} {a : Int32} {r : List Int32} (h : stk f (a :: r)) : f r.length = a := by
  have := h 0 (by simp)
  simpa using this
theorem stk_tail {f : Nat → Int32} {a : Int32} {r : List Int32} (h : stk f (a :: r)) : stk f r := by
  intro j hj
  have := h (j + 1) (by simp; omega)
  simp only [List.length_cons, show r.length + 1 - 1 - (j + 1) = r.length - 1 - j by omega] at this
  rw [this]; rfl
section
variable (E : gEnv) (c : Nat) (ln : Nat → Nat) (I : Nat → Nat → Int32) (L : Nat → Nat → Int64)
theorem c_from (ru : Nat) (hru : ru < c) (hc : c ≤ 6) (key : Int32) : gCtr E 1 0 0 nX7_from [.ref (41 + 2 * ru), .int key] (wX c ln I L) (fun v u' => u' = (wX c ln I L) ∧ v = some (.int (if key = 0 then 0 else if key = 1 then I (41 + 2 * ru) 1 else I (41 + 2 * ru) 2))) := by
  refine gstart iX7_from tX7_from rfl rfl (fun K ca hK hca => ?_)
  refine hK [] 80 _ _ _ _ _ _ ?_
  clear hK
  refine gbr_i (fun h => ⟨rfl, by rw [if_pos h]⟩) (fun h => ?_)
  rw [if_neg h]
  refine gbr_i (fun h2 => ?_) (fun h2 => ?_)
  · rw [if_pos h2]; exact gobj_i (shX_text hru hc) ⟨rfl, rfl⟩
  · rw [if_neg h2]; exact gobj_i (shX_text hru hc) ⟨rfl, rfl⟩
theorem c_to (ru : Nat) (hru : ru < c) (hc : c ≤ 6) (key : Int32) (hk : key = 0 ∨ key = 1 ∨ key = 2) : gCtr E 2 0 0 nX7_to [.ref (41 + 2 * ru), .int key] (wX c ln I L) (fun v u' => u' = (wX c ln I L) ∧ v = some (.int (if key = 2 then nI (ln ru) else if key = 0 then I (41 + 2 * ru) 1 else I (41 + 2 * ru) 2))) := by
  refine gstart iX7_to tX7_to rfl rfl (fun K ca hK hca => ?_)
  have hgf : ggf (wX c ln I L) 7 0 (41 + 2 * ru) = .ref (42 + 2 * ru) := by show va_rf (rX c (41 + 2 * ru) 0) = _; rw [rX_steps hru hc]; rfl
  refine hK [25] 40 _ _ _ _ _ _ ?_
  refine gbr_i (fun h => ?_) (fun h => ?_)
  · refine gobj_i (shX_text hru hc) ⟨rfl, ?_⟩
    rw [if_neg (by rw [h]; decide), if_pos h]
  · refine gbr_i (fun h2 => ?_) (fun h2 => ?_)
    · refine gobj_i (shX_text hru hc) ⟨rfl, ?_⟩
      rw [if_neg (by rw [h2]; decide), if_neg h]
    · refine gobj_i (shX_text hru hc) ?_
      show K 0 0 25 [some (.ref (41 + 2 * ru)), some (.int key)] [ggf (wX c ln I L) 7 0 (41 + 2 * ru)] (wX c ln I L)
      rw [hgf]
      refine hK [] 40 _ _ _ _ _ _ ?_
      refine gw_alen rfl (shX_steps hru hc) ?_
      refine ⟨rfl, ?_⟩
      rw [if_pos (by rcases hk with e | e | e; exact absurd e h; exact absurd e h2; exact e)]
/-- the steps of a key: from, to -/
def kfrom (I : Nat → Nat → Int32) (ru : Nat) (key : Int32) : Int32 := if key = 0 then 0 else if key = 1 then I (41 + 2 * ru) 1 else I (41 + 2 * ru) 2
def kto (I : Nat → Nat → Int32) (ln : Nat → Nat) (ru : Nat) (key : Int32) : Int32 := if key = 2 then nI (ln ru) else if key = 0 then I (41 + 2 * ru) 1 else I (41 + 2 * ru) 2
/-- the rule's text: its steps of each key are good -/
def ruleOk (I : Nat → Nat → Int32) (ln : Nat → Nat) (ru : Nat) : Prop := ln ru ≤ 160 ∧ ∀ key : Int32, key = 0 ∨ key = 1 ∨ key = 2 → ∃ a m, kfrom I ru key = nI a ∧ kto I ln ru key = nI (a + m) ∧ a + m ≤ ln ru ∧ rok (I (42 + 2 * ru)) a m 0
/-- what the rule says of a key, the names being nm -/
def evX (I : Nat → Nat → Int32) (ln : Nat → Nat) (ru : Nat) (key : Int32) (nm : Nat → Int32) : Int32 := (rsm (I (42 + 2 * ru)) nm (kfrom I ru key).toNatClampNeg ((kto I ln ru key).toNatClampNeg - (kfrom I ru key).toNatClampNeg) []).headD 0
theorem c_valueOf (ru : Nat) (hru : ru < c) (hc : c ≤ 6) (hrl : I 17 6 = nI ru) (hok : ruleOk I ln ru) (key : Int32) (hk : key = 0 ∨ key = 1 ∨ key = 2) : gCtr E 3 0 0 nX3_valueOf [.ref 17, .int key] (wX c ln I L) (fun v u' => (∃ f, u' = wX c ln (gset I 20 f) L) ∧ v = some (.int (evX I ln ru key (I 19)))) := by
  refine gstart iX3_valueOf tX3_valueOf rfl rfl (fun K ca hK hca => ?_)
  obtain ⟨h160, hseg⟩ := hok
  obtain ⟨a, m0, ha, hto, hle, hrok⟩ := hseg key hk
  have hev : evX I ln ru key (I 19) = (rsm (I (42 + 2 * ru)) (I 19) a m0 []).headD 0 := by
    unfold evX
    rw [ha, hto, nI_clamp (by omega), nI_clamp (by omega), show a + m0 - a = m0 by omega]
  have hcl17 : (I 17 6).toNatClampNeg = ru := by rw [hrl]; exact nI_clamp (by omega)
  have hgf : ∀ f : Nat → Int32, ggf (wX c ln (gset I 20 f) L) 7 0 (41 + 2 * ru) = .ref (42 + 2 * ru) := fun f => by show va_rf (rX c (41 + 2 * ru) 0) = _; rw [rX_steps hru hc]; rfl
  have loop : ∀ (m i : Nat) (st : List Int32) (f : Nat → Int32) (x6 x7 : Option Value), i + m = a + m0 → st.length ≤ 40 → stk f st → rok (I (42 + 2 * ru)) i m st.length → (rsm (I (42 + 2 * ru)) (I 19) i m st).headD 0 = evX I ln ru key (I 19) →
      K 0 0 32 [some (.ref 17), some (.int key), some (.ref (41 + 2 * ru)), some (.int (nI st.length)), some (.int (nI (a + m0))), some (.int (nI i)), x6, x7] [] (wX c ln (gset I 20 f) L) := by
    intro m
    induction m with
    | zero =>
      intro i st f x6 x7 hi hl hs hr he
      refine hK [32] 40 _ _ _ _ _ _ ?_
      refine gbr_lp rfl (by omega) (by omega) (fun _ => ?_) (fun z => by omega)
      refine gsd_i (by unfold vp_in; decide) ⟨⟨f, rfl⟩, ?_⟩
      rw [← he]
      have h1 : st.length = 1 := hr
      match st, h1 with
      | [y], _ => exact congrArg (fun z => some (Value.int z)) (stk_top hs)
    | succ m ih =>
      intro i st f x6 x7 hi hl hs hr he
      have hci : (nI i).toNatClampNeg = i := nI_clamp (by omega)
      refine hK [32, 43] 40 _ _ _ _ _ _ ?_
      refine gbr_lp rfl (by omega) (by omega) (fun e => by omega) (fun _ => ?_)
      refine gobj_i (shX_text hru hc) ?_
      show K 0 0 43 [some (.ref 17), some (.int key), some (.ref (41 + 2 * ru)), some (.int (nI st.length)), some (.int (nI (a + m0))), some (.int (nI i)), x6, x7] [ggf (wX c ln (gset I 20 f) L) 7 0 (41 + 2 * ru)] (wX c ln (gset I 20 f) L)
      rw [hgf f]
      refine hK [32, 45] 60 _ _ _ _ _ _ ?_
      show K 0 0 45 [some (.ref 17), some (.int key), some (.ref (41 + 2 * ru)), some (.int (nI st.length)), some (.int (nI (a + m0))), some (.int (nI i)), x6, x7] [.int (nI i), .ref (42 + 2 * ru)] (wX c ln (gset I 20 f) L)
      refine hK [32] 60 _ _ _ _ _ _ ?_
      refine gw_iald (x := I (42 + 2 * ru) i) rfl (shX_steps hru hc) (vp_in_nI (by omega) (by omega)) (by show gset I 20 f (42 + 2 * ru) (nI i).toNatClampNeg = _; rw [gset_n (by omega), hci]) ?_
      have he' : (rsm (I (42 + 2 * ru)) (I 19) (i + 1) m (rstep (I 19) st (I (42 + 2 * ru) i))).headD 0 = evX I ln ru key (I 19) := he
      have hr' : (if -6 ≤ I (42 + 2 * ru) i then st.length < 40 ∧ rok (I (42 + 2 * ru)) (i + 1) m (st.length + 1) else if -8 ≤ I (42 + 2 * ru) i then 0 < st.length ∧ rok (I (42 + 2 * ru)) (i + 1) m st.length else 1 < st.length ∧ rok (I (42 + 2 * ru)) (i + 1) m (st.length - 1)) := hr
      clear he hr hev hrok
      generalize I (42 + 2 * ru) i = s at he' hr'
      have hcs : (nI st.length).toNatClampNeg = st.length := nI_clamp (by omega)
      -- what every way comes to
      have go : ∀ (st2 : List Int32) (f2 : Nat → Int32), st2.length ≤ 40 → stk f2 st2 → rok (I (42 + 2 * ru)) (i + 1) m st2.length → (rsm (I (42 + 2 * ru)) (I 19) (i + 1) m st2).headD 0 = evX I ln ru key (I 19) → ∀ (j : Nat) (v : Int32) (x7 : Option Value), f2 = gupd f j v →
          K 0 0 32 [some (.ref 17), some (.int key), some (.ref (41 + 2 * ru)), some (.int (nI st2.length)), some (.int (nI (a + m0))), some (.int (nI i + 1)), some (.int s), x7] [] (wX c ln (gset (gset I 20 f) 20 (gupd (gset I 20 f 20) j v)) L) := by
        intro st2 f2 g1 g2 g3 g4 j v x7 g5
        have := ih (i + 1) st2 f2 (some (.int s)) x7 (by omega) g1 g2 g3 g4
        rw [g5, ← gss, ← nI_1] at this
        exact this
      refine gbr_i (fun h1 => ?_) (fun h1 => ?_)
      · have n6 : ¬ -6 ≤ s := by clear hca hK he' hr' go hgf ih; (simp only [Int32.lt_iff_toInt_lt, Int32.le_iff_toInt_le, ← Int32.toInt_inj, Int32.reduceToInt] at *; omega)
        rw [if_neg n6] at hr'
        refine gbr_i (fun h2 => ?_) (fun h2 => ?_)
        · have n8 : ¬ -8 ≤ s := by clear hca hK he' hr' go hgf ih; (simp only [Int32.lt_iff_toInt_lt, Int32.le_iff_toInt_le, ← Int32.toInt_inj, Int32.reduceToInt] at *; omega)
          rw [if_neg n8] at hr'
          match st, hr', he', hl, hs, hcs, go with
          | b :: y :: r, hr', he', hl, hs, hcs, go =>
            simp only [List.length_cons] at hl hr'
            have e1 : nI (r.length + 1 + 1) + -1 = nI (r.length + 1) := pk_m1 _
            have e2 : nI (r.length + 1 + 1) + -1 - 1 = nI r.length := by rw [e1]; exact nI_pred _
            have hce : (nI (r.length + 1 + 1) + -1 - 1).toNatClampNeg = r.length := by rw [e2]; exact nI_clamp (by omega)
            have hcd : (nI (r.length + 1 + 1) + -1).toNatClampNeg = r.length + 1 := by rw [e1]; exact nI_clamp (by omega)
            refine gbr_i (fun z => ?_) (fun _ => ?_)
            · exact absurd z (by rw [show (1 : Int32) = nI 1 from rfl]; exact nI_ge (a := 1) (b := r.length + 1 + 1) (by omega) (by omega))
            · refine gsd_i (gvp e2 (by omega) (by omega)) (gsd_i (gvp e1 (by omega) (by omega)) ?_)
              have r1 : f (nI (r.length + 1 + 1) + -1 - 1).toNatClampNeg = y := by rw [hce]; exact stk_top (stk_tail hs)
              have r2 : f (nI (r.length + 1 + 1) + -1).toNatClampNeg = b := by rw [hcd]; exact stk_top hs
              refine gcall0 hca (c_joined E _ s (f (nI (r.length + 1 + 1) + -1 - 1).toNatClampNeg) (f (nI (r.length + 1 + 1) + -1).toNatClampNeg)) rfl ?_
              rintro w u' - ⟨rfl, rfl⟩
              refine gsd_i (gvp e2 (by omega) (by omega)) ?_
              rw [r1, r2]
              have := go (jn s y b :: r) (gupd f r.length (jn s y b)) (by simp; omega) (stk_push (stk_tail (stk_tail hs)) _) hr'.2 (by
                have : rstep (I 19) (b :: y :: r) s = jn s y b :: r := by unfold rstep; rw [if_neg n6, if_neg n8]
                rw [this] at he'; exact he') (nI (r.length + 1 + 1) + -1 - 1).toNatClampNeg (jn s y b) x7 (by rw [hce])
              simp only [List.length_cons] at this
              rw [← e1] at this
              exact this
          | [], hr', _, _, _, _, _ => exact absurd hr'.1 (by simp)
          | [_], hr', _, _, _, _, _ => exact absurd hr'.1 (by simp)
        · have p8 : -8 ≤ s := by clear hca hK he' hr' go hgf ih; (simp only [Int32.lt_iff_toInt_lt, Int32.le_iff_toInt_le, ← Int32.toInt_inj, Int32.reduceToInt] at *; omega)
          rw [if_pos p8] at hr'
          match st, hr', he', hl, hs, hcs, go with
          | y :: r, hr', he', hl, hs, hcs, go =>
            simp only [List.length_cons] at hl hr'
            have e1 : nI (r.length + 1) - 1 = nI r.length := nI_pred _
            have hce : (nI (r.length + 1) - 1).toNatClampNeg = r.length := by rw [e1]; exact nI_clamp (by omega)
            have r1 : f (nI (r.length + 1) - 1).toNatClampNeg = y := by rw [hce]; exact stk_top hs
            refine gbr_i (fun z => ?_) (fun _ => ?_)
            · exact absurd z (nI_nle (n := r.length + 1) (by omega) (by omega))
            · refine gsd_i (gvp e1 (by omega) (by omega)) ?_
              refine gbr_i (fun h7 => ?_) (fun h7 => ?_)
              · refine gsd_i (gvp e1 (by omega) (by omega)) ?_
                have := go (-y :: r) (gupd f r.length (-y)) (by simp; omega) (stk_push (stk_tail hs) _) hr'.2 (by
                  have : rstep (I 19) (y :: r) s = -y :: r := by unfold rstep; rw [if_neg n6, if_pos p8]; simp only [if_pos h7]
                  rw [this] at he'; exact he') (nI (r.length + 1) - 1).toNatClampNeg (-(f (nI (r.length + 1) - 1).toNatClampNeg)) (some (.int (f (nI (r.length + 1) - 1).toNatClampNeg))) (by rw [hce, stk_top hs])
                exact this
              · have fin : ∀ t : Int32, t = (if y = 0 then 1 else 0) → K 0 0 32 [some (.ref 17), some (.int key), some (.ref (41 + 2 * ru)), some (.int (nI (r.length + 1))), some (.int (nI (a + m0))), some (.int (nI i + 1)), some (.int s), some (.int (f (nI (r.length + 1) - 1).toNatClampNeg))] [] (wX c ln (gset (gset I 20 f) 20 (gupd (gset I 20 f 20) (nI (r.length + 1) - 1).toNatClampNeg t)) L) := fun t ht => by
                  have := go ((if y = 0 then 1 else 0) :: r) (gupd f r.length (if y = 0 then 1 else 0)) (by simp; omega) (stk_push (stk_tail hs) _) hr'.2 (by
                    have : rstep (I 19) (y :: r) s = (if y = 0 then 1 else 0) :: r := by unfold rstep; rw [if_neg n6, if_pos p8]; simp only [if_neg h7]
                    rw [this] at he'; exact he') (nI (r.length + 1) - 1).toNatClampNeg t (some (.int (f (nI (r.length + 1) - 1).toNatClampNeg))) (by rw [hce, ht])
                  exact this
                refine gbr_i (fun h8 => ?_) (fun h8 => ?_)
                · refine gsd_i (gvp e1 (by omega) (by omega)) (fin _ ?_)
                  have h9 : y = 0 := by rw [← r1]; exact h8
                  rw [if_pos h9]
                · refine gsd_i (gvp e1 (by omega) (by omega)) (fin _ ?_)
                  have h9 : ¬ y = 0 := by rw [← r1]; exact h8
                  rw [if_neg h9]
          | [], hr', _, _, _, _, _ => exact absurd hr'.1 (by simp)
      · have p6 : -6 ≤ s := by clear hca hK he' hr' go hgf ih; (simp only [Int32.lt_iff_toInt_lt, Int32.le_iff_toInt_le, ← Int32.toInt_inj, Int32.reduceToInt] at *; omega)
        rw [if_pos p6] at hr'
        have hd40 : st.length < 40 := hr'.1
        have r0 : rstep (I 19) st s = (if s < 0 then I 19 (-1 - s).toNatClampNeg else s) :: st := by unfold rstep; rw [if_pos p6]
        rw [r0] at he'
        refine gbr_i (fun _ => ?_) (fun z => absurd (by rw [show (40 : Int32) = nI 40 from rfl]; exact nI_lt hd40 (by omega)) z)
        refine gbr_i (fun h3 => ?_) (fun h3 => ?_)
        · have hv6 : vp_in (-1 - s) 6 := by
            rw [vp_in_iff]
            have e : (-1 - s).toInt = -1 - s.toInt := by
              have hh : (-1 - s).toInt = ((-1 : Int32).toInt - s.toInt).bmod (2 ^ 32) := Int32.toInt_sub _ _
              rw [hh]
              simp only [Int32.lt_iff_toInt_lt, Int32.le_iff_toInt_le, Int32.reduceToInt] at h3 p6 ⊢
              rw [Int.bmod_eq_of_le (by omega) (by omega)]
            rw [e]
            clear hca hK he' hr' go hgf ih
            simp only [Int32.lt_iff_toInt_lt, Int32.le_iff_toInt_le, Int32.reduceToInt] at h3 p6
            omega
          rw [if_pos h3] at he'
          refine gsd_i hv6 (gsd_i (vp_in_nI hd40 (by omega)) ?_)
          have := go (I 19 (-1 - s).toNatClampNeg :: st) (gupd f st.length (I 19 (-1 - s).toNatClampNeg)) (by simp; omega) (stk_push hs _) hr'.2 he' (nI st.length).toNatClampNeg (I 19 (-1 - s).toNatClampNeg) x7 (by rw [hcs])
          simp only [List.length_cons] at this
          rw [← nI_1] at this
          exact this
        · rw [if_neg h3] at he'
          refine gsd_i (vp_in_nI hd40 (by omega)) ?_
          have := go (s :: st) (gupd f st.length s) (by simp; omega) (stk_push hs _) hr'.2 he' (nI st.length).toNatClampNeg s x7 (by rw [hcs])
          simp only [List.length_cons] at this
          rw [← nI_1] at this
          exact this
  refine hK [9] 60 _ _ _ _ _ _ ?_
  refine gsd_i (by show vp_in (I 17 6) 6; exact gvp hrl (by omega) (by omega)) ?_
  show K 0 0 9 [some (.ref 17), some (.int key), none, none, none, none, none, none] [va_rf (rX c 18 (I 17 6).toNatClampNeg)] (wX c ln I L)
  rw [hcl17, rX_text hru]
  refine hK [32] 60 _ _ _ _ _ _ ?_
  refine gobj_i (shX_text hru hc) (gcall0 hca (c_to E c ln I L ru hru hc key hk) rfl ?_)
  rintro w u' - ⟨rfl, rfl⟩
  refine gobj_i (shX_text hru hc) (gcall0 hca (c_from E c ln I L ru hru hc key) rfl ?_)
  rintro w u' - ⟨rfl, rfl⟩
  have := loop m0 a [] (I 20) none none rfl (by simp) (fun j hj => absurd hj (Nat.not_lt_zero j)) hrok hev.symm
  rw [gset_self, ← hto, ← ha] at this
  exact this
end
