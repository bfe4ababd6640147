-- the model: text(), what the rule says
/-- what a good text leaves in the model -/
def mnewT (c n : Nat) (I I' : Nat → Nat → Int32) (c' : Nat) : Prop :=
  I' 0 3 = nI c' ∧ I' 0 6 = 0 ∧ (∀ j, j < n → I' 1 (160 * c + j) = I 3 j) ∧ (∀ p, p < 160 * c → I' 1 p = I 1 p) ∧ I' 2 = gupd (I 2) c (nI n) ∧ (∀ k, k ≠ 0 → k ≠ 1 → k ≠ 2 → I' k = I k) ∧ ∀ j, j ≠ 3 → j ≠ 6 → (j < 18 ∨ 26 < j) → I' 0 j = I 0 j
/-- n items of f lie in g from a on -/
def lay (g f : Nat → Int32) (a : Nat) : Nat → Nat → Int32
  | 0 => g
  | k + 1 => gupd (lay g f a k) (a + k) (f k)
theorem lay_in {g f : Nat → Int32} {a : Nat} : ∀ k j, j < k → lay g f a k (a + j) = f j := by
  intro k
  induction k with
  | zero => intro j h; exact absurd h (Nat.not_lt_zero _)
  | succ k ih =>
    intro j h
    show gupd (lay g f a k) (a + k) (f k) (a + j) = f j
    by_cases e : j = k
    · subst e; rw [gupd_s]
    · rw [gupd_n (by omega), ih j (by omega)]
theorem lay_lo {g f : Nat → Int32} {a : Nat} : ∀ k p, p < a → lay g f a k p = g p := by
  intro k
  induction k with
  | zero => intro p _; rfl
  | succ k ih =>
    intro p h
    show gupd (lay g f a k) (a + k) (f k) p = g p
    rw [gupd_n (by omega), ih p h]
def val (nm : Nat → Int32) (ops : List Int32) : Int32 := (rsl nm [] ops).headD 0
theorem VS_val {nm : Nat → Int32} {ops : List Int32} {w : Int32} (h : VS nm ops w) : val nm ops = w := by
  unfold val; rw [h []]; rfl
def tops (T : Tx) (key : Int32) : List Int32 := if key = 0 then T.2.1.1 else if key = 1 then T.2.1.2.1 else T.2.1.2.2
/-- what the rule says by its steps -/
def svT (T : Tx) (I : Nat → Nat → Int32) : Say := fun key r st t p => wthn (if key = 2 then 1 else 0) (val (nmF (I 10 r.toNatClampNeg) (shelt I t p) (I 2 t.toNatClampNeg) (I 3 t.toNatClampNeg) st (I 1 4 - t)) (tops T key)) 99
/-- nothing but what is read, and its names, has changed -/
def msf (I I' : Nat → Nat → Int32) (L L' : Nat → Nat → Int64) : Prop := (∀ k, k ≠ 0 → I' k = I k) ∧ (∀ j, (j < 18 ∨ 32 < j) → I' 0 j = I 0 j) ∧ (∀ k, k ≠ 0 → L' k = L k) ∧ ∀ j, j ≠ 22 → L' 0 j = L 0 j
theorem msf_refl (I : Nat → Nat → Int32) (L : Nat → Nat → Int64) : msf I I L L := ⟨fun _ _ => rfl, fun _ _ => rfl, fun _ _ => rfl, fun _ _ => rfl⟩
theorem msf_mqf {I J : Nat → Nat → Int32} {L M : Nat → Nat → Int64} (h : mqf I J L M) : msf I J L M := ⟨h.1, fun j hj => h.2.1 j (by omega), h.2.2.1, h.2.2.2⟩
theorem msf_trans {I J H : Nat → Nat → Int32} {L M N : Nat → Nat → Int64} (h1 : msf I J L M) (h2 : msf J H M N) : msf I H L N :=
  ⟨fun k a => (h2.1 k a).trans (h1.1 k a), fun j a => (h2.2.1 j a).trans (h1.2.1 j a), fun k a => (h2.2.2.1 k a).trans (h1.2.2.1 k a), fun j a => (h2.2.2.2 j a).trans (h1.2.2.2 j a)⟩
theorem mtl_msf {I J : Nat → Nat → Int32} {L M : Nat → Nat → Int64} {b : Nat → Int32} {x n : Nat} (h : mtl I b x n) (hf : msf I J L M) : mtl J b x n :=
  ⟨by rw [hf.1 2 (by decide)]; exact h.1, h.2.1, h.2.2.1, fun j hj => by rw [hf.1 1 (by decide)]; exact h.2.2.2 j hj⟩
section
variable (E : gEnv) (I : Nat → Nat → Int32) (L : Nat → Nat → Int64)
set_option maxRecDepth 4000 in
set_option maxHeartbeats 2000000 in
theorem m_text (c : Nat) (hc : c ≤ 6) (h3 : I 0 3 = nI c) (n : Nat) (hn : n ≤ 160) (h6 : I 0 6 = nI n) (hb : ∀ j, j < n → 0 ≤ I 3 j) : gCtr E 43 0 0 nX10_text [.ref 0] (wM I L) (fun v u' =>
    (c = 6 → v = some (.int (-4)) ∧ u' = (wM I L)) ∧
    (c ≤ 5 → (pTxt (lex (I 3) n)).1 = true → v = some (.int (nI c)) ∧ ∃ I' L', u' = wM I' L' ∧ mnewT c n I I' (c + 1) ∧ (∀ k, k ≠ 0 → L' k = L k) ∧ ∀ j, j ≠ 22 → L' 0 j = L 0 j) ∧
    (c ≤ 5 → ¬ (pTxt (lex (I 3) n)).1 = true → v = some (.int (-100 - nI (pTxt (lex (I 3) n)).2.2)) ∧ ∃ I' L', u' = wM I' L' ∧ mnewT c n I I' c ∧ (∀ k, k ≠ 0 → L' k = L k) ∧ ∀ j, j ≠ 22 → L' 0 j = L 0 j)) := by
  refine gstart iX10_text tX10_text rfl rfl (fun K ca hK hca => ?_)
  refine hK [14] 60 _ _ _ _ _ _ ?_
  refine gbr_eq (x := I 0 3) (y := 6) h3 (fun h => ?_) (fun h => ?_)
  · have : c = 6 := (nI_eq (b := 6) (by omega) (by omega)).mp h
    exact ⟨fun _ => ⟨rfl, rfl⟩, fun z => by omega, fun z => by omega⟩
  have hc5 : c ≤ 5 := by
    rcases Nat.lt_or_ge c 6 with q | q
    · omega
    · exact absurd (by rw [show c = 6 by omega]; rfl) h
  have e160 : (160 : Int32) * I 0 3 = nI (160 * c) := by rw [h3, show (160 : Int32) = nI 160 from rfl, pk_mul]
  have loop := gloop (P := fun i => K 0 0 14 [some (.ref 0), some (.int (nI i))] [] (wM (gset I 1 (lay (I 1) (I 3) (160 * c) i)) L)) (n := n) (by
    refine hK [14] 60 _ _ _ _ _ _ ?_
    refine gbr_lp (n := n) h6 (by omega) (Nat.le_refl _) (fun _ => ?_) (fun z => absurd z (Nat.lt_irrefl _))
    have hcc : (I 0 3).toNatClampNeg = c := by rw [h3]; exact nI_clamp (by omega)
    have hv : vp_in (I 0 3) 6 := by rw [h3]; exact vp_in_nI (by omega) (by omega)
    refine gsd_i hv ?_
    -- the text lies there
    obtain ⟨J, hJ⟩ : ∃ J, J = gset (gset (gset I 1 (lay (I 1) (I 3) (160 * c) n)) 2 (gupd (I 2) c (nI n))) 0 (gupd (I 0) 6 0) := ⟨_, rfl⟩
    have hJ2 : gset (gset (gset I 1 (lay (I 1) (I 3) (160 * c) n)) 2 (gupd (I 2) (I 0 3).toNatClampNeg (I 0 6))) 0 (gupd (I 0) 6 0) = J := by rw [hJ, hcc, h6]
    have ht : mtl J (I 3) c n := by
      rw [hJ]
      refine ⟨?_, hn, hc5, fun j hj => ⟨?_, hb j hj⟩⟩
      · show gupd (I 2) c (nI n) c = _
        rw [gupd_s]
      · show lay (I 1) (I 3) (160 * c) n (160 * c + j) = _
        exact lay_in n j hj
    have hrd := m_read E J L (I 3) c n (fun j => J 0 (27 + j)) ht (fun _ _ => rfl) 0
    have hJ3 : J 0 3 = nI c := by rw [hJ]; exact h3
    rw [← hJ3, ← hJ2] at hrd
    refine gcall0 hca hrd rfl ?_
    rintro _ u' - ⟨w, I', L', rfl, rfl, f1, gd, bd⟩
    rw [hJ2] at f1
    have base : ∀ I2 c', I2 0 3 = nI c' → (∀ j, j ≠ 3 → I2 0 j = I' 0 j) → (∀ k, k ≠ 0 → I2 k = I' k) → mnewT c n I I2 c' := by
      intro I2 c' e3 ej ek
      refine ⟨e3, ?_, fun j hj => ?_, fun p hp => ?_, ?_, fun k a1 a2 a3 => ?_, fun j a1 a2 a3 => ?_⟩
      · rw [ej 6 (by decide), f1.2.1 6 (by omega), hJ]; rfl
      · rw [ek 1 (by decide), f1.1 1 (by decide), hJ]
        show lay (I 1) (I 3) (160 * c) n (160 * c + j) = _
        exact lay_in n j hj
      · rw [ek 1 (by decide), f1.1 1 (by decide), hJ]
        show lay (I 1) (I 3) (160 * c) n p = _
        exact lay_lo n p hp
      · rw [ek 2 (by decide), f1.1 2 (by decide), hJ]; rfl
      · rw [ek k a1, f1.1 k a1, hJ, gset_n a1, gset_n a3, gset_n a2]
      · rw [ej j a1, f1.2.1 j a3, hJ]
        show gupd (I 0) 6 0 j = _
        rw [gupd_n a2]
    by_cases hg : (pTxt (lex (I 3) n)).1 = true
    · obtain ⟨c1, -⟩ := gd hg
      refine gbr_i (fun _ => ?_) (fun z => absurd c1 z)
      have i3 : I' 0 3 = nI c := by rw [f1.2.1 3 (by omega), hJ3]
      refine ⟨fun z => by omega, fun _ _ => ⟨?_, _, L', rfl, ?_, f1.2.2.1, f1.2.2.2⟩, fun _ z => absurd hg z⟩
      · show some (Value.int (I' 0 3 + 1 - 1)) = _
        rw [i3, nI_1, nI_pred]
      · refine base _ (c + 1) ?_ (fun j hj => ?_) (fun k hk => gset_n hk)
        · show I' 0 3 + 1 = _
          rw [i3, nI_1]
        · show gupd (I' 0) 3 (I' 0 3 + 1) j = _
          rw [gupd_n hj]
    · obtain ⟨c1, c2⟩ := bd hg
      refine gbad I' c1 ?_
      have i3 : I' 0 3 = nI c := by rw [f1.2.1 3 (by omega), hJ3]
      refine ⟨fun z => by omega, fun _ z => absurd z hg, fun _ _ => ⟨?_, I', L', rfl, base I' c i3 (fun _ _ => rfl) (fun _ _ => rfl), f1.2.2.1, f1.2.2.2⟩⟩
      show some (Value.int (-100 - I' 0 26)) = _
      rw [c2]) (by
    intro i hi ih
    have hci : (nI i).toNatClampNeg = i := nI_clamp (by omega)
    have e1 : (160 : Int32) * I 0 3 + nI i = nI (160 * c + i) := by rw [e160, nI_add]
    have hc1 : ((160 : Int32) * I 0 3 + nI i).toNatClampNeg = 160 * c + i := by rw [e1]; exact nI_clamp (by omega)
    have hv1 : vp_in ((160 : Int32) * I 0 3 + nI i) 960 := by rw [e1]; exact vp_in_nI (by omega) (by omega)
    refine hK [14] 60 _ _ _ _ _ _ ?_
    refine gbr_lp (n := n) h6 (by omega) (by omega) (fun e => by omega) (fun _ => ?_)
    refine gsd_i (vp_in_nI (by omega) (by omega)) (gsd_i hv1 ?_)
    rw [gss]
    have ih' : K 0 0 14 [some (.ref 0), some (.int (nI (i + 1)))] [] (wM (gset I 1 (gupd (lay (I 1) (I 3) (160 * c) i) (160 * c + i) (I 3 i))) L) := ih
    rw [← hc1, ← nI_1] at ih'
    have e3 : I 3 i = I 3 (nI i).toNatClampNeg := by rw [hci]
    rw [e3] at ih'
    exact ih')
  have := loop 0 (Nat.zero_le _)
  rw [show lay (I 1) (I 3) (160 * c) 0 = I 1 from rfl, gset_self] at this
  exact this
set_option maxRecDepth 4000 in
set_option maxHeartbeats 2000000 in
theorem m_saysOf (ru : Nat) (b : Nat → Int32) (n : Nat) (hru : I 0 4 = nI ru) (ht : mtl I b ru n) (hg : (pTxt (lex b n)).1 = true) (key r st t p : Int32) (hk : key = 0 ∨ key = 1 ∨ key = 2) (hr : vp_in r 12) (htv : vp_in t 40) :
    gCtr E 43 0 0 nX10_saysOf [.ref 0, .int r, .int t, .int p, .int st, .int key] (wM I L) (fun v u' => v = some (.int (svT (pTxt (lex b n)) (xv I) key r st t p)) ∧ ∃ I' L', u' = wM I' L' ∧ msf I I' L L') := by
  refine gstart iX10_saysOf tX10_saysOf rfl rfl (fun K ca hK hca => ?_)
  refine hK [40] 60 _ _ _ _ _ _ ?_
  -- behind the place
  have main : ∀ (J : Nat → Nat → Int32) (pl : Int32), pl = shelt (xv I) t p → msf I J L L → J 0 27 = I 11 r.toNatClampNeg → K 0 0 40 [some (.ref 0), some (.int r), some (.int t), some (.int p), some (.int st), some (.int key)] [.int pl, .ref 0] (wM J L) := by
    intro J pl hpl hf j27
    refine hK [79] 60 _ _ _ _ _ _ ?_
    refine gsd_i htv (gsd_i htv ?_)
    have fin : ∀ (J2 : Nat → Nat → Int32), msf I J2 L L → (∀ j, j < 6 → J2 0 (27 + j) = nmF (I 11 r.toNatClampNeg) (shelt (xv I) t p) (I 4 t.toNatClampNeg) (I 5 t.toNatClampNeg) st (I 0 11 - t) j) → K 0 0 79 [some (.ref 0), some (.int r), some (.int t), some (.int p), some (.int st), some (.int key)] [] (wM J2 L) := by
      intro J2 hf2 hnm
      have hrd := m_read E J2 L b ru n _ (mtl_msf ht hf2) hnm key
      have j4 : J2 0 4 = nI ru := by rw [hf2.2.1 4 (by omega), hru]
      rw [← j4] at hrd
      refine hK [] 60 _ _ _ _ _ _ ?_
      refine gcall0 hca hrd rfl ?_
      rintro _ u' - ⟨w, I', L', rfl, rfl, f1, gd, -⟩
      obtain ⟨-, w0, w1, w2, v0, v1, v2, hw⟩ := gd hg
      have hval : w = val (nmF (I 11 r.toNatClampNeg) (shelt (xv I) t p) (I 4 t.toNatClampNeg) (I 5 t.toNatClampNeg) st (I 0 11 - t)) (tops (pTxt (lex b n)) key) := by
        rw [hw]
        unfold tops
        rcases hk with rfl | rfl | rfl
        · exact (VS_val v0).symm
        · exact (VS_val v1).symm
        · exact (VS_val v2).symm
      have hf3 := msf_trans hf2 (msf_mqf f1)
      refine gbr_i (fun h2 => ?_) (fun h2 => ?_)
      · refine gcall0 hca (m_within E 1 w 99 (by decide) (wM I' L')) rfl ?_
        rintro _ u' - ⟨rfl, rfl⟩
        refine ⟨?_, I', L', rfl, hf3⟩
        unfold svT
        rw [if_pos h2, hval]
        rfl
      · refine gcall0 hca (m_within E 0 w 99 (by decide) (wM I' L')) rfl ?_
        rintro _ u' - ⟨rfl, rfl⟩
        refine ⟨?_, I', L', rfl, hf3⟩
        unfold svT
        rw [if_neg h2, hval]
        rfl
    refine fin _ ⟨fun k hk => ?_, fun j hj => ?_, fun _ _ => rfl, fun _ _ => rfl⟩ (fun j hj => ?_)
    · dsimp only
      rw [gset_n hk, gset_n hk, gset_n hk, gset_n hk, gset_n hk]
      exact hf.1 k hk
    · show gupd (gupd (gupd (gupd (gupd (J 0) 28 _) 29 _) 30 _) 31 _) 32 _ j = I 0 j
      rw [gupd_n (by omega), gupd_n (by omega), gupd_n (by omega), gupd_n (by omega), gupd_n (by omega)]
      exact hf.2.1 j hj
    · match j, hj with
      | 0, _ => exact j27
      | 1, _ => exact hpl
      | 2, _ => show J 4 t.toNatClampNeg = _; rw [hf.1 4 (by decide)]; rfl
      | 3, _ => show J 5 t.toNatClampNeg = _; rw [hf.1 5 (by decide)]; rfl
      | 4, _ => rfl
      | 5, _ => show J 0 11 - t = _; rw [hf.2.1 11 (by omega)]; rfl
  refine gsd_i hr ?_
  have hf27 : msf I (gset I 0 (gupd (I 0) 27 (I 11 r.toNatClampNeg))) L L := ⟨fun k hk => gset_n hk, fun j hj => by rw [gset_s, gupd_n (by omega)], fun _ _ => rfl, fun _ _ => rfl⟩
  refine gsd_i htv (gsd_i (by decide) ?_)
  refine gbr_i (fun h1 => ?_) (fun h1 => ?_)
  · have h1' : xv I 4 t.toNatClampNeg = 1 := h1
    refine gsd_i htv (gsd_i (by decide) ?_)
    refine gbr_i (fun h2 => ?_) (fun h2 => ?_)
    · have h2' : p < xv I 5 t.toNatClampNeg := h2
      refine main _ p ?_ hf27 rfl
      unfold shelt
      rw [if_neg (fun z => Int32.lt_irrefl (Int32.lt_of_lt_of_le h2' z.2))]
    · have h2' : ¬ p < xv I 5 t.toNatClampNeg := h2
      refine main _ 0 ?_ hf27 rfl
      unfold shelt
      rw [if_pos ⟨h1', Int32.not_lt.mp h2'⟩]
  · have h1' : ¬ xv I 4 t.toNatClampNeg = 1 := h1
    refine main _ p ?_ hf27 rfl
    unfold shelt
    rw [if_neg (fun z => h1' z.1)]
end
