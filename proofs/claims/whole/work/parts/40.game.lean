-- games
def rsi (f : Nat → Int32) (n ch : Nat) : Nat → Int32
  | 0 => 1
  | i + 1 => rsi f n ch i &&& (if f ((ch ^^^ (1 <<< i)) * n + i) ≤ f (ch * n + i) then 1 else 0)
def rso (f : Nat → Int32) (n : Nat) : Nat → Int32
  | 0 => 0
  | ch + 1 => if rsi f n ch n = 0 then rso f n ch else rso f n ch ||| (1 <<< (nI ch &&& 31))
def gsm (f : Nat → Int32) (n ch : Nat) : Nat → Int64
  | 0 => 0
  | i + 1 => gsm f n ch i + (f (ch * n + i)).toInt64
def gdo (f : Nat → Int32) (n : Nat) : Nat → Int32 × Int64
  | 0 => (-1, 0)
  | ch + 1 => if (gdo f n ch).1 = -1 ∨ ¬ lg_cmp (gsm f n ch n) (gdo f n ch).2 ≤ 0 then (nI ch, gsm f n ch n) else gdo f n ch
theorem rsi_0 {f : Nat → Int32} {n ch i : Nat} (h : rsi f n ch i = 0) : ∀ m, i ≤ m → rsi f n ch m = 0 := by
  intro m hm
  obtain ⟨d, rfl⟩ : ∃ d, m = i + d := ⟨m - i, by omega⟩
  clear hm
  induction d with
  | zero => exact h
  | succ d ih =>
    show rsi f n ch (i + d) &&& (if f ((ch ^^^ (1 <<< (i + d))) * n + (i + d)) ≤ f (ch * n + (i + d)) then 1 else 0) = 0
    rw [ih]; exact Int32.zero_and
theorem xr8 : ∀ ch, ch < 8 → ∀ i, i < 3 → nI ch ^^^ ((1 : Int32) <<< (nI i &&& 31)) = nI (ch ^^^ (1 <<< i)) ∧ ch ^^^ (1 <<< i) < 8 := by decide +kernel
theorem gmI {n ch i : Nat} (hn : n = 2 ∨ n = 3) (hc : ch < 8) (hi : i < n) : (nI ch * nI n + nI i).toNatClampNeg = ch * n + i ∧ vp_in (nI ch * nI n + nI i) 40 := by
  rw [pk_mul, nI_add]
  have : ch * n + i < 40 := by rcases hn with rfl | rfl <;> omega
  exact ⟨nI_clamp (by omega), vp_in_nI this (by omega)⟩
theorem gmO {n ch i : Nat} (hn : n = 2 ∨ n = 3) (hc : ch < 8) (hi : i < n) : ((nI ch ^^^ ((1 : Int32) <<< (nI i &&& 31))) * nI n + nI i).toNatClampNeg = (ch ^^^ (1 <<< i)) * n + i ∧ vp_in ((nI ch ^^^ ((1 : Int32) <<< (nI i &&& 31))) * nI n + nI i) 40 := by
  obtain ⟨h1, h2⟩ := xr8 ch hc i (by omega)
  rw [h1]
  exact gmI hn h2 hi
theorem shl2 {n : Nat} (hn : n = 2 ∨ n = 3) : (1 : Int32) <<< (nI n &&& 31) = nI (2 ^ n) := by rcases hn with rfl | rfl <;> decide
section
variable (E : gEnv) (c : Nat) (ln : Nat → Nat) (I : Nat → Nat → Int32) (L : Nat → Nat → Int64)
set_option maxHeartbeats 2000000 in
theorem c_isRest (k : Nat) (hk : k = 33 ∨ k = 35 ∨ k = 37 ∨ k = 39) (n ch : Nat) (hn : n = 2 ∨ n = 3) (hch : ch < 8) : gCtr E 1 0 0 nX9_isRest [.ref k, .int (nI n), .int (nI ch)] (wX c ln I L) (fun v u' => u' = (wX c ln I L) ∧ v = some (.int (rsi (I (k + 1)) n ch n))) := by
  rcases hk with rfl | rfl | rfl | rfl
  · refine gstart iX9_isRest tX9_isRest rfl rfl (fun K ca hK hca => ?_)
    have loop := gloop (P := fun i => rsi (I 34) n ch i = 1 → ∀ x4, K 0 0 2 [some (.ref 33), some (.int (nI n)), some (.int (nI ch)), some (.int (nI i)), x4] [] (wX c ln I L)) (n := n) (by
      intro h1 x4
      refine hK [2] 60 _ _ _ _ _ _ ?_
      exact gbr_lp rfl (by omega) (Nat.le_refl _) (fun _ => gsd_i (Or.inr rfl) ⟨rfl, by rw [h1]⟩) (fun z => absurd z (Nat.lt_irrefl _))) (by
      intro i hi ih h1 x4
      obtain ⟨q1, q2⟩ := gmI (n := n) (ch := ch) (i := i) hn (by omega) hi
      obtain ⟨q3, q4⟩ := gmO (n := n) (ch := ch) (i := i) hn (by omega) hi
      refine hK [2] 60 _ _ _ _ _ _ ?_
      refine gbr_lp rfl (by omega) (by omega) (fun e => by omega) (fun _ => ?_)
      refine gsd_i q4 (gsd_i q2 ?_)
      refine gbr_i (fun h => ?_) (fun h => ?_)
      · have h' : (I 34) ((nI ch ^^^ ((1 : Int32) <<< (nI i &&& 31))) * nI n + nI i).toNatClampNeg ≤ (I 34) (nI ch * nI n + nI i).toNatClampNeg := h
        rw [q1, q3] at h'
        have ih' := ih (by
          show rsi (I 34) n ch i &&& (if (I 34) ((ch ^^^ (1 <<< i)) * n + i) ≤ (I 34) (ch * n + i) then 1 else 0) = 1
          rw [if_pos h', h1]; rfl) (some (.int (nI ch ^^^ ((1 : Int32) <<< (nI i &&& 31)))))
        rw [← nI_1] at ih'
        exact ih'
      · have h' : ¬ (I 34) ((nI ch ^^^ ((1 : Int32) <<< (nI i &&& 31))) * nI n + nI i).toNatClampNeg ≤ (I 34) (nI ch * nI n + nI i).toNatClampNeg := h
        rw [q1, q3] at h'
        have h0 : rsi (I 34) n ch (i + 1) = 0 := by
          show rsi (I 34) n ch i &&& (if (I 34) ((ch ^^^ (1 <<< i)) * n + i) ≤ (I 34) (ch * n + i) then 1 else 0) = 0
          rw [if_neg h', h1]; rfl
        exact gsd_i (Or.inl rfl) ⟨rfl, by rw [rsi_0 h0 n hi]⟩)
    refine hK [2] 60 _ _ _ _ _ _ ?_
    exact loop 0 (Nat.zero_le _) rfl none
  · refine gstart iX9_isRest tX9_isRest rfl rfl (fun K ca hK hca => ?_)
    have loop := gloop (P := fun i => rsi (I 36) n ch i = 1 → ∀ x4, K 0 0 2 [some (.ref 35), some (.int (nI n)), some (.int (nI ch)), some (.int (nI i)), x4] [] (wX c ln I L)) (n := n) (by
      intro h1 x4
      refine hK [2] 60 _ _ _ _ _ _ ?_
      exact gbr_lp rfl (by omega) (Nat.le_refl _) (fun _ => gsd_i (Or.inr rfl) ⟨rfl, by rw [h1]⟩) (fun z => absurd z (Nat.lt_irrefl _))) (by
      intro i hi ih h1 x4
      obtain ⟨q1, q2⟩ := gmI (n := n) (ch := ch) (i := i) hn (by omega) hi
      obtain ⟨q3, q4⟩ := gmO (n := n) (ch := ch) (i := i) hn (by omega) hi
      refine hK [2] 60 _ _ _ _ _ _ ?_
      refine gbr_lp rfl (by omega) (by omega) (fun e => by omega) (fun _ => ?_)
      refine gsd_i q4 (gsd_i q2 ?_)
      refine gbr_i (fun h => ?_) (fun h => ?_)
      · have h' : (I 36) ((nI ch ^^^ ((1 : Int32) <<< (nI i &&& 31))) * nI n + nI i).toNatClampNeg ≤ (I 36) (nI ch * nI n + nI i).toNatClampNeg := h
        rw [q1, q3] at h'
        have ih' := ih (by
          show rsi (I 36) n ch i &&& (if (I 36) ((ch ^^^ (1 <<< i)) * n + i) ≤ (I 36) (ch * n + i) then 1 else 0) = 1
          rw [if_pos h', h1]; rfl) (some (.int (nI ch ^^^ ((1 : Int32) <<< (nI i &&& 31)))))
        rw [← nI_1] at ih'
        exact ih'
      · have h' : ¬ (I 36) ((nI ch ^^^ ((1 : Int32) <<< (nI i &&& 31))) * nI n + nI i).toNatClampNeg ≤ (I 36) (nI ch * nI n + nI i).toNatClampNeg := h
        rw [q1, q3] at h'
        have h0 : rsi (I 36) n ch (i + 1) = 0 := by
          show rsi (I 36) n ch i &&& (if (I 36) ((ch ^^^ (1 <<< i)) * n + i) ≤ (I 36) (ch * n + i) then 1 else 0) = 0
          rw [if_neg h', h1]; rfl
        exact gsd_i (Or.inl rfl) ⟨rfl, by rw [rsi_0 h0 n hi]⟩)
    refine hK [2] 60 _ _ _ _ _ _ ?_
    exact loop 0 (Nat.zero_le _) rfl none
  · refine gstart iX9_isRest tX9_isRest rfl rfl (fun K ca hK hca => ?_)
    have loop := gloop (P := fun i => rsi (I 38) n ch i = 1 → ∀ x4, K 0 0 2 [some (.ref 37), some (.int (nI n)), some (.int (nI ch)), some (.int (nI i)), x4] [] (wX c ln I L)) (n := n) (by
      intro h1 x4
      refine hK [2] 60 _ _ _ _ _ _ ?_
      exact gbr_lp rfl (by omega) (Nat.le_refl _) (fun _ => gsd_i (Or.inr rfl) ⟨rfl, by rw [h1]⟩) (fun z => absurd z (Nat.lt_irrefl _))) (by
      intro i hi ih h1 x4
      obtain ⟨q1, q2⟩ := gmI (n := n) (ch := ch) (i := i) hn (by omega) hi
      obtain ⟨q3, q4⟩ := gmO (n := n) (ch := ch) (i := i) hn (by omega) hi
      refine hK [2] 60 _ _ _ _ _ _ ?_
      refine gbr_lp rfl (by omega) (by omega) (fun e => by omega) (fun _ => ?_)
      refine gsd_i q4 (gsd_i q2 ?_)
      refine gbr_i (fun h => ?_) (fun h => ?_)
      · have h' : (I 38) ((nI ch ^^^ ((1 : Int32) <<< (nI i &&& 31))) * nI n + nI i).toNatClampNeg ≤ (I 38) (nI ch * nI n + nI i).toNatClampNeg := h
        rw [q1, q3] at h'
        have ih' := ih (by
          show rsi (I 38) n ch i &&& (if (I 38) ((ch ^^^ (1 <<< i)) * n + i) ≤ (I 38) (ch * n + i) then 1 else 0) = 1
          rw [if_pos h', h1]; rfl) (some (.int (nI ch ^^^ ((1 : Int32) <<< (nI i &&& 31)))))
        rw [← nI_1] at ih'
        exact ih'
      · have h' : ¬ (I 38) ((nI ch ^^^ ((1 : Int32) <<< (nI i &&& 31))) * nI n + nI i).toNatClampNeg ≤ (I 38) (nI ch * nI n + nI i).toNatClampNeg := h
        rw [q1, q3] at h'
        have h0 : rsi (I 38) n ch (i + 1) = 0 := by
          show rsi (I 38) n ch i &&& (if (I 38) ((ch ^^^ (1 <<< i)) * n + i) ≤ (I 38) (ch * n + i) then 1 else 0) = 0
          rw [if_neg h', h1]; rfl
        exact gsd_i (Or.inl rfl) ⟨rfl, by rw [rsi_0 h0 n hi]⟩)
    refine hK [2] 60 _ _ _ _ _ _ ?_
    exact loop 0 (Nat.zero_le _) rfl none
  · refine gstart iX9_isRest tX9_isRest rfl rfl (fun K ca hK hca => ?_)
    have loop := gloop (P := fun i => rsi (I 40) n ch i = 1 → ∀ x4, K 0 0 2 [some (.ref 39), some (.int (nI n)), some (.int (nI ch)), some (.int (nI i)), x4] [] (wX c ln I L)) (n := n) (by
      intro h1 x4
      refine hK [2] 60 _ _ _ _ _ _ ?_
      exact gbr_lp rfl (by omega) (Nat.le_refl _) (fun _ => gsd_i (Or.inr rfl) ⟨rfl, by rw [h1]⟩) (fun z => absurd z (Nat.lt_irrefl _))) (by
      intro i hi ih h1 x4
      obtain ⟨q1, q2⟩ := gmI (n := n) (ch := ch) (i := i) hn (by omega) hi
      obtain ⟨q3, q4⟩ := gmO (n := n) (ch := ch) (i := i) hn (by omega) hi
      refine hK [2] 60 _ _ _ _ _ _ ?_
      refine gbr_lp rfl (by omega) (by omega) (fun e => by omega) (fun _ => ?_)
      refine gsd_i q4 (gsd_i q2 ?_)
      refine gbr_i (fun h => ?_) (fun h => ?_)
      · have h' : (I 40) ((nI ch ^^^ ((1 : Int32) <<< (nI i &&& 31))) * nI n + nI i).toNatClampNeg ≤ (I 40) (nI ch * nI n + nI i).toNatClampNeg := h
        rw [q1, q3] at h'
        have ih' := ih (by
          show rsi (I 40) n ch i &&& (if (I 40) ((ch ^^^ (1 <<< i)) * n + i) ≤ (I 40) (ch * n + i) then 1 else 0) = 1
          rw [if_pos h', h1]; rfl) (some (.int (nI ch ^^^ ((1 : Int32) <<< (nI i &&& 31)))))
        rw [← nI_1] at ih'
        exact ih'
      · have h' : ¬ (I 40) ((nI ch ^^^ ((1 : Int32) <<< (nI i &&& 31))) * nI n + nI i).toNatClampNeg ≤ (I 40) (nI ch * nI n + nI i).toNatClampNeg := h
        rw [q1, q3] at h'
        have h0 : rsi (I 40) n ch (i + 1) = 0 := by
          show rsi (I 40) n ch i &&& (if (I 40) ((ch ^^^ (1 <<< i)) * n + i) ≤ (I 40) (ch * n + i) then 1 else 0) = 0
          rw [if_neg h', h1]; rfl
        exact gsd_i (Or.inl rfl) ⟨rfl, by rw [rsi_0 h0 n hi]⟩)
    refine hK [2] 60 _ _ _ _ _ _ ?_
    exact loop 0 (Nat.zero_le _) rfl none
set_option maxHeartbeats 2000000 in
theorem c_restsOf (k : Nat) (hk : k = 33 ∨ k = 35 ∨ k = 37 ∨ k = 39) (n : Nat) (hn : n = 2 ∨ n = 3) : gCtr E 2 0 0 nX9_restsOf [.ref k, .int (nI n)] (wX c ln I L) (fun v u' => u' = (wX c ln I L) ∧ v = some (.int (rso (I (k + 1)) n (2 ^ n)))) := by
  have hp8 : 2 ^ n ≤ 8 := by rcases hn with rfl | rfl <;> decide
  rcases hk with rfl | rfl | rfl | rfl
  · refine gstart iX9_restsOf tX9_restsOf rfl rfl (fun K ca hK hca => ?_)
    have outer := gloop (P := fun ch => K 0 0 4 [some (.ref 33), some (.int (nI n)), some (.int (rso (I 34) n ch)), some (.int (nI ch))] [] (wX c ln I L)) (n := 2 ^ n) (by
      refine hK [4] 60 _ _ _ _ _ _ ?_
      exact gbr_lp (shl2 hn) (by omega) (Nat.le_refl _) (fun _ => ⟨rfl, rfl⟩) (fun z => absurd z (Nat.lt_irrefl _))) (by
      intro ch hch ih
      refine hK [4] 60 _ _ _ _ _ _ ?_
      refine gbr_lp (shl2 hn) (by omega) (by omega) (fun e => by omega) (fun _ => ?_)
      refine gcall0 hca (c_isRest E c ln I L 33 (by decide) n ch hn (by omega)) rfl ?_
      rintro w u' - ⟨rfl, rfl⟩
      refine gbr_i (fun h => ?_) (fun h => ?_)
      · rw [show rso (I 34) n (ch + 1) = rso (I 34) n ch from if_pos h, ← nI_1] at ih
        exact ih
      · rw [show rso (I 34) n (ch + 1) = rso (I 34) n ch ||| (1 <<< (nI ch &&& 31)) from if_neg h, ← nI_1] at ih
        exact ih)
    refine hK [4] 60 _ _ _ _ _ _ ?_
    exact outer 0 (Nat.zero_le _)
  · refine gstart iX9_restsOf tX9_restsOf rfl rfl (fun K ca hK hca => ?_)
    have outer := gloop (P := fun ch => K 0 0 4 [some (.ref 35), some (.int (nI n)), some (.int (rso (I 36) n ch)), some (.int (nI ch))] [] (wX c ln I L)) (n := 2 ^ n) (by
      refine hK [4] 60 _ _ _ _ _ _ ?_
      exact gbr_lp (shl2 hn) (by omega) (Nat.le_refl _) (fun _ => ⟨rfl, rfl⟩) (fun z => absurd z (Nat.lt_irrefl _))) (by
      intro ch hch ih
      refine hK [4] 60 _ _ _ _ _ _ ?_
      refine gbr_lp (shl2 hn) (by omega) (by omega) (fun e => by omega) (fun _ => ?_)
      refine gcall0 hca (c_isRest E c ln I L 35 (by decide) n ch hn (by omega)) rfl ?_
      rintro w u' - ⟨rfl, rfl⟩
      refine gbr_i (fun h => ?_) (fun h => ?_)
      · rw [show rso (I 36) n (ch + 1) = rso (I 36) n ch from if_pos h, ← nI_1] at ih
        exact ih
      · rw [show rso (I 36) n (ch + 1) = rso (I 36) n ch ||| (1 <<< (nI ch &&& 31)) from if_neg h, ← nI_1] at ih
        exact ih)
    refine hK [4] 60 _ _ _ _ _ _ ?_
    exact outer 0 (Nat.zero_le _)
  · refine gstart iX9_restsOf tX9_restsOf rfl rfl (fun K ca hK hca => ?_)
    have outer := gloop (P := fun ch => K 0 0 4 [some (.ref 37), some (.int (nI n)), some (.int (rso (I 38) n ch)), some (.int (nI ch))] [] (wX c ln I L)) (n := 2 ^ n) (by
      refine hK [4] 60 _ _ _ _ _ _ ?_
      exact gbr_lp (shl2 hn) (by omega) (Nat.le_refl _) (fun _ => ⟨rfl, rfl⟩) (fun z => absurd z (Nat.lt_irrefl _))) (by
      intro ch hch ih
      refine hK [4] 60 _ _ _ _ _ _ ?_
      refine gbr_lp (shl2 hn) (by omega) (by omega) (fun e => by omega) (fun _ => ?_)
      refine gcall0 hca (c_isRest E c ln I L 37 (by decide) n ch hn (by omega)) rfl ?_
      rintro w u' - ⟨rfl, rfl⟩
      refine gbr_i (fun h => ?_) (fun h => ?_)
      · rw [show rso (I 38) n (ch + 1) = rso (I 38) n ch from if_pos h, ← nI_1] at ih
        exact ih
      · rw [show rso (I 38) n (ch + 1) = rso (I 38) n ch ||| (1 <<< (nI ch &&& 31)) from if_neg h, ← nI_1] at ih
        exact ih)
    refine hK [4] 60 _ _ _ _ _ _ ?_
    exact outer 0 (Nat.zero_le _)
  · refine gstart iX9_restsOf tX9_restsOf rfl rfl (fun K ca hK hca => ?_)
    have outer := gloop (P := fun ch => K 0 0 4 [some (.ref 39), some (.int (nI n)), some (.int (rso (I 40) n ch)), some (.int (nI ch))] [] (wX c ln I L)) (n := 2 ^ n) (by
      refine hK [4] 60 _ _ _ _ _ _ ?_
      exact gbr_lp (shl2 hn) (by omega) (Nat.le_refl _) (fun _ => ⟨rfl, rfl⟩) (fun z => absurd z (Nat.lt_irrefl _))) (by
      intro ch hch ih
      refine hK [4] 60 _ _ _ _ _ _ ?_
      refine gbr_lp (shl2 hn) (by omega) (by omega) (fun e => by omega) (fun _ => ?_)
      refine gcall0 hca (c_isRest E c ln I L 39 (by decide) n ch hn (by omega)) rfl ?_
      rintro w u' - ⟨rfl, rfl⟩
      refine gbr_i (fun h => ?_) (fun h => ?_)
      · rw [show rso (I 40) n (ch + 1) = rso (I 40) n ch from if_pos h, ← nI_1] at ih
        exact ih
      · rw [show rso (I 40) n (ch + 1) = rso (I 40) n ch ||| (1 <<< (nI ch &&& 31)) from if_neg h, ← nI_1] at ih
        exact ih)
    refine hK [4] 60 _ _ _ _ _ _ ?_
    exact outer 0 (Nat.zero_le _)
set_option maxHeartbeats 2000000 in
theorem c_goodOf (k : Nat) (hk : k = 33 ∨ k = 35 ∨ k = 37 ∨ k = 39) (n : Nat) (hn : n = 2 ∨ n = 3) : gCtr E 1 0 0 nX9_goodOf [.ref k, .int (nI n)] (wX c ln I L) (fun v u' => u' = (wX c ln I L) ∧ v = some (.int (gdo (I (k + 1)) n (2 ^ n)).1)) := by
  have hp8 : 2 ^ n ≤ 8 := by rcases hn with rfl | rfl <;> decide
  rcases hk with rfl | rfl | rfl | rfl
  · refine gstart iX9_goodOf tX9_goodOf rfl rfl (fun K ca hK hca => ?_)
    have inner := fun (ch : Nat) (hch : ch < 2 ^ n) (b : Int32) (mo : Int64) (hend : K 0 0 21 [some (.ref 33), some (.int (nI n)), some (.int b), some (.long mo), none, some (.int (nI ch)), some (.long (gsm (I 34) n ch n)), none, some (.int (nI n))] [] (wX c ln I L)) => gloop (P := fun i => K 0 0 21 [some (.ref 33), some (.int (nI n)), some (.int b), some (.long mo), none, some (.int (nI ch)), some (.long (gsm (I 34) n ch i)), none, some (.int (nI i))] [] (wX c ln I L)) (n := n) hend (by
      intro i hi ih
      obtain ⟨q1, q2⟩ := gmI (n := n) (ch := ch) (i := i) hn (by omega) hi
      refine hK [21] 60 _ _ _ _ _ _ ?_
      refine gbr_lp rfl (by omega) (by omega) (fun e => by omega) (fun _ => ?_)
      refine gsd_i q2 ?_
      rw [show gsm (I 34) n ch (i + 1) = gsm (I 34) n ch i + ((I 34) (nI ch * nI n + nI i).toNatClampNeg).toInt64 from by rw [q1]; rfl, ← nI_1] at ih
      exact ih)
    have outer := gloop (P := fun ch => ∀ x6 x7 x8, K 0 0 7 [some (.ref 33), some (.int (nI n)), some (.int (gdo (I 34) n ch).1), some (.long (gdo (I 34) n ch).2), none, some (.int (nI ch)), x6, x7, x8] [] (wX c ln I L)) (n := 2 ^ n) (by
      intro x6 x7 x8
      refine hK [7] 60 _ _ _ _ _ _ ?_
      exact gbr_lp (shl2 hn) (by omega) (Nat.le_refl _) (fun _ => ⟨rfl, rfl⟩) (fun z => absurd z (Nat.lt_irrefl _))) (by
      intro ch hch ih x6 x7 x8
      refine hK [7, 21] 60 _ _ _ _ _ _ ?_
      refine gbr_lp (shl2 hn) (by omega) (by omega) (fun e => by omega) (fun _ => ?_)
      refine inner ch hch (gdo (I 34) n ch).1 (gdo (I 34) n ch).2 ?_ 0 (Nat.zero_le _)
      refine hK [7] 60 _ _ _ _ _ _ ?_
      refine gbr_lp rfl (by omega) (Nat.le_refl _) (fun _ => ?_) (fun z => absurd z (Nat.lt_irrefl _))
      have ih' := ih (some (.long (gsm (I 34) n ch n))) none (some (.int (nI n)))
      refine gbr_i (fun h => ?_) (fun h => ?_)
      · rw [show gdo (I 34) n (ch + 1) = (nI ch, gsm (I 34) n ch n) from if_pos (Or.inl h), ← nI_1] at ih'
        exact ih'
      · refine gbr_i (fun h2 => ?_) (fun h2 => ?_)
        · rw [show gdo (I 34) n (ch + 1) = gdo (I 34) n ch from if_neg (fun z => z.elim h (fun y => y h2)), ← nI_1] at ih'
          exact ih'
        · rw [show gdo (I 34) n (ch + 1) = (nI ch, gsm (I 34) n ch n) from if_pos (Or.inr h2), ← nI_1] at ih'
          exact ih')
    refine hK [7] 60 _ _ _ _ _ _ ?_
    exact outer 0 (Nat.zero_le _) none none none
  · refine gstart iX9_goodOf tX9_goodOf rfl rfl (fun K ca hK hca => ?_)
    have inner := fun (ch : Nat) (hch : ch < 2 ^ n) (b : Int32) (mo : Int64) (hend : K 0 0 21 [some (.ref 35), some (.int (nI n)), some (.int b), some (.long mo), none, some (.int (nI ch)), some (.long (gsm (I 36) n ch n)), none, some (.int (nI n))] [] (wX c ln I L)) => gloop (P := fun i => K 0 0 21 [some (.ref 35), some (.int (nI n)), some (.int b), some (.long mo), none, some (.int (nI ch)), some (.long (gsm (I 36) n ch i)), none, some (.int (nI i))] [] (wX c ln I L)) (n := n) hend (by
      intro i hi ih
      obtain ⟨q1, q2⟩ := gmI (n := n) (ch := ch) (i := i) hn (by omega) hi
      refine hK [21] 60 _ _ _ _ _ _ ?_
      refine gbr_lp rfl (by omega) (by omega) (fun e => by omega) (fun _ => ?_)
      refine gsd_i q2 ?_
      rw [show gsm (I 36) n ch (i + 1) = gsm (I 36) n ch i + ((I 36) (nI ch * nI n + nI i).toNatClampNeg).toInt64 from by rw [q1]; rfl, ← nI_1] at ih
      exact ih)
    have outer := gloop (P := fun ch => ∀ x6 x7 x8, K 0 0 7 [some (.ref 35), some (.int (nI n)), some (.int (gdo (I 36) n ch).1), some (.long (gdo (I 36) n ch).2), none, some (.int (nI ch)), x6, x7, x8] [] (wX c ln I L)) (n := 2 ^ n) (by
      intro x6 x7 x8
      refine hK [7] 60 _ _ _ _ _ _ ?_
      exact gbr_lp (shl2 hn) (by omega) (Nat.le_refl _) (fun _ => ⟨rfl, rfl⟩) (fun z => absurd z (Nat.lt_irrefl _))) (by
      intro ch hch ih x6 x7 x8
      refine hK [7, 21] 60 _ _ _ _ _ _ ?_
      refine gbr_lp (shl2 hn) (by omega) (by omega) (fun e => by omega) (fun _ => ?_)
      refine inner ch hch (gdo (I 36) n ch).1 (gdo (I 36) n ch).2 ?_ 0 (Nat.zero_le _)
      refine hK [7] 60 _ _ _ _ _ _ ?_
      refine gbr_lp rfl (by omega) (Nat.le_refl _) (fun _ => ?_) (fun z => absurd z (Nat.lt_irrefl _))
      have ih' := ih (some (.long (gsm (I 36) n ch n))) none (some (.int (nI n)))
      refine gbr_i (fun h => ?_) (fun h => ?_)
      · rw [show gdo (I 36) n (ch + 1) = (nI ch, gsm (I 36) n ch n) from if_pos (Or.inl h), ← nI_1] at ih'
        exact ih'
      · refine gbr_i (fun h2 => ?_) (fun h2 => ?_)
        · rw [show gdo (I 36) n (ch + 1) = gdo (I 36) n ch from if_neg (fun z => z.elim h (fun y => y h2)), ← nI_1] at ih'
          exact ih'
        · rw [show gdo (I 36) n (ch + 1) = (nI ch, gsm (I 36) n ch n) from if_pos (Or.inr h2), ← nI_1] at ih'
          exact ih')
    refine hK [7] 60 _ _ _ _ _ _ ?_
    exact outer 0 (Nat.zero_le _) none none none
  · refine gstart iX9_goodOf tX9_goodOf rfl rfl (fun K ca hK hca => ?_)
    have inner := fun (ch : Nat) (hch : ch < 2 ^ n) (b : Int32) (mo : Int64) (hend : K 0 0 21 [some (.ref 37), some (.int (nI n)), some (.int b), some (.long mo), none, some (.int (nI ch)), some (.long (gsm (I 38) n ch n)), none, some (.int (nI n))] [] (wX c ln I L)) => gloop (P := fun i => K 0 0 21 [some (.ref 37), some (.int (nI n)), some (.int b), some (.long mo), none, some (.int (nI ch)), some (.long (gsm (I 38) n ch i)), none, some (.int (nI i))] [] (wX c ln I L)) (n := n) hend (by
      intro i hi ih
      obtain ⟨q1, q2⟩ := gmI (n := n) (ch := ch) (i := i) hn (by omega) hi
      refine hK [21] 60 _ _ _ _ _ _ ?_
      refine gbr_lp rfl (by omega) (by omega) (fun e => by omega) (fun _ => ?_)
      refine gsd_i q2 ?_
      rw [show gsm (I 38) n ch (i + 1) = gsm (I 38) n ch i + ((I 38) (nI ch * nI n + nI i).toNatClampNeg).toInt64 from by rw [q1]; rfl, ← nI_1] at ih
      exact ih)
    have outer := gloop (P := fun ch => ∀ x6 x7 x8, K 0 0 7 [some (.ref 37), some (.int (nI n)), some (.int (gdo (I 38) n ch).1), some (.long (gdo (I 38) n ch).2), none, some (.int (nI ch)), x6, x7, x8] [] (wX c ln I L)) (n := 2 ^ n) (by
      intro x6 x7 x8
      refine hK [7] 60 _ _ _ _ _ _ ?_
      exact gbr_lp (shl2 hn) (by omega) (Nat.le_refl _) (fun _ => ⟨rfl, rfl⟩) (fun z => absurd z (Nat.lt_irrefl _))) (by
      intro ch hch ih x6 x7 x8
      refine hK [7, 21] 60 _ _ _ _ _ _ ?_
      refine gbr_lp (shl2 hn) (by omega) (by omega) (fun e => by omega) (fun _ => ?_)
      refine inner ch hch (gdo (I 38) n ch).1 (gdo (I 38) n ch).2 ?_ 0 (Nat.zero_le _)
      refine hK [7] 60 _ _ _ _ _ _ ?_
      refine gbr_lp rfl (by omega) (Nat.le_refl _) (fun _ => ?_) (fun z => absurd z (Nat.lt_irrefl _))
      have ih' := ih (some (.long (gsm (I 38) n ch n))) none (some (.int (nI n)))
      refine gbr_i (fun h => ?_) (fun h => ?_)
      · rw [show gdo (I 38) n (ch + 1) = (nI ch, gsm (I 38) n ch n) from if_pos (Or.inl h), ← nI_1] at ih'
        exact ih'
      · refine gbr_i (fun h2 => ?_) (fun h2 => ?_)
        · rw [show gdo (I 38) n (ch + 1) = gdo (I 38) n ch from if_neg (fun z => z.elim h (fun y => y h2)), ← nI_1] at ih'
          exact ih'
        · rw [show gdo (I 38) n (ch + 1) = (nI ch, gsm (I 38) n ch n) from if_pos (Or.inr h2), ← nI_1] at ih'
          exact ih')
    refine hK [7] 60 _ _ _ _ _ _ ?_
    exact outer 0 (Nat.zero_le _) none none none
  · refine gstart iX9_goodOf tX9_goodOf rfl rfl (fun K ca hK hca => ?_)
    have inner := fun (ch : Nat) (hch : ch < 2 ^ n) (b : Int32) (mo : Int64) (hend : K 0 0 21 [some (.ref 39), some (.int (nI n)), some (.int b), some (.long mo), none, some (.int (nI ch)), some (.long (gsm (I 40) n ch n)), none, some (.int (nI n))] [] (wX c ln I L)) => gloop (P := fun i => K 0 0 21 [some (.ref 39), some (.int (nI n)), some (.int b), some (.long mo), none, some (.int (nI ch)), some (.long (gsm (I 40) n ch i)), none, some (.int (nI i))] [] (wX c ln I L)) (n := n) hend (by
      intro i hi ih
      obtain ⟨q1, q2⟩ := gmI (n := n) (ch := ch) (i := i) hn (by omega) hi
      refine hK [21] 60 _ _ _ _ _ _ ?_
      refine gbr_lp rfl (by omega) (by omega) (fun e => by omega) (fun _ => ?_)
      refine gsd_i q2 ?_
      rw [show gsm (I 40) n ch (i + 1) = gsm (I 40) n ch i + ((I 40) (nI ch * nI n + nI i).toNatClampNeg).toInt64 from by rw [q1]; rfl, ← nI_1] at ih
      exact ih)
    have outer := gloop (P := fun ch => ∀ x6 x7 x8, K 0 0 7 [some (.ref 39), some (.int (nI n)), some (.int (gdo (I 40) n ch).1), some (.long (gdo (I 40) n ch).2), none, some (.int (nI ch)), x6, x7, x8] [] (wX c ln I L)) (n := 2 ^ n) (by
      intro x6 x7 x8
      refine hK [7] 60 _ _ _ _ _ _ ?_
      exact gbr_lp (shl2 hn) (by omega) (Nat.le_refl _) (fun _ => ⟨rfl, rfl⟩) (fun z => absurd z (Nat.lt_irrefl _))) (by
      intro ch hch ih x6 x7 x8
      refine hK [7, 21] 60 _ _ _ _ _ _ ?_
      refine gbr_lp (shl2 hn) (by omega) (by omega) (fun e => by omega) (fun _ => ?_)
      refine inner ch hch (gdo (I 40) n ch).1 (gdo (I 40) n ch).2 ?_ 0 (Nat.zero_le _)
      refine hK [7] 60 _ _ _ _ _ _ ?_
      refine gbr_lp rfl (by omega) (Nat.le_refl _) (fun _ => ?_) (fun z => absurd z (Nat.lt_irrefl _))
      have ih' := ih (some (.long (gsm (I 40) n ch n))) none (some (.int (nI n)))
      refine gbr_i (fun h => ?_) (fun h => ?_)
      · rw [show gdo (I 40) n (ch + 1) = (nI ch, gsm (I 40) n ch n) from if_pos (Or.inl h), ← nI_1] at ih'
        exact ih'
      · refine gbr_i (fun h2 => ?_) (fun h2 => ?_)
        · rw [show gdo (I 40) n (ch + 1) = gdo (I 40) n ch from if_neg (fun z => z.elim h (fun y => y h2)), ← nI_1] at ih'
          exact ih'
        · rw [show gdo (I 40) n (ch + 1) = (nI ch, gsm (I 40) n ch n) from if_pos (Or.inr h2), ← nI_1] at ih'
          exact ih')
    refine hK [7] 60 _ _ _ _ _ _ ?_
    exact outer 0 (Nat.zero_le _) none none none
def gameX (I : Nat → Nat → Int32) (g s what : Int32) : Int32 :=
  if isG I g ∧ (2 ≤ ibc g ∧ ibc g ≤ 3) ∧ (0 ≤ s ∧ s < 4) ∧ 0 ≤ what ∧ what ≤ 1 then
    if I (kS s) 1 = -1 then -11 else if I (kS s) 2 = ibc g <<< (ibc g &&& 31) then
      (if what = 0 then rso (I (kS s + 1)) (ibc g).toNatClampNeg (2 ^ (ibc g).toNatClampNeg) else (gdo (I (kS s + 1)) (ibc g).toNatClampNeg (2 ^ (ibc g).toNatClampNeg)).1)
    else -2
  else -2
theorem two3 {x : Int32} (h : 2 ≤ x ∧ x ≤ 3) : x = 2 ∨ x = 3 := by (simp only [Int32.lt_iff_toInt_lt, Int32.le_iff_toInt_le, ← Int32.toInt_inj, Int32.reduceToInt] at *; omega)
set_option maxHeartbeats 1000000 in
theorem p_game (g s what : Int32) : gCtr E 4 0 0 nX9_game [.ref 0, .int g, .int s, .int what] (wX c ln I L) (fun w u' => u' = (wX c ln I L) ∧ w = some (.int (gameX I g s what))) := by
  refine gstart iX9_game tX9_game rfl rfl (fun K ca hK hca => ?_)
  refine hK [] 80 _ _ _ _ _ _ ?_
  clear hK
  have bad : ¬ (isG I g ∧ (2 ≤ ibc g ∧ ibc g ≤ 3) ∧ (0 ≤ s ∧ s < 4) ∧ 0 ≤ what ∧ what ≤ 1) → (wX c ln I L) = (wX c ln I L) ∧ some (Value.int (-2)) = some (.int (gameX I g s what)) := fun h => by
    unfold gameX; rw [if_neg h]; exact ⟨rfl, rfl⟩
  refine gcall0 hca (c_ibc E (wX c ln I L) g) rfl ?_
  rintro w u' - ⟨rfl, rfl⟩
  refine gcall0 hca (c_isGroup E c ln I L g) rfl ?_
  rintro w u' - ⟨rfl, rfl⟩
  refine gbr_p (fun h1 => bad (fun z => h1 z.1)) (fun h1 => ?_)
  refine gbr_i (fun h2 => bad (fun z => Int32.lt_irrefl (Int32.lt_of_lt_of_le h2 z.2.1.1))) (fun h2 => ?_)
  refine gbr_i (fun h3 => bad (fun z => Int32.lt_irrefl (Int32.lt_of_lt_of_le h3 z.2.1.2))) (fun h3 => ?_)
  refine gcall0 hca (c_isSheet E (wX c ln I L) s) rfl ?_
  rintro w u' - ⟨rfl, rfl⟩
  refine gbr_p (fun h4 => bad (fun z => h4 z.2.2.1)) (fun h4 => ?_)
  refine gbr_i (fun h5 => bad (fun z => Int32.lt_irrefl (Int32.lt_of_lt_of_le h5 z.2.2.2.1))) (fun h5 => ?_)
  refine gbr_i (fun h6 => ?_) (fun h6 => bad (fun z => h6 z.2.2.2.2))
  have hb : 2 ≤ ibc g ∧ ibc g ≤ 3 := ⟨Int32.not_lt.mp h2, Int32.not_lt.mp h3⟩
  have hX : gameX I g s what = _ := if_pos ⟨h1, hb, h4, Int32.not_lt.mp h5, h6⟩
  rw [hX]
  clear bad hX
  obtain ⟨n, hn, hbn⟩ : ∃ n, (n = 2 ∨ n = 3) ∧ ibc g = nI n := by
    rcases two3 hb with q | q
    · exact ⟨2, Or.inl rfl, q⟩
    · exact ⟨3, Or.inr rfl, q⟩
  have hcl : (nI n).toNatClampNeg = n := nI_clamp (by omega)
  rw [hbn, hcl]
  rcases four h4 with rfl | rfl | rfl | rfl
  · refine gsd_i (by unfold vp_in; decide) ?_
    have ek : kS 0 = 33 := rfl
    simp only [ek]
    refine gcall0 hca (c_isMissing E c ln I L 33 (by decide)) rfl ?_
    rintro w u' - ⟨rfl, rfl⟩
    refine gbr_p (fun h7 => ?_) (fun h7 => by rw [if_pos h7]; exact ⟨rfl, rfl⟩)
    rw [if_neg h7]
    refine gbr_i (fun h8 => ?_) (fun h8 => ?_)
    · rw [if_pos h8]
      refine gbr_i (fun h9 => ?_) (fun h9 => ?_)
      · rw [if_pos h9]
        refine gcall0 hca (c_restsOf E c ln I L 33 (by decide) n hn) rfl ?_
        rintro w u' - ⟨rfl, rfl⟩
        exact ⟨rfl, rfl⟩
      · rw [if_neg h9]
        refine gcall0 hca (c_goodOf E c ln I L 33 (by decide) n hn) rfl ?_
        rintro w u' - ⟨rfl, rfl⟩
        exact ⟨rfl, rfl⟩
    · rw [if_neg h8]; exact ⟨rfl, rfl⟩
  · refine gsd_i (by unfold vp_in; decide) ?_
    have ek : kS 1 = 35 := rfl
    simp only [ek]
    refine gcall0 hca (c_isMissing E c ln I L 35 (by decide)) rfl ?_
    rintro w u' - ⟨rfl, rfl⟩
    refine gbr_p (fun h7 => ?_) (fun h7 => by rw [if_pos h7]; exact ⟨rfl, rfl⟩)
    rw [if_neg h7]
    refine gbr_i (fun h8 => ?_) (fun h8 => ?_)
    · rw [if_pos h8]
      refine gbr_i (fun h9 => ?_) (fun h9 => ?_)
      · rw [if_pos h9]
        refine gcall0 hca (c_restsOf E c ln I L 35 (by decide) n hn) rfl ?_
        rintro w u' - ⟨rfl, rfl⟩
        exact ⟨rfl, rfl⟩
      · rw [if_neg h9]
        refine gcall0 hca (c_goodOf E c ln I L 35 (by decide) n hn) rfl ?_
        rintro w u' - ⟨rfl, rfl⟩
        exact ⟨rfl, rfl⟩
    · rw [if_neg h8]; exact ⟨rfl, rfl⟩
  · refine gsd_i (by unfold vp_in; decide) ?_
    have ek : kS 2 = 37 := rfl
    simp only [ek]
    refine gcall0 hca (c_isMissing E c ln I L 37 (by decide)) rfl ?_
    rintro w u' - ⟨rfl, rfl⟩
    refine gbr_p (fun h7 => ?_) (fun h7 => by rw [if_pos h7]; exact ⟨rfl, rfl⟩)
    rw [if_neg h7]
    refine gbr_i (fun h8 => ?_) (fun h8 => ?_)
    · rw [if_pos h8]
      refine gbr_i (fun h9 => ?_) (fun h9 => ?_)
      · rw [if_pos h9]
        refine gcall0 hca (c_restsOf E c ln I L 37 (by decide) n hn) rfl ?_
        rintro w u' - ⟨rfl, rfl⟩
        exact ⟨rfl, rfl⟩
      · rw [if_neg h9]
        refine gcall0 hca (c_goodOf E c ln I L 37 (by decide) n hn) rfl ?_
        rintro w u' - ⟨rfl, rfl⟩
        exact ⟨rfl, rfl⟩
    · rw [if_neg h8]; exact ⟨rfl, rfl⟩
  · refine gsd_i (by unfold vp_in; decide) ?_
    have ek : kS 3 = 39 := rfl
    simp only [ek]
    refine gcall0 hca (c_isMissing E c ln I L 39 (by decide)) rfl ?_
    rintro w u' - ⟨rfl, rfl⟩
    refine gbr_p (fun h7 => ?_) (fun h7 => by rw [if_pos h7]; exact ⟨rfl, rfl⟩)
    rw [if_neg h7]
    refine gbr_i (fun h8 => ?_) (fun h8 => ?_)
    · rw [if_pos h8]
      refine gbr_i (fun h9 => ?_) (fun h9 => ?_)
      · rw [if_pos h9]
        refine gcall0 hca (c_restsOf E c ln I L 39 (by decide) n hn) rfl ?_
        rintro w u' - ⟨rfl, rfl⟩
        exact ⟨rfl, rfl⟩
      · rw [if_neg h9]
        refine gcall0 hca (c_goodOf E c ln I L 39 (by decide) n hn) rfl ?_
        rintro w u' - ⟨rfl, rfl⟩
        exact ⟨rfl, rfl⟩
    · rw [if_neg h8]; exact ⟨rfl, rfl⟩
end
