-- tiring, a rider at a time
theorem wthn_0 (v : Int32) : 0 ≤ wthn 0 v 999 := by
  unfold wthn
  by_cases h : (0 : Int32) < (if 999 < v then 999 else v)
  · rw [if_pos h]; exact Int32.le_of_lt h
  · rw [if_neg h]; exact Int32.le_refl 0
theorem pos_ne {v : Int32} (h : 0 ≤ v) : 0 < v ↔ ¬ v = 0 := by
  constructor
  · intro z e; rw [e] at z; exact absurd z (by decide)
  · intro z
    exact Int32.lt_of_le_of_ne h (fun e => z e.symm)
theorem tir_app {sv : Say} {t : Int32} : ∀ (a b : List Nat) (i : Nat) (st : Nat → Int32), tir sv t i (a ++ b) st = tir sv t (i + a.length) b (tir sv t i a st) := by
  intro a
  induction a with
  | nil => intro b i st; rfl
  | cons r a ih =>
    intro b i st
    show tir sv t (i + 1) (a ++ b) _ = tir sv t (i + (a.length + 1)) b (tir sv t (i + 1) a _)
    rw [ih, Nat.add_assoc, Nat.add_comm 1]
theorem tir_out {sv : Say} {t : Int32} {r : Nat} : ∀ (l : List Nat) (i : Nat) (st : Nat → Int32), ¬ r ∈ l → tir sv t i l st r = st r := by
  intro l
  induction l with
  | nil => intro i st _; rfl
  | cons x l ih =>
    intro i st h
    show tir sv t (i + 1) l _ r = _
    rw [ih _ _ (fun z => h (List.mem_cons_of_mem _ z)), gupd_n (fun e => h (by rw [e]; exact List.mem_cons_self))]
theorem tir_pos {sv : Say} {t : Int32} {r : Nat} : ∀ (l : List Nat) (i : Nat) (st : Nat → Int32), r ∈ l → 0 ≤ tir sv t i l st r := by
  intro l
  induction l with
  | nil => intro i st h; exact absurd h (by simp)
  | cons x l ih =>
    intro i st h
    show 0 ≤ tir sv t (i + 1) l _ r
    by_cases e : r ∈ l
    · exact ih _ _ e
    · rw [tir_out _ _ _ e]
      rcases List.mem_cons.mp h with z | z
      · rw [z, gupd_s]; exact wthn_0 _
      · exact absurd z e
theorem take_s1 {l : List Nat} {i : Nat} (h : i < l.length) : l.take (i + 1) = l.take i ++ [l.getD i 0] := by
  rw [List.take_add_one, List.getD_eq_getElem?_getD, List.getElem?_eq_getElem h]
  rfl
/-- what the one at place i has left -/
def tr1 (sv : Say) (t : Int32) (st : Nat → Int32) (row : List Nat) (i : Nat) : Int32 :=
  wthn 0 (tir sv t 0 (row.take i) st (row.getD i 0) - sv 0 (nI (row.getD i 0)) (tir sv t 0 (row.take i) st (row.getD i 0)) t (nI i) + sv 1 (nI (row.getD i 0)) (tir sv t 0 (row.take i) st (row.getD i 0)) t (nI i)) 999
theorem tir_s {sv : Say} {t : Int32} {st : Nat → Int32} {row : List Nat} {i : Nat} (h : i < row.length) : tir sv t 0 (row.take (i + 1)) st = gupd (tir sv t 0 (row.take i) st) (row.getD i 0) (tr1 sv t st row i) := by
  rw [take_s1 h, tir_app, List.length_take, Nat.min_eq_left (by omega), Nat.zero_add]
  rfl
theorem tir_end {sv : Say} {t : Int32} {st : Nat → Int32} {row : List Nat} {i : Nat} (h : i < row.length) (hn : row.Nodup) : tir sv t 0 row st (row.getD i 0) = tr1 sv t st row i := by
  have e : row = row.take (i + 1) ++ row.drop (i + 1) := (List.take_append_drop _ _).symm
  have hnot : ¬ row.getD i 0 ∈ row.drop (i + 1) := by
    rw [e, List.nodup_append] at hn
    intro z
    exact hn.2.2 _ (by rw [take_s1 h]; simp) _ z rfl
  have : tir sv t 0 row st = tir sv t (0 + (row.take (i + 1)).length) (row.drop (i + 1)) (tir sv t 0 (row.take (i + 1)) st) := by rw [← tir_app, List.take_append_drop]
  rw [this, tir_out _ _ _ hnot, tir_s h, gupd_s]
theorem kp_s {st : Nat → Int32} {row : List Nat} {i : Nat} (h : i < row.length) : kp st (row.take (i + 1)) = if 0 < st (row.getD i 0) then kp st (row.take i) ++ [row.getD i 0] else kp st (row.take i) := by
  unfold kp
  rw [take_s1 h, List.filter_append]
  by_cases e : 0 < st (row.getD i 0)
  · rw [if_pos e]; congr 1; simp only [List.filter_cons, List.filter_nil, decide_eq_true e]; rfl
  · rw [if_neg e]; simp only [List.filter_cons, List.filter_nil, decide_eq_false e]; simp
theorem kp_len {st : Nat → Int32} {row : List Nat} : (kp st row).length ≤ row.length := List.length_filter_le _ _
