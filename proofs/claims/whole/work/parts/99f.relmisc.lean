-- the first rule's length; house, split, count but what was filmed
set_option maxRecDepth 100000 in
theorem frT_len : (frT.2.1.1 ++ frT.2.1.2.1 ++ frT.2.1.2.2).length < 160 := by decide +kernel
theorem house_eq {I J : Nat → Nat → Int32} {nr nt : Nat} (hA : relA I J nr nt) (h : Int32) : hs (I 8) h nr = hs (J 9) h nr := by
  rw [hA.1.a8]; rfl
theorem split_eq {I J : Nat → Nat → Int32} {nr nt : Nat} (hA : relA I J nr nt) (t : Int32) : I 6 6 = xv J 6 6 ∧ I 1 4 = xv J 1 4 ∧ I 4 t.toNatClampNeg = xv J 4 t.toNatClampNeg ∧ I 5 t.toNatClampNeg = xv J 5 t.toNatClampNeg :=
  ⟨hA.1.nr, hA.1.nt, by rw [hA.1.a4], by rw [hA.1.a5]⟩
theorem ss_ag {f g : Nat → Int32} : ∀ n, (∀ r, r < n → f r = g r) → ss f n = ss g n := by
  intro n
  induction n with
  | zero => intro _; rfl
  | succ n ih =>
    intro h
    show ss f n + f n = ss g n + g n
    rw [ih (fun r hr => h r (by omega)), h n (by omega)]
theorem count_eq {c n nr nt ru : Nat} {ln : Nat → Nat} {I J : Nat → Nat → Int32} {L : Nat → Nat → Int64} {TT : Nat → Tx} (hA : relA I J nr nt) (hT : relT c ln I J ru TT) (hP : relP I J n) (h5 : ss (fun r => lbc (L 12 r)) nr = mct J nt) (what : Int32) : countX I L nr what = mcouX J nt nr what := by
  unfold countX mcouX
  have e14 : I 1 4 = J 0 11 := hA.1.nt
  have e66 : I 6 6 = J 0 17 := hA.1.nr
  have e175 : I 17 5 = J 0 3 := by rw [hT.2.1.1, hT.2.2.1.1]
  have e133 : I 13 3 = J 0 6 := by rw [hP.2.1, hP.2.2.1]
  have e176 : I 17 6 = J 0 4 := by rw [hT.2.1.2, hT.2.2.1.2]
  have e11 : ss (I 11) nr = ss (J 12) nr := by rw [hA.1.a11]; rfl
  rw [e14, e66, e175, e133, e176, h5, e11]
