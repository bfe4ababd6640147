-- sums that change places
def sm (f : Nat → Nat) : Nat → Nat
  | 0 => 0
  | n + 1 => sm f n + f n
theorem sm_ag {f g : Nat → Nat} : ∀ n, (∀ i, i < n → f i = g i) → sm f n = sm g n := by
  intro n
  induction n with
  | zero => intro _; rfl
  | succ n ih =>
    intro h
    show sm f n + f n = sm g n + g n
    rw [ih (fun i hi => h i (by omega)), h n (by omega)]
theorem sm_add {f g : Nat → Nat} : ∀ n, sm (fun i => f i + g i) n = sm f n + sm g n := by
  intro n
  induction n with
  | zero => rfl
  | succ n ih =>
    show sm (fun i => f i + g i) n + (f n + g n) = sm f n + f n + (sm g n + g n)
    rw [ih]; omega
theorem sm_0 : ∀ n, sm (fun _ => 0) n = 0 := by
  intro n
  induction n with
  | zero => rfl
  | succ n ih => show sm (fun _ => 0) n + 0 = 0; rw [ih]
theorem sm_swap {F : Nat → Nat → Nat} : ∀ a b, sm (fun t => sm (fun r => F t r) b) a = sm (fun r => sm (fun t => F t r) a) b := by
  intro a
  induction a with
  | zero => intro b; exact (sm_0 b).symm
  | succ a ih =>
    intro b
    show sm (fun t => sm (fun r => F t r) b) a + sm (fun r => F a r) b = sm (fun r => sm (fun t => F t r) a + F a r) b
    rw [ih, sm_add]
/-- what is 0 from n on adds nothing -/
theorem sm_cut {f : Nat → Nat} {n : Nat} : ∀ k, (∀ i, n ≤ i → i < n + k → f i = 0) → sm f (n + k) = sm f n := by
  intro k
  induction k with
  | zero => intro _; rfl
  | succ k ih =>
    intro h
    show sm f (n + k) + f (n + k) = sm f n
    rw [ih (fun i a b => h i a (by omega)), h (n + k) (by omega) (by omega), Nat.add_zero]
theorem ss_sm {f : Nat → Nat} : ∀ n, ss (fun i => nI (f i)) n = nI (sm f n) := by
  intro n
  induction n with
  | zero => rfl
  | succ n ih =>
    show ss (fun i => nI (f i)) n + nI (f n) = nI (sm f n + f n)
    rw [ih, nI_add]
theorem pcn_sm {m : Nat} : ∀ n, pcn m n = sm (fun i => if m.testBit i then 1 else 0) n := by
  intro n
  induction n with
  | zero => rfl
  | succ n ih => show pcn m n + _ = sm _ n + _; rw [ih]
/-- count(5), if lbc counts a long's ones -/
theorem count5 {c nr nt n ru : Nat} {ln : Nat → Nat} {I J : Nat → Nat → Int32} {L : Nat → Nat → Int64} {TT : Nat → Tx} (hA : relA I J nr nt) (hF : relF L J nt) (hZ : relZ I L) (hpop : ∀ x : Int64, (∀ t, 40 ≤ t → t < 64 → lbt x t = false) → lbc x = nI (sm (fun t => if lbt x t = true then 1 else 0) 40)) : ss (fun r => lbc (L 12 r)) nr = mct J nt := by
  have hnr := hA.2.2.1.2
  have hnt := hA.2.1.2
  have e1 : ss (fun r => lbc (L 12 r)) nr = nI (sm (fun r => sm (fun t => if bt (J 7 t) r = true then 1 else 0) nt) nr) := by
    rw [← ss_sm]
    refine ss_ag nr (fun r hr => ?_)
    rw [hpop (L 12 r) (fun t h1 h2 => by rw [hF.2 r (by omega) t h2, decide_eq_false (by omega)]; rfl)]
    congr 1
    rw [show 40 = nt + (40 - nt) by omega, sm_cut (40 - nt) (fun t h1 h2 => by rw [hF.2 r (by omega) t (by omega), decide_eq_false (by omega)]; rfl)]
    exact sm_ag nt (fun t ht => by rw [hF.2 r (by omega) t (by omega), decide_eq_true ht, Bool.true_and])
  have e2 : mct J nt = nI (sm (fun t => sm (fun r => if bt (J 7 t) r = true then 1 else 0) nr) nt) := by
    unfold mct
    rw [← ss_sm]
    refine ss_ag nt (fun t ht => ?_)
    obtain ⟨m, hm, e⟩ := hF.1 t ht
    have hb : ∀ r, r < 12 → m.testBit r = bt (J 7 t) r := fun r hr => by
      rw [e]
      unfold bt
      show _ = (BitVec.ofNat 32 m).getLsbD r
      rw [BitVec.getLsbD_ofNat, decide_eq_true (by omega : r < 32), Bool.true_and]
    have hc : (J 7 t).toNatClampNeg = m := by rw [e]; exact nI_clamp (by omega)
    rw [hc, krn_pcn hm, pcn_sm]
    congr 1
    rw [show 12 = nr + (12 - nr) by omega, sm_cut (12 - nr) (fun r h1 h2 => by
      rw [hb r (by omega)]
      have z := hZ nr hnr hA.2.2.1.1 r h1 (by omega) t (by omega)
      rw [hF.2 r (by omega) t (by omega), decide_eq_true ht, Bool.true_and] at z
      rw [z]; rfl)]
    exact sm_ag nr (fun r hr => by rw [hb r (by omega)])
  rw [e1, e2, sm_swap]
