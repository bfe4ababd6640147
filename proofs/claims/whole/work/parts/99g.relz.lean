-- riders not yet there were never filmed
def relZ (I : Nat → Nat → Int32) (L : Nat → Nat → Int64) : Prop := ∀ nr, nr ≤ 12 → I 6 6 = nI nr → ∀ r, nr ≤ r → r < 12 → ∀ t, t < 64 → lbt (L 12 r) t = false
theorem relZ_keep {I I' : Nat → Nat → Int32} {L L' : Nat → Nat → Int64} (h : relZ I L) (hI : I' 6 6 = I 6 6) (hL : L' 12 = L 12) : relZ I' L' := by
  intro nr h1 h2 r h3 h4 t ht
  rw [hL]
  exact h nr h1 (by rw [← hI]; exact h2) r h3 h4 t ht
theorem relZ_more {I I' : Nat → Nat → Int32} {L : Nat → Nat → Int64} {nr : Nat} (h : relZ I L) (hn : nr < 12) (hI : I 6 6 = nI nr) (hI' : I' 6 6 = nI (nr + 1)) : relZ I' L := by
  intro m h1 h2 r h3 h4 t ht
  have : m = nr + 1 := (nI_eq (by omega) (by omega)).mp (by rw [← h2, hI'])
  exact h nr (by omega) hI r (by omega) h4 t ht
theorem relZ_at {I I' : Nat → Nat → Int32} {L L' : Nat → Nat → Int64} {nr : Nat} (h : relZ I L) (hn : nr ≤ 12) (hI : I 6 6 = nI nr) (hI' : I' 6 6 = I 6 6) (hL : ∀ r, nr ≤ r → L' 12 r = L 12 r) : relZ I' L' := by
  intro m h1 h2 r h3 h4 t ht
  have : m = nr := (nI_eq (by omega) (by omega)).mp (by rw [← h2, hI', hI])
  rw [hL r (by omega)]
  exact h nr hn hI r (by omega) h4 t ht
theorem relZ_start {I : Nat → Nat → Int32} {L : Nat → Nat → Int64} (hL : L 12 = fun _ => 0) : relZ I L := by
  intro nr h1 h2 r h3 h4 t ht
  rw [hL]
  exact lbt_0 t
/-- ones below n -/
def pcn (m : Nat) : Nat → Nat
  | 0 => 0
  | i + 1 => pcn m i + (if m.testBit i then 1 else 0)
theorem krn_pcn64 : ∀ a, a < 64 → ∀ b, b < 64 → krn 13 (64 * a + b) = pcn (64 * a + b) 12 := by decide +kernel
theorem krn_pcn {m : Nat} (h : m < 4096) : krn 13 m = pcn m 12 := by
  have := krn_pcn64 (m / 64) (by omega) (m % 64) (by omega)
  rw [show 64 * (m / 64) + m % 64 = m by omega] at this
  exact this
