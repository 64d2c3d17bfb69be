/-! PART d0: bits of the names. -/
theorem bit12a : ∀ a, a < 64 → ∀ b, b < 64 → ∀ k, k < 12 → bitAt (nt (64 * a + b)) k = b1 ((64 * a + b).testBit k) := by decide +kernel
theorem bit12 (v : Nat) (hv : v < 4096) (k : Nat) (hk : k < 12) : bitAt (nt v) k = b1 (v.testBit k) := by
  have := bit12a (v / 64) (by omega) (v % 64) (by omega) k hk
  rw [Nat.div_add_mod] at this
  exact this
