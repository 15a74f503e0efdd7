/-! ===== how many bits are set ===== -/
def zct (f : Nat → Bool) : Nat → Nat
  | 0 => 0
  | n + 1 => zct f n + (if f n = true then 1 else 0)
theorem z_pop1 : ∀ a, a < 64 → ∀ b, b < 64 → fJ6_bitCount_0f7a4 (nI (64 * a + b)) = nI (zct (bt (nI (64 * a + b))) 12) := by decide +kernel
theorem z_pop0 (m : Nat) (hm : m < 4096) : fJ6_bitCount_0f7a4 (nI m) = nI (zct (bt (nI m)) 12) := by
  have := z_pop1 (m / 64) (by omega) (m % 64) (by omega)
  rw [show 64 * (m / 64) + m % 64 = m by omega] at this
  exact this
