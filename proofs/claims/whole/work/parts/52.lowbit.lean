/-! ===== the lowest bit ===== -/
def sLb (x : Int32) : Nat → Nat → Nat
  | 0, i => i
  | k + 1, i => if bt x i = true then i else sLb x k (i + 1)
theorem z_low1 : ∀ a, a < 64 → ∀ b, b < 64 → 64 * a + b = 0 ∨ (sLb (nI (64 * a + b)) 12 0 < 12 ∧ bt (nI (64 * a + b)) (sLb (nI (64 * a + b)) 12 0) = true ∧ (nI (64 * a + b) &&& (-nI (64 * a + b))) = zb (sLb (nI (64 * a + b)) 12 0) ∧ (nI (64 * a + b) &&& (nI (64 * a + b) - 1)) = (nI (64 * a + b) &&& (zb (sLb (nI (64 * a + b)) 12 0) ^^^ (-1)))) := by decide +kernel
