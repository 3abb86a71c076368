/-! doubles: what busyness and digest make of them, for all that can come -/
def bz_x (a b : Nat) : UInt64 := FP.ddiv (FP.i2d (Int32.ofInt (a : Int))) (FP.i2d (Int32.ofInt (b : Int)))
def bz_p (a b : Nat) : Bool := decide (bz_x a b &&& 0x7fffffffffffffff ≤ 0x7ff0000000000000) && (decide (fX3_bitsOf (bz_x a b) = some (bz_x a b).toInt64) && decide (fJxe99ae_doubleToLongBits_ccdee (bz_x a b) = some (bz_x a b).toInt64))
theorem bz_0 : ∀ b, b < 25 → ∀ a, a < 109 → bz_p a (b + 1) = true := by decide +kernel
theorem bz_1 : ∀ b, b < 25 → ∀ a, a < 109 → bz_p a (b + 26) = true := by decide +kernel
