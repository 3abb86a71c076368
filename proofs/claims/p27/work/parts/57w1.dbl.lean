/-! doubles: what busyness is, for all that can come -/
def bz_x (a b : Nat) : UInt64 := FP.ddiv (FP.i2d (Int32.ofInt (a : Int))) (FP.i2d (Int32.ofInt (b : Int)))
def bz_p (a b : Nat) : Bool := decide (bz_x a b &&& 0x7fffffffffffffff ≤ 0x7ff0000000000000) && (decide (¬ Op.cmpValue (FP.dcmp (bz_x a b) FP.dconst0) CmpOp.l ≤ 0) && decide (¬ Op.cmpValue (FP.dcmp (bz_x a b) FP.dconst0) CmpOp.l < 0))
theorem bz_0 : ∀ b, b < 25 → ∀ a, a < 108 → bz_p (a + 1) (b + 1) = true := by decide +kernel
theorem bz_1 : ∀ b, b < 25 → ∀ a, a < 108 → bz_p (a + 1) (b + 26) = true := by decide +kernel
