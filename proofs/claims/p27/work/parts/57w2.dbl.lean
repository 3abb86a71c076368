/-! doubles, the second half -/
theorem bz_2 : ∀ b, b < 25 → ∀ a, a < 108 → bz_p (a + 1) (b + 51) = true := by decide +kernel
theorem bz_3 : ∀ b, b < 25 → ∀ a, a < 108 → bz_p (a + 1) (b + 76) = true := by decide +kernel
theorem bz_n {a b : Nat} (h0 : 1 ≤ a) (h1 : a ≤ 108) (h2 : 1 ≤ b) (h3 : b ≤ 100) : bz_p a b = true := by
  obtain ⟨a, rfl⟩ : ∃ k, a = k + 1 := ⟨a - 1, by omega⟩
  rcases Nat.lt_or_ge b 26 with h | h
  · have := bz_0 (b - 1) (by omega) a (by omega)
    rwa [show b - 1 + 1 = b by omega] at this
  · rcases Nat.lt_or_ge b 51 with h | h
    · have := bz_1 (b - 26) (by omega) a (by omega)
      rwa [show b - 26 + 26 = b by omega] at this
    · rcases Nat.lt_or_ge b 76 with h | h
      · have := bz_2 (b - 51) (by omega) a (by omega)
        rwa [show b - 51 + 51 = b by omega] at this
      · have := bz_3 (b - 76) (by omega) a (by omega)
        rwa [show b - 76 + 76 = b by omega] at this
theorem bz_all {a b : Int} (a0 : 1 ≤ a) (a1 : a ≤ 108) (b0 : 1 ≤ b) (b1 : b ≤ 100) : (FP.ddiv (FP.i2d (Int32.ofInt a)) (FP.i2d (Int32.ofInt b)) &&& 0x7fffffffffffffff ≤ 0x7ff0000000000000) ∧ ¬ Op.cmpValue (FP.dcmp (FP.ddiv (FP.i2d (Int32.ofInt a)) (FP.i2d (Int32.ofInt b))) FP.dconst0) CmpOp.l ≤ 0 ∧ ¬ Op.cmpValue (FP.dcmp (FP.ddiv (FP.i2d (Int32.ofInt a)) (FP.i2d (Int32.ofInt b))) FP.dconst0) CmpOp.l < 0 := by
  obtain ⟨n, hn⟩ : ∃ n : Nat, a = n := ⟨a.toNat, by omega⟩
  obtain ⟨m, hm⟩ : ∃ m : Nat, b = m := ⟨b.toNat, by omega⟩
  subst hn
  subst hm
  have h := bz_n (a := n) (b := m) (by omega) (by omega) (by omega) (by omega)
  unfold bz_p at h
  rw [Bool.and_eq_true, Bool.and_eq_true, decide_eq_true_eq, decide_eq_true_eq, decide_eq_true_eq] at h
  exact h
theorem bz_zero : Op.cmpValue (FP.dcmp FP.dconst0 FP.dconst0) CmpOp.l ≤ 0 ∧ ¬ Op.cmpValue (FP.dcmp FP.dconst0 FP.dconst0) CmpOp.l < 0 := by decide +kernel
