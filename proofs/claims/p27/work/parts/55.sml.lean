/-! the calls that change a wall: class and reference side by side -/
theorem i1n0 : (1 : Int32) ≠ 0 := by decide
theorem i2n0 : (2 : Int32) ≠ 0 := by decide
theorem i3n0 : (3 : Int32) ≠ 0 := by decide
theorem sp_IG_6 {Y : tw_Wl} {g : tw_H} (hc : sp_IC Y g) : g.2.1 ≤ 6 := hc.2.2.2.2.1
theorem sp_may0 {a : Int} : sp_mayb 0 a = true ↔ 1 ≤ a ∧ a ≤ 9 := by rw [sp_mayb_iff]; unfold sp_may; omega
theorem sp_may1 {a : Int} : sp_mayb 1 a = true ↔ -1 ≤ a ∧ a ≤ 5 := by rw [sp_mayb_iff]; unfold sp_may; omega
theorem sp_may2 {a : Int} : sp_mayb 2 a = true ↔ -1 ≤ a ∧ a ≤ 3 := by rw [sp_mayb_iff]; unfold sp_may; omega
theorem zi_nm1 {n : Nat} (h : 1 ≤ n) : zi (n : Int) - (1 : Int32) = zi ((n - 1 : Nat) : Int) := by
  rw [z1, zi_sub]
  exact congrArg zi (by omega)
theorem zi_pk (a k : Nat) : zi (a : Int) + zi (k : Int) = zi ((a + k : Nat) : Int) := zi_add a k
