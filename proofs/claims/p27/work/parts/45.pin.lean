/-! the reference's plan, as numbers -/
theorem zi_any (x : Int32) : ∃ a : Int, -2147483648 ≤ a ∧ a < 2147483648 ∧ x = zi a := ⟨x.toInt, by have := Int32.le_toInt x; omega, by have := Int32.toInt_lt x; omega, (zi_ofInt x).symm⟩
theorem zl3 : (3 : Int32) = zi ((3 : Nat) : Int) := rfl
theorem zl4 : (4 : Int32) = zi ((4 : Nat) : Int) := rfl
theorem zl2 : (2 : Int32) = zi ((2 : Nat) : Int) := rfl
theorem zl1 : (1 : Int32) = zi ((1 : Nat) : Int) := rfl
theorem zl0 : (0 : Int32) = zi ((0 : Nat) : Int) := rfl
theorem zT0 : (0 : Int32).toNatClampNeg = 0 := rfl
theorem zT1 : (1 : Int32).toNatClampNeg = 1 := rfl
theorem ob_some {α β : Type} (x : α) (f : α → Option β) : (some x).bind f = f x := rfl
theorem tb_shr1 {m : Int32} {k : Nat} (hk : k < 32) : ¬ ((m >>> (zi (k : Int) &&& 31)) &&& (1 : Int32)) = (1 : Int32) ↔ ¬ bt m k = true := by
  rw [tb_shr hk]
  by_cases h : bt m k = true
  · rw [if_pos h]; simp [h]
  · rw [if_neg h]; simp [h]
theorem sp_all_suc {p : Nat → Bool} {k : Nat} : sp_all p (k + 1) = (sp_all p k && p k) := rfl
def fp_in (p0 p1 p2 : Int32) : Option Int32 := if p0 < p1 then some (0 : Int32) else if p2 < p0 then some (0 : Int32) else some (1 : Int32)
theorem p_in {a l h : Int} (a1 : -2147483648 ≤ a) (a2 : a < 2147483648) (l1 : -2147483648 ≤ l) (l2 : l < 2147483648) (h1 : -2147483648 ≤ h) (h2 : h < 2147483648) : fp_in (zi a) (zi l) (zi h) = some (if l ≤ a ∧ a ≤ h then 1 else 0) := by
  unfold fp_in
  rw [zif_lt a1 a2 l1 l2, zif_lt h1 h2 a1 a2]
  by_cases e1 : a < l
  · rw [if_pos e1, if_neg (by omega)]
  · rw [if_neg e1]
    by_cases e2 : h < a
    · rw [if_pos e2, if_neg (by omega)]
    · rw [if_neg e2, if_pos (by omega)]
/-! what the reference finds out -/
theorem zi_row (t : Nat) : (10 : Int32) + (5 : Int32) * zi t = zi ((10 + 5 * t : Nat) : Int) := by
  show zi 10 + zi 5 * zi t = _
  rw [zi_mul, zi_add]
  exact congrArg zi (by omega)
theorem zi_hro (t : Nat) : (2 : Int32) + (2 : Int32) * zi t = zi ((2 + 2 * t : Nat) : Int) := by
  show zi 2 + zi 2 * zi t = _
  rw [zi_mul, zi_add]
  exact congrArg zi (by omega)
theorem zi_p1 (a : Nat) : zi a + (1 : Int32) = zi ((a + 1 : Nat) : Int) := zi_add a 1
theorem zi_p2 (a : Nat) : zi a + (2 : Int32) = zi ((a + 2 : Nat) : Int) := zi_add a 2
theorem zi_p3 (a : Nat) : zi a + (3 : Int32) = zi ((a + 3 : Nat) : Int) := zi_add a 3
theorem zi_p4 (a : Nat) : zi a + (4 : Int32) = zi ((a + 4 : Nat) : Int) := zi_add a 4
theorem zi_p5 (a : Nat) : zi a + (5 : Int32) = zi ((a + 5 : Nat) : Int) := zi_add a 5
/-! the longest row -/
/-! lengths -/
/-! another rule -/
/-! a person freed -/
/-! the worst slip -/
