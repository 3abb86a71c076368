/-! ranges, and what ties the class and the reference together -/
theorem ifl0 {α : Type} {P : Prop} [Decidable P] {x y : α} : (if (if P then (1 : Int32) else 0) = 0 then x else y) = if P then y else x := by
  by_cases h : P
  · rw [if_pos h, if_pos h, if_neg (by decide)]
  · rw [if_neg h, if_neg h, if_pos rfl]
theorem ifl1 {α : Type} {P : Prop} [Decidable P] {x y : α} : (if ¬ (if P then (1 : Int32) else 0) = 0 then x else y) = if P then x else y := by
  by_cases h : P
  · rw [if_pos h, if_pos h, if_pos (by decide)]
  · rw [if_neg h, if_neg h, if_neg (by decide)]
theorem ifb {P : Prop} [Decidable P] {α : Type} {x : Option α} : tw_q ((if P then (1 : Int32) else 0) = 0 ∨ (if P then (1 : Int32) else 0) = 1) x = x := by
  apply zi_q
  by_cases h : P
  · rw [if_pos h]; exact Or.inr rfl
  · rw [if_neg h]; exact Or.inl rfl
theorem ifc {P Q : Prop} [Decidable P] [Decidable Q] (h : P ↔ Q) : (if P then (1 : Int32) else 0) = if Q then 1 else 0 := by
  by_cases q : P
  · rw [if_pos q, if_pos (h.mp q)]
  · rw [if_neg q, if_neg (fun r => q (h.mpr r))]
theorem pX3_upto {a h : Int} (a1 : -2147483648 ≤ a) (a2 : a < 2147483648) (h1 : 0 ≤ h) (h2 : h < 1000) : (if zi a < 0 then some (0 : Int32) else if zi (h + 1) ≤ zi a then some (0 : Int32) else some (1 : Int32)) = some (if 0 ≤ a ∧ a ≤ h then 1 else 0) := by
  rw [z0, zif_lt a1 a2 (by omega) (by omega), zif_le (by omega) (by omega) a1 a2]
  by_cases e1 : a < 0
  · rw [if_pos e1, if_neg (by omega)]
  · rw [if_neg e1]
    by_cases e2 : h + 1 ≤ a
    · rw [if_pos e2, if_neg (by omega)]
    · rw [if_neg e2, if_pos (by omega)]
theorem pX3_isPerson {a : Int} (a1 : -2147483648 ≤ a) (a2 : a < 2147483648) : fX3_isPerson (zi a) = some (if 0 ≤ a ∧ a ≤ 5 then 1 else 0) := pX3_upto (h := 5) a1 a2 (by omega) (by omega)
theorem pX3_isHall {a : Int} (a1 : -2147483648 ≤ a) (a2 : a < 2147483648) : fX3_isHall (zi a) = some (if 0 ≤ a ∧ a ≤ 3 then 1 else 0) := pX3_upto (h := 3) a1 a2 (by omega) (by omega)
theorem pX3_isDay {a : Int} (a1 : -2147483648 ≤ a) (a2 : a < 2147483648) : fX3_isDay (zi a) = some (if 0 ≤ a ∧ a ≤ 99 then 1 else 0) := pX3_upto (h := 99) a1 a2 (by omega) (by omega)
theorem pX3_isRule {a : Int} (a1 : -2147483648 ≤ a) (a2 : a < 2147483648) : fX3_isRule (zi a) = some (if 0 ≤ a ∧ a ≤ 3 then 1 else 0) := pX3_upto (h := 3) a1 a2 (by omega) (by omega)
theorem pX3_isPersonOrNone {a : Int} (a1 : -2147483648 ≤ a) (a2 : a < 2147483648) : fX3_isPersonOrNone (zi a) = some (if -1 ≤ a ∧ a ≤ 5 then 1 else 0) := by
  unfold fX3_isPersonOrNone
  rw [pX3_isPerson a1 a2, ob_some, ifl0, zm1, zif_eq a1 a2 (by omega) (by omega)]
  by_cases e1 : a = -1
  · rw [if_pos e1, if_pos (by omega)]
  · rw [if_neg e1]
    by_cases e2 : 0 ≤ a ∧ a ≤ 5
    · rw [if_pos e2, if_pos (by omega)]
    · rw [if_neg e2, if_neg (by omega)]
theorem pX3_isHallOrNone {a : Int} (a1 : -2147483648 ≤ a) (a2 : a < 2147483648) : fX3_isHallOrNone (zi a) = some (if -1 ≤ a ∧ a ≤ 3 then 1 else 0) := by
  unfold fX3_isHallOrNone
  rw [pX3_isHall a1 a2, ob_some, ifl0, zm1, zif_eq a1 a2 (by omega) (by omega)]
  by_cases e1 : a = -1
  · rw [if_pos e1, if_pos (by omega)]
  · rw [if_neg e1]
    by_cases e2 : 0 ≤ a ∧ a ≤ 3
    · rw [if_pos e2, if_pos (by omega)]
    · rw [if_neg e2, if_neg (by omega)]
/-- what a property may be -/
def sp_may (w v : Int) : Prop := (w = 0 ∧ 1 ≤ v ∧ v ≤ 9) ∨ (w = 1 ∧ -1 ≤ v ∧ v ≤ 5) ∨ (w = 2 ∧ -1 ≤ v ∧ v ≤ 3) ∨ (w = 3 ∧ 0 ≤ v ∧ v ≤ 60)
def sp_mayb (w v : Int) : Bool := (decide (w = 0) && (decide (1 ≤ v) && decide (v ≤ 9))) || ((decide (w = 1) && (decide (-1 ≤ v) && decide (v ≤ 5))) || ((decide (w = 2) && (decide (-1 ≤ v) && decide (v ≤ 3))) || (decide (w = 3) && (decide (0 ≤ v) && decide (v ≤ 60)))))
theorem sp_mayb_iff {w v : Int} : sp_mayb w v = true ↔ sp_may w v := by
  unfold sp_mayb sp_may
  simp only [Bool.or_eq_true, Bool.and_eq_true, decide_eq_true_eq]
theorem pX3_isLength {a : Int} (a1 : -2147483648 ≤ a) (a2 : a < 2147483648) : fX3_isLength (zi a) = some (if 1 ≤ a ∧ a ≤ 9 then 1 else 0) := p_in (l := 1) (h := 9) a1 a2 (by omega) (by omega) (by omega) (by omega)
theorem pX3_isSlip {a : Int} (a1 : -2147483648 ≤ a) (a2 : a < 2147483648) : fX3_isSlip (zi a) = some (if 1 ≤ a ∧ a ≤ 20 then 1 else 0) := p_in (l := 1) (h := 20) a1 a2 (by omega) (by omega) (by omega) (by omega)
theorem pX3_isValue {w v : Int} (w1 : -2147483648 ≤ w) (w2 : w < 2147483648) (a1 : -2147483648 ≤ v) (a2 : v < 2147483648) : fX3_isValue (zi w) (zi v) = some (if sp_mayb w v = true then 1 else 0) := by
  have c0 : zi w = 0 ↔ w = 0 := zi_eq (b := 0) w1 w2 (by omega) (by omega)
  have c1 : zi w = 1 ↔ w = 1 := zi_eq (b := 1) w1 w2 (by omega) (by omega)
  have c2 : zi w = 2 ↔ w = 2 := zi_eq (b := 2) w1 w2 (by omega) (by omega)
  have c3 : zi w = 3 ↔ w = 3 := zi_eq (b := 3) w1 w2 (by omega) (by omega)
  unfold fX3_isValue
  rw [pX3_isLength a1 a2, pX3_isPersonOrNone a1 a2, pX3_isHallOrNone a1 a2, ob_some, ob_some, ob_some, ifb, ifb, ifb]
  by_cases e0 : w = 0
  · rw [if_pos (c0.mpr e0)]
    exact congrArg some (ifc (by rw [sp_mayb_iff]; unfold sp_may; omega))
  · rw [if_neg (fun q => e0 (c0.mp q))]
    by_cases e1 : w = 1
    · rw [if_pos (c1.mpr e1)]
      exact congrArg some (ifc (by rw [sp_mayb_iff]; unfold sp_may; omega))
    · rw [if_neg (fun q => e1 (c1.mp q))]
      by_cases e2 : w = 2
      · rw [if_pos (c2.mpr e2)]
        exact congrArg some (ifc (by rw [sp_mayb_iff]; unfold sp_may; omega))
      · rw [if_neg (fun q => e2 (c2.mp q))]
        by_cases e3 : w = 3
        · rw [if_pos (c3.mpr e3)]
          have : (if zi v < 0 then some (0 : Int32) else if (60 : Int32) < zi v then some (0 : Int32) else some (1 : Int32)) = _ := p_in (a := v) (l := 0) (h := 60) a1 a2 (by omega) (by omega) (by omega) (by omega)
          rw [this]
          exact congrArg some (ifc (by rw [sp_mayb_iff]; unfold sp_may; omega))
        · rw [if_neg (fun q => e3 (c3.mp q)), if_neg (by rw [sp_mayb_iff]; unfold sp_may; omega)]
theorem pX3_isTask {Y : tw_Wl} {V : tw_V} (h : sp_RS Y.1 V) (hV : sp_ok V) {a : Int} (a1 : -2147483648 ≤ a) (a2 : a < 2147483648) : fX3_isTask Y (zi a) = some (if 0 ≤ a ∧ a < sp_n V then 1 else 0) := by
  have hn := sp_12 hV
  unfold fX3_isTask
  rw [h.1, z0, zif_lt a1 a2 (by omega) (by omega), zif_le (by omega) (by omega) a1 a2]
  by_cases e1 : a < 0
  · rw [if_pos e1, if_neg (by omega)]
  · rw [if_neg e1]
    by_cases e2 : sp_n V ≤ a
    · rw [if_pos e2, if_neg (by omega)]
    · rw [if_neg e2, if_pos (by omega)]
/-! the ghost: the wall, how many saved ones, they, the length of the text, its codes -/
def sp_ok6 (V : tw_V) : Prop := sp_ok V ∧ ∀ t, t < sp_n V → sp_ear V t ≤ 60
abbrev tw_H : Type := tw_V × Nat × (Nat → tw_V) × Nat × (Nat → Int)
def sp_IG (g : tw_H) : Prop := sp_ok6 g.1 ∧ (∀ i, i < g.2.1 → sp_ok6 (g.2.2.1 i)) ∧ g.2.2.2.1 ≤ 60 ∧ ∀ i, i < g.2.2.2.1 → 33 ≤ g.2.2.2.2 i ∧ g.2.2.2.2 i ≤ 126
def sp_T (f : tw_F) (z : Int32) (tn : Nat) (tc : Nat → Int) : Prop := z = zi tn ∧ ∀ i, i < tn → f i = zi (tc i)
def sp_IC (Y : tw_Wl) (g : tw_H) : Prop := sp_RS Y.1 g.1 ∧ sp_RP Y.2.1 g.1 (sp_plan g.1) ∧ sp_T Y.2.2.2.2.1.1 Y.2.2.2.2.1.2 g.2.2.2.1 g.2.2.2.2 ∧ sp_SV Y.2.2.2.2.2.2.1 Y.2.2.2.2.2.2.2.1 Y.2.2.2.2.2.2.2.2 g.2.1 g.2.2.1
theorem sp_IC_K {Y Y' : tw_Wl} {g : tw_H} (h : sp_IC Y g) (hK : sp_K Y Y') : sp_IC Y' g := by
  obtain ⟨h1, h2, h3, h4⟩ := hK
  unfold sp_IC
  rw [h1, h2, h3, h4]
  exact h
/-- a wall changed, the one that was is saved -/
def sp_new (g : tw_H) (V : tw_V) : tw_H := (V, sp_nk g.2.1, sp_psh g.2.1 g.2.2.1 g.1, g.2.2.2)
theorem sp_IG_new {g : tw_H} (h : sp_IG g) (hk : g.2.1 ≤ 6) {V : tw_V} (hV : sp_ok6 V) : sp_IG (sp_new g V) := by
  refine ⟨hV, fun i hi => ?_, h.2.2⟩
  show sp_ok6 (sp_psh g.2.1 g.2.2.1 g.1 i)
  have hi' : i < sp_nk g.2.1 := hi
  unfold sp_nk at hi'
  unfold sp_psh
  by_cases e : g.2.1 < 6
  · rw [if_pos e] at hi' ⊢
    by_cases e2 : i = g.2.1
    · rw [if_pos e2]; exact h.1
    · rw [if_neg e2]; exact h.2.1 i (by omega)
  · rw [if_neg e] at hi' ⊢
    by_cases e2 : i < 5
    · rw [if_pos e2]; exact h.2.1 (i + 1) (by omega)
    · rw [if_neg e2]; exact h.1
theorem sp_IG_ns {g : tw_H} (h : sp_IG g) : ∀ i, i < g.2.1 → sp_n (g.2.2.1 i) ≤ 12 := fun i hi => sp_12 (h.2.1 i hi).1
/-- the class saves -/
theorem op_save {Y : tw_Wl} {g : tw_H} (hg : sp_IG g) (hc : sp_IC Y g) : ∃ sc Z pi, fX3_saveState Y = some (Y.1, Y.2.1, Y.2.2.1, Y.2.2.2.1, Y.2.2.2.2.1, Y.2.2.2.2.2.1, sc, Z, pi) ∧ sp_SV sc Z pi (sp_nk g.2.1) (sp_psh g.2.1 g.2.2.1 g.1) := pX3_saveState hc.1 hg.1.1 hc.2.2.2
