/-! the calls that change a wall: class and reference side by side -/
/-- a call's answers: a, b, c are what IllegalArgument, IllegalState, IndexOutOfBounds are to the reference, 0 where the call doesn't throw it -/
def sp_A (a b c : Int32) (X : Option (Nat × Int32 × tw_Wl)) (R : Option (Int32 × tw_Md)) : Prop := ∃ kc r Y' rb M', X = some (kc, r, Y') ∧ R = some (rb, M') ∧ sp_I Y' M' ∧ ((kc = 0 ∧ M'.2.2.2.2.2.2.1 = 0 ∧ r = rb) ∨ (kc = 1 ∧ a ≠ 0 ∧ M'.2.2.2.2.2.2.1 = a) ∨ (kc = 2 ∧ b ≠ 0 ∧ M'.2.2.2.2.2.2.1 = b) ∨ (kc = 3 ∧ c ≠ 0 ∧ M'.2.2.2.2.2.2.1 = c))
theorem sp_A0 {a b c : Int32} {r rb : Int32} {Y' : tw_Wl} {M' : tw_Md} {g : tw_H} (hg : sp_IG g) (hc : sp_IC Y' g) (hm : sp_IM M' g) (ht : M'.2.2.2.2.2.2.1 = 0) (hr : r = rb) : sp_A a b c (some (0, r, Y')) (some (rb, M')) := ⟨0, r, Y', rb, M', rfl, rfl, ⟨g, hg, hc, hm⟩, Or.inl ⟨rfl, ht, hr⟩⟩
theorem sp_A1 {a b c : Int32} {r rb : Int32} {Y' : tw_Wl} {M' : tw_Md} {g : tw_H} (hg : sp_IG g) (hc : sp_IC Y' g) (hm : sp_IM M' g) (ha : a ≠ 0) : sp_A a b c (some (1, r, Y')) (some (rb, (M'.1, M'.2.1, M'.2.2.1, M'.2.2.2.1, M'.2.2.2.2.1, M'.2.2.2.2.2.1, a, M'.2.2.2.2.2.2.2))) := ⟨1, r, Y', rb, _, rfl, rfl, ⟨g, hg, hc, hm⟩, Or.inr (Or.inl ⟨rfl, ha, rfl⟩)⟩
theorem sp_A2 {a b c : Int32} {r rb : Int32} {Y' : tw_Wl} {M' : tw_Md} {g : tw_H} (hg : sp_IG g) (hc : sp_IC Y' g) (hm : sp_IM M' g) (hb : b ≠ 0) : sp_A a b c (some (2, r, Y')) (some (rb, (M'.1, M'.2.1, M'.2.2.1, M'.2.2.2.1, M'.2.2.2.2.1, M'.2.2.2.2.2.1, b, M'.2.2.2.2.2.2.2))) := ⟨2, r, Y', rb, _, rfl, rfl, ⟨g, hg, hc, hm⟩, Or.inr (Or.inr (Or.inl ⟨rfl, hb, rfl⟩))⟩
theorem sp_A3 {a b c : Int32} {r rb : Int32} {Y' : tw_Wl} {M' : tw_Md} {g : tw_H} (hg : sp_IG g) (hc : sp_IC Y' g) (hm : sp_IM M' g) (hc3 : c ≠ 0) : sp_A a b c (some (3, r, Y')) (some (rb, (M'.1, M'.2.1, M'.2.2.1, M'.2.2.2.1, M'.2.2.2.2.1, M'.2.2.2.2.2.1, c, M'.2.2.2.2.2.2.2))) := ⟨3, r, Y', rb, _, rfl, rfl, ⟨g, hg, hc, hm⟩, Or.inr (Or.inr (Or.inr ⟨rfl, hc3, rfl⟩))⟩
theorem i1n0 : (1 : Int32) ≠ 0 := by decide
theorem i2n0 : (2 : Int32) ≠ 0 := by decide
theorem i3n0 : (3 : Int32) ≠ 0 := by decide
theorem sp_IG_6 {Y : tw_Wl} {g : tw_H} (hc : sp_IC Y g) : g.2.1 ≤ 6 := hc.2.2.2.2.1
/-- the reference has failed -/
theorem op_fl {M : tw_Md} {k : Int32} : (fX4_fails M k).bind (fun r => some (r.1, r.2)) = some ((0 : Int32), (M.1, M.2.1, M.2.2.1, M.2.2.2.1, M.2.2.2.2.1, M.2.2.2.2.2.1, k, M.2.2.2.2.2.2.2)) := rfl
theorem sp_may0 {a : Int} : sp_mayb 0 a = true ↔ 1 ≤ a ∧ a ≤ 9 := by rw [sp_mayb_iff]; unfold sp_may; omega
theorem sp_may1 {a : Int} : sp_mayb 1 a = true ↔ -1 ≤ a ∧ a ≤ 5 := by rw [sp_mayb_iff]; unfold sp_may; omega
theorem sp_may2 {a : Int} : sp_mayb 2 a = true ↔ -1 ≤ a ∧ a ≤ 3 := by rw [sp_mayb_iff]; unfold sp_may; omega
theorem op_add {Y : tw_Wl} {M : tw_Md} (hI : sp_I Y M) (p1 p2 p3 : Int32) : sp_A 1 2 0 (fX3_add Y p1 p2 p3) (fX4_add M p1 p2 p3) := by
  obtain ⟨g, hg, hc, hm⟩ := hI
  obtain ⟨a, a1, a2, rfl⟩ := zi_any p1
  obtain ⟨b, b1, b2, rfl⟩ := zi_any p2
  obtain ⟨c, c1, c2, rfl⟩ := zi_any p3
  have hn := sp_12 hg.1.1
  have f0 : fX4_isFor (0 : Int32) (zi a) = some (if sp_mayb 0 a = true then 1 else 0) := pX4_isFor (w := 0) (by omega) (by omega) a1 a2
  have f1 : fX4_isFor (1 : Int32) (zi b) = some (if sp_mayb 1 b = true then 1 else 0) := pX4_isFor (w := 1) (by omega) (by omega) b1 b2
  have f2 : fX4_isFor (2 : Int32) (zi c) = some (if sp_mayb 2 c = true then 1 else 0) := pX4_isFor (w := 2) (by omega) (by omega) c1 c2
  unfold fX3_add fX4_add
  simp only [pX3_isLength a1 a2, pX3_isPersonOrNone b1 b2, pX3_isHallOrNone c1 c2, f0, f1, f2, ob_some, ifl0, ifl1, op_fl]
  by_cases e1 : 1 ≤ a ∧ a ≤ 9
  · rw [if_pos e1, if_pos (sp_may0.mpr e1)]
    by_cases e2 : -1 ≤ b ∧ b ≤ 5
    · rw [if_pos e2, if_pos (sp_may1.mpr e2)]
      by_cases e3 : -1 ≤ c ∧ c ≤ 3
      · rw [if_pos e3, if_pos (sp_may2.mpr e3)]
        have c12 : zi (sp_n g.1 : Int) < (12 : Int32) ↔ (sp_n g.1 : Int) < 12 := zi_lt (b := 12) (by omega) (by omega) (by omega) (by omega)
        have d12 : zi (sp_n g.1 : Int) = (12 : Int32) ↔ (sp_n g.1 : Int) = 12 := zi_eq (b := 12) (by omega) (by omega) (by omega) (by omega)
        rw [hc.1.1, zT0, hm.1.1]
        by_cases e4 : sp_n g.1 < 12
        · rw [if_pos (c12.mpr (by omega)), if_pos (fun q => absurd (d12.mp q) (by omega))]
          have hV' : sp_ok6 (sp_app g.1 a b c 0) := sp_app_ok hg.1 e4 e1 e2 e3 (fun i _ => b_0 i)
          obtain ⟨sc, Z, pi, s1, s2⟩ := op_save hg hc
          rw [s1, ob_some]
          obtain ⟨S', t1, t2⟩ := pX1_appendTask hc.1 e4 a b c
          (try dsimp only)
          rw [t1, ob_some]
          obtain ⟨P', u1, u2⟩ := pX0_lay t2 hV'.1 Y.2.1
          rw [u1, ob_some]
          obtain ⟨past, kp, v1, v2⟩ := op_saves hg hm
          rw [v1, ob_some]
          obtain ⟨nw, w1, w2⟩ := pX4_comes (M := (M.1, M.2.1, past, kp, (sp_m0 M).2.2.2.2)) hm.1 e4 a b c 0
          rw [w1, ob_some]
          exact sp_A0 (g := sp_new g (sp_app g.1 a b c 0)) (sp_IG_new hg (sp_IG_6 hc) hV') ⟨t2, u2, hc.2.2.1, s2⟩ ⟨w2, v2, hm.2.2⟩ rfl (congrArg (fun x => x - (1 : Int32)) (t2.1.trans w2.1.symm))
        · rw [if_neg (fun q => absurd (c12.mp q) (by omega)), if_neg (fun q => q (d12.mpr (by omega)))]
          exact sp_A2 (M' := sp_m0 M) hg hc hm i2n0
      · rw [if_neg e3, if_neg (fun q => e3 (sp_may2.mp q))]
        exact sp_A1 (M' := sp_m0 M) hg hc hm i1n0
    · rw [if_neg e2, if_neg (fun q => e2 (sp_may1.mp q))]
      exact sp_A1 (M' := sp_m0 M) hg hc hm i1n0
  · rw [if_neg e1, if_neg (fun q => e1 (sp_may0.mp q))]
    exact sp_A1 (M' := sp_m0 M) hg hc hm i1n0
theorem zi_nm1 {n : Nat} (h : 1 ≤ n) : zi (n : Int) - (1 : Int32) = zi ((n - 1 : Nat) : Int) := by
  rw [z1, zi_sub]
  exact congrArg zi (by omega)
theorem op_remove {Y : tw_Wl} {M : tw_Md} (hI : sp_I Y M) (p1 : Int32) : sp_A 0 0 1 (fX3_remove Y p1) (fX4_remove M p1) := by
  obtain ⟨g, hg, hc, hm⟩ := hI
  obtain ⟨a, a1, a2, rfl⟩ := zi_any p1
  have hn := sp_12 hg.1.1
  unfold fX3_remove fX4_remove
  simp only [pX3_isTask hc.1 hg.1.1 a1 a2, pX4_isTask (M := sp_m0 M) hm.1 hg.1.1 a1 a2, ob_some, ifl0, ifl1, op_fl]
  by_cases e1 : 0 ≤ a ∧ a < sp_n g.1
  · rw [if_pos e1, if_pos e1]
    obtain ⟨t, rfl⟩ : ∃ t : Nat, a = t := ⟨a.toNat, by omega⟩
    have ht : t < sp_n g.1 := by omega
    have hV' : sp_ok6 (sp_drp g.1 t) := sp_drp_ok hg.1 ht
    rw [pX1_followers hc.1 hg.1.1 ht, ob_some]
    obtain ⟨sc, Z, pi, s1, s2⟩ := op_save hg hc
    rw [s1, ob_some]
    obtain ⟨S', t1, t2⟩ := pX1_dropTask hc.1 hg.1.1 ht
    (try dsimp only)
    rw [t1, ob_some]
    obtain ⟨P', u1, u2⟩ := pX0_lay t2 hV'.1 Y.2.1
    rw [u1, ob_some]
    obtain ⟨past, kp, v1, v2⟩ := op_saves hg hm
    rw [v1, ob_some]
    (try dsimp only)
    rw [pX4_followers hm.1 hg.1.1 ht, ob_some, zT0, hm.1.1, zi_nm1 (by omega), zi_row]
    obtain ⟨nw, w1, w2⟩ := pX4_removes (M := (M.1, M.2.1, past, kp, (sp_m0 M).2.2.2.2)) (r := zi (sp_flw g.1 t)) hm.1 hg.1.1 ht
    (try dsimp only at w1)
    rw [w1]
    exact sp_A0 (g := sp_new g (sp_drp g.1 t)) (sp_IG_new hg (sp_IG_6 hc) hV') ⟨t2, u2, hc.2.2.1, s2⟩ ⟨w2, v2, hm.2.2⟩ rfl rfl
  · rw [if_neg e1, if_neg e1]
    exact sp_A3 (M' := sp_m0 M) hg hc hm i1n0
theorem op_rule {Y : tw_Wl} {M : tw_Md} (hI : sp_I Y M) (p1 : Int32) : sp_A 1 0 0 (fX3_rule Y p1) (fX4_rule M p1) := by
  obtain ⟨g, hg, hc, hm⟩ := hI
  obtain ⟨a, a1, a2, rfl⟩ := zi_any p1
  have i0 : fX4_in (zi a) (0 : Int32) (3 : Int32) = _ := pX4_in (a := a) (l := 0) (h := 3) a1 a2 (by omega) (by omega) (by omega) (by omega)
  unfold fX3_rule fX4_rule
  simp only [pX3_isRule a1 a2, i0, ob_some, ifl0, ifl1, op_fl]
  by_cases e1 : 0 ≤ a ∧ a ≤ 3
  · rw [if_pos e1, if_pos e1]
    have hV' : sp_ok6 (sp_rul g.1 a) := ⟨sp_ok_rul hg.1.1 e1.1 e1.2, hg.1.2⟩
    obtain ⟨sc, Z, pi, s1, s2⟩ := op_save hg hc
    rw [s1, ob_some]
    obtain ⟨P', u1, u2⟩ := pX0_lay (sp_RS_rul (r := a) hc.1) hV'.1 Y.2.1
    (try dsimp only)
    rw [u1, ob_some]
    obtain ⟨past, kp, v1, v2⟩ := op_saves hg hm
    rw [v1, ob_some, zT1]
    exact sp_A0 (g := sp_new g (sp_rul g.1 a)) (sp_IG_new hg (sp_IG_6 hc) hV') ⟨sp_RS_rul hc.1, u2, hc.2.2.1, s2⟩ ⟨sp_RA_rul hm.1, v2, hm.2.2⟩ rfl (hc.1.2.1.trans hm.1.2.1.symm)
  · rw [if_neg e1, if_neg e1]
    exact sp_A1 (M' := sp_m0 M) hg hc hm i1n0
theorem op_borrow {Y : tw_Wl} {M : tw_Md} (hI : sp_I Y M) (p1 p2 p3 : Int32) : sp_A 2 0 1 (fX3_borrow Y p1 p2 p3) (fX4_borrow M p1 p2 p3) := by
  obtain ⟨g, hg, hc, hm⟩ := hI
  obtain ⟨a, a1, a2, rfl⟩ := zi_any p1
  obtain ⟨b, b1, b2, rfl⟩ := zi_any p2
  obtain ⟨c, c1, c2, rfl⟩ := zi_any p3
  have i0 : fX4_in (zi c) (zi b) (99 : Int32) = _ := pX4_in (a := c) (l := b) (h := 99) c1 c2 b1 b2 (by omega) (by omega)
  have cc : zi b ≤ zi c ↔ b ≤ c := zi_le b1 b2 c1 c2
  unfold fX3_borrow fX4_borrow
  simp only [pX3_isHall a1 a2, pX3_isDay b1 b2, pX3_isDay c1 c2, pX4_isHall a1 a2, pX4_isDay b1 b2, i0, ob_some, ifl0, ifl1, op_fl]
  by_cases e1 : 0 ≤ a ∧ a ≤ 3
  · rw [if_pos e1, if_pos e1]
    by_cases e2 : 0 ≤ b ∧ b ≤ 99
    · rw [if_pos e2, if_pos e2]
      by_cases e3 : b ≤ c ∧ c ≤ 99
      · rw [if_pos (show 0 ≤ c ∧ c ≤ 99 by omega), if_pos (cc.mpr e3.1), if_pos e3]
        obtain ⟨j, rfl⟩ : ∃ j : Nat, a = j := ⟨a.toNat, by omega⟩
        have hj : j < 4 := by omega
        have hV' : sp_ok6 (sp_bor g.1 j b c) := sp_bor_ok hg.1 e2 (by omega)
        obtain ⟨sc, Z, pi, s1, s2⟩ := op_save hg hc
        rw [s1, ob_some, zi_n (by omega) (by omega), zi_n (by omega) (by omega), zi_Tn (by omega)]
        obtain ⟨P', u1, u2⟩ := pX0_lay (sp_bor_RS (j := j) (a := b) (b := c) hc.1) hV'.1 Y.2.1
        (try dsimp only)
        rw [u1, ob_some]
        obtain ⟨past, kp, v1, v2⟩ := op_saves hg hm
        rw [v1, ob_some, zi_hro, zi_p1, zi_n (by omega) (by omega), zi_n (by omega) (by omega), zi_Tn (by omega), zi_Tn (by omega)]
        have hR := sp_bor_RA (a := b) (b := c) hm.1 hj
        obtain ⟨M', w1, w2, w3⟩ := pX4_plans (M := (upd (upd M.1 (2 + 2 * j) (zi b)) (2 + 2 * j + 1) (zi c), M.2.1, past, kp, (sp_m0 M).2.2.2.2)) hR hV'.1
        rw [w1, ob_some, pX4_laid (sp_RA_K hR w2) hV'.1 w3 (sp_bokp hV'.1), ob_some]
        exact sp_A0 (g := sp_new g (sp_bor g.1 j b c)) (sp_IG_new hg (sp_IG_6 hc) hV') ⟨sp_bor_RS hc.1, u2, hc.2.2.1, s2⟩ (sp_IM_K (M := (upd (upd M.1 (2 + 2 * j) (zi b)) (2 + 2 * j + 1) (zi c), M.2.1, past, kp, (sp_m0 M).2.2.2.2)) ⟨hR, v2, hm.2.2⟩ w2) w2.2.2.2.2.2 u2.2.1
      · rw [if_neg e3]
        by_cases e4 : 0 ≤ c ∧ c ≤ 99
        · rw [if_pos e4, if_neg (fun q => e3 ⟨cc.mp q, e4.2⟩)]
          exact sp_A1 (M' := sp_m0 M) hg hc hm i2n0
        · rw [if_neg e4]
          exact sp_A1 (M' := sp_m0 M) hg hc hm i2n0
    · rw [if_neg e2, if_neg e2]
      exact sp_A1 (M' := sp_m0 M) hg hc hm i2n0
  · rw [if_neg e1, if_neg e1]
    exact sp_A3 (M' := sp_m0 M) hg hc hm i1n0
