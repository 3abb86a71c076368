/-! the calls that change a wall, further ones -/
theorem zi_pk (a k : Nat) : zi (a : Int) + zi (k : Int) = zi ((a + k : Nat) : Int) := zi_add a k
theorem op_need {Y : tw_Wl} {M : tw_Md} (hI : sp_I Y M) (p1 p2 p3 : Int32) : sp_A 2 0 1 (fX3_need Y p1 p2 p3) (fX4_need M p1 p2 p3) := by
  obtain ⟨g, hg, hc, hm⟩ := hI
  obtain ⟨a, a1, a2, rfl⟩ := zi_any p1
  obtain ⟨b, b1, b2, rfl⟩ := zi_any p2
  have hn := sp_12 hg.1.1
  have cc : zi b < zi a ↔ b < a := zi_lt b1 b2 a1 a2
  unfold fX3_need fX4_need
  simp only [pX3_isTask hc.1 hg.1.1 a1 a2, pX3_isTask hc.1 hg.1.1 b1 b2, pX4_isTask (M := sp_m0 M) hm.1 hg.1.1 a1 a2, pX4_isTask (M := sp_m0 M) hm.1 hg.1.1 b1 b2, ob_some, ifl0, ifl1, op_fl]
  by_cases e1 : 0 ≤ a ∧ a < sp_n g.1
  · rw [if_pos e1, if_pos e1]
    by_cases e2 : 0 ≤ b ∧ b < sp_n g.1
    · rw [if_pos e2, if_pos e2]
      by_cases e3 : b < a
      · rw [if_pos (cc.mpr e3), if_pos (cc.mpr e3)]
        obtain ⟨t, rfl⟩ : ∃ t : Nat, a = t := ⟨a.toNat, by omega⟩
        obtain ⟨o, rfl⟩ : ∃ o : Nat, b = o := ⟨b.toNat, by omega⟩
        have ht : t < sp_n g.1 := by omega
        have hot : o < t := by omega
        have hlow : ∀ i, t ≤ i → bt (sp_msk g.1 t) i = false := (hg.1.1.2.2.2.1 t ht).2.2.2.2.2.2.2.2
        have hr : (sp_msk g.1 t >>> (zi (o : Int) &&& 31)) &&& (1 : Int32) = if sp_bit g.1 t o = true then 1 else 0 := tb_shr (by omega)
        obtain ⟨sc, Z, pi, s1, s2⟩ := op_save hg hc
        obtain ⟨past, kp, v1, v2⟩ := op_saves hg hm
        rw [pX1_isNeeded hc.1 hg.1.1 ht (show o < 32 by omega), ob_some, ifl0, v1, ob_some]
        (try dsimp only)
        rw [pX4_msk hm.1 hg.1.1 ht, ob_some, zi_row, zi_p4, zi_n (by omega) (by omega), zi_n (by omega) (by omega), zi_Tn (by omega), hr]
        by_cases e4 : p3 = 0
        · rw [if_pos e4]
          have hV' : sp_ok6 (sp_ms g.1 t (sp_msk g.1 t &&& (((1 : Int32) <<< (zi (o : Int) &&& 31)) ^^^ (-1 : Int32)))) := sp_ms_ok hg.1 (fun i hi => by
            rcases Nat.lt_or_ge i 32 with h32 | h32
            · rw [tb_clr (by omega) h32]
              rw [hlow i hi, Bool.false_and]
            · exact b_big h32)
          have key : ∃ Y', (∀ v, fX3_need_54 (zi t) (zi o) p3 v Y = some (0, v, Y')) ∧ sp_IC Y' (sp_new g (sp_ms g.1 t (sp_msk g.1 t &&& (((1 : Int32) <<< (zi (o : Int) &&& 31)) ^^^ (-1 : Int32))))) := by
            obtain ⟨P', u1, u2⟩ := pX0_lay (sp_ms_RS (t := t) (m := sp_msk g.1 t &&& (((1 : Int32) <<< (zi (o : Int) &&& 31)) ^^^ (-1 : Int32))) hc.1) hV'.1 Y.2.1
            refine ⟨(_, P', Y.2.2.1, Y.2.2.2.1, Y.2.2.2.2.1, Y.2.2.2.2.2.1, sc, Z, pi), fun v => ?_, sp_ms_RS (t := t) (m := sp_msk g.1 t &&& (((1 : Int32) <<< (zi (o : Int) &&& 31)) ^^^ (-1 : Int32))) hc.1, u2, hc.2.2.1, s2⟩
            unfold fX3_need_54
            rw [s1, ob_some, if_pos e4, zi_n (by omega) (by omega), zi_n (by omega) (by omega), zi_Tn (by omega)]
            unfold fX3_need_99
            (try dsimp only)
            rw [(hc.1.2.2.1 t ht).2.2.2.2, u1, ob_some]
          obtain ⟨Y', k1, k2⟩ := key
          rw [k1, k1]
          have hM : sp_IM (upd M.1 (10 + 5 * t + 4) (sp_msk g.1 t &&& (((1 : Int32) <<< (zi (o : Int) &&& 31)) ^^^ (-1 : Int32))), M.2.1, past, kp, (sp_m0 M).2.2.2.2) (sp_new g (sp_ms g.1 t (sp_msk g.1 t &&& (((1 : Int32) <<< (zi (o : Int) &&& 31)) ^^^ (-1 : Int32))))) := ⟨sp_ms_RA hm.1, v2, hm.2.2⟩
          by_cases e5 : sp_bit g.1 t o = true
          · rw [if_pos e5, if_pos e5]
            exact sp_A0 (sp_IG_new hg (sp_IG_6 hc) hV') k2 hM rfl rfl
          · rw [if_neg e5, if_neg e5]
            exact sp_A0 (sp_IG_new hg (sp_IG_6 hc) hV') k2 hM rfl rfl
        · rw [if_neg e4]
          have hV' : sp_ok6 (sp_ms g.1 t (sp_msk g.1 t ||| ((1 : Int32) <<< (zi (o : Int) &&& 31)))) := sp_ms_ok hg.1 (fun i hi => by
            rcases Nat.lt_or_ge i 32 with h32 | h32
            · rw [tb_or (by omega) h32]
              rw [hlow i hi, decide_eq_false (by omega)]; rfl
            · exact b_big h32)
          have key : ∃ Y', (∀ v, fX3_need_54 (zi t) (zi o) p3 v Y = some (0, v, Y')) ∧ sp_IC Y' (sp_new g (sp_ms g.1 t (sp_msk g.1 t ||| ((1 : Int32) <<< (zi (o : Int) &&& 31))))) := by
            obtain ⟨P', u1, u2⟩ := pX0_lay (sp_ms_RS (t := t) (m := sp_msk g.1 t ||| ((1 : Int32) <<< (zi (o : Int) &&& 31))) hc.1) hV'.1 Y.2.1
            refine ⟨(_, P', Y.2.2.1, Y.2.2.2.1, Y.2.2.2.2.1, Y.2.2.2.2.2.1, sc, Z, pi), fun v => ?_, sp_ms_RS (t := t) (m := sp_msk g.1 t ||| ((1 : Int32) <<< (zi (o : Int) &&& 31))) hc.1, u2, hc.2.2.1, s2⟩
            unfold fX3_need_54
            rw [s1, ob_some, if_neg e4, zi_n (by omega) (by omega), zi_n (by omega) (by omega), zi_Tn (by omega)]
            unfold fX3_need_99
            (try dsimp only)
            rw [(hc.1.2.2.1 t ht).2.2.2.2, u1, ob_some]
          obtain ⟨Y', k1, k2⟩ := key
          rw [k1, k1]
          have hM : sp_IM (upd M.1 (10 + 5 * t + 4) (sp_msk g.1 t ||| ((1 : Int32) <<< (zi (o : Int) &&& 31))), M.2.1, past, kp, (sp_m0 M).2.2.2.2) (sp_new g (sp_ms g.1 t (sp_msk g.1 t ||| ((1 : Int32) <<< (zi (o : Int) &&& 31))))) := ⟨sp_ms_RA hm.1, v2, hm.2.2⟩
          by_cases e5 : sp_bit g.1 t o = true
          · rw [if_pos e5, if_pos e5]
            exact sp_A0 (sp_IG_new hg (sp_IG_6 hc) hV') k2 hM rfl rfl
          · rw [if_neg e5, if_neg e5]
            exact sp_A0 (sp_IG_new hg (sp_IG_6 hc) hV') k2 hM rfl rfl
      · rw [if_neg (fun q => e3 (cc.mp q)), if_neg (fun q => e3 (cc.mp q))]
        exact sp_A1 (M' := sp_m0 M) hg hc hm i2n0
    · rw [if_neg e2, if_neg e2]
      exact sp_A3 (M' := sp_m0 M) hg hc hm i1n0
  · rw [if_neg e1, if_neg e1]
    exact sp_A3 (M' := sp_m0 M) hg hc hm i1n0
theorem op_change {Y : tw_Wl} {M : tw_Md} (hI : sp_I Y M) (p1 p2 p3 : Int32) : sp_A 2 0 1 (fX3_change Y p1 p2 p3) (fX4_change M p1 p2 p3) := by
  obtain ⟨g, hg, hc, hm⟩ := hI
  obtain ⟨a, a1, a2, rfl⟩ := zi_any p1
  obtain ⟨w, w1, w2, rfl⟩ := zi_any p2
  obtain ⟨x, x1, x2, rfl⟩ := zi_any p3
  have hn := sp_12 hg.1.1
  have i0 : fX4_in (zi w) (0 : Int32) (3 : Int32) = _ := pX4_in (a := w) (l := 0) (h := 3) w1 w2 (by omega) (by omega) (by omega) (by omega)
  unfold fX3_change fX4_change
  simp only [pX3_isTask hc.1 hg.1.1 a1 a2, pX4_isTask (M := sp_m0 M) hm.1 hg.1.1 a1 a2, pX3_isValue w1 w2 x1 x2, i0, ob_some, ifl0, ifl1, op_fl]
  by_cases e1 : 0 ≤ a ∧ a < sp_n g.1
  · rw [if_pos e1, if_pos e1]
    by_cases e2 : 0 ≤ w ∧ w ≤ 3
    · rw [if_pos e2, pX4_isFor e2.1 e2.2 x1 x2, ob_some, ifl1]
      by_cases e3 : sp_mayb w x = true
      · rw [if_pos e3, if_pos e3]
        have hmay := sp_mayb_iff.mp e3
        obtain ⟨t, rfl⟩ : ∃ t : Nat, a = t := ⟨a.toNat, by omega⟩
        obtain ⟨k, rfl⟩ : ∃ k : Nat, w = k := ⟨w.toNat, by omega⟩
        have ht : t < sp_n g.1 := by omega
        have hk : k ≤ 3 := by omega
        have hV' : sp_ok6 (sp_set g.1 k t x) := sp_set_ok hg.1 hmay
        obtain ⟨sc, Z, pi, s1, s2⟩ := op_save hg hc
        obtain ⟨past, kp, v1, v2⟩ := op_saves hg hm
        rw [s1, ob_some, v1, ob_some]
        (try dsimp only)
        rw [pX4_of (by omega) (by omega), ob_some, zi_row, zi_pk]
        have gr : ∀ {α : Type} (y : Option α), tw_g (zi ((10 + 5 * t + k : Nat) : Int)) 70 y = y := fun y => zi_n (by omega) (by omega) y
        rw [gr, zi_Tn (by omega)]
        have hM : sp_IM (upd M.1 (10 + 5 * t + k) (zi x), M.2.1, past, kp, (sp_m0 M).2.2.2.2) (sp_new g (sp_set g.1 k t x)) := ⟨sp_set_RA hm.1 hk, v2, hm.2.2⟩
        have hG := sp_IG_new hg (sp_IG_6 hc) hV'
        obtain ⟨q0, q1, q2, q3, -⟩ := hc.1.2.2.1 t ht
        obtain ⟨r0, r1, r2, r3, -⟩ := hm.1.2.2.1 t ht
        have hk4 : k = 0 ∨ k = 1 ∨ k = 2 ∨ k = 3 := by omega
        rcases hk4 with rfl | rfl | rfl | rfl
        · have pr : ∀ S : tw_St, fX1_property S (zi ((0 : Nat) : Int)) = some 1 := fun S => by
            unfold fX1_property
            rw [if_pos (by decide)]
          rw [pr, ob_some, if_pos rfl, zi_n (by omega) (by omega), zi_n (by omega) (by omega), zi_Tn (by omega)]
          obtain ⟨P', u1, u2⟩ := pX0_lay (sp_set_RS0 (t := t) (x := x) hc.1) hV'.1 Y.2.1
          rw [u1, ob_some]
          exact sp_A0 hG ⟨sp_set_RS0 (t := t) (x := x) hc.1, u2, hc.2.2.1, s2⟩ hM rfl (q0.trans r0.symm)
        · have pr : ∀ S : tw_St, fX1_property S (zi ((1 : Nat) : Int)) = some 2 := fun S => by
            unfold fX1_property
            rw [if_neg (by decide), if_pos (by decide)]
          rw [pr, ob_some, if_neg (by decide), if_pos rfl, zi_n (by omega) (by omega), zi_n (by omega) (by omega), zi_Tn (by omega)]
          obtain ⟨P', u1, u2⟩ := pX0_lay (sp_set_RS1 (t := t) (x := x) hc.1) hV'.1 Y.2.1
          rw [u1, ob_some]
          exact sp_A0 hG ⟨sp_set_RS1 (t := t) (x := x) hc.1, u2, hc.2.2.1, s2⟩ hM rfl (q1.trans r1.symm)
        · have pr : ∀ S : tw_St, fX1_property S (zi ((2 : Nat) : Int)) = some 3 := fun S => by
            unfold fX1_property
            rw [if_neg (by decide), if_neg (by decide), if_pos (by decide)]
          rw [pr, ob_some, if_neg (by decide), if_neg (by decide), if_pos rfl, zi_n (by omega) (by omega), zi_n (by omega) (by omega), zi_Tn (by omega)]
          obtain ⟨P', u1, u2⟩ := pX0_lay (sp_set_RS2 (t := t) (x := x) hc.1) hV'.1 Y.2.1
          rw [u1, ob_some]
          exact sp_A0 hG ⟨sp_set_RS2 (t := t) (x := x) hc.1, u2, hc.2.2.1, s2⟩ hM rfl (q2.trans r2.symm)
        · have pr : ∀ S : tw_St, fX1_property S (zi ((3 : Nat) : Int)) = some 4 := fun S => by
            unfold fX1_property
            rw [if_neg (by decide), if_neg (by decide), if_neg (by decide), if_pos (by decide)]
          rw [pr, ob_some, if_neg (by decide), if_neg (by decide), if_neg (by decide), if_pos rfl, zi_n (by omega) (by omega), zi_n (by omega) (by omega), zi_Tn (by omega)]
          obtain ⟨P', u1, u2⟩ := pX0_lay (sp_RS_e3 (t := t) (x := x) hc.1) hV'.1 Y.2.1
          rw [u1, ob_some]
          exact sp_A0 hG ⟨sp_RS_e3 (t := t) (x := x) hc.1, u2, hc.2.2.1, s2⟩ hM rfl (q3.trans r3.symm)
      · rw [if_neg e3, if_neg e3]
        exact sp_A1 (M' := sp_m0 M) hg hc hm i2n0
    · have e3 : ¬ sp_mayb w x = true := by rw [sp_mayb_iff]; unfold sp_may; omega
      rw [if_neg e2, if_neg e3]
      exact sp_A1 (M' := sp_m0 M) hg hc hm i2n0
  · rw [if_neg e1, if_neg e1]
    exact sp_A3 (M' := sp_m0 M) hg hc hm i1n0
theorem op_saves1 {M M1 : tw_Md} {g : tw_H} (hg : sp_IG g) (hm : sp_IM M g) (hK : sp_KM (sp_m0 M) M1) : ∃ past kp, fX4_saves M1 = some (M1.1, M1.2.1, past, kp, M1.2.2.2.2) ∧ sp_MV kp past (sp_nk g.2.1) (sp_psh g.2.1 g.2.2.1 g.1) := by
  have h1 : sp_IM M1 g := sp_IM_K (M := sp_m0 M) hm hK
  exact pX4_saves h1.1 (sp_12 hg.1.1) (sp_IG_ns hg) h1.2.1
theorem op_slip {Y : tw_Wl} {M : tw_Md} (hI : sp_I Y M) (p1 p2 : Int32) : sp_A 2 3 1 (fX3_slip Y p1 p2) (fX4_slip M p1 p2) := by
  obtain ⟨g, hg, hc, hm⟩ := hI
  obtain ⟨a, a1, a2, rfl⟩ := zi_any p1
  obtain ⟨d, d1, d2, rfl⟩ := zi_any p2
  have hn := sp_12 hg.1.1
  have i0 : fX4_in (zi d) (1 : Int32) (20 : Int32) = _ := pX4_in (a := d) (l := 1) (h := 20) d1 d2 (by omega) (by omega) (by omega) (by omega)
  obtain ⟨M1, k1, k2, k3⟩ := pX4_plans (M := sp_m0 M) (V := g.1) hm.1 hg.1.1
  have hm1 : sp_IM M1 g := sp_IM_K (M := sp_m0 M) hm k2
  unfold fX3_slip fX4_slip
  simp only [pX3_isTask hc.1 hg.1.1 a1 a2, pX4_isTask (M := sp_m0 M) hm.1 hg.1.1 a1 a2, pX3_isSlip d1 d2, i0, k1, ob_some, ifl0, ifl1, op_fl]
  by_cases e1 : 0 ≤ a ∧ a < sp_n g.1
  · rw [if_pos e1, if_pos e1]
    by_cases e2 : 1 ≤ d ∧ d ≤ 20
    · rw [if_pos e2, if_pos e2]
      obtain ⟨t, rfl⟩ : ∃ t : Nat, a = t := ⟨a.toNat, by omega⟩
      have ht : t < sp_n g.1 := by omega
      have hp := sp_p_le hg.1.1 ht
      rw [pX3_couldSlip hg.1.1 hc.2.1 e2.1 e2.2 ht, ob_some, ifl1]
      have g1 : ∀ {α : Type} (y : Option α), tw_g (zi (t : Int)) 12 y = y := fun y => zi_n (by omega) (by omega) y
      have g2 : ∀ {α : Type} (y : Option α), tw_g (zi ((10 + 5 * t + 3 : Nat) : Int)) 70 y = y := fun y => zi_n (by omega) (by omega) y
      have cm : zi (sp_plan g.1 t) = (-1 : Int32) ↔ sp_plan g.1 t = -1 := zi_eq (b := -1) (by omega) (by omega) (by omega) (by omega)
      have c6 : zi (sp_plan g.1 t + d) ≤ (60 : Int32) ↔ sp_plan g.1 t + d ≤ 60 := zi_le (b := 60) (by omega) (by omega) (by omega) (by omega)
      simp only [g1, zi_row, zi_p3, g2, zi_Tn (show t < 2147483648 by omega), zi_Tn (show 10 + 5 * t + 3 < 2147483648 by omega), k3 t ht, zi_add]
      by_cases e3 : sp_plan g.1 t = -1
      · rw [if_neg (fun q => q.1 e3), if_pos (cm.mpr e3)]
        exact sp_A2 (M' := M1) hg hc hm1 i3n0
      · rw [if_neg (fun q => e3 (cm.mp q))]
        by_cases e4 : sp_plan g.1 t + d ≤ 60
        · rw [if_pos ⟨e3, e4⟩, if_pos (c6.mpr e4)]
          have hmay : sp_may 3 (sp_plan g.1 t + d) := by unfold sp_may; omega
          have hV' : sp_ok6 (sp_set g.1 3 t (sp_plan g.1 t + d)) := sp_set_ok (w := 3) hg.1 hmay
          obtain ⟨sc, Z, pi, s1, s2⟩ := op_save hg hc
          obtain ⟨past, kp, v1, v2⟩ := op_saves1 hg hm k2
          rw [s1, ob_some, v1, ob_some]
          (try dsimp only)
          rw [hc.2.1.1 t ht, zi_add]
          obtain ⟨P', u1, u2⟩ := pX0_lay (sp_RS_e3 (t := t) (x := sp_plan g.1 t + d) hc.1) hV'.1 Y.2.1
          rw [u1, ob_some, pX4_end hm1.1 hg.1.1 k3 (sp_bokp hg.1.1), ob_some, k3 t ht, zi_add]
          have hR : sp_RA (upd M1.1 (10 + 5 * t + 3) (zi (sp_plan g.1 t + d))) (sp_set g.1 3 t (sp_plan g.1 t + d)) := sp_RA_set3 hm1.1
          obtain ⟨M2, j1, j2, j3⟩ := pX4_plans (M := (upd M1.1 (10 + 5 * t + 3) (zi (sp_plan g.1 t + d)), M1.2.1, past, kp, M1.2.2.2.2)) hR hV'.1
          (try dsimp only at j1)
          rw [j1, ob_some, pX4_end (sp_RA_K hR j2) hV'.1 j3 (sp_bokp hV'.1), ob_some]
          refine sp_A0 (g := sp_new g (sp_set g.1 3 t (sp_plan g.1 t + d))) (sp_IG_new hg (sp_IG_6 hc) hV') ⟨sp_RS_e3 (t := t) (x := sp_plan g.1 t + d) hc.1, u2, hc.2.2.1, s2⟩ (sp_IM_K (M := (upd M1.1 (10 + 5 * t + 3) (zi (sp_plan g.1 t + d)), M1.2.1, past, kp, M1.2.2.2.2)) ⟨hR, v2, hm1.2.2⟩ j2) (j2.2.2.2.2.2.trans k2.2.2.2.2.2) ?_
          rw [u2.2.2, hc.2.1.2.2]
        · rw [if_neg (fun q => e4 q.2), if_neg (fun q => e4 (c6.mp q))]
          exact sp_A2 (M' := M1) hg hc hm1 i3n0
    · rw [if_neg e2, if_neg e2]
      exact sp_A1 (M' := sp_m0 M) hg hc hm i2n0
  · rw [if_neg e1, if_neg e1]
    exact sp_A3 (M' := sp_m0 M) hg hc hm i1n0
theorem sp_IG_tx {g : tw_H} (h : sp_IG g) (hn : g.2.2.2.1 < 60) {a : Int} (a0 : 33 ≤ a) (a1 : a ≤ 126) : sp_IG (g.1, g.2.1, g.2.2.1, g.2.2.2.1 + 1, fun i => if i = g.2.2.2.1 then a else g.2.2.2.2 i) := by
  refine ⟨h.1, h.2.1, (show g.2.2.2.1 + 1 ≤ 60 by omega), fun i hi => ?_⟩
  have hi' : i < g.2.2.2.1 + 1 := hi
  show 33 ≤ (if i = g.2.2.2.1 then a else g.2.2.2.2 i) ∧ (if i = g.2.2.2.1 then a else g.2.2.2.2 i) ≤ 126
  by_cases e : i = g.2.2.2.1
  · rw [if_pos e]; exact ⟨a0, a1⟩
  · rw [if_neg e]; exact h.2.2.2 i (by omega)
theorem sp_T_tx {f : tw_F} {z : Int32} {tn : Nat} {tc : Nat → Int} (h : sp_T f z tn tc) (a : Int) : sp_T (upd f tn (zi a)) (zi ((tn + 1 : Nat) : Int)) (tn + 1) (fun i => if i = tn then a else tc i) := by
  refine ⟨rfl, fun i hi => ?_⟩
  by_cases e : i = tn
  · subst e; rw [upd_s]; exact congrArg zi (if_pos rfl).symm
  · rw [upd_n e]; exact (h.2 i (by omega)).trans (congrArg zi (if_neg e).symm)
theorem op_append {Y : tw_Wl} {M : tw_Md} (hI : sp_I Y M) (p1 : Int32) : sp_A 1 2 0 (fX3_append Y p1) (fX4_append M p1) := by
  obtain ⟨g, hg, hc, hm⟩ := hI
  obtain ⟨a, a1, a2, rfl⟩ := zi_any p1
  have h60 := hg.2.2.1
  have i0 : fX4_in (zi a) (33 : Int32) (126 : Int32) = _ := pX4_in (a := a) (l := 33) (h := 126) a1 a2 (by omega) (by omega) (by omega) (by omega)
  have c1 : zi a < (33 : Int32) ↔ a < 33 := zi_lt (b := 33) a1 a2 (by omega) (by omega)
  have c2 : zi a ≤ (126 : Int32) ↔ a ≤ 126 := zi_le (b := 126) a1 a2 (by omega) (by omega)
  have c3 : zi (g.2.2.2.1 : Int) < (60 : Int32) ↔ (g.2.2.2.1 : Int) < 60 := zi_lt (b := 60) (by omega) (by omega) (by omega) (by omega)
  have c4 : M.2.2.2.2.2.1 = (60 : Int32) ↔ (g.2.2.2.1 : Int) = 60 := by
    rw [hm.2.2.1]
    exact zi_eq (b := 60) (by omega) (by omega) (by omega) (by omega)
  unfold fX3_append fX4_append
  rw [i0, ob_some, ifl1, hc.2.2.1.1]
  by_cases e1 : 33 ≤ a ∧ a ≤ 126
  · rw [if_pos e1, if_neg (fun q => absurd (c1.mp q) (by omega)), if_pos (c2.mpr e1.2)]
    by_cases e2 : g.2.2.2.1 < 60
    · rw [if_pos (c3.mpr (by omega)), if_pos (fun q => absurd (c4.mp q) (by omega)), hm.2.2.1, zi_n e2 (by omega), zi_n e2 (by omega), zi_Tn (by omega), zi_p1]
      exact sp_A0 (g := (g.1, g.2.1, g.2.2.1, g.2.2.2.1 + 1, fun i => if i = g.2.2.2.1 then a else g.2.2.2.2 i)) (sp_IG_tx hg e2 e1.1 e1.2) ⟨hc.1, hc.2.1, sp_T_tx hc.2.2.1 a, hc.2.2.2⟩ ⟨hm.1, hm.2.1, sp_T_tx hm.2.2 a⟩ rfl rfl
    · rw [if_neg (fun q => absurd (c3.mp q) (by omega)), if_neg (fun q => q (c4.mpr (by omega)))]
      exact sp_A2 (M' := sp_m0 M) hg hc hm i2n0
  · rw [if_neg e1]
    by_cases e2 : a < 33
    · rw [if_pos (c1.mpr e2)]
      exact sp_A1 (M' := sp_m0 M) hg hc hm i1n0
    · rw [if_neg (fun q => e2 (c1.mp q)), if_neg (fun q => absurd (c2.mp q) (by omega))]
      exact sp_A1 (M' := sp_m0 M) hg hc hm i1n0
theorem op_clear {Y : tw_Wl} {M : tw_Md} (hI : sp_I Y M) : ∃ r Y' M', fX3_clearBuffer Y = some (r, Y') ∧ fX4_clearBuffer M = some (r, M') ∧ sp_I Y' M' := by
  obtain ⟨g, hg, hc, hm⟩ := hI
  refine ⟨zi (g.2.2.2.1 : Int), (Y.1, Y.2.1, Y.2.2.1, Y.2.2.2.1, (Y.2.2.2.2.1.1, (0 : Int32)), Y.2.2.2.2.2), (M.1, M.2.1, M.2.2.1, M.2.2.2.1, M.2.2.2.2.1, (0 : Int32), (0 : Int32), M.2.2.2.2.2.2.2), ?_, ?_, (g.1, g.2.1, g.2.2.1, 0, g.2.2.2.2), ⟨hg.1, hg.2.1, Nat.zero_le _, fun i hi => absurd hi (Nat.not_lt_zero i)⟩, ⟨hc.1, hc.2.1, ⟨rfl, fun i hi => absurd hi (Nat.not_lt_zero i)⟩, hc.2.2.2⟩, hm.1, hm.2.1, rfl, fun i hi => absurd hi (Nat.not_lt_zero i)⟩
  · unfold fX3_clearBuffer
    rw [hc.2.2.1.1]
  · unfold fX4_clearBuffer
    rw [hm.2.2.1]
theorem pX4_undo_30 {kk : Nat} (hkk : kk < 6) : ∀ (m k fuel : Nat) (M : tw_Md), k + m = 70 → m < fuel → M.2.2.2.1 = zi kk → ∃ nw, fX4_undo_30 fuel (zi k) M = some (zi kk, (nw, M.2)) ∧ (∀ j, k ≤ j → j < 70 → nw j = M.2.2.1 (70 * kk + j)) ∧ ∀ j, j < k → nw j = M.1 j
  | 0, k, fuel, M, h1, h2, h3 => by
    obtain ⟨fuel, rfl⟩ : ∃ f, fuel = f + 1 := ⟨fuel - 1, by omega⟩
    have : k = 70 := by omega
    subst this
    rw [fX4_undo_30, if_pos (by decide), h3]
    exact ⟨M.1, rfl, fun j q1 q2 => by omega, fun j _ => rfl⟩
  | m + 1, k, fuel, M, h1, h2, h3 => by
    obtain ⟨fuel, rfl⟩ : ∃ f, fuel = f + 1 := ⟨fuel - 1, by omega⟩
    have hx : (70 : Int32) * zi (kk : Int) + zi (k : Int) = zi ((70 * kk + k : Nat) : Int) := by
      rw [show (70 : Int32) = zi ((70 : Nat) : Int) from rfl, zi_mul, zi_add]
      exact congrArg zi (by omega)
    have c : (70 : Int32) ≤ zi (k : Int) ↔ (70 : Int) ≤ k := zi_le (a := 70) (by omega) (by omega) (by omega) (by omega)
    rw [fX4_undo_30, if_neg (fun q => absurd (c.mp q) (by omega)), show (70 : Int32) * M.2.2.2.1 + zi (k : Int) = zi ((70 * kk + k : Nat) : Int) by rw [h3]; exact hx, zi_n (by omega) (by omega), zi_n (by omega) (by omega), zi_Tn (by omega), zi_Tn (by omega), zi_suc]
    obtain ⟨nw, e1, e2, e3⟩ := pX4_undo_30 hkk m (k + 1) fuel (upd M.1 k (M.2.2.1 (70 * kk + k)), M.2) (by omega) (by omega) h3
    (try dsimp only at e1 e2 e3)
    refine ⟨nw, e1, fun j q1 q2 => ?_, fun j q => ?_⟩
    · by_cases e : j = k
      · subst e
        rw [e3 j (by omega), upd_s]
      · exact e2 j (by omega) q2
    · rw [e3 j (by omega), upd_n (by omega)]
theorem op_undo {Y : tw_Wl} {M : tw_Md} (hI : sp_I Y M) : sp_A 0 1 0 (fX3_undo Y) (fX4_undo M) := by
  obtain ⟨g, hg, hc, hm⟩ := hI
  have h6 := sp_IG_6 hc
  obtain ⟨y1, y2, y3, y4⟩ := hc.2.2.2
  obtain ⟨m1, m2, m3⟩ := hm.2.1
  have c1 : (0 : Int32) < zi (g.2.1 : Int) ↔ (0 : Int) < g.2.1 := zi_lt (a := 0) (by omega) (by omega) (by omega) (by omega)
  have c2 : M.2.2.2.1 = (0 : Int32) ↔ (g.2.1 : Int) = 0 := by
    rw [m1]
    exact zi_eq (b := 0) (by omega) (by omega) (by omega) (by omega)
  unfold fX3_undo fX4_undo
  rw [y1]
  by_cases e1 : 0 < g.2.1
  · rw [if_pos (c1.mpr (by omega)), if_pos (fun q => absurd (c2.mp q) (by omega)), m1, zi_nm1 e1, zi_n (by omega) (by omega), zi_Tn (by omega), zi_q (y3.1 _ (by omega))]
    have hV' := hg.2.1 (g.2.1 - 1) (by omega)
    obtain ⟨S', t1, t2⟩ := pX1_copyFrom (y4 (g.2.1 - 1) (by omega)) hV'.1 Y.1
    rw [t1, ob_some]
    obtain ⟨P', u1, u2⟩ := pX0_lay t2 hV'.1 Y.2.1
    rw [u1, ob_some]
    obtain ⟨nw, w1, w2, w3⟩ := pX4_undo_30 (kk := g.2.1 - 1) (by omega) 70 0 512 (M.1, M.2.1, M.2.2.1, zi ((g.2.1 - 1 : Nat) : Int), (sp_m0 M).2.2.2.2) (by omega) (by omega) rfl
    rw [show fX4_undo_30 512 (0 : Int32) (M.1, M.2.1, M.2.2.1, zi ((g.2.1 - 1 : Nat) : Int), (sp_m0 M).2.2.2.2) = _ from w1]
    exact sp_A0 (g := (g.2.2.1 (g.2.1 - 1), g.2.1 - 1, g.2.2)) ⟨hV', fun i hi => hg.2.1 i (Nat.lt_of_lt_of_le hi (Nat.sub_le _ _)), hg.2.2⟩ ⟨t2, u2, hc.2.2.1, rfl, Nat.le_trans (Nat.sub_le _ _) y2, y3, fun i hi => y4 i (Nat.lt_of_lt_of_le hi (Nat.sub_le _ _))⟩ ⟨sp_RA_cong (sp_12 hV'.1) (m3 (g.2.1 - 1) (by omega)) (fun j hj => w2 j (Nat.zero_le j) hj), ⟨rfl, Nat.le_trans (Nat.sub_le _ _) m2, fun i hi => m3 i (Nat.lt_of_lt_of_le hi (Nat.sub_le _ _))⟩, hm.2.2⟩ rfl rfl
  · rw [if_neg (fun q => absurd (c1.mp q) (by omega)), if_neg (fun q => q (c2.mpr (by omega)))]
    exact sp_A2 (M' := sp_m0 M) hg hc hm i1n0
