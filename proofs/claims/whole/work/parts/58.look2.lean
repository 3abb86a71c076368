/-! what is told of the wall, further calls -/
def sp_ct (V : tw_V) (k : Nat) : Nat → Int32
  | 0 => zi (sp_n V)
  | 1 => zi (sp_L V)
  | 2 => zi (sp_n V - sp_L V)
  | 3 => zi (sp_E V)
  | 4 => zi (sp_sum (sp_len V) (sp_n V))
  | 5 => zi (sp_crit V)
  | 6 => zi (sp_W V)
  | 7 => zi (sp_lg V (sp_n V))
  | _ => zi k
theorem pX3_ct {Y : tw_Wl} {V : tw_V} {kk : Nat} (h : sp_RS Y.1 V) (hV : sp_ok V) (hP : sp_RP Y.2.1 V (sp_plan V)) (hs : Y.2.2.2.2.2.2.1 = zi kk) {w : Nat} (hw : w ≤ 8) : ∃ Y', fX3_count Y (zi w) = some (0, sp_ct V kk w, Y') ∧ sp_K Y Y' := by
  have hL : Y.2.1.2.2.2.1 = zi (sp_L V) := hP.2.1
  have hE : Y.2.1.2.2.2.2 = zi (sp_E V) := hP.2.2
  unfold fX3_count
  have hw9 : w = 0 ∨ w = 1 ∨ w = 2 ∨ w = 3 ∨ w = 4 ∨ w = 5 ∨ w = 6 ∨ w = 7 ∨ w = 8 := by omega
  rcases hw9 with rfl | rfl | rfl | rfl | rfl | rfl | rfl | rfl | rfl
  · rw [if_neg (by decide), if_pos (by decide), if_pos (by decide), h.1]
    exact ⟨Y, rfl, sp_K_r Y⟩
  · rw [if_neg (by decide), if_pos (by decide), if_neg (by decide), if_pos (by decide), hL]
    exact ⟨Y, rfl, sp_K_r Y⟩
  · rw [if_neg (by decide), if_pos (by decide), if_neg (by decide), if_neg (by decide), if_pos (by decide), hL, h.1, zi_sub]
    exact ⟨Y, rfl, sp_K_r Y⟩
  · rw [if_neg (by decide), if_pos (by decide), if_neg (by decide), if_neg (by decide), if_neg (by decide), if_pos (by decide), hE]
    exact ⟨Y, rfl, sp_K_r Y⟩
  · rw [if_neg (by decide), if_pos (by decide), if_neg (by decide), if_neg (by decide), if_neg (by decide), if_neg (by decide), if_pos (by decide), pX1_lengthOfAll h hV, ob_some]
    exact ⟨Y, rfl, sp_K_r Y⟩
  · obtain ⟨Y', e1, e2⟩ := pX3_criticalTasks h hV hP
    rw [if_neg (by decide), if_pos (by decide), if_neg (by decide), if_neg (by decide), if_neg (by decide), if_neg (by decide), if_neg (by decide), if_pos (by decide), e1, ob_some]
    exact ⟨Y', rfl, e2⟩
  · rw [if_neg (by decide), if_pos (by decide), if_neg (by decide), if_neg (by decide), if_neg (by decide), if_neg (by decide), if_neg (by decide), if_neg (by decide), if_pos (by decide), pX0_waitOfAll h hV hP.1 (sp_bokp hV) (sp_clp hV), ob_some]
    exact ⟨Y, rfl, sp_K_r Y⟩
  · obtain ⟨Y', e1, e2⟩ := pX3_longestRow h hV
    rw [if_neg (by decide), if_pos (by decide), if_neg (by decide), if_neg (by decide), if_neg (by decide), if_neg (by decide), if_neg (by decide), if_neg (by decide), if_neg (by decide), if_pos (by decide), e1, ob_some]
    exact ⟨Y', rfl, e2⟩
  · rw [if_neg (by decide), if_pos (by decide), if_neg (by decide), if_neg (by decide), if_neg (by decide), if_neg (by decide), if_neg (by decide), if_neg (by decide), if_neg (by decide), if_neg (by decide), hs]
    exact ⟨Y, rfl, sp_K_r Y⟩
theorem pX4_ct {M : tw_Md} {V : tw_V} {kk : Nat} (h : sp_RA M.1 V) (hV : sp_ok V) (hs : M.2.2.2.1 = zi kk) {w : Nat} (hw : w ≤ 8) : ∃ M', fX4_counted M (zi w) = some (sp_ct V kk w, M') ∧ sp_KM M M' := by
  obtain ⟨M1, e1, e2, e3⟩ := pX4_plans h hV
  have h1 := sp_RA_K h e2
  have hL : fX4_laid M1.1 M1.2.2.2.2.2.2.2.2.2.2.2.1 = some (zi (sp_L V)) := pX4_laid h1 hV e3 (sp_bokp hV)
  have hE : fX4_end M1.1 M1.2.2.2.2.2.2.2.2.2.2.2.1 = some (zi (sp_E V)) := pX4_end h1 hV e3 (sp_bokp hV)
  unfold fX4_counted
  rw [e1, ob_some]
  have hw9 : w = 0 ∨ w = 1 ∨ w = 2 ∨ w = 3 ∨ w = 4 ∨ w = 5 ∨ w = 6 ∨ w = 7 ∨ w = 8 := by omega
  rcases hw9 with rfl | rfl | rfl | rfl | rfl | rfl | rfl | rfl | rfl
  · rw [if_neg (by decide), hL, ob_some, if_neg (by decide), zT0, h1.1]
    exact ⟨M1, rfl, e2⟩
  · rw [if_neg (by decide), hL, ob_some, if_pos (by decide), if_neg (by decide)]
    exact ⟨M1, rfl, e2⟩
  · rw [if_neg (by decide), hL, ob_some, if_pos (by decide), if_pos (by decide), if_neg (by decide), zT0, h1.1, zi_sub]
    exact ⟨M1, rfl, e2⟩
  · rw [if_neg (by decide), hL, ob_some, if_pos (by decide), if_pos (by decide), if_pos (by decide), hE, ob_some]
    exact ⟨M1, rfl, e2⟩
  · rw [if_pos (by decide), if_neg (by decide), if_neg (by decide), pX4_lengths0 h1 hV, ob_some]
    exact ⟨M1, rfl, e2⟩
  · obtain ⟨M2, f1, f2⟩ := pX4_critical h1 hV e3
    rw [if_pos (by decide), if_neg (by decide), if_pos (by decide), if_neg (by decide), f1, ob_some]
    exact ⟨M2, rfl, sp_KM_t e2 f2.1⟩
  · rw [if_pos (by decide), if_neg (by decide), if_pos (by decide), if_pos (by decide), pX4_waiting h1 hV e3 (sp_bokp hV), ob_some]
    exact ⟨M1, rfl, e2⟩
  · obtain ⟨M2, f1, f2⟩ := pX4_longest h1 hV
    rw [if_pos (by decide), if_pos (by decide), if_neg (by decide), f1, ob_some]
    exact ⟨M2, rfl, sp_KM_t e2 f2.1⟩
  · rw [if_pos (by decide), if_pos (by decide), if_pos (by decide), e2.2.2.1, hs]
    exact ⟨M1, rfl, e2⟩
theorem op_count {Y : tw_Wl} {M : tw_Md} (hI : sp_I Y M) (p1 : Int32) : sp_A 1 0 0 (fX3_count Y p1) (fX4_count M p1) := by
  obtain ⟨g, hg, hc, hm⟩ := hI
  obtain ⟨w, w1, w2, rfl⟩ := zi_any p1
  have i0 : fX4_in (zi w) (0 : Int32) (8 : Int32) = _ := pX4_in (a := w) (l := 0) (h := 8) w1 w2 (by omega) (by omega) (by omega) (by omega)
  have c1 : zi w < (0 : Int32) ↔ w < 0 := zi_lt (b := 0) w1 w2 (by omega) (by omega)
  have c2 : zi w < (9 : Int32) ↔ w < 9 := zi_lt (b := 9) w1 w2 (by omega) (by omega)
  unfold fX4_count
  simp only [i0, ob_some, ifl0, ifl1, op_fl]
  by_cases e2 : 0 ≤ w ∧ w ≤ 8
  · rw [if_pos e2]
    obtain ⟨k, rfl⟩ : ∃ k : Nat, w = k := ⟨w.toNat, by omega⟩
    obtain ⟨Y', x1, x2⟩ := pX3_ct hc.1 hg.1.1 hc.2.1 hc.2.2.2.1 (w := k) (by omega)
    obtain ⟨M', y1, y2⟩ := pX4_ct (M := sp_m0 M) hm.1 hg.1.1 hm.2.1.1 (w := k) (by omega)
    rw [x1, y1, ob_some]
    exact sp_AK hg hc hm x2 y2 rfl
  · rw [if_neg e2]
    have : fX3_count Y (zi w) = some (1, 0, Y) := by
      unfold fX3_count
      by_cases e3 : w < 0
      · rw [if_pos (c1.mpr e3)]
      · rw [if_neg (fun q => e3 (c1.mp q)), if_neg (fun q => absurd (c2.mp q) (by omega))]
    rw [this]
    exact sp_A1 (M' := sp_m0 M) hg hc hm i1n0
def sp_ir (V : tw_V) (r w : Int) : Int := if w = 0 then sp_E (sp_rul V r) else if w = 1 then sp_L (sp_rul V r) else sp_W (sp_rul V r)
theorem pX3_ir {Y : tw_Wl} {V : tw_V} (h : sp_RS Y.1 V) (hV : sp_ok V) {r w : Int} (r0 : 0 ≤ r) (r1 : r ≤ 3) (w0 : 0 ≤ w) (w1 : w ≤ 2) : ∃ Y', fX3_ifRule Y (zi r) (zi w) = some (0, zi (sp_ir V r w), Y') ∧ sp_K Y Y' := by
  have hV' : sp_ok (sp_rul V r) := sp_ok_rul hV r0 r1
  obtain ⟨Y', e1, e2, e3, e4⟩ := pX3_tryRule h hV r0 r1
  unfold fX3_ifRule
  rw [pX3_isRule (by omega) (by omega), ob_some, ifl0, if_pos ⟨r0, r1⟩]
  have hw3 : w = 0 ∨ w = 1 ∨ w = 2 := by omega
  rcases hw3 with rfl | rfl | rfl
  · rw [if_neg (by decide), if_pos (by decide), e1, ob_some, if_pos (by decide), e4.2.2]
    exact ⟨Y', rfl, e2⟩
  · rw [if_neg (by decide), if_pos (by decide), e1, ob_some, if_neg (by decide), if_pos (by decide), e4.2.1]
    exact ⟨Y', rfl, e2⟩
  · rw [if_neg (by decide), if_pos (by decide), e1, ob_some, if_neg (by decide), if_neg (by decide), pX0_waitOfAll e3 hV' e4.1 (sp_bokp hV') (sp_clp hV'), ob_some]
    exact ⟨Y', rfl, e2⟩
theorem op_ifRule {Y : tw_Wl} {M : tw_Md} (hI : sp_I Y M) (p1 p2 : Int32) : sp_A 1 0 0 (fX3_ifRule Y p1 p2) (fX4_ifRule M p1 p2) := by
  obtain ⟨g, hg, hc, hm⟩ := hI
  obtain ⟨a, a1, a2, rfl⟩ := zi_any p1
  obtain ⟨w, w1, w2, rfl⟩ := zi_any p2
  have i0 : fX4_in (zi a) (0 : Int32) (3 : Int32) = _ := pX4_in (a := a) (l := 0) (h := 3) a1 a2 (by omega) (by omega) (by omega) (by omega)
  have i1 : fX4_in (zi w) (0 : Int32) (2 : Int32) = _ := pX4_in (a := w) (l := 0) (h := 2) w1 w2 (by omega) (by omega) (by omega) (by omega)
  have c1 : zi w < (0 : Int32) ↔ w < 0 := zi_lt (b := 0) w1 w2 (by omega) (by omega)
  have c2 : zi w < (3 : Int32) ↔ w < 3 := zi_lt (b := 3) w1 w2 (by omega) (by omega)
  unfold fX4_ifRule
  simp only [i0, i1, ob_some, ifl0, ifl1, op_fl]
  by_cases e1 : 0 ≤ a ∧ a ≤ 3
  · rw [if_pos e1]
    by_cases e2 : 0 ≤ w ∧ w ≤ 2
    · rw [if_pos e2]
      obtain ⟨Y', x1, x2⟩ := pX3_ir hc.1 hg.1.1 e1.1 e1.2 e2.1 e2.2
      obtain ⟨M', y1, y2⟩ := pX4_byRule (M := sp_m0 M) hm.1 hg.1.1 e1.1 e1.2 e2.1 e2.2
      rw [x1, y1, ob_some]
      exact sp_AK hg hc hm x2 y2.1 rfl
    · rw [if_neg e2]
      have : fX3_ifRule Y (zi a) (zi w) = some (1, 0, Y) := by
        unfold fX3_ifRule
        rw [pX3_isRule a1 a2, ob_some, ifl0, if_pos e1]
        by_cases e3 : w < 0
        · rw [if_pos (c1.mpr e3)]
        · rw [if_neg (fun q => e3 (c1.mp q)), if_neg (fun q => absurd (c2.mp q) (by omega))]
      rw [this]
      exact sp_A1 (M' := sp_m0 M) hg hc hm i1n0
  · rw [if_neg e1]
    have : fX3_ifRule Y (zi a) (zi w) = some (1, 0, Y) := by
      unfold fX3_ifRule
      rw [pX3_isRule a1 a2, ob_some, ifl0, if_neg e1]
    rw [this]
    exact sp_A1 (M' := sp_m0 M) hg hc hm i1n0
theorem pX3_fr {Y : tw_Wl} {V : tw_V} (h : sp_RS Y.1 V) (hV : sp_ok V) {p : Int} (p0 : 0 ≤ p) (p1 : p ≤ 5) : ∃ Y', fX3_ifFreed Y (zi p) = some (0, zi (sp_F V p), Y') ∧ sp_K Y Y' := by
  obtain ⟨S', e1, e2⟩ := pX1_copyFrom h hV Y.2.2.1
  unfold fX3_ifFreed
  rw [pX3_isPerson (by omega) (by omega), ob_some, ifl1, if_pos ⟨p0, p1⟩, e1, ob_some]
  exact pX3_ifFreed_28 (Y := Y) hV p0 p1 (sp_n V) 0 512 _ (by omega) (by have := sp_12 hV; omega) ⟨rfl, rfl, rfl, rfl⟩ (sp_frd_RS0 e2)
theorem op_ifFreed {Y : tw_Wl} {M : tw_Md} (hI : sp_I Y M) (p1 : Int32) : sp_A 0 0 1 (fX3_ifFreed Y p1) (fX4_ifFreed M p1) := by
  obtain ⟨g, hg, hc, hm⟩ := hI
  obtain ⟨a, a1, a2, rfl⟩ := zi_any p1
  unfold fX4_ifFreed
  simp only [pX4_isPerson a1 a2, ob_some, ifl0, ifl1, op_fl]
  by_cases e1 : 0 ≤ a ∧ a ≤ 5
  · rw [if_pos e1]
    obtain ⟨Y', x1, x2⟩ := pX3_fr hc.1 hg.1.1 e1.1 e1.2
    obtain ⟨M', y1, y2⟩ := pX4_freed (M := sp_m0 M) hm.1 hg.1.1 e1.1 e1.2
    rw [x1, y1, ob_some]
    exact sp_AK hg hc hm x2 y2.1 rfl
  · rw [if_neg e1]
    have : fX3_ifFreed Y (zi a) = some (3, 0, Y) := by
      unfold fX3_ifFreed
      rw [pX3_isPerson a1 a2, ob_some, ifl1, if_neg e1]
    rw [this]
    exact sp_A3 (M' := sp_m0 M) hg hc hm i1n0
theorem pX3_wo {Y : tw_Wl} {V : tw_V} (h : sp_RS Y.1 V) (hV : sp_ok V) (hP : sp_RP Y.2.1 V (sp_plan V)) {d : Int} (d0 : 1 ≤ d) (d1 : d ≤ 20) : ∃ Y', fX3_worstSlip Y (zi d) = some (0, zi (sp_ws V d (sp_n V)).1, Y') ∧ sp_K Y Y' := by
  unfold fX3_worstSlip
  rw [pX3_isSlip (by omega) (by omega), ob_some, ifl1, if_pos ⟨d0, d1⟩]
  exact pX3_worstSlip_22 h hV hP d0 d1 (sp_n V) 0 512 Y (by omega) (by have := sp_12 hV; omega) (sp_K_r Y)
theorem op_worstSlip {Y : tw_Wl} {M : tw_Md} (hI : sp_I Y M) (p1 : Int32) : sp_A 1 0 0 (fX3_worstSlip Y p1) (fX4_worstSlip M p1) := by
  obtain ⟨g, hg, hc, hm⟩ := hI
  obtain ⟨d, d1, d2, rfl⟩ := zi_any p1
  have i0 : fX4_in (zi d) (1 : Int32) (20 : Int32) = _ := pX4_in (a := d) (l := 1) (h := 20) d1 d2 (by omega) (by omega) (by omega) (by omega)
  unfold fX4_worstSlip
  simp only [i0, ob_some, ifl0, ifl1, op_fl]
  by_cases e1 : 1 ≤ d ∧ d ≤ 20
  · rw [if_pos e1]
    obtain ⟨Y', x1, x2⟩ := pX3_wo hc.1 hg.1.1 hc.2.1 e1.1 e1.2
    obtain ⟨M', y1, y2⟩ := pX4_worst (M := sp_m0 M) hm.1 hg.1.1 e1.1 e1.2
    rw [x1, y1, ob_some]
    exact sp_AK hg hc hm x2 y2 rfl
  · rw [if_neg e1]
    have : fX3_worstSlip Y (zi d) = some (1, 0, Y) := by
      unfold fX3_worstSlip
      rw [pX3_isSlip d1 d2, ob_some, ifl1, if_neg e1]
    rw [this]
    exact sp_A1 (M' := sp_m0 M) hg hc hm i1n0
/-! calls that throw nothing -/
def sp_B (X : Option (Int32 × tw_Wl)) (R : Option (Int32 × tw_Md)) : Prop := ∃ r Y' M', X = some (r, Y') ∧ R = some (r, M') ∧ sp_I Y' M'
theorem op_setting {Y : tw_Wl} {M : tw_Md} (hI : sp_I Y M) : sp_B ((fX3_setting Y).bind fun r => some (r, Y)) (fX4_setting M) := by
  obtain ⟨g, hg, hc, hm⟩ := hI
  unfold fX3_setting fX4_setting
  rw [ob_some, zT1, hc.1.2.1, hm.1.2.1]
  exact ⟨_, Y, sp_m0 M, rfl, rfl, g, hg, hc, hm⟩
theorem op_bestRule {Y : tw_Wl} {M : tw_Md} (hI : sp_I Y M) : sp_B (fX3_bestRule Y) (fX4_bestRule M) := by
  obtain ⟨g, hg, hc, hm⟩ := hI
  obtain ⟨Y', x1, x2⟩ := pX3_bestRule hc.1 hg.1.1
  obtain ⟨M', y1, y2⟩ := pX4_best (M := sp_m0 M) hm.1 hg.1.1
  unfold fX4_bestRule
  rw [x1, y1, ob_some]
  exact ⟨_, Y', M', rfl, rfl, g, hg, sp_IC_K hc x2, sp_IM_K (M := sp_m0 M) hm y2.1⟩
def sp_ll (V : tw_V) : Int := sp_sum (fun t => if sp_plan V t ≠ -1 then sp_len V t else 0) (sp_n V)
def sp_bz (V : tw_V) : UInt64 := if sp_E V = 0 then FP.dconst0 else FP.ddiv (FP.i2d (zi (sp_ll V))) (FP.i2d (zi (sp_E V)))
theorem sp_bz_all {V : tw_V} (hV : sp_ok V) (h0 : sp_E V ≠ 0) : (FP.ddiv (FP.i2d (zi (sp_ll V))) (FP.i2d (zi (sp_E V))) &&& 0x7fffffffffffffff ≤ 0x7ff0000000000000) ∧ fX3_bitsOf (FP.ddiv (FP.i2d (zi (sp_ll V))) (FP.i2d (zi (sp_E V)))) = some (FP.ddiv (FP.i2d (zi (sp_ll V))) (FP.i2d (zi (sp_E V)))).toInt64 ∧ fJxe99ae_doubleToLongBits_ccdee (FP.ddiv (FP.i2d (zi (sp_ll V))) (FP.i2d (zi (sp_E V)))) = some (FP.ddiv (FP.i2d (zi (sp_ll V))) (FP.i2d (zi (sp_E V)))).toInt64 := by
  have hn := sp_12 hV
  have h1 := sp_slen_le hV (fun t => sp_plan V t ≠ -1) (sp_n V) (Nat.le_refl _)
  have h2 := sp_E_le hV
  exact bz_all (a := sp_ll V) (b := sp_E V) h1.1 (by unfold sp_ll; omega) (by omega) h2.2
theorem pX3_bz {Y : tw_Wl} {V : tw_V} (h : sp_RS Y.1 V) (hV : sp_ok V) (hP : sp_RP Y.2.1 V (sp_plan V)) : fX3_busyness Y = some (sp_bz V) := by
  have hE : Y.2.1.2.2.2.2 = zi (sp_E V) := hP.2.2
  have h2 := sp_E_le hV
  have c1 : (0 : Int32) < zi (sp_E V) ↔ 0 < sp_E V := zi_lt (a := 0) (by omega) (by omega) (by omega) (by omega)
  unfold fX3_busyness sp_bz
  rw [hE]
  by_cases e : sp_E V = 0
  · rw [if_neg (fun q => absurd (c1.mp q) (by omega)), if_pos e]
  · rw [if_pos (c1.mpr (by omega)), if_neg e, pX0_lengthOfLaid h hV hP.1 (sp_bokp hV), ob_some]
    exact zi_q (sp_bz_all hV e).1
theorem pX4_bz {M : tw_Md} {V : tw_V} (h : sp_RA M.1 V) (hV : sp_ok V) : ∃ M', fX4_busy M = some (sp_bz V, M') ∧ sp_KM M M' := by
  obtain ⟨M1, e1, e2, e3⟩ := pX4_plans h hV
  have h1 := sp_RA_K h e2
  have h2 := sp_E_le hV
  have hE : fX4_end M1.1 M1.2.2.2.2.2.2.2.2.2.2.2.1 = some (zi (sp_E V)) := pX4_end h1 hV e3 (sp_bokp hV)
  have c1 : zi (sp_E V) = (0 : Int32) ↔ sp_E V = 0 := zi_eq (b := 0) (by omega) (by omega) (by omega) (by omega)
  unfold fX4_busy sp_bz
  rw [e1, ob_some, hE, ob_some]
  by_cases e : sp_E V = 0
  · rw [if_neg (fun q => q (c1.mpr e)), if_pos e]
    exact ⟨M1, rfl, e2⟩
  · rw [if_pos (fun q => e (c1.mp q)), if_neg e, pX4_lengths1 h1 hV e3, ob_some]
    exact ⟨M1, zi_q (sp_bz_all hV e).1, e2⟩
theorem op_busyness {Y : tw_Wl} {M : tw_Md} (hI : sp_I Y M) : ∃ r M', fX3_busyness Y = some r ∧ fX4_busyness M = some (r, M') ∧ sp_I Y M' := by
  obtain ⟨g, hg, hc, hm⟩ := hI
  obtain ⟨M', y1, y2⟩ := pX4_bz (M := sp_m0 M) hm.1 hg.1.1
  unfold fX4_busyness
  rw [pX3_bz hc.1 hg.1.1 hc.2.1, y1, ob_some]
  exact ⟨_, M', rfl, rfl, g, hg, hc, sp_IM_K (M := sp_m0 M) hm y2⟩
theorem sp_bz_bits {V : tw_V} (hV : sp_ok V) : fX3_bitsOf (sp_bz V) = some (sp_bz V).toInt64 ∧ fJxe99ae_doubleToLongBits_ccdee (sp_bz V) = some (sp_bz V).toInt64 := by
  unfold sp_bz
  by_cases e : sp_E V = 0
  · rw [if_pos e]; exact bz_zero
  · rw [if_neg e]; exact (sp_bz_all hV e).2
