/-! what is told of the wall, further calls -/
def sp_ct (V : tw_V) (k : Nat) : Nat → Int32
  | 0 => zi (sp_n V)
  | 1 => zi (sp_L V)
  | 2 => zi (sp_n V - sp_L V)
  | 3 => zi (sp_E V)
  | 4 => zi (sp_sum (sp_len V) (sp_n V))
  | 5 => zi (sp_crit V)
  | 6 => zi (sp_W V)
  | 7 => zi (sp_lg V (sp_n V))
  | _ => zi k
theorem pX3_ct {Y : tw_Wl} {V : tw_V} {kk : Nat} (h : sp_RS Y.1 V) (hV : sp_ok V) (hP : sp_RP Y.2.1 V (sp_plan V)) (hs : Y.2.2.2.2.2.2.1 = zi kk) {w : Nat} (hw : w ≤ 8) : ∃ Y', fX3_count Y (zi w) = some (0, sp_ct V kk w, Y') ∧ sp_K Y Y' := by
  have hL : Y.2.1.2.2.2.1 = zi (sp_L V) := hP.2.1
  have hE : Y.2.1.2.2.2.2 = zi (sp_E V) := hP.2.2
  unfold fX3_count
  have hw9 : w = 0 ∨ w = 1 ∨ w = 2 ∨ w = 3 ∨ w = 4 ∨ w = 5 ∨ w = 6 ∨ w = 7 ∨ w = 8 := by omega
  rcases hw9 with rfl | rfl | rfl | rfl | rfl | rfl | rfl | rfl | rfl
  · rw [if_neg (by decide), if_pos (by decide), if_pos (by decide), h.1]
    exact ⟨Y, rfl, sp_K_r Y⟩
  · rw [if_neg (by decide), if_pos (by decide), if_neg (by decide), if_pos (by decide), hL]
    exact ⟨Y, rfl, sp_K_r Y⟩
  · rw [if_neg (by decide), if_pos (by decide), if_neg (by decide), if_neg (by decide), if_pos (by decide), hL, h.1, zi_sub]
    exact ⟨Y, rfl, sp_K_r Y⟩
  · rw [if_neg (by decide), if_pos (by decide), if_neg (by decide), if_neg (by decide), if_neg (by decide), if_pos (by decide), hE]
    exact ⟨Y, rfl, sp_K_r Y⟩
  · rw [if_neg (by decide), if_pos (by decide), if_neg (by decide), if_neg (by decide), if_neg (by decide), if_neg (by decide), if_pos (by decide), pX1_lengthOfAll h hV, ob_some]
    exact ⟨Y, rfl, sp_K_r Y⟩
  · obtain ⟨Y', e1, e2⟩ := pX3_criticalTasks h hV hP
    rw [if_neg (by decide), if_pos (by decide), if_neg (by decide), if_neg (by decide), if_neg (by decide), if_neg (by decide), if_neg (by decide), if_pos (by decide), e1, ob_some]
    exact ⟨Y', rfl, e2⟩
  · rw [if_neg (by decide), if_pos (by decide), if_neg (by decide), if_neg (by decide), if_neg (by decide), if_neg (by decide), if_neg (by decide), if_neg (by decide), if_pos (by decide), pX0_waitOfAll h hV hP.1 (sp_bokp hV) (sp_clp hV), ob_some]
    exact ⟨Y, rfl, sp_K_r Y⟩
  · obtain ⟨Y', e1, e2⟩ := pX3_longestRow h hV
    rw [if_neg (by decide), if_pos (by decide), if_neg (by decide), if_neg (by decide), if_neg (by decide), if_neg (by decide), if_neg (by decide), if_neg (by decide), if_neg (by decide), if_pos (by decide), e1, ob_some]
    exact ⟨Y', rfl, e2⟩
  · rw [if_neg (by decide), if_pos (by decide), if_neg (by decide), if_neg (by decide), if_neg (by decide), if_neg (by decide), if_neg (by decide), if_neg (by decide), if_neg (by decide), if_neg (by decide), hs]
    exact ⟨Y, rfl, sp_K_r Y⟩
def sp_ir (V : tw_V) (r w : Int) : Int := if w = 0 then sp_E (sp_rul V r) else if w = 1 then sp_L (sp_rul V r) else sp_W (sp_rul V r)
theorem pX3_ir {Y : tw_Wl} {V : tw_V} (h : sp_RS Y.1 V) (hV : sp_ok V) {r w : Int} (r0 : 0 ≤ r) (r1 : r ≤ 3) (w0 : 0 ≤ w) (w1 : w ≤ 2) : ∃ Y', fX3_ifRule Y (zi r) (zi w) = some (0, zi (sp_ir V r w), Y') ∧ sp_K Y Y' := by
  have hV' : sp_ok (sp_rul V r) := sp_ok_rul hV r0 r1
  obtain ⟨Y', e1, e2, e3, e4⟩ := pX3_tryRule h hV r0 r1
  unfold fX3_ifRule
  rw [pX3_isRule (by omega) (by omega), ob_some, ifl0, if_pos ⟨r0, r1⟩]
  have hw3 : w = 0 ∨ w = 1 ∨ w = 2 := by omega
  rcases hw3 with rfl | rfl | rfl
  · rw [if_neg (by decide), if_pos (by decide), e1, ob_some, if_pos (by decide), e4.2.2]
    exact ⟨Y', rfl, e2⟩
  · rw [if_neg (by decide), if_pos (by decide), e1, ob_some, if_neg (by decide), if_pos (by decide), e4.2.1]
    exact ⟨Y', rfl, e2⟩
  · rw [if_neg (by decide), if_pos (by decide), e1, ob_some, if_neg (by decide), if_neg (by decide), pX0_waitOfAll e3 hV' e4.1 (sp_bokp hV') (sp_clp hV'), ob_some]
    exact ⟨Y', rfl, e2⟩
/-! calls that throw nothing -/
def sp_ll (V : tw_V) : Int := sp_sum (fun t => if sp_plan V t ≠ -1 then sp_len V t else 0) (sp_n V)
def sp_bz (V : tw_V) : UInt64 := if sp_E V = 0 then FP.dconst0 else FP.ddiv (FP.i2d (zi (sp_ll V))) (FP.i2d (zi (sp_E V)))
theorem pX3_wo {Y : tw_Wl} {V : tw_V} (h : sp_RS Y.1 V) (hV : sp_ok V) (hP : sp_RP Y.2.1 V (sp_plan V)) {d : Int} (d0 : 1 ≤ d) (d1 : d ≤ 20) : ∃ Y', fX3_worstSlip Y (zi d) = some (0, zi (sp_ws V d (sp_n V)).1, Y') ∧ sp_K Y Y' := by
  unfold fX3_worstSlip
  rw [pX3_isSlip (by omega) (by omega), ob_some, ifl1, if_pos ⟨d0, d1⟩]
  exact pX3_worstSlip_22 h hV hP d0 d1 (sp_n V) 0 512 Y (by omega) (by have := sp_12 hV; omega) (sp_K_r Y)
theorem sp_ll_pos {V : tw_V} (hV : sp_ok V) (h0 : sp_E V ≠ 0) : 1 ≤ sp_ll V := by
  have key : ∀ n, n ≤ sp_n V → sp_ene V (sp_plan V) n ≠ 0 → 1 ≤ sp_sum (fun t => if sp_plan V t ≠ -1 then sp_len V t else 0) n := by
    intro n
    induction n with
    | zero => intro _ h; exact absurd rfl h
    | succ n ih =>
      intro hn h
      obtain ⟨l1, l2, -⟩ := hV.2.2.2.1 n (by omega)
      have q := (sp_slen_le hV (fun t => sp_plan V t ≠ -1) n (by omega)).1
      rw [sp_ene] at h
      rw [sp_sum]
      by_cases e : sp_plan V n ≠ -1
      · rw [if_pos e]
        omega
      · rw [if_neg e]
        rw [if_neg (fun q => e q.1)] at h
        have := ih (by omega) h
        omega
  exact key (sp_n V) (Nat.le_refl _) h0
theorem sp_bz_all {V : tw_V} (hV : sp_ok V) (h0 : sp_E V ≠ 0) : (FP.ddiv (FP.i2d (zi (sp_ll V))) (FP.i2d (zi (sp_E V))) &&& 0x7fffffffffffffff ≤ 0x7ff0000000000000) ∧ ¬ Op.cmpValue (FP.dcmp (FP.ddiv (FP.i2d (zi (sp_ll V))) (FP.i2d (zi (sp_E V)))) FP.dconst0) CmpOp.l ≤ 0 ∧ ¬ Op.cmpValue (FP.dcmp (FP.ddiv (FP.i2d (zi (sp_ll V))) (FP.i2d (zi (sp_E V)))) FP.dconst0) CmpOp.l < 0 := by
  have hn := sp_12 hV
  have h1 := sp_slen_le hV (fun t => sp_plan V t ≠ -1) (sp_n V) (Nat.le_refl _)
  have h2 := sp_E_le hV
  exact bz_all (a := sp_ll V) (b := sp_E V) (sp_ll_pos hV h0) (by unfold sp_ll; omega) (by omega) h2.2
theorem pX3_bz {Y : tw_Wl} {V : tw_V} (h : sp_RS Y.1 V) (hV : sp_ok V) (hP : sp_RP Y.2.1 V (sp_plan V)) : fX3_busyness Y = some (sp_bz V) := by
  have hE : Y.2.1.2.2.2.2 = zi (sp_E V) := hP.2.2
  have h2 := sp_E_le hV
  have c1 : (0 : Int32) < zi (sp_E V) ↔ 0 < sp_E V := zi_lt (a := 0) (by omega) (by omega) (by omega) (by omega)
  unfold fX3_busyness sp_bz
  rw [hE]
  by_cases e : sp_E V = 0
  · rw [if_neg (fun q => absurd (c1.mp q) (by omega)), if_pos e]
  · rw [if_pos (c1.mpr (by omega)), if_neg e, pX0_lengthOfLaid h hV hP.1 (sp_bokp hV), ob_some]
    exact zi_q (sp_bz_all hV e).1
