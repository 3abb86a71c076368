/-! what is told of a task, a hall, the wall: class and reference say the same -/
def sp_tk (V : tw_V) (t : Nat) : Nat → Int32
  | 0 => zi (sp_len V t)
  | 1 => zi (sp_per V t)
  | 2 => zi (sp_hal V t)
  | 3 => zi (sp_ear V t)
  | 4 => sp_msk V t
  | 5 => zi (sp_flw V t)
  | 6 => zi (sp_plan V t)
  | 7 => zi (sp_slk V t)
  | _ => zi (sp_wai V (sp_plan V) t)
theorem pX3_tk {Y : tw_Wl} {V : tw_V} (h : sp_RS Y.1 V) (hV : sp_ok V) (hP : sp_RP Y.2.1 V (sp_plan V)) {t : Nat} (ht : t < sp_n V) {w : Nat} (hw : w ≤ 8) : ∃ Y', fX3_task Y (zi t) (zi w) = some (0, sp_tk V t w, Y') ∧ sp_K Y Y' := by
  have hn := sp_12 hV
  obtain ⟨q0, q1, q2, q3, q4⟩ := h.2.2.1 t ht
  have g1 : ∀ {α : Type} (y : Option α), tw_g (zi (t : Int)) 12 y = y := fun y => zi_n (by omega) (by omega) y
  unfold fX3_task
  rw [pX3_isTask h hV (by omega) (by omega), ob_some, ifl1, if_pos (show 0 ≤ (t : Int) ∧ (t : Int) < sp_n V by omega)]
  have hw9 : w = 0 ∨ w = 1 ∨ w = 2 ∨ w = 3 ∨ w = 4 ∨ w = 5 ∨ w = 6 ∨ w = 7 ∨ w = 8 := by omega
  rcases hw9 with rfl | rfl | rfl | rfl | rfl | rfl | rfl | rfl | rfl
  · have pr : ∀ S : tw_St, fX1_property S (zi ((0 : Nat) : Int)) = some 1 := fun S => by
      unfold fX1_property
      rw [if_pos (by decide)]
    rw [if_neg (by decide), if_pos (by decide), if_neg (by decide), if_neg (by decide), if_neg (by decide), if_neg (by decide), pr, ob_some, if_pos rfl, g1, zi_Tn (by omega), q0]
    exact ⟨Y, rfl, sp_K_r Y⟩
  · have pr : ∀ S : tw_St, fX1_property S (zi ((1 : Nat) : Int)) = some 2 := fun S => by
      unfold fX1_property
      rw [if_neg (by decide), if_pos (by decide)]
    rw [if_neg (by decide), if_pos (by decide), if_neg (by decide), if_neg (by decide), if_neg (by decide), if_neg (by decide), pr, ob_some, if_neg (by decide), if_pos rfl, g1, zi_Tn (by omega), q1]
    exact ⟨Y, rfl, sp_K_r Y⟩
  · have pr : ∀ S : tw_St, fX1_property S (zi ((2 : Nat) : Int)) = some 3 := fun S => by
      unfold fX1_property
      rw [if_neg (by decide), if_neg (by decide), if_pos (by decide)]
    rw [if_neg (by decide), if_pos (by decide), if_neg (by decide), if_neg (by decide), if_neg (by decide), if_neg (by decide), pr, ob_some, if_neg (by decide), if_neg (by decide), if_pos rfl, g1, zi_Tn (by omega), q2]
    exact ⟨Y, rfl, sp_K_r Y⟩
  · have pr : ∀ S : tw_St, fX1_property S (zi ((3 : Nat) : Int)) = some 4 := fun S => by
      unfold fX1_property
      rw [if_neg (by decide), if_neg (by decide), if_neg (by decide), if_pos (by decide)]
    rw [if_neg (by decide), if_pos (by decide), if_neg (by decide), if_neg (by decide), if_neg (by decide), if_neg (by decide), pr, ob_some, if_neg (by decide), if_neg (by decide), if_neg (by decide), if_pos rfl, g1, zi_Tn (by omega), q3]
    exact ⟨Y, rfl, sp_K_r Y⟩
  · have pr : ∀ S : tw_St, fX1_property S (zi ((4 : Nat) : Int)) = some 5 := fun S => by
      unfold fX1_property
      rw [if_neg (by decide), if_neg (by decide), if_neg (by decide), if_neg (by decide)]
    rw [if_neg (by decide), if_pos (by decide), if_neg (by decide), if_neg (by decide), if_neg (by decide), if_neg (by decide), pr, ob_some, if_neg (by decide), if_neg (by decide), if_neg (by decide), if_neg (by decide), if_pos rfl, g1, zi_Tn (by omega), q4]
    exact ⟨Y, rfl, sp_K_r Y⟩
  · rw [if_neg (by decide), if_pos (by decide), if_pos (by decide), pX1_followers h hV ht, ob_some]
    exact ⟨Y, rfl, sp_K_r Y⟩
  · rw [if_neg (by decide), if_pos (by decide), if_neg (by decide), if_pos (by decide), g1, zi_Tn (by omega), hP.1 t ht]
    exact ⟨Y, rfl, sp_K_r Y⟩
  · obtain ⟨Y', e1, e2⟩ := pX3_slackOf h hV hP ht
    rw [if_neg (by decide), if_pos (by decide), if_neg (by decide), if_neg (by decide), if_pos (by decide), e1, ob_some]
    exact ⟨Y', rfl, e2⟩
  · rw [if_neg (by decide), if_pos (by decide), if_neg (by decide), if_neg (by decide), if_neg (by decide), if_pos (by decide), pX0_waitOf h hV hP.1 (sp_bokp hV) (sp_clp hV) ht, ob_some]
    exact ⟨Y, rfl, sp_K_r Y⟩
theorem pX4_tk {M : tw_Md} {V : tw_V} (h : sp_RA M.1 V) (hV : sp_ok V) {t : Nat} (ht : t < sp_n V) {w : Nat} (hw : w ≤ 8) : ∃ M', fX4_ofTask M (zi t) (zi w) = some (sp_tk V t w, M') ∧ sp_KM M M' := by
  have hn := sp_12 hV
  obtain ⟨q0, q1, q2, q3, q4⟩ := h.2.2.1 t ht
  have g1 : ∀ {α : Type} (y : Option α), tw_g (zi (t : Int)) 12 y = y := fun y => zi_n (by omega) (by omega) y
  obtain ⟨M1, e1, e2, e3⟩ := pX4_plans h hV
  unfold fX4_ofTask
  have hw9 : w = 0 ∨ w = 1 ∨ w = 2 ∨ w = 3 ∨ w = 4 ∨ w = 5 ∨ w = 6 ∨ w = 7 ∨ w = 8 := by omega
  rcases hw9 with rfl | rfl | rfl | rfl | rfl | rfl | rfl | rfl | rfl
  · rw [if_neg (by decide), if_neg (by decide), pX4_of (by omega) (by omega), ob_some]
    exact ⟨M, congrArg (fun x => some (x, M)) q0, sp_KM_r M⟩
  · rw [if_neg (by decide), if_neg (by decide), pX4_of (by omega) (by omega), ob_some]
    exact ⟨M, congrArg (fun x => some (x, M)) q1, sp_KM_r M⟩
  · rw [if_neg (by decide), if_neg (by decide), pX4_of (by omega) (by omega), ob_some]
    exact ⟨M, congrArg (fun x => some (x, M)) q2, sp_KM_r M⟩
  · rw [if_neg (by decide), if_neg (by decide), pX4_of (by omega) (by omega), ob_some]
    exact ⟨M, congrArg (fun x => some (x, M)) q3, sp_KM_r M⟩
  · rw [if_neg (by decide), if_neg (by decide), pX4_of (by omega) (by omega), ob_some]
    exact ⟨M, congrArg (fun x => some (x, M)) q4, sp_KM_r M⟩
  · rw [if_neg (by decide), if_pos (by decide), pX4_followers h hV ht, ob_some]
    exact ⟨M, rfl, sp_KM_r M⟩
  · rw [if_pos (by decide), e1, ob_some, if_neg (by decide), g1, zi_Tn (by omega), e3 t ht]
    exact ⟨M1, rfl, e2⟩
  · obtain ⟨M2, f1, f2⟩ := pX4_slack (sp_RA_K h e2) hV e3 ht
    rw [if_pos (by decide), e1, ob_some, if_pos (by decide), if_neg (by decide), f1, ob_some]
    exact ⟨M2, rfl, sp_KM_t e2 f2.1⟩
  · rw [if_pos (by decide), e1, ob_some, if_pos (by decide), if_pos (by decide), pX4_waits (sp_RA_K h e2) hV e3 (sp_bokp hV) ht, ob_some]
    exact ⟨M1, rfl, e2⟩
theorem sp_AK {a b c : Int32} {r rb : Int32} {Y Y' : tw_Wl} {M M' : tw_Md} {g : tw_H} (hg : sp_IG g) (hc : sp_IC Y g) (hm : sp_IM M g) (hK : sp_K Y Y') (hM : sp_KM (sp_m0 M) M') (hr : r = rb) : sp_A a b c (some (0, r, Y')) (some (rb, M')) := sp_A0 hg (sp_IC_K hc hK) (sp_IM_K (M := sp_m0 M) hm hM) hM.2.2.2.2.2 hr
theorem op_task {Y : tw_Wl} {M : tw_Md} (hI : sp_I Y M) (p1 p2 : Int32) : sp_A 2 0 1 (fX3_task Y p1 p2) (fX4_task M p1 p2) := by
  obtain ⟨g, hg, hc, hm⟩ := hI
  obtain ⟨a, a1, a2, rfl⟩ := zi_any p1
  obtain ⟨w, w1, w2, rfl⟩ := zi_any p2
  have hn := sp_12 hg.1.1
  have i0 : fX4_in (zi w) (0 : Int32) (8 : Int32) = _ := pX4_in (a := w) (l := 0) (h := 8) w1 w2 (by omega) (by omega) (by omega) (by omega)
  have c1 : zi w < (0 : Int32) ↔ w < 0 := zi_lt (b := 0) w1 w2 (by omega) (by omega)
  have c2 : zi w < (9 : Int32) ↔ w < 9 := zi_lt (b := 9) w1 w2 (by omega) (by omega)
  unfold fX4_task
  simp only [pX4_isTask (M := sp_m0 M) hm.1 hg.1.1 a1 a2, i0, ob_some, ifl0, ifl1, op_fl]
  by_cases e1 : 0 ≤ a ∧ a < sp_n g.1
  · rw [if_pos e1]
    obtain ⟨t, rfl⟩ : ∃ t : Nat, a = t := ⟨a.toNat, by omega⟩
    have ht : t < sp_n g.1 := by omega
    by_cases e2 : 0 ≤ w ∧ w ≤ 8
    · rw [if_pos e2]
      obtain ⟨k, rfl⟩ : ∃ k : Nat, w = k := ⟨w.toNat, by omega⟩
      obtain ⟨Y', x1, x2⟩ := pX3_tk hc.1 hg.1.1 hc.2.1 ht (w := k) (by omega)
      obtain ⟨M', y1, y2⟩ := pX4_tk (M := sp_m0 M) hm.1 hg.1.1 ht (w := k) (by omega)
      rw [x1, y1, ob_some]
      exact sp_AK hg hc hm x2 y2 rfl
    · rw [if_neg e2]
      have : fX3_task Y (zi t) (zi w) = some (1, 0, Y) := by
        unfold fX3_task
        rw [pX3_isTask hc.1 hg.1.1 a1 a2, ob_some, ifl1, if_pos e1]
        by_cases e3 : w < 0
        · rw [if_pos (c1.mpr e3)]
        · rw [if_neg (fun q => e3 (c1.mp q)), if_neg (fun q => absurd (c2.mp q) (by omega))]
      rw [this]
      exact sp_A1 (M' := sp_m0 M) hg hc hm i2n0
  · rw [if_neg e1]
    have : fX3_task Y (zi a) (zi w) = some (3, 0, Y) := by
      unfold fX3_task
      rw [pX3_isTask hc.1 hg.1.1 a1 a2, ob_some, ifl1, if_neg e1]
    rw [this]
    exact sp_A3 (M' := sp_m0 M) hg hc hm i1n0
/-! who is there, and the halls -/
theorem pX4_on1 {M : tw_Md} {V : tw_V} (h : sp_RA M.1 V) (hV : sp_ok V) (hP : sp_RB M.2.2.2.2.2.2.2.2.2.2.2.1 V (sp_plan V)) {a d : Int} (a1 : 0 ≤ a) (a2 : a < 100) (d1 : 0 ≤ d) (d2 : d < 100) : fX4_on M (1 : Int32) (zi a) (zi d) = some (zi (sp_on V (sp_plan V) (sp_per V) a d (sp_n V) 0)) := by
  have hn := sp_12 hV
  unfold fX4_on
  refine ldn (fun fuel k => fX4_on_3 M (1 : Int32) (zi a) (zi d) fuel (zi k)) (fun k => zi (sp_on V (sp_plan V) (sp_per V) a d (sp_n V - k) k)) (sp_n V) (fun fuel => ?_) (fun fuel k hk hr => ?_) 0 512 (by omega) (by omega)
  · (try dsimp only)
    rw [fX4_on_3, zT0, h.1, if_pos ((zi_le (by omega) (by omega) (by omega) (by omega)).mpr (Int.le_refl _)), Nat.sub_self]
    rfl
  · (try dsimp only at hr ⊢)
    have h2 := sp_p_le hV hk
    obtain ⟨l1, l2, q1, q2, q3, q4, -⟩ := hV.2.2.2.1 k hk
    have g : ∀ {α : Type} (y : Option α), tw_g (zi (k : Int)) 12 y = y := fun y => zi_n (by omega) (by omega) y
    have c1 : zi (sp_per V k) = zi a ↔ sp_per V k = a := zi_eq (by omega) (by omega) (by omega) (by omega)
    have c2 : zi (sp_plan V k) = (-1 : Int32) ↔ sp_plan V k = -1 := zi_eq (b := -1) (by omega) (by omega) (by omega) (by omega)
    have i0 : fX4_in (zi d) (zi (sp_plan V k)) (zi (sp_plan V k + sp_len V k) - (1 : Int32)) = some (if sp_plan V k ≤ d ∧ d ≤ sp_plan V k + sp_len V k - 1 then 1 else 0) := by
      rw [z1, zi_sub, pX4_in (by omega) (by omega) (by omega) (by omega) (by omega) (by omega)]
      rfl
    rw [fX4_on_3, zT0, h.1, if_neg (by rw [zi_le (by omega) (by omega) (by omega) (by omega)]; omega)]
    simp only [pX4_per h hV hk, pX4_behind h hV hP hk, g, zi_Tn (show k < 2147483648 by omega), hP k hk, i0, ob_some, ifl0, zi_suc, hr]
    rw [show sp_n V - k = (sp_n V - (k + 1)) + 1 by omega, sp_on]
    by_cases e2 : sp_per V k = a
    · rw [if_neg (fun q => q (c1.mpr e2))]
      by_cases e1 : sp_plan V k = -1
      · rw [if_pos (c2.mpr e1), if_neg (fun q => q.1.1 e1)]
      · rw [if_neg (fun q => e1 (c2.mp q))]
        by_cases e3 : sp_plan V k ≤ d ∧ d ≤ sp_plan V k + sp_len V k - 1
        · rw [if_pos e3, if_pos ⟨⟨e1, e2⟩, by omega, by omega⟩]
        · rw [if_neg e3, if_neg (fun q => e3 ⟨q.2.1, by omega⟩)]
    · rw [if_pos (fun q => e2 (c1.mp q)), if_neg (fun q => e2 q.1.2)]
theorem pX4_on2 {M : tw_Md} {V : tw_V} (h : sp_RA M.1 V) (hV : sp_ok V) (hP : sp_RB M.2.2.2.2.2.2.2.2.2.2.2.1 V (sp_plan V)) {a d : Int} (a1 : 0 ≤ a) (a2 : a < 100) (d1 : 0 ≤ d) (d2 : d < 100) : fX4_on M (2 : Int32) (zi a) (zi d) = some (zi (sp_on V (sp_plan V) (sp_hal V) a d (sp_n V) 0)) := by
  have hn := sp_12 hV
  unfold fX4_on
  refine ldn (fun fuel k => fX4_on_3 M (2 : Int32) (zi a) (zi d) fuel (zi k)) (fun k => zi (sp_on V (sp_plan V) (sp_hal V) a d (sp_n V - k) k)) (sp_n V) (fun fuel => ?_) (fun fuel k hk hr => ?_) 0 512 (by omega) (by omega)
  · (try dsimp only)
    rw [fX4_on_3, zT0, h.1, if_pos ((zi_le (by omega) (by omega) (by omega) (by omega)).mpr (Int.le_refl _)), Nat.sub_self]
    rfl
  · (try dsimp only at hr ⊢)
    have h2 := sp_p_le hV hk
    obtain ⟨l1, l2, q1, q2, q3, q4, -⟩ := hV.2.2.2.1 k hk
    have g : ∀ {α : Type} (y : Option α), tw_g (zi (k : Int)) 12 y = y := fun y => zi_n (by omega) (by omega) y
    have c1 : zi (sp_hal V k) = zi a ↔ sp_hal V k = a := zi_eq (by omega) (by omega) (by omega) (by omega)
    have c2 : zi (sp_plan V k) = (-1 : Int32) ↔ sp_plan V k = -1 := zi_eq (b := -1) (by omega) (by omega) (by omega) (by omega)
    have i0 : fX4_in (zi d) (zi (sp_plan V k)) (zi (sp_plan V k + sp_len V k) - (1 : Int32)) = some (if sp_plan V k ≤ d ∧ d ≤ sp_plan V k + sp_len V k - 1 then 1 else 0) := by
      rw [z1, zi_sub, pX4_in (by omega) (by omega) (by omega) (by omega) (by omega) (by omega)]
      rfl
    rw [fX4_on_3, zT0, h.1, if_neg (by rw [zi_le (by omega) (by omega) (by omega) (by omega)]; omega)]
    simp only [pX4_hal h hV hk, pX4_behind h hV hP hk, g, zi_Tn (show k < 2147483648 by omega), hP k hk, i0, ob_some, ifl0, zi_suc, hr]
    rw [show sp_n V - k = (sp_n V - (k + 1)) + 1 by omega, sp_on]
    by_cases e2 : sp_hal V k = a
    · rw [if_neg (fun q => q (c1.mpr e2))]
      by_cases e1 : sp_plan V k = -1
      · rw [if_pos (c2.mpr e1), if_neg (fun q => q.1.1 e1)]
      · rw [if_neg (fun q => e1 (c2.mp q))]
        by_cases e3 : sp_plan V k ≤ d ∧ d ≤ sp_plan V k + sp_len V k - 1
        · rw [if_pos e3, if_pos ⟨⟨e1, e2⟩, by omega, by omega⟩]
        · rw [if_neg e3, if_neg (fun q => e3 ⟨q.2.1, by omega⟩)]
    · rw [if_pos (fun q => e2 (c1.mp q)), if_neg (fun q => e2 q.1.2)]
theorem op_personOn {Y : tw_Wl} {M : tw_Md} (hI : sp_I Y M) (p1 p2 : Int32) : sp_A 0 0 1 ((fX3_personOn Y p1 p2).bind fun r => some (r.1, r.2, Y)) (fX4_personOn M p1 p2) := by
  obtain ⟨g, hg, hc, hm⟩ := hI
  obtain ⟨a, a1, a2, rfl⟩ := zi_any p1
  obtain ⟨d, d1, d2, rfl⟩ := zi_any p2
  have hn := sp_12 hg.1.1
  obtain ⟨M1, k1, k2, k3⟩ := pX4_plans (M := sp_m0 M) (V := g.1) hm.1 hg.1.1
  have hm1 : sp_IM M1 g := sp_IM_K (M := sp_m0 M) hm k2
  unfold fX3_personOn fX4_personOn
  simp only [pX3_isPerson a1 a2, pX3_isDay d1 d2, pX4_isPerson a1 a2, pX4_isDay d1 d2, k1, ob_some, ifl0, ifl1, op_fl]
  by_cases e1 : 0 ≤ a ∧ a ≤ 5
  · rw [if_pos e1, if_pos e1]
    by_cases e2 : 0 ≤ d ∧ d ≤ 99
    · rw [if_pos e2, if_pos e2, pX0_taskOnP hc.1 hg.1.1 hc.2.1.1 (sp_bokp hg.1.1) e1.1 (by omega) e2.1 (by omega), ob_some, ob_some, pX4_on1 hm1.1 hg.1.1 k3 e1.1 (by omega) e2.1 (by omega), ob_some]
      exact sp_AK hg hc hm (sp_K_r Y) k2 rfl
    · rw [if_neg e2, if_neg e2]
      exact sp_A3 (M' := M1) hg hc hm1 i1n0
  · rw [if_neg e1, if_neg e1]
    exact sp_A3 (M' := M1) hg hc hm1 i1n0
theorem op_hallOn {Y : tw_Wl} {M : tw_Md} (hI : sp_I Y M) (p1 p2 : Int32) : sp_A 0 0 1 ((fX3_hallOn Y p1 p2).bind fun r => some (r.1, r.2, Y)) (fX4_hallOn M p1 p2) := by
  obtain ⟨g, hg, hc, hm⟩ := hI
  obtain ⟨a, a1, a2, rfl⟩ := zi_any p1
  obtain ⟨d, d1, d2, rfl⟩ := zi_any p2
  have hn := sp_12 hg.1.1
  obtain ⟨M1, k1, k2, k3⟩ := pX4_plans (M := sp_m0 M) (V := g.1) hm.1 hg.1.1
  have hm1 : sp_IM M1 g := sp_IM_K (M := sp_m0 M) hm k2
  unfold fX3_hallOn fX4_hallOn
  simp only [pX3_isHall a1 a2, pX3_isDay d1 d2, pX4_isHall a1 a2, pX4_isDay d1 d2, k1, ob_some, ifl0, ifl1, op_fl]
  by_cases e1 : 0 ≤ a ∧ a ≤ 3
  · rw [if_pos e1, if_pos e1]
    by_cases e2 : 0 ≤ d ∧ d ≤ 99
    · rw [if_pos e2, if_pos e2, pX0_taskOnH hc.1 hg.1.1 hc.2.1.1 (sp_bokp hg.1.1) e1.1 (by omega) e2.1 (by omega), ob_some, ob_some, pX4_on2 hm1.1 hg.1.1 k3 e1.1 (by omega) e2.1 (by omega), ob_some]
      exact sp_AK hg hc hm (sp_K_r Y) k2 rfl
    · rw [if_neg e2, if_neg e2]
      exact sp_A3 (M' := M1) hg hc hm1 i1n0
  · rw [if_neg e1, if_neg e1]
    exact sp_A3 (M' := M1) hg hc hm1 i1n0
def sp_hl (V : tw_V) (j : Nat) : Nat → Int32
  | 0 => zi (sp_fst V j)
  | 1 => zi (sp_lst V j)
  | 2 => zi (sp_sum (fun t => if sp_hal V t = (j : Int) ∧ sp_plan V t ≠ -1 then sp_len V t else 0) (sp_n V))
  | _ => zi (sp_sum (fun t => if sp_hal V t = (j : Int) ∧ sp_plan V t ≠ -1 then 1 else 0) (sp_n V))
theorem pX3_hl {Y : tw_Wl} {V : tw_V} (h : sp_RS Y.1 V) (hV : sp_ok V) (hP : sp_RP Y.2.1 V (sp_plan V)) {j : Nat} (hj : j < 4) {w : Nat} (hw : w ≤ 3) : fX3_hall Y (zi j) (zi w) = some (0, sp_hl V j w) := by
  have g1 : ∀ {α : Type} (y : Option α), tw_g (zi (j : Int)) 4 y = y := fun y => zi_n (by omega) (by omega) y
  unfold fX3_hall
  rw [pX3_isHall (by omega) (by omega), ob_some, ifl1, if_pos (show 0 ≤ (j : Int) ∧ (j : Int) ≤ 3 by omega)]
  have hw4 : w = 0 ∨ w = 1 ∨ w = 2 ∨ w = 3 := by omega
  rcases hw4 with rfl | rfl | rfl | rfl
  · rw [if_neg (by decide), if_pos (by decide), if_pos (by decide), g1, zi_Tn (by omega), (h.2.2.2 j hj).1]
    rfl
  · rw [if_neg (by decide), if_pos (by decide), if_neg (by decide), if_pos (by decide), g1, zi_Tn (by omega), (h.2.2.2 j hj).2]
    rfl
  · rw [if_neg (by decide), if_pos (by decide), if_neg (by decide), if_neg (by decide), if_pos (by decide), pX0_daysIn h hV hP.1 (sp_bokp hV) (by omega) (by omega), ob_some]
    rfl
  · rw [if_neg (by decide), if_pos (by decide), if_neg (by decide), if_neg (by decide), if_neg (by decide), pX0_tasksIn h hV hP.1 (sp_bokp hV) (by omega) (by omega), ob_some]
    rfl
theorem oh_0 {p1 p2 : Int32} {k27 : Int32 → Int32 → tw_Md → Option (Int32 × tw_Md)} {v3 v4 : Int32} {M : tw_Md} : fX4_ofHall_68 p1 p2 k27 (0 : Int32) v3 v4 M = k27 (v3 + (0 : Int32)) (v4 + 1) M := by
  unfold fX4_ofHall_68
  rw [if_pos rfl]
theorem oh_2 {p1 : Int32} {k27 : Int32 → Int32 → tw_Md → Option (Int32 × tw_Md)} {v3 v4 : Int32} {M : tw_Md} : fX4_ofHall_68 p1 (zi ((2 : Nat) : Int)) k27 (1 : Int32) v3 v4 M = (fX4_of M.1 v4 (0 : Int32)).bind fun r => k27 (v3 + r) (v4 + 1) M := by
  unfold fX4_ofHall_68
  rw [if_neg (by decide), if_neg (by decide)]
theorem oh_3 {p1 : Int32} {k27 : Int32 → Int32 → tw_Md → Option (Int32 × tw_Md)} {v3 v4 : Int32} {M : tw_Md} : fX4_ofHall_68 p1 (zi ((3 : Nat) : Int)) k27 (1 : Int32) v3 v4 M = k27 (v3 + (1 : Int32)) (v4 + 1) M := by
  unfold fX4_ofHall_68
  rw [if_neg (by decide), if_pos (by decide)]
theorem pX4_ofHall_27_2 {M : tw_Md} {V : tw_V} (h : sp_RA M.1 V) (hV : sp_ok V) (hP : sp_RB M.2.2.2.2.2.2.2.2.2.2.2.1 V (sp_plan V)) {j : Nat} (hj : j < 4) : fX4_ofHall_27 (zi j) (zi ((2 : Nat) : Int)) 512 (0 : Int32) (0 : Int32) M = some (sp_hl V j 2, M) := by
  have hn := sp_12 hV
  refine lup (fun fuel k => fX4_ofHall_27 (zi j) (zi ((2 : Nat) : Int)) fuel (zi (sp_sum (fun t => if sp_hal V t = (j : Int) ∧ sp_plan V t ≠ -1 then sp_len V t else 0) k)) (zi k) M) _ (sp_n V) (fun fuel => ?_) (fun fuel k hk => ?_) 512 (by omega)
  · (try dsimp only)
    rw [fX4_ofHall_27, zT0, h.1, if_pos ((zi_le (by omega) (by omega) (by omega) (by omega)).mpr (Int.le_refl _))]
    rfl
  · (try dsimp only)
    have h2 := sp_p_le hV hk
    obtain ⟨-, -, -, -, q1, q2, -⟩ := hV.2.2.2.1 k hk
    have c1 : zi (sp_hal V k) = zi (j : Int) ↔ sp_hal V k = j := zi_eq (by omega) (by omega) (by omega) (by omega)
    have c2 : zi (sp_plan V k) = (-1 : Int32) ↔ sp_plan V k = -1 := zi_eq (b := -1) (by omega) (by omega) (by omega) (by omega)
    have hz : ∀ x : Int, zi x + (0 : Int32) = zi (x + 0) := fun x => zi_add x 0
    rw [fX4_ofHall_27, zT0, h.1, if_neg (by rw [zi_le (by omega) (by omega) (by omega) (by omega)]; omega), pX4_hal h hV hk, ob_some, zi_n (by omega) (by omega), zi_Tn (by omega), hP k hk, sp_sum]
    by_cases e1 : sp_hal V k = j
    · rw [if_neg (fun q => q (c1.mpr e1))]
      by_cases e2 : sp_plan V k = -1
      · rw [if_pos (c2.mpr e2), oh_0, hz, zi_suc, if_neg (fun q => q.2 e2)]
      · rw [if_neg (fun q => e2 (c2.mp q)), if_pos ⟨e1, e2⟩]
        rw [oh_2, pX4_len h hV hk, ob_some, zi_add, zi_suc]
    · rw [if_pos (fun q => e1 (c1.mp q)), oh_0, hz, zi_suc, if_neg (fun q => e1 q.1)]
theorem pX4_ofHall_27_3 {M : tw_Md} {V : tw_V} (h : sp_RA M.1 V) (hV : sp_ok V) (hP : sp_RB M.2.2.2.2.2.2.2.2.2.2.2.1 V (sp_plan V)) {j : Nat} (hj : j < 4) : fX4_ofHall_27 (zi j) (zi ((3 : Nat) : Int)) 512 (0 : Int32) (0 : Int32) M = some (sp_hl V j 3, M) := by
  have hn := sp_12 hV
  refine lup (fun fuel k => fX4_ofHall_27 (zi j) (zi ((3 : Nat) : Int)) fuel (zi (sp_sum (fun t => if sp_hal V t = (j : Int) ∧ sp_plan V t ≠ -1 then 1 else 0) k)) (zi k) M) _ (sp_n V) (fun fuel => ?_) (fun fuel k hk => ?_) 512 (by omega)
  · (try dsimp only)
    rw [fX4_ofHall_27, zT0, h.1, if_pos ((zi_le (by omega) (by omega) (by omega) (by omega)).mpr (Int.le_refl _))]
    rfl
  · (try dsimp only)
    have h2 := sp_p_le hV hk
    obtain ⟨-, -, -, -, q1, q2, -⟩ := hV.2.2.2.1 k hk
    have c1 : zi (sp_hal V k) = zi (j : Int) ↔ sp_hal V k = j := zi_eq (by omega) (by omega) (by omega) (by omega)
    have c2 : zi (sp_plan V k) = (-1 : Int32) ↔ sp_plan V k = -1 := zi_eq (b := -1) (by omega) (by omega) (by omega) (by omega)
    have hz : ∀ x : Int, zi x + (0 : Int32) = zi (x + 0) := fun x => zi_add x 0
    rw [fX4_ofHall_27, zT0, h.1, if_neg (by rw [zi_le (by omega) (by omega) (by omega) (by omega)]; omega), pX4_hal h hV hk, ob_some, zi_n (by omega) (by omega), zi_Tn (by omega), hP k hk, sp_sum]
    by_cases e1 : sp_hal V k = j
    · rw [if_neg (fun q => q (c1.mpr e1))]
      by_cases e2 : sp_plan V k = -1
      · rw [if_pos (c2.mpr e2), oh_0, hz, zi_suc, if_neg (fun q => q.2 e2)]
      · rw [if_neg (fun q => e2 (c2.mp q)), if_pos ⟨e1, e2⟩]
        rw [oh_3, z1, zi_add, ← z1, zi_suc]
    · rw [if_pos (fun q => e1 (c1.mp q)), oh_0, hz, zi_suc, if_neg (fun q => e1 q.1)]
theorem pX4_hl {M : tw_Md} {V : tw_V} (h : sp_RA M.1 V) (hV : sp_ok V) {j : Nat} (hj : j < 4) {w : Nat} (hw : w ≤ 3) : ∃ M', fX4_ofHall M (zi j) (zi w) = some (sp_hl V j w, M') ∧ sp_KM M M' := by
  have hq := h.2.2.2 j hj
  obtain ⟨M1, e1, e2, e3⟩ := pX4_plans h hV
  unfold fX4_ofHall
  have hw4 : w = 0 ∨ w = 1 ∨ w = 2 ∨ w = 3 := by omega
  rcases hw4 with rfl | rfl | rfl | rfl
  · rw [if_neg (by decide), zi_hro, zi_pk, zi_n (by omega) (by omega), zi_Tn (by omega)]
    exact ⟨M, congrArg (fun x => some (x, M)) hq.1, sp_KM_r M⟩
  · rw [if_neg (by decide), zi_hro, zi_pk, zi_n (by omega) (by omega), zi_Tn (by omega)]
    exact ⟨M, congrArg (fun x => some (x, M)) hq.2, sp_KM_r M⟩
  · rw [if_pos (by decide), e1, ob_some, pX4_ofHall_27_2 (sp_RA_K h e2) hV e3 hj]
    exact ⟨M1, rfl, e2⟩
  · rw [if_pos (by decide), e1, ob_some, pX4_ofHall_27_3 (sp_RA_K h e2) hV e3 hj]
    exact ⟨M1, rfl, e2⟩
theorem op_hall {Y : tw_Wl} {M : tw_Md} (hI : sp_I Y M) (p1 p2 : Int32) : sp_A 2 0 1 ((fX3_hall Y p1 p2).bind fun r => some (r.1, r.2, Y)) (fX4_hall M p1 p2) := by
  obtain ⟨g, hg, hc, hm⟩ := hI
  obtain ⟨a, a1, a2, rfl⟩ := zi_any p1
  obtain ⟨w, w1, w2, rfl⟩ := zi_any p2
  have i0 : fX4_in (zi w) (0 : Int32) (3 : Int32) = _ := pX4_in (a := w) (l := 0) (h := 3) w1 w2 (by omega) (by omega) (by omega) (by omega)
  have c1 : zi w < (0 : Int32) ↔ w < 0 := zi_lt (b := 0) w1 w2 (by omega) (by omega)
  have c2 : zi w < (4 : Int32) ↔ w < 4 := zi_lt (b := 4) w1 w2 (by omega) (by omega)
  unfold fX4_hall
  simp only [pX4_isHall a1 a2, i0, ob_some, ifl0, ifl1, op_fl]
  by_cases e1 : 0 ≤ a ∧ a ≤ 3
  · rw [if_pos e1]
    obtain ⟨j, rfl⟩ : ∃ j : Nat, a = j := ⟨a.toNat, by omega⟩
    by_cases e2 : 0 ≤ w ∧ w ≤ 3
    · rw [if_pos e2]
      obtain ⟨k, rfl⟩ : ∃ k : Nat, w = k := ⟨w.toNat, by omega⟩
      obtain ⟨M', y1, y2⟩ := pX4_hl (M := sp_m0 M) hm.1 hg.1.1 (j := j) (by omega) (w := k) (by omega)
      rw [pX3_hl hc.1 hg.1.1 hc.2.1 (show j < 4 by omega) (show k ≤ 3 by omega), ob_some, y1, ob_some]
      exact sp_AK hg hc hm (sp_K_r Y) y2 rfl
    · rw [if_neg e2]
      have : fX3_hall Y (zi j) (zi w) = some (1, 0) := by
        unfold fX3_hall
        rw [pX3_isHall a1 a2, ob_some, ifl1, if_pos e1]
        by_cases e3 : w < 0
        · rw [if_pos (c1.mpr e3)]
        · rw [if_neg (fun q => e3 (c1.mp q)), if_neg (fun q => absurd (c2.mp q) (by omega))]
      rw [this, ob_some]
      exact sp_A1 (M' := sp_m0 M) hg hc hm i2n0
  · rw [if_neg e1]
    have : fX3_hall Y (zi a) (zi w) = some (3, 0) := by
      unfold fX3_hall
      rw [pX3_isHall a1 a2, ob_some, ifl1, if_neg e1]
    rw [this, ob_some]
    exact sp_A3 (M' := sp_m0 M) hg hc hm i1n0
