/-! the law's looks answer true -/
def qp_l (V : tw_V) : Prop := ∀ h, h < 4 → sp_fst V h ≤ sp_lst V h
theorem sp_on_le {V : tw_V} {b own : Nat → Int} {a d : Int} (n : Nat) : -1 ≤ sp_on V b own a d n 0 ∧ sp_on V b own a d n 0 < n := by
  rcases sp_on_dec (V := V) (b := b) (own := own) (a := a) (d := d) n 0 with ⟨h1, -⟩ | ⟨t, h1, h2, -, h4⟩
  · rw [h1]; omega
  · rw [h4]; omega
section QL
variable {Y : tw_Wl} {V : tw_V} {kk : Nat}
theorem qc_set (h : qp_V Y V kk) {Z : tw_Wl} (hK : sp_K Y Z) : fX3_setting Z = some (zi (sp_rule V)) := by
  have q := qp_VK h hK
  unfold fX3_setting
  rw [q.1.2.1]
theorem qc_i0 (h : qp_V Y V kk) {Z : tw_Wl} (hK : sp_K Y Z) : ∃ Z', fX3_ifRule Z (zi (sp_rule V)) (0 : Int32) = some (0, zi (sp_E V), Z') ∧ sp_K Y Z' := by
  have q := qp_VK h hK
  obtain ⟨Z', e, k⟩ := pX3_ir q.1 q.2.1 q.2.1.2.1 q.2.1.2.2.1 (w := 0) (by omega) (by omega)
  have e2 : sp_ir V (sp_rule V) 0 = sp_E V := if_pos rfl
  rw [e2] at e
  exact ⟨Z', e, sp_K_t hK k⟩
theorem qc_i1 (h : qp_V Y V kk) {Z : tw_Wl} (hK : sp_K Y Z) : ∃ Z', fX3_ifRule Z (zi (sp_rule V)) (1 : Int32) = some (0, zi (sp_L V), Z') ∧ sp_K Y Z' := by
  have q := qp_VK h hK
  obtain ⟨Z', e, k⟩ := pX3_ir q.1 q.2.1 q.2.1.2.1 q.2.1.2.2.1 (w := 1) (by omega) (by omega)
  have e2 : sp_ir V (sp_rule V) 1 = sp_L V := (if_neg (by decide)).trans (if_pos rfl)
  rw [e2] at e
  exact ⟨Z', e, sp_K_t hK k⟩
theorem qc_i2 (h : qp_V Y V kk) {Z : tw_Wl} (hK : sp_K Y Z) : ∃ Z', fX3_ifRule Z (zi (sp_rule V)) (2 : Int32) = some (0, zi (sp_W V), Z') ∧ sp_K Y Z' := by
  have q := qp_VK h hK
  obtain ⟨Z', e, k⟩ := pX3_ir q.1 q.2.1 q.2.1.2.1 q.2.1.2.2.1 (w := 2) (by omega) (by omega)
  have e2 : sp_ir V (sp_rule V) 2 = sp_W V := (if_neg (by decide)).trans (if_neg (by decide))
  rw [e2] at e
  exact ⟨Z', e, sp_K_t hK k⟩
theorem qc_ws (h : qp_V Y V kk) {Z : tw_Wl} (hK : sp_K Y Z) : ∃ Z', fX3_worstSlip Z (3 : Int32) = some (0, zi (sp_ws V 3 (sp_n V)).1, Z') ∧ sp_K Y Z' := by
  have q := qp_VK h hK
  obtain ⟨Z', e, k⟩ := pX3_wo q.1 q.2.1 q.2.2.1 (d := 3) (by omega) (by omega)
  exact ⟨Z', e, sp_K_t hK k⟩
theorem qc_bz (h : qp_V Y V kk) {Z : tw_Wl} (hK : sp_K Y Z) : fX3_busyness Z = some (sp_bz V) := by
  have q := qp_VK h hK
  exact pX3_bz q.1 q.2.1 q.2.2.1
theorem qs_225 (h : qp_V Y V kk) {Z : tw_Wl} (kZ : sp_K Y Z) : ∃ Z', fL_looks_225 Z = some (1, Z') ∧ sp_K Y Z' := by
  have hn := sp_12 h.2.1
  have b1 := qp_lg_all h.2.1
  have b2 := sp_lg_le h.2.1 (sp_n V) (Nat.le_refl _)
  have b3 := sp_slen_le h.2.1 (fun _ => True) (sp_n V) (Nat.le_refl _)
  have b4 : sp_sum (fun t => if True then sp_len V t else 0) (sp_n V) = sp_sum (sp_len V) (sp_n V) := sp_sum_cong (fun k _ => if_pos trivial)
  rw [b4] at b3
  have b5 := sp_L_le h.2.1
  obtain ⟨Z1, e1, k1⟩ := qc_c7 h kZ
  obtain ⟨Z2, e2, k2⟩ := qc_c4 h k1
  have e3 := qc_bz h k2
  obtain ⟨Z4, e4, k4⟩ := qc_c1 h k2
  have e5 := qc_bz h k4
  have cl := zi_le (a := sp_L V) (b := 0) (by omega) (by omega) (by omega) (by omega)
  have cl : zi (sp_L V) ≤ (0 : Int32) ↔ sp_L V ≤ 0 := cl
  refine ⟨Z4, ?_, k4⟩
  unfold fL_looks_225
  rw [e1, ob_some, zi_q rfl]
  (try dsimp only)
  rw [e2, ob_some, zi_q rfl, if_neg (by rw [zi_lt (by omega) (by omega) (by omega) (by omega)]; omega)]
  (try dsimp only)
  rw [e3, ob_some]
  rcases qp_LE0 h.2.1 with ⟨q1, q2⟩ | ⟨q1, q2⟩
  · have eb : sp_bz V = FP.dconst0 := if_pos q2
    rw [eb] at e5 ⊢
    rw [if_neg bz_zero.2, e4, ob_some, zi_q rfl, if_pos (cl.mpr (by omega))]
    (try dsimp only)
    unfold fL_looks_261
    rw [e5, ob_some, if_pos bz_zero.1, if_neg (fun q => q rfl)]
  · have hE : sp_E V ≠ 0 := by omega
    have eb : sp_bz V = FP.ddiv (FP.i2d (zi (sp_ll V))) (FP.i2d (zi (sp_E V))) := if_neg hE
    have bz := (sp_bz_all h.2.1 hE).2
    rw [← eb] at bz
    rw [if_neg bz.2, e4, ob_some, zi_q rfl, if_neg (fun q => absurd (cl.mp q) (by omega))]
    (try dsimp only)
    unfold fL_looks_261
    rw [e5, ob_some, if_neg bz.1, if_neg (fun q => q rfl)]
theorem qs_198 (h : qp_V Y V kk) {Z : tw_Wl} (kZ : sp_K Y Z) : ∃ Z', fL_looks_198 1 Z = some (1, Z') ∧ sp_K Y Z' := by
  have hn := sp_12 h.2.1
  have b5 := sp_L_le h.2.1
  have b6 := sp_laid_le (V := V) (sp_plan V) (sp_n V)
  have b7 : sp_L V ≤ sp_n V := b6.2
  have b2 := sp_lg_le h.2.1 (sp_n V) (Nat.le_refl _)
  have b8 := sp_E_le h.2.1
  obtain ⟨Z1, e1, k1⟩ := qc_c2 h kZ
  obtain ⟨Z2, e2, k2⟩ := qc_c3 h k1
  obtain ⟨Z3, e3, k3⟩ := qc_c7 h k2
  have c0 : (0 : Int32) < zi (sp_n V - sp_L V) ↔ (0 : Int) < sp_n V - sp_L V := zi_lt (a := 0) (by omega) (by omega) (by omega) (by omega)
  unfold fL_looks_198
  rw [if_neg zi_b1, e1, ob_some, zi_q rfl]
  (try dsimp only)
  by_cases e : (0 : Int) < sp_n V - sp_L V
  · rw [if_pos (c0.mpr e)]
    exact qs_225 h k1
  · have q := qp_longest h.2.1 (show sp_L V = sp_n V by omega)
    rw [if_neg (fun q => e (c0.mp q)), e2, ob_some, zi_q rfl]
    (try dsimp only)
    rw [e3, ob_some, zi_q rfl, if_neg (by rw [zi_lt (by omega) (by omega) (by omega) (by omega)]; omega)]
    (try dsimp only)
    exact qs_225 h k3
theorem qs_156 (h : qp_V Y V kk) {Z : tw_Wl} (kZ : sp_K Y Z) : ∃ Z', fL_looks_156 1 Z = some (1, Z') ∧ sp_K Y Z' := by
  have hn := sp_12 h.2.1
  obtain ⟨Z1, e1, k1⟩ := qc_ws h kZ
  unfold fL_looks_156
  rw [e1, ob_some, zi_q rfl, if_neg zi_b1]
  (try dsimp only)
  rcases qp_ws (V := V) (d := 3) (sp_n V) with q | ⟨t, ht, q, hl, h57⟩
  · rw [q, if_pos zm1.symm]
    exact qs_198 h k1
  · have g := qp_laid h.2.1 ht hl
    obtain ⟨l1, l2, -⟩ := h.2.1.2.2.2.1 t ht
    obtain ⟨Z2, e2, k2⟩ := qc_t6 h k1 ht
    obtain ⟨Z3, e3, k3⟩ := qc_t6 h k2 ht
    have c57 : ¬ (57 : Int32) < zi (sp_plan V t) := fun q => absurd ((zi_lt (a := 57) (by omega) (by omega) (by omega) (by omega)).mp q) (by omega)
    rw [q, if_neg (fun q => absurd ((zi_m (a := (t : Int)) (by omega) (by omega)).mp q) (by omega)), e2, ob_some, zi_q rfl, if_neg (fun q => absurd ((zi_l0 (a := sp_plan V t) (by omega) (by omega)).mp q) (by omega))]
    (try dsimp only)
    rw [e3, ob_some, zi_q rfl, if_neg c57]
    (try dsimp only)
    exact qs_198 h k3
theorem qs_74 (h : qp_V Y V kk) (hl : qp_l V) {j : Nat} (hj : j < 4) (k60 : Int32 → Int32 → tw_Wl → Option (Int32 × tw_Wl)) : ∀ (m d fuel : Nat) (Z : tw_Wl), d + m = 100 → m < fuel → sp_K Y Z → ∃ Z', fL_looks_74 k60 fuel (zi j) (zi (sp_sum (fun d => if sp_on V (sp_plan V) (sp_hal V) (j : Int) (d : Int) (sp_n V) 0 < 0 then 0 else 1) d)) (zi d) Z = k60 1 (zi ((j + 1 : Nat) : Int)) Z' ∧ sp_K Y Z'
  | 0, d, fuel, Z, h1, h2, kZ => by
    have hn := sp_12 h.2.1
    obtain ⟨fuel, rfl⟩ : ∃ f, fuel = f + 1 := ⟨fuel - 1, by omega⟩
    have : d = 100 := by omega
    subst this
    obtain ⟨Z1, e1, k1⟩ := qc_c1 h kZ
    have b5 := sp_L_le h.2.1
    have q := h.2.1.2.2.2.2 j hj
    have q2 := hl j hj
    have q5 := q.1
    have q6 := q.2.1
    have q7 := q.2.2.1
    have q8 := q.2.2.2
    have b6 : sp_sum (fun t => if sp_hal V t = (j : Int) ∧ sp_plan V t ≠ -1 then 1 else 0) (sp_n V) ≤ sp_L V := sp_sum_mono (fun k _ => by
      (try dsimp only)
      by_cases e : sp_plan V k = -1
      · rw [if_neg (fun q => q.2 e), if_pos e]; exact Int.le_refl _
      · rw [if_neg (c := sp_plan V k = -1) e]
        split <;> omega)
    have b7 := sp_sum_le (f := fun t => if sp_hal V t = (j : Int) ∧ sp_plan V t ≠ -1 then 1 else 0) (c := 1) (n := sp_n V) (fun o _ => by (try dsimp only); split <;> omega)
    refine ⟨Z1, ?_, k1⟩
    rw [fL_looks_74, if_pos (by decide), qc_h2 h kZ hj, ob_some, zi_q rfl, if_neg (fun q => q (congrArg zi (qp_days h.2.1 (show (j : Int) ≠ -1 by omega)).symm)), qc_h0 h kZ hj, ob_some, zi_q rfl, qc_h1 h kZ hj, ob_some, zi_q rfl]
    (try dsimp only)
    rw [if_neg (by rw [zi_lt (by omega) (by omega) (by omega) (by omega)]; omega), qc_h3 h kZ hj, ob_some, zi_q rfl, e1, ob_some, zi_q rfl]
    (try dsimp only)
    rw [if_neg (by rw [zi_lt (by omega) (by omega) (by omega) (by omega)]; omega), zi_suc]
  | m + 1, d, fuel, Z, h1, h2, kZ => by
    have hn := sp_12 h.2.1
    obtain ⟨fuel, rfl⟩ : ∃ f, fuel = f + 1 := ⟨fuel - 1, by omega⟩
    have b := sp_on_le (V := V) (b := sp_plan V) (own := sp_hal V) (a := (j : Int)) (d := (d : Int)) (sp_n V)
    have c1 : ¬ (100 : Int32) ≤ zi (d : Int) := fun q => absurd ((zi_le (a := 100) (by omega) (by omega) (by omega) (by omega)).mp q) (by omega)
    obtain ⟨Z', f1, f2⟩ := qs_74 h hl hj k60 m (d + 1) fuel Z (by omega) (by omega) kZ
    refine ⟨Z', ?_, f2⟩
    rw [sp_sum] at f1
    rw [fL_looks_74, if_neg c1, qc_onH h kZ (a := (j : Int)) (d := (d : Int)) (by omega) (by omega) (by omega) (by omega), ob_some, zi_q rfl, zi_suc]
    (try dsimp only)
    by_cases e : sp_on V (sp_plan V) (sp_hal V) (j : Int) (d : Int) (sp_n V) 0 < 0
    · rw [if_pos e, Int.add_zero] at f1
      rw [if_pos ((zi_l0 (by omega) (by omega)).mpr e), zi_i0]
      exact f1
    · rw [if_neg e] at f1
      rw [if_neg (fun q => e ((zi_l0 (by omega) (by omega)).mp q)), zi_i1]
      exact f1
theorem qs_60 (h : qp_V Y V kk) (hl : qp_l V) : ∀ (m j fuel : Nat) (Z : tw_Wl), j + m = 4 → m < fuel → sp_K Y Z → ∃ Z', fL_looks_60 fuel 1 (zi j) Z = some (1, Z') ∧ sp_K Y Z'
  | 0, j, fuel, Z, h1, h2, kZ => by
    obtain ⟨fuel, rfl⟩ : ∃ f, fuel = f + 1 := ⟨fuel - 1, by omega⟩
    have : j = 4 := by omega
    subst this
    rw [fL_looks_60, if_pos (by decide)]
    exact qs_156 h kZ
  | m + 1, j, fuel, Z, h1, h2, kZ => by
    obtain ⟨fuel, rfl⟩ : ∃ f, fuel = f + 1 := ⟨fuel - 1, by omega⟩
    have c1 : ¬ (4 : Int32) ≤ zi (j : Int) := fun q => absurd ((zi_le (a := 4) (by omega) (by omega) (by omega) (by omega)).mp q) (by omega)
    obtain ⟨Z1, e1, k1⟩ := qs_74 h hl (j := j) (by omega) (fL_looks_60 fuel) 100 0 512 Z (by omega) (by omega) kZ
    obtain ⟨Z2, e2, k2⟩ := qs_60 h hl m (j + 1) fuel Z1 (by omega) (by omega) k1
    refine ⟨Z2, ?_, k2⟩
    rw [fL_looks_60, if_neg c1, if_neg zi_b1]
    exact e1.trans e2
theorem qL_looks (h : qp_V Y V kk) (hl : qp_l V) : ∃ Z', fL_looks Y = some (1, Z') ∧ sp_K Y Z' := by
  obtain ⟨Z1, e1, k1⟩ := qc_i0 h (sp_K_r Y)
  obtain ⟨Z2, e2, k2⟩ := qc_c3 h k1
  obtain ⟨Z3, e3, k3⟩ := qc_i1 h k2
  obtain ⟨Z4, e4, k4⟩ := qc_c1 h k3
  obtain ⟨Z5, e5, k5⟩ := qc_i2 h k4
  obtain ⟨Z6, e6, k6⟩ := qc_c6 h k5
  obtain ⟨Z7, e7, k7⟩ := qs_60 h hl 4 0 512 Z6 (by omega) (by omega) k6
  refine ⟨Z7, ?_, k7⟩
  unfold fL_looks
  rw [qc_set h (sp_K_r Y), ob_some, e1, ob_some, zi_q rfl]
  (try dsimp only)
  rw [e2, ob_some, zi_q rfl, if_neg (fun q => q rfl)]
  (try dsimp only)
  rw [qc_set h k2, ob_some, e3, ob_some, zi_q rfl]
  (try dsimp only)
  rw [e4, ob_some, zi_q rfl, if_neg (fun q => q rfl)]
  (try dsimp only)
  rw [qc_set h k4, ob_some, e5, ob_some, zi_q rfl]
  (try dsimp only)
  rw [e6, ob_some, zi_q rfl, if_neg (fun q => q rfl)]
  exact e7
end QL
