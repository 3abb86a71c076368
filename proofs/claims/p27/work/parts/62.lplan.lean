/-! the law's plan answers true -/
section QP
variable {Y : tw_Wl} {V : tw_V} {kk : Nat}
theorem ql_447 (h : qp_V Y V kk) {Z : tw_Wl} (kZ : sp_K Y Z) : ∃ Z', fL_plan_447 (zi (sp_n V)) (zi (sp_L V)) (zi (sp_W V)) (zi (sp_crit V)) (zi (sp_E V)) (1 : Int32) Z = some (1, Z') ∧ sp_K Y Z' := by
  obtain ⟨Z1, e1, k1⟩ := qc_c1 h kZ
  obtain ⟨Z2, e2, k2⟩ := qc_c2 h k1
  obtain ⟨Z3, e3, k3⟩ := qc_c3 h k2
  obtain ⟨Z4, e4, k4⟩ := qc_c6 h k3
  obtain ⟨Z5, e5, k5⟩ := qc_c5 h k4
  refine ⟨Z5, ?_, k5⟩
  unfold fL_plan_447
  rw [if_neg zi_b1, e1, ob_some, zi_q rfl, if_neg (fun q => q rfl)]
  (try dsimp only)
  rw [e2, ob_some, zi_q rfl, zi_sub, if_neg (fun q => q rfl)]
  (try dsimp only)
  rw [e3, ob_some, zi_q rfl, if_neg (fun q => q rfl)]
  (try dsimp only)
  rw [e4, ob_some, zi_q rfl, if_neg (fun q => q rfl)]
  (try dsimp only)
  rw [e5, ob_some, zi_q rfl, if_neg (fun q => q rfl)]
  (try rfl)
theorem ql_385 (h : qp_V Y V kk) {Z : tw_Wl} (kZ : sp_K Y Z) {t : Nat} (ht : t < sp_n V) (hl : sp_plan V t ≠ -1) {d : Int} (d1 : sp_plan V t ≤ d) (d2 : d < sp_plan V t + sp_len V t) (k22 : Int32 → Int32 → Int32 → Int32 → Int32 → Int32 → Int32 → tw_Wl → Option (Int32 × tw_Wl)) (K : Int32 → Int32 → Int32 → Int32 → Int32 → Int32 → Int32 → Int32 → Int32 → Int32 → Int32 → tw_Wl → Option (Int32 × tw_Wl)) (v1 v2 v3 v4 v5 v9 v11 : Int32) :
    fL_plan_385 k22 K v1 v2 v3 v4 v5 (zi t) v9 v11 (zi (sp_hal V t)) (zi d) Z = K v1 v2 v3 v4 v5 1 (zi t) v9 v11 (zi (sp_hal V t)) (zi (d + 1)) Z := by
  obtain ⟨l1, l2, -, -, a3, a4, -⟩ := h.2.1.2.2.2.1 t ht
  have g := qp_laid h.2.1 ht hl
  have cm := zi_m (a := sp_hal V t) (by omega) (by omega)
  unfold fL_plan_385
  rw [zi_i1]
  by_cases e : sp_hal V t = -1
  · rw [if_pos (cm.mpr e)]
  · obtain ⟨j, hj⟩ : ∃ j : Nat, sp_hal V t = j := ⟨(sp_hal V t).toNat, by omega⟩
    have hj4 : j < 4 := by omega
    have w := g.2.2.2.2.1.resolve_left e
    rw [hj, Int.toNat_natCast] at w
    have q := h.2.1.2.2.2.2 j hj4
    have hon := qp_onH h.2.1 ht hl e d1 d2
    have f1 : ¬ zi d < zi (sp_fst V j) := by rw [zi_lt (by omega) (by omega) (by have := q.1; omega) (by have := q.2.1; omega)]; omega
    have f2 : ¬ zi (sp_lst V j) < zi d := by rw [zi_lt (by have := q.2.2.1; omega) (by have := q.2.2.2; omega) (by omega) (by omega)]; omega
    rw [if_neg (fun r => e (cm.mp r)), qc_onH h kZ (a := sp_hal V t) (d := d) (by omega) (by omega) (by omega) (by omega), ob_some, zi_q rfl, hon, if_neg (fun r => r rfl)]
    (try dsimp only)
    rw [hj, qc_h0 h kZ hj4, ob_some, zi_q rfl, if_neg f1, qc_h1 h kZ hj4, ob_some, zi_q rfl, if_neg f2]
theorem ql_354 (h : qp_V Y V kk) {Z : tw_Wl} (kZ : sp_K Y Z) {t : Nat} (ht : t < sp_n V) (hl : sp_plan V t ≠ -1) (k22 : Int32 → Int32 → Int32 → Int32 → Int32 → Int32 → Int32 → tw_Wl → Option (Int32 × tw_Wl)) (v1 v2 v3 v4 v5 : Int32) : ∀ (m fuel : Nat) (d : Int), sp_plan V t ≤ d → d + m = sp_plan V t + sp_len V t → m < fuel → fL_plan_354 k22 fuel v1 v2 v3 v4 v5 1 (zi t) (zi (sp_plan V t + sp_len V t)) (zi (sp_per V t)) (zi (sp_hal V t)) (zi d) Z = k22 v1 v2 v3 v4 v5 1 (zi ((t + 1 : Nat) : Int)) Z
  | 0, fuel, d, h1, h2, h3 => by
    obtain ⟨fuel, rfl⟩ : ∃ f, fuel = f + 1 := ⟨fuel - 1, by omega⟩
    have g := qp_laid h.2.1 ht hl
    rw [fL_plan_354, if_pos ((zi_le (by omega) (by omega) (by omega) (by omega)).mpr (by omega)), zi_suc]
  | m + 1, fuel, d, h1, h2, h3 => by
    obtain ⟨fuel, rfl⟩ : ∃ f, fuel = f + 1 := ⟨fuel - 1, by omega⟩
    obtain ⟨l1, l2, a1, a2, -⟩ := h.2.1.2.2.2.1 t ht
    have g := qp_laid h.2.1 ht hl
    have cm := zi_m (a := sp_per V t) (by omega) (by omega)
    have hd : d < sp_plan V t + sp_len V t := by omega
    have ih := ql_354 h kZ ht hl k22 v1 v2 v3 v4 v5 m fuel (d + 1) (by omega) (by omega) (by omega)
    have k3 := ql_385 h kZ ht hl h1 hd k22 (fL_plan_354 k22 fuel) v1 v2 v3 v4 v5 (zi (sp_plan V t + sp_len V t)) (zi (sp_per V t))
    rw [fL_plan_354, if_neg (by rw [zi_le (by omega) (by omega) (by omega) (by omega)]; omega), if_neg zi_b1]
    by_cases e : sp_per V t = -1
    · rw [if_pos (cm.mpr e), k3]; exact ih
    · rw [if_neg (fun r => e (cm.mp r)), qc_onP h kZ (a := sp_per V t) (d := d) (by omega) (by omega) (by omega) (by omega), ob_some, zi_q rfl, qp_onP h.2.1 ht hl e h1 hd, if_neg (fun r => r rfl), k3]
      exact ih
theorem ql_332 (h : qp_V Y V kk) {Z : tw_Wl} (kZ : sp_K Y Z) {t : Nat} (ht : t < sp_n V) (hl : sp_plan V t ≠ -1) (k22 : Int32 → Int32 → Int32 → Int32 → Int32 → Int32 → Int32 → tw_Wl → Option (Int32 × tw_Wl)) (v1 v2 v3 v4 v5 : Int32) : ∃ Z', fL_plan_332 k22 v1 v2 v3 v4 v5 1 (zi t) (zi (sp_plan V t)) (zi (sp_plan V t + sp_len V t)) Z = k22 v1 v2 v3 v4 v5 1 (zi ((t + 1 : Nat) : Int)) Z' ∧ sp_K Y Z' := by
  obtain ⟨l1, l2, -⟩ := h.2.1.2.2.2.1 t ht
  obtain ⟨Z1, e1, k1⟩ := qc_t1 h kZ ht
  obtain ⟨Z2, e2, k2⟩ := qc_t2 h k1 ht
  refine ⟨Z2, ?_, k2⟩
  unfold fL_plan_332
  rw [e1, ob_some, zi_q rfl]
  (try dsimp only)
  rw [e2, ob_some, zi_q rfl]
  exact ql_354 h k2 ht hl k22 v1 v2 v3 v4 v5 (sp_len V t).toNat 512 (sp_plan V t) (Int.le_refl _) (by omega) (by omega)
theorem ql_265 (h : qp_V Y V kk) {t : Nat} (ht : t < sp_n V) (hl : sp_plan V t ≠ -1) (k22 : Int32 → Int32 → Int32 → Int32 → Int32 → Int32 → Int32 → tw_Wl → Option (Int32 × tw_Wl)) (v1 v2 v3 v4 v5 : Int32) : ∀ (m k fuel : Nat) (Z : tw_Wl), k + m = t → m < fuel → sp_K Y Z → ∃ Z', fL_plan_265 k22 fuel v1 v2 v3 v4 v5 1 (zi t) (zi (sp_plan V t)) (zi (sp_plan V t + sp_len V t)) (sp_msk V t) (zi k) Z = k22 v1 v2 v3 v4 v5 1 (zi ((t + 1 : Nat) : Int)) Z' ∧ sp_K Y Z'
  | 0, k, fuel, Z, h1, h2, kZ => by
    have hn := sp_12 h.2.1
    obtain ⟨fuel, rfl⟩ : ∃ f, fuel = f + 1 := ⟨fuel - 1, by omega⟩
    rw [fL_plan_265, if_pos ((zi_le (by omega) (by omega) (by omega) (by omega)).mpr (by omega))]
    exact ql_332 h kZ ht hl k22 v1 v2 v3 v4 v5
  | m + 1, k, fuel, Z, h1, h2, kZ => by
    have hn := sp_12 h.2.1
    obtain ⟨fuel, rfl⟩ : ∃ f, fuel = f + 1 := ⟨fuel - 1, by omega⟩
    have hk : k < sp_n V := by omega
    have g := qp_laid h.2.1 ht hl
    obtain ⟨l1, l2, -⟩ := h.2.1.2.2.2.1 t ht
    obtain ⟨m1, m2, -⟩ := h.2.1.2.2.2.1 k hk
    rw [fL_plan_265, if_neg (by rw [zi_le (by omega) (by omega) (by omega) (by omega)]; omega), if_neg zi_b1, tb_shr (m := sp_msk V t) (k := k) (by omega), zi_suc]
    by_cases e : bt (sp_msk V t) k = true
    · have g2 := g.2.2.2.2.2 k (by omega) e
      obtain ⟨Z1, e1, k1⟩ := qc_t6 h kZ hk
      obtain ⟨Z2, e2, k2⟩ := qc_t6 h k1 hk
      obtain ⟨Z3, e3, k3⟩ := qc_t0 h k2 hk
      obtain ⟨Z', f1, f2⟩ := ql_265 h ht hl k22 v1 v2 v3 v4 v5 m (k + 1) fuel Z3 (by omega) (by omega) k3
      refine ⟨Z', ?_, f2⟩
      rw [if_pos e, if_neg zi_b1, e1, ob_some, zi_q rfl, if_neg (fun q => absurd ((zi_l0 (a := sp_plan V k) (by omega) (by omega)).mp q) (by omega))]
      (try dsimp only)
      rw [e2, ob_some, zi_q rfl]
      (try dsimp only)
      rw [e3, ob_some, zi_q rfl, zi_add, if_neg (by rw [zi_lt (by omega) (by omega) (by omega) (by omega)]; omega)]
      exact f1
    · obtain ⟨Z', f1, f2⟩ := ql_265 h ht hl k22 v1 v2 v3 v4 v5 m (k + 1) fuel Z (by omega) (by omega) kZ
      refine ⟨Z', ?_, f2⟩
      rw [if_neg e, if_pos rfl]
      exact f1
theorem ql_194 (h : qp_V Y V kk) {Z : tw_Wl} (kZ : sp_K Y Z) {t : Nat} (ht : t < sp_n V) (hl : sp_plan V t ≠ -1) (k22 : Int32 → Int32 → Int32 → Int32 → Int32 → Int32 → Int32 → tw_Wl → Option (Int32 × tw_Wl)) (v1 v2 v3 v4 v5 : Int32) : ∃ Z', fL_plan_194 k22 v5 v1 v2 v3 v4 1 (zi t) (zi (sp_plan V t)) (zi (sp_plan V t + sp_len V t)) (sp_msk V t) Z = k22 v1 v2 v3 v4 v5 1 (zi ((t + 1 : Nat) : Int)) Z' ∧ sp_K Y Z' := by
  have hn := sp_12 h.2.1
  have g := qp_laid h.2.1 ht hl
  obtain ⟨l1, l2, -, -, -, -, a7, a8, -⟩ := h.2.1.2.2.2.1 t ht
  have w := qp_wait h.2.1 ht
  have s : 0 ≤ sp_slk V t ∧ sp_slk V t ≤ 30 := by
    have q := sp_sl_le (V := V) (t := t) 30
    unfold sp_slk
    rw [if_neg hl]
    omega
  obtain ⟨Z1, e1, k1⟩ := qc_t3 h kZ ht
  obtain ⟨Z2, e2, k2⟩ := qc_t7 h k1 ht
  obtain ⟨Z3, e3, k3⟩ := qc_t7 h k2 ht
  obtain ⟨Z4, e4, k4⟩ := qc_t8 h k3 ht
  obtain ⟨Z', f1, f2⟩ := ql_265 h ht hl k22 v1 v2 v3 v4 v5 t 0 512 Z4 (by omega) (by omega) k4
  refine ⟨Z', ?_, f2⟩
  have c1 : ¬ zi (sp_plan V t) < zi (sp_ear V t) := by rw [zi_lt (by omega) (by omega) (by omega) (by omega)]; omega
  have c2 : ¬ (100 : Int32) < zi (sp_plan V t + sp_len V t) := fun q => absurd ((zi_lt (a := 100) (by omega) (by omega) (by omega) (by omega)).mp q) (by omega)
  have c3 : ¬ zi (sp_slk V t) < (0 : Int32) := fun q => absurd ((zi_l0 (by omega) (by omega)).mp q) (by omega)
  have c4 : ¬ (30 : Int32) < zi (sp_slk V t) := fun q => absurd ((zi_lt (a := 30) (by omega) (by omega) (by omega) (by omega)).mp q) (by omega)
  have c5 : ¬ zi (sp_wai V (sp_plan V) t) < (0 : Int32) := fun q => absurd ((zi_l0 (by omega) (by omega)).mp q) (by omega)
  unfold fL_plan_194
  rw [if_neg zi_b1, e1, ob_some, zi_q rfl, if_neg c1, if_neg c2]
  (try dsimp only)
  rw [e2, ob_some, zi_q rfl, if_neg c3]
  (try dsimp only)
  rw [e3, ob_some, zi_q rfl, if_neg c4]
  (try dsimp only)
  rw [e4, ob_some, zi_q rfl, if_neg c5]
  exact f1
/-- a task's turn -/
theorem ql_131 (h : qp_V Y V kk) {Z : tw_Wl} (kZ : sp_K Y Z) {t : Nat} (ht : t < sp_n V) (k22 : Int32 → Int32 → Int32 → Int32 → Int32 → Int32 → Int32 → tw_Wl → Option (Int32 × tw_Wl)) (v1 v3 v4 c : Int32) {a2 a5 : Int} (b0 : 0 ≤ a5) (b1 : a5 ≤ 1000) : ∃ Z', fL_plan_131 k22 v4 c v1 (zi a2) v3 (zi a5) 1 (zi t) (zi (sp_plan V t)) (zi (sp_plan V t + sp_len V t)) (sp_msk V t) Z = k22 v1 (zi (a2 + (if sp_plan V t = -1 then 0 else 1))) v3 (v4 + c) (zi (if sp_plan V t ≠ -1 ∧ a5 < sp_plan V t + sp_len V t then sp_plan V t + sp_len V t else a5)) 1 (zi ((t + 1 : Nat) : Int)) Z' ∧ sp_K Y Z' := by
  have hp := sp_p_le h.2.1 ht
  obtain ⟨l1, l2, -⟩ := h.2.1.2.2.2.1 t ht
  have c0 := zi_g0 (a := sp_plan V t) (by omega) (by omega)
  unfold fL_plan_131
  by_cases e : sp_plan V t = -1
  · obtain ⟨Z1, e1, k1⟩ := qc_t7 h kZ ht
    obtain ⟨Z2, e2, k2⟩ := qc_t8 h k1 ht
    refine ⟨Z2, ?_, k2⟩
    have s : sp_slk V t = -1 := if_pos e
    have w : sp_wai V (sp_plan V) t = 0 := if_pos e
    rw [s] at e1
    rw [w] at e2
    rw [if_neg (fun q => absurd (c0.mp q) (by omega)), if_neg zi_b1, e1, ob_some, zi_q rfl, if_neg (fun q => q rfl)]
    (try dsimp only)
    rw [e2, ob_some, zi_q rfl, if_neg (fun q => q rfl), zi_suc, if_pos e, if_neg (fun q => q.1 e), Int.add_zero]
  · have g := qp_laid h.2.1 ht e
    rw [if_pos (c0.mpr g.1), if_neg (c := sp_plan V t = -1) e, zi_i1]
    by_cases e2 : sp_plan V t + sp_len V t ≤ a5
    · rw [if_pos ((zi_le (by omega) (by omega) (by omega) (by omega)).mpr e2), if_neg (fun q => absurd q.2 (by omega))]
      exact ql_194 h kZ ht e k22 v1 (zi (a2 + 1)) v3 (v4 + c) (zi a5)
    · rw [if_neg (fun q => e2 ((zi_le (by omega) (by omega) (by omega) (by omega)).mp q)), if_pos ⟨e, by omega⟩]
      exact ql_194 h kZ ht e k22 v1 (zi (a2 + 1)) v3 (v4 + c) (zi (sp_plan V t + sp_len V t))
theorem ql_100 (h : qp_V Y V kk) {Z : tw_Wl} (kZ : sp_K Y Z) {t : Nat} (ht : t < sp_n V) (k22 : Int32 → Int32 → Int32 → Int32 → Int32 → Int32 → Int32 → tw_Wl → Option (Int32 × tw_Wl)) (v1 : Int32) {a2 a3 a4 a5 : Int} (b0 : 0 ≤ a5) (b1 : a5 ≤ 1000) : ∃ Z', fL_plan_100 k22 1 v1 (zi a2) (zi a3) (zi a4) (zi a5) (zi t) (zi (sp_plan V t)) (zi (sp_plan V t + sp_len V t)) (sp_msk V t) Z = k22 v1 (zi (a2 + (if sp_plan V t = -1 then 0 else 1))) (zi (a3 + sp_wai V (sp_plan V) t)) (zi (a4 + (if sp_slk V t = 0 then 1 else 0))) (zi (if sp_plan V t ≠ -1 ∧ a5 < sp_plan V t + sp_len V t then sp_plan V t + sp_len V t else a5)) 1 (zi ((t + 1 : Nat) : Int)) Z' ∧ sp_K Y Z' := by
  have s := sp_slk_le (V := V) (t := t)
  have c0 := zi_0 (a := sp_slk V t) (by omega) (by omega)
  obtain ⟨Z1, e1, k1⟩ := qc_t8 h kZ ht
  obtain ⟨Z2, e2, k2⟩ := qc_t7 h k1 ht
  unfold fL_plan_100
  rw [e1, ob_some, zi_q rfl]
  (try dsimp only)
  rw [e2, ob_some, zi_q rfl]
  (try dsimp only)
  rw [zi_add]
  by_cases e : sp_slk V t = 0
  · rw [if_neg (fun q => q (c0.mpr e)), if_pos e]
    have := ql_131 h k2 ht k22 v1 (zi (a3 + sp_wai V (sp_plan V) t)) (zi a4) (1 : Int32) (a2 := a2) b0 b1
    rw [zi_i1] at this
    exact this
  · rw [if_pos (fun q => e (c0.mp q)), if_neg e]
    have := ql_131 h k2 ht k22 v1 (zi (a3 + sp_wai V (sp_plan V) t)) (zi a4) (0 : Int32) (a2 := a2) b0 b1
    rw [zi_i0] at this
    rw [Int.add_zero]
    exact this
theorem ql_22 (h : qp_V Y V kk) : ∀ (m k fuel : Nat) (Z : tw_Wl), k + m = sp_n V → m < fuel → sp_K Y Z → ∃ Z', fL_plan_22 fuel (zi (sp_n V)) (zi (sp_sum (fun t => if sp_plan V t = -1 then 0 else 1) k)) (zi (sp_sum (sp_wai V (sp_plan V)) k)) (zi (sp_sum (fun t => if sp_slk V t = 0 then 1 else 0) k)) (zi (sp_ene V (sp_plan V) k)) 1 (zi k) Z = some (1, Z') ∧ sp_K Y Z'
  | 0, k, fuel, Z, h1, h2, kZ => by
    have hn := sp_12 h.2.1
    obtain ⟨fuel, rfl⟩ : ∃ f, fuel = f + 1 := ⟨fuel - 1, by omega⟩
    have : k = sp_n V := by omega
    subst this
    rw [fL_plan_22, if_pos ((zi_le (by omega) (by omega) (by omega) (by omega)).mpr (Int.le_refl _))]
    exact ql_447 h kZ
  | m + 1, k, fuel, Z, h1, h2, kZ => by
    have hn := sp_12 h.2.1
    obtain ⟨fuel, rfl⟩ : ∃ f, fuel = f + 1 := ⟨fuel - 1, by omega⟩
    have ht : k < sp_n V := by omega
    obtain ⟨l1, l2, -, -, -, -, -, -, lo⟩ := h.2.1.2.2.2.1 k ht
    have hb := sp_ene_le h.2.1 (sp_bokp h.2.1) k (by omega)
    obtain ⟨Z1, e1, k1⟩ := qc_t6 h kZ ht
    obtain ⟨Z2, e2, k2⟩ := qc_t0 h k1 ht
    obtain ⟨Z3, e3, k3⟩ := qc_t4 h k2 ht
    obtain ⟨Z4, e4, k4⟩ := qc_t0 h k3 ht
    obtain ⟨Z5, e5, k5⟩ := qc_t0 h k4 ht
    obtain ⟨Z6, e6, k6⟩ := ql_100 h k5 ht (fL_plan_22 fuel) (zi (sp_n V)) (a2 := sp_sum (fun t => if sp_plan V t = -1 then 0 else 1) k) (a3 := sp_sum (sp_wai V (sp_plan V)) k) (a4 := sp_sum (fun t => if sp_slk V t = 0 then 1 else 0) k) (a5 := sp_ene V (sp_plan V) k) hb.1 (by omega)
    obtain ⟨Z7, e7, k7⟩ := ql_22 h m (k + 1) fuel Z6 (by omega) (by omega) k6
    refine ⟨Z7, ?_, k7⟩
    have c1 : ¬ zi (sp_len V k) < (1 : Int32) := fun q => absurd ((zi_lt (b := 1) (by omega) (by omega) (by omega) (by omega)).mp q) (by omega)
    have c2 : ¬ (9 : Int32) < zi (sp_len V k) := fun q => absurd ((zi_lt (a := 9) (by omega) (by omega) (by omega) (by omega)).mp q) (by omega)
    rw [fL_plan_22, if_neg (by rw [zi_le (by omega) (by omega) (by omega) (by omega)]; omega), if_neg zi_b1, e1, ob_some, zi_q rfl]
    (try dsimp only)
    rw [e2, ob_some, zi_q rfl]
    (try dsimp only)
    rw [e3, ob_some, zi_q rfl]
    (try dsimp only)
    rw [qc_shr (by omega) lo, if_neg (fun q => q rfl), e4, ob_some, zi_q rfl, if_neg c1]
    (try dsimp only)
    rw [e5, ob_some, zi_q rfl, if_neg c2, zi_add]
    (try dsimp only)
    exact e6.trans e7
theorem qL_plan (h : qp_V Y V kk) : ∃ Z', fL_plan Y = some (1, Z') ∧ sp_K Y Z' := by
  have hn := sp_12 h.2.1
  obtain ⟨Z1, e1, k1⟩ := qc_c0 h (sp_K_r Y)
  obtain ⟨Z2, e2, k2⟩ := ql_22 h (sp_n V) 0 512 Z1 (by omega) (by omega) k1
  refine ⟨Z2, ?_, k2⟩
  unfold fL_plan
  rw [e1, ob_some, zi_q rfl]
  exact e2
end QP
