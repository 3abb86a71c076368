/-! the digest of the reference -/
theorem dX4_297 {M : tw_Md} {tn : Nat} {tc : Nat → Int} (h60 : tn ≤ 60) (hT : sp_T M.2.2.2.2.1 M.2.2.2.2.2.1 tn tc) (v : Int64) : fX4_digest_297 512 v (0 : Int32) M = some (sp_id (dg_q tc) 0 tn v, M) := by
  obtain ⟨s, q, e⟩ := dg_lst (fun fuel v' k s => fX4_digest_297 fuel v' (zi k) s) (fun v s => some (v, s)) (fun s => s = M) (dg_q tc) tn (fun fuel v s hs => ⟨s, hs, by
    subst hs
    (try dsimp only)
    rw [fX4_digest_297, hT.1, if_pos (dg_ge (by omega))]⟩) (fun fuel v' k s hk hs => by
    refine ⟨s, hs, ?_⟩
    subst hs
    (try dsimp only)
    rw [fX4_digest_297, hT.1, if_neg (dg_lt hk (by omega)), zi_n (by omega) (by omega), zi_Tn (by omega), hT.2 k hk, zi_suc]
    rfl) tn 0 512 v M (by omega) (by omega) rfl
  subst q
  exact e
theorem dX4_215 {M : tw_Md} {V : tw_V} (h : sp_RA M.1 V) (hV : sp_ok V) (k5 : Int64 → Int32 → tw_Md → Option (Int64 × tw_Md)) {r : Nat} (hr : r < 4) (v : Int64) (M1 : tw_Md) (hK : sp_KM M M1) : ∃ M', sp_KM M M' ∧ fX4_digest_215 k5 512 v (zi r) (0 : Int32) M1 = k5 (dg_r V r v) (zi ((r + 1 : Nat) : Int)) M' :=
  dg_lst (fun fuel v k s => fX4_digest_215 k5 fuel v (zi r) (zi k) s) (fun v s => k5 v (zi ((r + 1 : Nat) : Int)) s) (sp_KM M) (fun w v => dg_x v (zi (sp_ir V (r : Int) (w : Int)))) 3 (fun fuel v s hs => ⟨s, hs, by
    (try dsimp only)
    rw [fX4_digest_215, if_pos (show (3 : Int32) ≤ zi ((3 : Nat) : Int) from dg_ge (n := 3) (by omega)), zi_suc]⟩) (fun fuel v k s hk hs => by
    obtain ⟨M', e1, e2⟩ := pX4_byRule (sp_RA_K h hs) hV (r := (r : Int)) (w := (k : Int)) (by omega) (by omega) (by omega) (by omega)
    refine ⟨M', sp_KM_t hs e2.1, ?_⟩
    (try dsimp only)
    rw [fX4_digest_215, if_neg (show ¬ (3 : Int32) ≤ zi (k : Int) from dg_lt (n := 3) hk (by omega)), e1, ob_some, zi_suc]
    rfl) 3 0 512 v M1 rfl (by omega) hK
theorem dX4_157 {M : tw_Md} {V : tw_V} (h : sp_RA M.1 V) (hV : sp_ok V) (hP : sp_RB M.2.2.2.2.2.2.2.2.2.2.2.1 V (sp_plan V)) (k5 : Int64 → Int32 → tw_Md → Option (Int64 × tw_Md)) {p : Nat} (hp : p < 6) (v : Int64) (M1 : tw_Md) (hK : sp_KP M M1) : ∃ M', sp_KP M M' ∧ fX4_digest_157 k5 512 v (zi p) (0 : Int32) M1 = k5 (dg_p V p v) (zi ((p + 1 : Nat) : Int)) M' :=
  dg_lst (fun fuel v k s => fX4_digest_157 k5 fuel v (zi p) (zi k) s) (fun v s => k5 (dg_x v (zi (sp_F V p))) (zi ((p + 1 : Nat) : Int)) s) (sp_KP M) (fun d v => dg_x v (zi (sp_on V (sp_plan V) (sp_per V) (p : Int) (d : Int) (sp_n V) 0))) 10 (fun fuel v s hs => by
    obtain ⟨M', e1, e2⟩ := pX4_freed (sp_RA_K h hs.1) hV (p := (p : Int)) (by omega) (by omega)
    refine ⟨M', sp_KP_t hs e2, ?_⟩
    (try dsimp only)
    rw [fX4_digest_157, if_pos (show (10 : Int32) ≤ zi ((10 : Nat) : Int) from dg_ge (n := 10) (by omega)), e1, ob_some, zi_suc]
    rfl) (fun fuel v k s hk hs => by
    refine ⟨s, hs, ?_⟩
    (try dsimp only)
    rw [fX4_digest_157, if_neg (show ¬ (10 : Int32) ≤ zi (k : Int) from dg_lt (n := 10) hk (by omega)), pX4_on1 (sp_RA_K h hs.1) hV (sp_RB_K hP hs) (a := (p : Int)) (d := (k : Int)) (by omega) (by omega) (by omega) (by omega), ob_some, zi_suc]
    rfl) 10 0 512 v M1 rfl (by omega) hK
theorem dX4_109 {M : tw_Md} {V : tw_V} (h : sp_RA M.1 V) (hV : sp_ok V) (k5 : Int64 → Int32 → tw_Md → Option (Int64 × tw_Md)) {j : Nat} (hj : j < 4) (v : Int64) (M1 : tw_Md) (hK : sp_KM M M1) : ∃ M', sp_KM M M' ∧ fX4_digest_109 k5 512 v (zi j) (0 : Int32) M1 = k5 (dg_h V j v) (zi ((j + 1 : Nat) : Int)) M' :=
  dg_lst (fun fuel v k s => fX4_digest_109 k5 fuel v (zi j) (zi k) s) (fun v s => k5 v (zi ((j + 1 : Nat) : Int)) s) (sp_KM M) (fun w v => dg_x v (sp_hl V j w)) 4 (fun fuel v s hs => ⟨s, hs, by
    (try dsimp only)
    rw [fX4_digest_109, if_pos (show (4 : Int32) ≤ zi ((4 : Nat) : Int) from dg_ge (n := 4) (by omega)), zi_suc]⟩) (fun fuel v k s hk hs => by
    obtain ⟨M', e1, e2⟩ := pX4_hl (sp_RA_K h hs) hV hj (w := k) (by omega)
    refine ⟨M', sp_KM_t hs e2, ?_⟩
    (try dsimp only)
    rw [fX4_digest_109, if_neg (show ¬ (4 : Int32) ≤ zi (k : Int) from dg_lt (n := 4) hk (by omega)), e1, ob_some, zi_suc]
    rfl) 4 0 512 v M1 rfl (by omega) hK
theorem dX4_65 {M : tw_Md} {V : tw_V} (h : sp_RA M.1 V) (hV : sp_ok V) (k5 : Int64 → Int32 → tw_Md → Option (Int64 × tw_Md)) {t : Nat} (ht : t < sp_n V) (v : Int64) (M1 : tw_Md) (hK : sp_KM M M1) : ∃ M', sp_KM M M' ∧ fX4_digest_65 k5 512 v (zi t) (0 : Int32) M1 = k5 (dg_t V t v) (zi ((t + 1 : Nat) : Int)) M' :=
  dg_lst (fun fuel v k s => fX4_digest_65 k5 fuel v (zi t) (zi k) s) (fun v s => k5 v (zi ((t + 1 : Nat) : Int)) s) (sp_KM M) (fun w v => dg_x v (sp_tk V t w)) 9 (fun fuel v s hs => ⟨s, hs, by
    (try dsimp only)
    rw [fX4_digest_65, if_pos (show (9 : Int32) ≤ zi ((9 : Nat) : Int) from dg_ge (n := 9) (by omega)), zi_suc]⟩) (fun fuel v k s hk hs => by
    obtain ⟨M', e1, e2⟩ := pX4_tk (sp_RA_K h hs) hV ht (w := k) (by omega)
    refine ⟨M', sp_KM_t hs e2, ?_⟩
    (try dsimp only)
    rw [fX4_digest_65, if_neg (show ¬ (9 : Int32) ≤ zi (k : Int) from dg_lt (n := 9) hk (by omega)), e1, ob_some, zi_suc]
    rfl) 9 0 512 v M1 rfl (by omega) hK
theorem dX4_207 {M : tw_Md} {g : tw_H} (hg : sp_IG g) (hm : sp_IM M g) (v : Int64) (hv : v = sp_id (dg_p g.1) 0 6 (sp_id (dg_h g.1) 0 4 (sp_id (dg_t g.1) 0 (sp_n g.1) (dg_1 g.1 g.2.1)))) : ∃ M', sp_KM M M' ∧ fX4_digest_207 512 v (0 : Int32) M = some (dg_8 g.1 g.2.1 g.2.2.2.1 g.2.2.2.2, M') := by
  have hV := hg.1.1
  obtain ⟨M5, k5, x5⟩ := dg_lst (fun fuel v k s => fX4_digest_207 fuel v (zi k) s) (fun v s => (fX4_best s).bind fun r257 =>
      (fX4_worst r257.2 (3 : Int32)).bind fun r265 =>
      (fX4_busy r265.2).bind fun r280 =>
      (fJxe99ae_doubleToLongBits_ccdee r280.1).bind fun r283 =>
      fX4_digest_297 512 (((31 : Int64) * (((31 : Int64) * (((31 : Int64) * (((31 : Int64) * v) + r257.1.toInt64)) + r265.1.toInt64)) + r283)) + r280.2.2.2.2.2.2.1.toInt64) (0 : Int32) r280.2) (sp_KM M) (dg_r g.1) 4 (fun fuel v s hs => ⟨s, hs, by
    (try dsimp only)
    rw [fX4_digest_207, if_pos (show (4 : Int32) ≤ zi ((4 : Nat) : Int) from dg_ge (n := 4) (by omega))]⟩) (fun fuel v k s hk hs => by
    obtain ⟨M', e1, e2⟩ := dX4_215 hm.1 hV (fX4_digest_207 fuel) hk v s hs
    refine ⟨M', e1, ?_⟩
    (try dsimp only)
    rw [fX4_digest_207, if_neg (show ¬ (4 : Int32) ≤ zi (k : Int) from dg_lt (n := 4) hk (by omega)), e2]) 4 0 512 v M rfl (by omega) (sp_KM_r M)
  obtain ⟨M6, x6, k6⟩ := pX4_best (sp_RA_K hm.1 k5) hV
  have k6' := sp_KM_t k5 k6.1
  obtain ⟨M7, x7, k7⟩ := pX4_worst (sp_RA_K hm.1 k6') hV (d := 3) (by omega) (by omega)
  have k7' := sp_KM_t k6' k7
  obtain ⟨M8, x8, k8⟩ := pX4_bz (sp_RA_K hm.1 k7') hV
  have k8' := sp_KM_t k7' k8
  have hT : sp_T M8.2.2.2.2.1 M8.2.2.2.2.2.1 g.2.2.2.1 g.2.2.2.2 := (sp_IM_K hm k8').2.2
  have x9 := dX4_297 hg.2.2.1 hT (dg_x (dg_7 g.1 g.2.1) (zi g.2.2.2.1))
  refine ⟨M8, k8', ?_⟩
  refine Eq.trans x5 ?_
  (try dsimp only)
  rw [x6, ob_some]
  (try dsimp only)
  rw [show fX4_worst M6 (3 : Int32) = _ from x7, ob_some]
  (try dsimp only)
  rw [x8, ob_some]
  (try dsimp only)
  rw [(sp_bz_bits hV).2, ob_some, hT.1, hv]
  exact x9
theorem dX4_148 {M : tw_Md} {g : tw_H} (hg : sp_IG g) (hm : sp_IM M g) (hP : sp_RB M.2.2.2.2.2.2.2.2.2.2.2.1 g.1 (sp_plan g.1)) (v : Int64) (hv : v = sp_id (dg_h g.1) 0 4 (sp_id (dg_t g.1) 0 (sp_n g.1) (dg_1 g.1 g.2.1))) : ∃ M', sp_KM M M' ∧ fX4_digest_148 512 v (0 : Int32) M = some (dg_8 g.1 g.2.1 g.2.2.2.1 g.2.2.2.2, M') := by
  have hV := hg.1.1
  obtain ⟨M5, k5, x5⟩ := dg_lst (fun fuel v k s => fX4_digest_148 fuel v (zi k) s) (fun v s => fX4_digest_207 512 v (0 : Int32) s) (sp_KP M) (dg_p g.1) 6 (fun fuel v s hs => ⟨s, hs, by
    (try dsimp only)
    rw [fX4_digest_148, if_pos (show (6 : Int32) ≤ zi ((6 : Nat) : Int) from dg_ge (n := 6) (by omega))]⟩) (fun fuel v k s hk hs => by
    obtain ⟨M', e1, e2⟩ := dX4_157 hm.1 hV hP (fX4_digest_148 fuel) hk v s hs
    refine ⟨M', e1, ?_⟩
    (try dsimp only)
    rw [fX4_digest_148, if_neg (show ¬ (6 : Int32) ≤ zi (k : Int) from dg_lt (n := 6) hk (by omega)), e2]) 6 0 512 v M rfl (by omega) (sp_KP_r M)
  obtain ⟨M6, k6, x6⟩ := dX4_207 hg (sp_IM_K hm k5.1) (sp_id (dg_p g.1) 0 6 v) (by rw [hv])
  exact ⟨M6, sp_KM_t k5.1 k6, Eq.trans x5 x6⟩
theorem dX4_101 {M : tw_Md} {g : tw_H} (hg : sp_IG g) (hm : sp_IM M g) (v : Int64) (hv : v = sp_id (dg_t g.1) 0 (sp_n g.1) (dg_1 g.1 g.2.1)) : ∃ M', sp_KM M M' ∧ fX4_digest_101 512 v (0 : Int32) M = some (dg_8 g.1 g.2.1 g.2.2.2.1 g.2.2.2.2, M') := by
  have hV := hg.1.1
  obtain ⟨M5, k5, x5⟩ := dg_lst (fun fuel v k s => fX4_digest_101 fuel v (zi k) s) (fun v s => (fX4_plans s).bind fun r143 => fX4_digest_148 512 v (0 : Int32) r143) (sp_KM M) (dg_h g.1) 4 (fun fuel v s hs => ⟨s, hs, by
    (try dsimp only)
    rw [fX4_digest_101, if_pos (show (4 : Int32) ≤ zi ((4 : Nat) : Int) from dg_ge (n := 4) (by omega))]⟩) (fun fuel v k s hk hs => by
    obtain ⟨M', e1, e2⟩ := dX4_109 hm.1 hV (fX4_digest_101 fuel) hk v s hs
    refine ⟨M', e1, ?_⟩
    (try dsimp only)
    rw [fX4_digest_101, if_neg (show ¬ (4 : Int32) ≤ zi (k : Int) from dg_lt (n := 4) hk (by omega)), e2]) 4 0 512 v M rfl (by omega) (sp_KM_r M)
  obtain ⟨M6, x6, k6, p6⟩ := pX4_plans (sp_RA_K hm.1 k5) hV
  have k6' := sp_KM_t k5 k6
  obtain ⟨M7, k7, x7⟩ := dX4_148 hg (sp_IM_K hm k6') p6 (sp_id (dg_h g.1) 0 4 v) (by rw [hv])
  refine ⟨M7, sp_KM_t k6' k7, ?_⟩
  refine Eq.trans x5 ?_
  (try dsimp only)
  rw [x6, ob_some]
  exact x7
theorem dX4_52 {M : tw_Md} {g : tw_H} (hg : sp_IG g) (hm : sp_IM M g) (v : Int64) (hv : v = dg_1 g.1 g.2.1) : ∃ M', sp_KM M M' ∧ fX4_digest_52 512 v (0 : Int32) M = some (dg_8 g.1 g.2.1 g.2.2.2.1 g.2.2.2.2, M') := by
  have hV := hg.1.1
  have hn := sp_12 hV
  obtain ⟨M5, k5, x5⟩ := dg_lst (fun fuel v k s => fX4_digest_52 fuel v (zi k) s) (fun v s => fX4_digest_101 512 v (0 : Int32) s) (sp_KM M) (dg_t g.1) (sp_n g.1) (fun fuel v s hs => ⟨s, hs, by
    (try dsimp only)
    rw [fX4_digest_52, zT0, (sp_RA_K hm.1 hs).1, if_pos (dg_ge (by omega))]⟩) (fun fuel v k s hk hs => by
    obtain ⟨M', e1, e2⟩ := dX4_65 hm.1 hV (fX4_digest_52 fuel) hk v s hs
    refine ⟨M', e1, ?_⟩
    (try dsimp only)
    rw [fX4_digest_52, zT0, (sp_RA_K hm.1 hs).1, if_neg (dg_lt hk (by omega)), e2]) (sp_n g.1) 0 512 v M (by omega) (by omega) (sp_KM_r M)
  obtain ⟨M6, k6, x6⟩ := dX4_101 hg (sp_IM_K hm k5) (sp_id (dg_t g.1) 0 (sp_n g.1) v) (by rw [hv])
  exact ⟨M6, sp_KM_t k5 k6, Eq.trans x5 x6⟩
theorem pX4_digest {M : tw_Md} {g : tw_H} (hg : sp_IG g) (hm : sp_IM M g) : ∃ M', sp_KM (sp_m0 M) M' ∧ fX4_digest M = some (dg_8 g.1 g.2.1 g.2.2.2.1 g.2.2.2.2, M') := by
  have hV := hg.1.1
  obtain ⟨M5, k5, x5⟩ := dg_lst (fun fuel v k s => fX4_digest_11 fuel v (zi k) s) (fun v s => fX4_digest_52 512 (((31 : Int64) * v) + ((s.1 (1 : Int32).toNatClampNeg).toInt64)) (0 : Int32) s) (sp_KM (sp_m0 M)) (dg_c g.1 g.2.1) 9 (fun fuel v s hs => ⟨s, hs, by
    (try dsimp only)
    rw [fX4_digest_11, if_pos (show (9 : Int32) ≤ zi ((9 : Nat) : Int) from dg_ge (n := 9) (by omega))]⟩) (fun fuel v k s hk hs => by
    obtain ⟨M', e1, e2⟩ := pX4_ct (kk := g.2.1) (sp_RA_K (M := sp_m0 M) hm.1 hs) hV (by rw [hs.2.2.1]; exact hm.2.1.1) (w := k) (by omega)
    refine ⟨M', sp_KM_t hs e2, ?_⟩
    (try dsimp only)
    rw [fX4_digest_11, if_neg (show ¬ (9 : Int32) ≤ zi (k : Int) from dg_lt (n := 9) hk (by omega)), e1, ob_some, zi_suc]
    rfl) 9 0 512 2791 (sp_m0 M) rfl (by omega) (sp_KM_r (sp_m0 M))
  have h1 : sp_IM M5 g := sp_IM_K (M := sp_m0 M) hm k5
  obtain ⟨M6, k6, x6⟩ := dX4_52 hg h1 (dg_1 g.1 g.2.1) rfl
  refine ⟨M6, sp_KM_t k5 k6, ?_⟩
  unfold fX4_digest
  refine Eq.trans x5 ?_
  (try dsimp only)
  rw [zT1, h1.1.2.1]
  exact x6
theorem op_digest {Y : tw_Wl} {M : tw_Md} (hI : sp_I Y M) : ∃ r Y' M', fX3_digest Y = some (r, Y') ∧ fX4_digest M = some (r, M') ∧ sp_I Y' M' := by
  obtain ⟨g, hg, hc, hm⟩ := hI
  obtain ⟨Y', x1, x2⟩ := pX3_digest hg hc
  obtain ⟨M', y1, y2⟩ := pX4_digest hg hm
  exact ⟨_, Y', M', x1, y2, g, hg, sp_IC_K hc x2, sp_IM_K (M := sp_m0 M) hm y1⟩
