/-! the digest -/
def sp_id (G : Nat → Int64 → Int64) : Nat → Nat → Int64 → Int64
  | _, 0, v => v
  | k, m + 1, v => sp_id G (k + 1) m (G k v)
theorem dg_lst {σ ρ : Type} (F : Nat → Int64 → Nat → σ → Option ρ) (E : Int64 → σ → Option ρ) (I : σ → Prop) (G : Nat → Int64 → Int64) (n : Nat) (he : ∀ fuel v s, I s → ∃ s', I s' ∧ F (fuel + 1) v n s = E v s') (hs : ∀ fuel v k s, k < n → I s → ∃ s', I s' ∧ F (fuel + 1) v k s = F fuel (G k v) (k + 1) s') : ∀ (m k fuel : Nat) (v : Int64) (s : σ), k + m = n → m < fuel → I s → ∃ s', I s' ∧ F fuel v k s = E (sp_id G k m v) s'
  | 0, k, fuel, v, s, h1, h2, h3 => by
    obtain ⟨fuel, rfl⟩ : ∃ f, fuel = f + 1 := ⟨fuel - 1, by omega⟩
    have : k = n := by omega
    subst this
    exact he fuel v s h3
  | m + 1, k, fuel, v, s, h1, h2, h3 => by
    obtain ⟨fuel, rfl⟩ : ∃ f, fuel = f + 1 := ⟨fuel - 1, by omega⟩
    obtain ⟨s1, q1, q2⟩ := hs fuel v k s (by omega) h3
    obtain ⟨s2, r1, r2⟩ := dg_lst F E I G n he hs m (k + 1) fuel (G k v) s1 (by omega) (by omega) q1
    exact ⟨s2, r1, q2.trans r2⟩
def dg_x (v : Int64) (x : Int32) : Int64 := ((31 : Int64) * v) + x.toInt64
def dg_c (V : tw_V) (kk : Nat) : Nat → Int64 → Int64 := fun k v => dg_x v (sp_ct V kk k)
def dg_t (V : tw_V) : Nat → Int64 → Int64 := fun t v => sp_id (fun w v => dg_x v (sp_tk V t w)) 0 9 v
def dg_h (V : tw_V) : Nat → Int64 → Int64 := fun j v => sp_id (fun w v => dg_x v (sp_hl V j w)) 0 4 v
def dg_p (V : tw_V) : Nat → Int64 → Int64 := fun p v => dg_x (sp_id (fun d v => dg_x v (zi (sp_on V (sp_plan V) (sp_per V) (p : Int) (d : Int) (sp_n V) 0))) 0 10 v) (zi (sp_F V p))
def dg_r (V : tw_V) : Nat → Int64 → Int64 := fun r v => sp_id (fun w v => dg_x v (zi (sp_ir V (r : Int) (w : Int)))) 0 3 v
def dg_q (tc : Nat → Int) : Nat → Int64 → Int64 := fun i v => dg_x v (zi (tc i))
def dg_1 (V : tw_V) (kk : Nat) : Int64 := dg_x (sp_id (dg_c V kk) 0 9 2791) (zi (sp_rule V))
def dg_6 (V : tw_V) (kk : Nat) : Int64 := sp_id (dg_r V) 0 4 (sp_id (dg_p V) 0 6 (sp_id (dg_h V) 0 4 (sp_id (dg_t V) 0 (sp_n V) (dg_1 V kk))))
def dg_7 (V : tw_V) (kk : Nat) : Int64 := ((31 : Int64) * (dg_x (dg_x (dg_6 V kk) (zi (sp_best V 3))) (zi (sp_ws V 3 (sp_n V)).1))) + (sp_bz V).toInt64
def dg_8 (V : tw_V) (kk tn : Nat) (tc : Nat → Int) : Int64 := sp_id (dg_q tc) 0 tn (dg_x (dg_7 V kk) (zi tn))
theorem dg_lt {n k : Nat} (h : k < n) (hn : n < 1000) : ¬ zi (n : Int) ≤ zi (k : Int) := by rw [zi_le (by omega) (by omega) (by omega) (by omega)]; omega
theorem dg_ge {n : Nat} (hn : n < 1000) : zi (n : Int) ≤ zi (n : Int) := (zi_le (by omega) (by omega) (by omega) (by omega)).mpr (Int.le_refl _)
/-! of the class -/
theorem dX3_t20 {Y : tw_Wl} {V : tw_V} (h : sp_RS Y.1 V) (hV : sp_ok V) (hP : sp_RP Y.2.1 V (sp_plan V)) {p1 : Int64} (k5 : Int64 → Int32 → tw_Wl → Option (Int64 × tw_Wl)) {t : Nat} (ht : t < sp_n V) (v : Int64) (Y1 : tw_Wl) (hK : sp_K Y Y1) : ∃ Y', sp_K Y Y' ∧ fX3_withTasks_20 p1 k5 512 v (zi t) (0 : Int32) Y1 = k5 (dg_t V t v) (zi ((t + 1 : Nat) : Int)) Y' :=
  dg_lst (fun fuel v k s => fX3_withTasks_20 p1 k5 fuel v (zi t) (zi k) s) (fun v s => k5 v (zi ((t + 1 : Nat) : Int)) s) (sp_K Y) (fun w v => dg_x v (sp_tk V t w)) 9 (fun fuel v s hs => ⟨s, hs, by
    (try dsimp only)
    rw [fX3_withTasks_20, if_pos (show (9 : Int32) ≤ zi ((9 : Nat) : Int) from dg_ge (n := 9) (by omega)), zi_suc]⟩) (fun fuel v k s hk hs => by
    obtain ⟨Y', e1, e2⟩ := pX3_tk (sp_RS_K h hs) hV (sp_RP_K hP hs) ht (w := k) (by omega)
    refine ⟨Y', sp_K_t hs e2, ?_⟩
    (try dsimp only)
    rw [fX3_withTasks_20, if_neg (show ¬ (9 : Int32) ≤ zi (k : Int) from dg_lt (n := 9) hk (by omega)), e1, ob_some]
    (try dsimp only)
    rw [zi_q rfl, zi_suc]
    rfl) 9 0 512 v Y1 rfl (by omega) hK
theorem dX3_tasks {Y : tw_Wl} {V : tw_V} (h : sp_RS Y.1 V) (hV : sp_ok V) (hP : sp_RP Y.2.1 V (sp_plan V)) (v : Int64) (Y1 : tw_Wl) (hK : sp_K Y Y1) : ∃ Y', sp_K Y Y' ∧ fX3_withTasks Y1 v = some (sp_id (dg_t V) 0 (sp_n V) v, Y') :=
  dg_lst (fun fuel v' k s => fX3_withTasks_5 v fuel v' (zi k) s) (fun v s => some (v, s)) (sp_K Y) (dg_t V) (sp_n V) (fun fuel v s hs => ⟨s, hs, by
    (try dsimp only)
    rw [fX3_withTasks_5, (sp_RS_K h hs).1, if_pos (dg_ge (by have := sp_12 hV; omega))]⟩) (fun fuel v' k s hk hs => by
    obtain ⟨Y', e1, e2⟩ := dX3_t20 (p1 := v) h hV hP (fX3_withTasks_5 v fuel) hk v' s hs
    refine ⟨Y', e1, ?_⟩
    (try dsimp only)
    rw [fX3_withTasks_5, (sp_RS_K h hs).1, if_neg (dg_lt hk (by have := sp_12 hV; omega)), e2]) (sp_n V) 0 512 v Y1 (by omega) (by have := sp_12 hV; omega) hK
theorem dX3_h14 {Y : tw_Wl} {V : tw_V} (h : sp_RS Y.1 V) (hV : sp_ok V) (hP : sp_RP Y.2.1 V (sp_plan V)) {p1 : Int64} (k5 : Int64 → Int32 → Option Int64) {j : Nat} (hj : j < 4) (v : Int64) : fX3_withHalls_14 Y p1 k5 512 v (zi j) (0 : Int32) = k5 (dg_h V j v) (zi ((j + 1 : Nat) : Int)) := by
  obtain ⟨s, -, e⟩ := dg_lst (σ := Unit) (fun fuel v k _ => fX3_withHalls_14 Y p1 k5 fuel v (zi j) (zi k)) (fun v _ => k5 v (zi ((j + 1 : Nat) : Int))) (fun _ => True) (fun w v => dg_x v (sp_hl V j w)) 4 (fun fuel v s hs => ⟨s, hs, by
    (try dsimp only)
    rw [fX3_withHalls_14, if_pos (show (4 : Int32) ≤ zi ((4 : Nat) : Int) from dg_ge (n := 4) (by omega)), zi_suc]⟩) (fun fuel v k s hk hs => by
    refine ⟨s, hs, ?_⟩
    (try dsimp only)
    rw [fX3_withHalls_14, if_neg (show ¬ (4 : Int32) ≤ zi (k : Int) from dg_lt (n := 4) hk (by omega)), pX3_hl h hV hP hj (show k ≤ 3 by omega), ob_some]
    (try dsimp only)
    rw [zi_q rfl, zi_suc]
    rfl) 4 0 512 v () rfl (by omega) trivial
  exact e
theorem dX3_halls {Y : tw_Wl} {V : tw_V} (h : sp_RS Y.1 V) (hV : sp_ok V) (hP : sp_RP Y.2.1 V (sp_plan V)) (v : Int64) : fX3_withHalls Y v = some (sp_id (dg_h V) 0 4 v) := by
  obtain ⟨s, -, e⟩ := dg_lst (σ := Unit) (fun fuel v' k _ => fX3_withHalls_5 Y v fuel v' (zi k)) (fun v _ => some v) (fun _ => True) (dg_h V) 4 (fun fuel v s hs => ⟨s, hs, by
    (try dsimp only)
    rw [fX3_withHalls_5, if_pos (show (4 : Int32) ≤ zi ((4 : Nat) : Int) from dg_ge (n := 4) (by omega))]⟩) (fun fuel v' k s hk hs => by
    refine ⟨s, hs, ?_⟩
    (try dsimp only)
    rw [fX3_withHalls_5, if_neg (show ¬ (4 : Int32) ≤ zi (k : Int) from dg_lt (n := 4) hk (by omega)), dX3_h14 h hV hP _ hk]) 4 0 512 v () rfl (by omega) trivial
  exact e
theorem pX3_on {Y : tw_Wl} {V : tw_V} (h : sp_RS Y.1 V) (hV : sp_ok V) (hP : sp_RP Y.2.1 V (sp_plan V)) {a d : Int} (a0 : 0 ≤ a) (a1 : a ≤ 5) (d0 : 0 ≤ d) (d1 : d ≤ 99) : fX3_personOn Y (zi a) (zi d) = some (0, zi (sp_on V (sp_plan V) (sp_per V) a d (sp_n V) 0)) := by
  unfold fX3_personOn
  rw [pX3_isPerson (by omega) (by omega), ob_some, ifl0, if_pos ⟨a0, a1⟩, pX3_isDay (by omega) (by omega), ob_some, ifl1, if_pos ⟨d0, d1⟩, pX0_taskOnP h hV hP.1 (sp_bokp hV) a0 (by omega) d0 (by omega), ob_some]
theorem dX3_p15 {Y : tw_Wl} {V : tw_V} (h : sp_RS Y.1 V) (hV : sp_ok V) (hP : sp_RP Y.2.1 V (sp_plan V)) {p1 : Int64} (k5 : Int64 → Int32 → tw_Wl → Option (Int64 × tw_Wl)) {p : Nat} (hp : p < 6) (v : Int64) (Y1 : tw_Wl) (hK : sp_K Y Y1) : ∃ Y', sp_K Y Y' ∧ fX3_withPersons_15 p1 k5 512 v (zi p) (0 : Int32) Y1 = k5 (dg_p V p v) (zi ((p + 1 : Nat) : Int)) Y' :=
  dg_lst (fun fuel v k s => fX3_withPersons_15 p1 k5 fuel v (zi p) (zi k) s) (fun v s => k5 (dg_x v (zi (sp_F V p))) (zi ((p + 1 : Nat) : Int)) s) (sp_K Y) (fun d v => dg_x v (zi (sp_on V (sp_plan V) (sp_per V) (p : Int) (d : Int) (sp_n V) 0))) 10 (fun fuel v s hs => by
    obtain ⟨Y', e1, e2⟩ := pX3_fr (sp_RS_K h hs) hV (p := (p : Int)) (by omega) (by omega)
    refine ⟨Y', sp_K_t hs e2, ?_⟩
    (try dsimp only)
    rw [fX3_withPersons_15, if_pos (show (10 : Int32) ≤ zi ((10 : Nat) : Int) from dg_ge (n := 10) (by omega)), e1, ob_some]
    (try dsimp only)
    rw [zi_q rfl, zi_suc]
    rfl) (fun fuel v k s hk hs => by
    refine ⟨s, hs, ?_⟩
    (try dsimp only)
    rw [fX3_withPersons_15, if_neg (show ¬ (10 : Int32) ≤ zi (k : Int) from dg_lt (n := 10) hk (by omega)), pX3_on (sp_RS_K h hs) hV (sp_RP_K hP hs) (a := (p : Int)) (d := (k : Int)) (by omega) (by omega) (by omega) (by omega), ob_some]
    (try dsimp only)
    rw [zi_q rfl, zi_suc]
    rfl) 10 0 512 v Y1 rfl (by omega) hK
theorem dX3_persons {Y : tw_Wl} {V : tw_V} (h : sp_RS Y.1 V) (hV : sp_ok V) (hP : sp_RP Y.2.1 V (sp_plan V)) (v : Int64) (Y1 : tw_Wl) (hK : sp_K Y Y1) : ∃ Y', sp_K Y Y' ∧ fX3_withPersons Y1 v = some (sp_id (dg_p V) 0 6 v, Y') :=
  dg_lst (fun fuel v' k s => fX3_withPersons_5 v fuel v' (zi k) s) (fun v s => some (v, s)) (sp_K Y) (dg_p V) 6 (fun fuel v s hs => ⟨s, hs, by
    (try dsimp only)
    rw [fX3_withPersons_5, if_pos (show (6 : Int32) ≤ zi ((6 : Nat) : Int) from dg_ge (n := 6) (by omega))]⟩) (fun fuel v' k s hk hs => by
    obtain ⟨Y', e1, e2⟩ := dX3_p15 (p1 := v) h hV hP (fX3_withPersons_5 v fuel) hk v' s hs
    refine ⟨Y', e1, ?_⟩
    (try dsimp only)
    rw [fX3_withPersons_5, if_neg (show ¬ (6 : Int32) ≤ zi (k : Int) from dg_lt (n := 6) hk (by omega)), e2]) 6 0 512 v Y1 (by omega) (by omega) hK
theorem dX3_r14 {Y : tw_Wl} {V : tw_V} (h : sp_RS Y.1 V) (hV : sp_ok V) {p1 : Int64} (k5 : Int64 → Int32 → tw_Wl → Option (Int64 × tw_Wl)) {r : Nat} (hr : r < 4) (v : Int64) (Y1 : tw_Wl) (hK : sp_K Y Y1) : ∃ Y', sp_K Y Y' ∧ fX3_withRules_14 p1 k5 512 v (zi r) (0 : Int32) Y1 = k5 (dg_r V r v) (zi ((r + 1 : Nat) : Int)) Y' :=
  dg_lst (fun fuel v k s => fX3_withRules_14 p1 k5 fuel v (zi r) (zi k) s) (fun v s => k5 v (zi ((r + 1 : Nat) : Int)) s) (sp_K Y) (fun w v => dg_x v (zi (sp_ir V (r : Int) (w : Int)))) 3 (fun fuel v s hs => ⟨s, hs, by
    (try dsimp only)
    rw [fX3_withRules_14, if_pos (show (3 : Int32) ≤ zi ((3 : Nat) : Int) from dg_ge (n := 3) (by omega)), zi_suc]⟩) (fun fuel v k s hk hs => by
    obtain ⟨Y', e1, e2⟩ := pX3_ir (sp_RS_K h hs) hV (r := (r : Int)) (w := (k : Int)) (by omega) (by omega) (by omega) (by omega)
    refine ⟨Y', sp_K_t hs e2, ?_⟩
    (try dsimp only)
    rw [fX3_withRules_14, if_neg (show ¬ (3 : Int32) ≤ zi (k : Int) from dg_lt (n := 3) hk (by omega)), e1, ob_some]
    (try dsimp only)
    rw [zi_q rfl, zi_suc]
    rfl) 3 0 512 v Y1 rfl (by omega) hK
theorem dX3_rules {Y : tw_Wl} {V : tw_V} (h : sp_RS Y.1 V) (hV : sp_ok V) (v : Int64) (Y1 : tw_Wl) (hK : sp_K Y Y1) : ∃ Y', sp_K Y Y' ∧ fX3_withRules Y1 v = some (sp_id (dg_r V) 0 4 v, Y') :=
  dg_lst (fun fuel v' k s => fX3_withRules_5 v fuel v' (zi k) s) (fun v s => some (v, s)) (sp_K Y) (dg_r V) 4 (fun fuel v s hs => ⟨s, hs, by
    (try dsimp only)
    rw [fX3_withRules_5, if_pos (show (4 : Int32) ≤ zi ((4 : Nat) : Int) from dg_ge (n := 4) (by omega))]⟩) (fun fuel v' k s hk hs => by
    obtain ⟨Y', e1, e2⟩ := dX3_r14 (p1 := v) h hV (fX3_withRules_5 v fuel) hk v' s hs
    refine ⟨Y', e1, ?_⟩
    (try dsimp only)
    rw [fX3_withRules_5, if_neg (show ¬ (4 : Int32) ≤ zi (k : Int) from dg_lt (n := 4) hk (by omega)), e2]) 4 0 512 v Y1 (by omega) (by omega) hK
theorem dX3_text {Y : tw_Wl} {tn : Nat} {tc : Nat → Int} (h60 : tn ≤ 60) (hT : sp_T Y.2.2.2.2.1.1 Y.2.2.2.2.1.2 tn tc) (v : Int64) : fX3_withText Y v = some (sp_id (dg_q tc) 0 tn (dg_x v (zi tn))) := by
  unfold fX3_withText
  rw [hT.1]
  obtain ⟨s, -, e⟩ := dg_lst (σ := Unit) (fun fuel v' k _ => fX3_withText_18 Y v fuel v' (zi k)) (fun v _ => some v) (fun _ => True) (dg_q tc) tn (fun fuel v s hs => ⟨s, hs, by
    (try dsimp only)
    rw [fX3_withText_18, hT.1, if_pos (dg_ge (by omega))]⟩) (fun fuel v' k s hk hs => by
    refine ⟨s, hs, ?_⟩
    (try dsimp only)
    rw [fX3_withText_18, hT.1, if_neg (dg_lt hk (by omega)), zi_n (by omega) (by omega), zi_Tn (by omega), hT.2 k hk, zi_suc]
    rfl) tn 0 512 (dg_x v (zi tn)) () (by omega) (by omega) trivial
  exact e
theorem pX3_digest {Y : tw_Wl} {g : tw_H} (hg : sp_IG g) (hc : sp_IC Y g) : ∃ Y', fX3_digest Y = some (dg_8 g.1 g.2.1 g.2.2.2.1 g.2.2.2.2, Y') ∧ sp_K Y Y' := by
  have hV := hg.1.1
  obtain ⟨Y1, k1, x1⟩ := dg_lst (fun fuel v k s => fX3_digest_6 fuel v (zi k) s) (fun v s => (fX3_withTasks s (((31 : Int64) * v) + s.1.2.2.2.2.2.2.2.2.toInt64)).bind fun r48 =>
      (fX3_withHalls r48.2 r48.1).bind fun r54 =>
      (fX3_withPersons r48.2 r54).bind fun r60 =>
      (fX3_withRules r60.2 r60.1).bind fun r66 =>
      (fX3_bestRule r66.2).bind fun r76 =>
      (fX3_worstSlip r76.2 (3 : Int32)).bind fun r89 =>
      tw_q (r89.1 = 0) <|
      (fX3_busyness r89.2.2).bind fun r101 =>
      (fX3_bitsOf r101).bind fun r104 =>
      (fX3_withText r89.2.2 (((31 : Int64) * (((31 : Int64) * (((31 : Int64) * r66.1) + r76.1.toInt64)) + r89.2.1.toInt64)) + r104)).bind fun r111 =>
      some (r111, r89.2.2)) (sp_K Y) (dg_c g.1 g.2.1) 9 (fun fuel v s hs => ⟨s, hs, by
    (try dsimp only)
    rw [fX3_digest_6, if_pos (show (9 : Int32) ≤ zi ((9 : Nat) : Int) from dg_ge (n := 9) (by omega))]⟩) (fun fuel v k s hk hs => by
    obtain ⟨Y', e1, e2⟩ := pX3_ct (kk := g.2.1) (sp_RS_K hc.1 hs) hV (sp_RP_K hc.2.1 hs) (by rw [hs.2.2.2]; exact hc.2.2.2.1) (w := k) (by omega)
    refine ⟨Y', sp_K_t hs e2, ?_⟩
    (try dsimp only)
    rw [fX3_digest_6, if_neg (show ¬ (9 : Int32) ≤ zi (k : Int) from dg_lt (n := 9) hk (by omega)), e1, ob_some]
    (try dsimp only)
    rw [zi_q rfl, zi_suc]
    rfl) 9 0 512 2791 Y rfl (by omega) (sp_K_r Y)
  have hr1 : Y1.1.2.2.2.2.2.2.2.2 = zi (sp_rule g.1) := (sp_RS_K hc.1 k1).2.1
  obtain ⟨Y2, k2, x2⟩ := dX3_tasks hc.1 hV hc.2.1 (dg_1 g.1 g.2.1) Y1 k1
  have x3 := dX3_halls (sp_RS_K hc.1 k2) hV (sp_RP_K hc.2.1 k2) (sp_id (dg_t g.1) 0 (sp_n g.1) (dg_1 g.1 g.2.1))
  obtain ⟨Y4, k4, x4⟩ := dX3_persons hc.1 hV hc.2.1 (sp_id (dg_h g.1) 0 4 (sp_id (dg_t g.1) 0 (sp_n g.1) (dg_1 g.1 g.2.1))) Y2 k2
  obtain ⟨Y5, k5, x5⟩ := dX3_rules hc.1 hV (sp_id (dg_p g.1) 0 6 (sp_id (dg_h g.1) 0 4 (sp_id (dg_t g.1) 0 (sp_n g.1) (dg_1 g.1 g.2.1)))) Y4 k4
  obtain ⟨Y6, x6, k6⟩ := pX3_bestRule (sp_RS_K hc.1 k5) hV
  have k6' := sp_K_t k5 k6
  obtain ⟨Y7, x7, k7⟩ := pX3_wo (sp_RS_K hc.1 k6') hV (sp_RP_K hc.2.1 k6') (d := 3) (by omega) (by omega)
  have k7' := sp_K_t k6' k7
  have x8 := pX3_bz (sp_RS_K hc.1 k7') hV (sp_RP_K hc.2.1 k7')
  have x9 := dX3_text (Y := Y7) (tc := g.2.2.2.2) hg.2.2.1 (by rw [k7'.2.2.1]; exact hc.2.2.1) (dg_7 g.1 g.2.1)
  refine ⟨Y7, ?_, k7'⟩
  unfold fX3_digest
  refine Eq.trans x1 ?_
  (try dsimp only)
  rw [hr1]
  refine Eq.trans (congrArg (fun x => Option.bind x _) x2) ?_
  rw [ob_some]
  (try dsimp only)
  rw [x3, ob_some, x4, ob_some]
  (try dsimp only)
  rw [x5, ob_some]
  (try dsimp only)
  rw [x6, ob_some]
  (try dsimp only)
  rw [show fX3_worstSlip Y6 (3 : Int32) = _ from x7, ob_some]
  (try dsimp only)
  rw [zi_q rfl, x8, ob_some, (sp_bz_bits hV).1, ob_some]
  refine Eq.trans (congrArg (fun x => Option.bind x _) x9) ?_
  rfl
