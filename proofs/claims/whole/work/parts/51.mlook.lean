/-! what the reference finds out -/
/-- but for its trials and its plan, nothing is changed -/
def sp_KM (M M' : tw_Md) : Prop := M'.1 = M.1 ∧ M'.2.2.1 = M.2.2.1 ∧ M'.2.2.2.1 = M.2.2.2.1 ∧ M'.2.2.2.2.1 = M.2.2.2.2.1 ∧ M'.2.2.2.2.2.1 = M.2.2.2.2.2.1 ∧ M'.2.2.2.2.2.2.1 = M.2.2.2.2.2.2.1
/-- nor its plan -/
def sp_KP (M M' : tw_Md) : Prop := sp_KM M M' ∧ M'.2.2.2.2.2.2.2.2.2.2.2.1 = M.2.2.2.2.2.2.2.2.2.2.2.1
theorem sp_KM_r (M : tw_Md) : sp_KM M M := ⟨rfl, rfl, rfl, rfl, rfl, rfl⟩
theorem sp_KP_r (M : tw_Md) : sp_KP M M := ⟨sp_KM_r M, rfl⟩
theorem sp_KM_t {M M' M2 : tw_Md} (h : sp_KM M M') (h2 : sp_KM M' M2) : sp_KM M M2 := ⟨h2.1.trans h.1, h2.2.1.trans h.2.1, h2.2.2.1.trans h.2.2.1, h2.2.2.2.1.trans h.2.2.2.1, h2.2.2.2.2.1.trans h.2.2.2.2.1, h2.2.2.2.2.2.trans h.2.2.2.2.2⟩
theorem sp_KP_t {M M' M2 : tw_Md} (h : sp_KP M M') (h2 : sp_KP M' M2) : sp_KP M M2 := ⟨sp_KM_t h.1 h2.1, h2.2.trans h.2⟩
theorem zi_row (t : Nat) : (10 : Int32) + (5 : Int32) * zi t = zi ((10 + 5 * t : Nat) : Int) := by
  show zi 10 + zi 5 * zi t = _
  rw [zi_mul, zi_add]
  exact congrArg zi (by omega)
theorem zi_hro (t : Nat) : (2 : Int32) + (2 : Int32) * zi t = zi ((2 + 2 * t : Nat) : Int) := by
  show zi 2 + zi 2 * zi t = _
  rw [zi_mul, zi_add]
  exact congrArg zi (by omega)
theorem zi_p1 (a : Nat) : zi a + (1 : Int32) = zi ((a + 1 : Nat) : Int) := zi_add a 1
theorem zi_p2 (a : Nat) : zi a + (2 : Int32) = zi ((a + 2 : Nat) : Int) := zi_add a 2
theorem zi_p3 (a : Nat) : zi a + (3 : Int32) = zi ((a + 3 : Nat) : Int) := zi_add a 3
theorem zi_p4 (a : Nat) : zi a + (4 : Int32) = zi ((a + 4 : Nat) : Int) := zi_add a 4
theorem zi_p5 (a : Nat) : zi a + (5 : Int32) = zi ((a + 5 : Nat) : Int) := zi_add a 5
theorem pX4_tries (M : tw_Md) : ∃ th, fX4_tries M = some (M.1, th, M.2.2) ∧ ∀ j, j < 70 → th j = M.1 j := by
  have key : ∀ (m k fuel : Nat) (M : tw_Md), k + m = 70 → m < fuel → ∃ th, fX4_tries_2 fuel (zi k) M = some (M.1, th, M.2.2) ∧ (∀ j, k ≤ j → j < 70 → th j = M.1 j) ∧ ∀ j, j < k → th j = M.2.1 j := by
    intro m
    induction m with
    | zero =>
      intro k fuel M h1 h2
      obtain ⟨fuel, rfl⟩ : ∃ f, fuel = f + 1 := ⟨fuel - 1, by omega⟩
      have : k = 70 := by omega
      subst this
      rw [fX4_tries_2, if_pos (by decide)]
      exact ⟨M.2.1, rfl, fun j q1 q2 => by omega, fun j _ => rfl⟩
    | succ m ih =>
      intro k fuel M h1 h2
      obtain ⟨fuel, rfl⟩ : ∃ f, fuel = f + 1 := ⟨fuel - 1, by omega⟩
      obtain ⟨th, e1, e2, e3⟩ := ih (k + 1) fuel (M.1, upd M.2.1 k (M.1 k), M.2.2) (by omega) (by omega)
      rw [fX4_tries_2, show (70 : Int32) = zi 70 from rfl, if_neg (by rw [zi_le (by omega) (by omega) (by omega) (by omega)]; omega), zi_n (by omega) (by omega), zi_n (by omega) (by omega), zi_Tn (by omega), zi_suc]
      refine ⟨th, e1, fun j q1 q2 => ?_, fun j q => ?_⟩
      · by_cases e : j = k
        · subst e; rw [e3 j (by omega)]; (try dsimp only); rw [upd_s]
        · exact e2 j (by omega) q2
      · rw [e3 j (by omega)]; (try dsimp only); rw [upd_n (by omega)]
  obtain ⟨th, e1, e2, -⟩ := key 70 0 512 M (by omega) (by omega)
  exact ⟨th, e1, fun j hj => e2 j (by omega) hj⟩
theorem pX4_plans {M : tw_Md} {V : tw_V} (h : sp_RA M.1 V) (hV : sp_ok V) : ∃ M', fX4_plans M = some M' ∧ sp_KM M M' ∧ sp_RB M'.2.2.2.2.2.2.2.2.2.2.2.1 V (sp_plan V) := by
  obtain ⟨d, e1, e2⟩ := pX4_lays h hV M.2.2.2.2.2.2.2.2.2.2.2.1
  unfold fX4_plans
  rw [e1, ob_some]
  exact ⟨_, rfl, ⟨rfl, rfl, rfl, rfl, rfl, rfl⟩, e2⟩
theorem sp_RA_set3 {s : tw_F} {V : tw_V} (h : sp_RA s V) {t : Nat} {x : Int} : sp_RA (upd s (10 + 5 * t + 3) (zi x)) (sp_set V 3 t x) := by
  refine ⟨?_, ?_, fun u hu => ?_, fun j hj => ?_⟩
  · rw [upd_n (by omega)]; exact h.1
  · rw [upd_n (by omega)]; exact h.2.1
  · obtain ⟨a1, a2, a3, a4, a5⟩ := h.2.2.1 u hu
    rw [upd_n (by omega), upd_n (by omega), upd_n (by omega), upd_n (j := 10 + 5 * u + 4) (by omega)]
    refine ⟨a1, a2, a3, ?_, a5⟩
    rw [sp_ear_set]
    by_cases e : u = t
    · subst e; rw [upd_s, if_pos rfl]
    · rw [upd_n (by omega), if_neg e]; exact a4
  · rw [upd_n (by omega), upd_n (by omega)]
    exact h.2.2.2 j hj
theorem sp_RA_rul {s : tw_F} {V : tw_V} (h : sp_RA s V) {r : Int} : sp_RA (upd s 1 (zi r)) (sp_rul V r) := by
  refine ⟨?_, ?_, fun u hu => ?_, fun j hj => ?_⟩
  · rw [upd_n (by omega)]; exact h.1
  · rw [upd_s]; rfl
  · rw [upd_n (by omega), upd_n (by omega), upd_n (by omega), upd_n (by omega), upd_n (by omega)]
    exact h.2.2.1 u hu
  · rw [upd_n (by omega), upd_n (by omega)]
    exact h.2.2.2 j hj
theorem pX4_triesFrom {M : tw_Md} {V : tw_V} (h : sp_RA M.1 V) (hV : sp_ok V) {t : Nat} (ht : t < sp_n V) {x : Int} (x0 : 0 ≤ x) (x1 : x ≤ 129) : ∃ M', fX4_triesFrom M (zi t) (zi x) = some M' ∧ sp_KP M M' ∧ sp_RA M'.2.1 (sp_set V 3 t x) ∧ sp_RB M'.2.2.2.2.2.2.2.2.2.2.2.2 (sp_set V 3 t x) (sp_plan (sp_set V 3 t x)) := by
  have hn := sp_12 hV
  obtain ⟨th, e1, e2⟩ := pX4_tries M
  have h2 : sp_RA th V := sp_RA_cong hn h e2
  obtain ⟨d, e3, e4⟩ := pX4_lays (sp_RA_set3 (t := t) (x := x) h2) (sp_ok_set3 hV x0 x1) M.2.2.2.2.2.2.2.2.2.2.2.2
  unfold fX4_triesFrom
  rw [e1, ob_some, zi_row, zi_p3, zi_n (by omega) (by omega), zi_Tn (by omega)]
  (try dsimp only)
  rw [e3, ob_some]
  exact ⟨_, rfl, ⟨⟨rfl, rfl, rfl, rfl, rfl, rfl⟩, rfl⟩, sp_RA_set3 h2, e4⟩
theorem sp_RA_K {M M' : tw_Md} {V : tw_V} (h : sp_RA M.1 V) (hK : sp_KM M M') : sp_RA M'.1 V := by rw [hK.1]; exact h
theorem sp_RB_K {M M' : tw_Md} {V : tw_V} {b : Nat → Int} (h : sp_RB M.2.2.2.2.2.2.2.2.2.2.2.1 V b) (hK : sp_KP M M') : sp_RB M'.2.2.2.2.2.2.2.2.2.2.2.1 V b := by rw [hK.2]; exact h
theorem pX4_slack_15 {M0 : tw_Md} {V : tw_V} (h : sp_RA M0.1 V) (hV : sp_ok V) (hP : sp_RB M0.2.2.2.2.2.2.2.2.2.2.2.1 V (sp_plan V)) {t : Nat} (ht : t < sp_n V) (hp : sp_plan V t ≠ -1) : ∀ (m fuel : Nat) (M : tw_Md), m < fuel → m ≤ 30 → sp_KP M0 M → ∃ M', fX4_slack_15 (zi t) fuel (zi m) M = some (zi (sp_sl V t m), M') ∧ sp_KP M0 M'
  | 0, fuel, M, h1, h2, h3 => by
    obtain ⟨fuel, rfl⟩ : ∃ f, fuel = f + 1 := ⟨fuel - 1, by omega⟩
    rw [fX4_slack_15, if_pos (by decide)]
    exact ⟨M, rfl, h3⟩
  | m + 1, fuel, M, h1, h2, h3 => by
    have hn := sp_12 hV
    have hpl := sp_p_le hV ht
    obtain ⟨fuel, rfl⟩ : ∃ f, fuel = f + 1 := ⟨fuel - 1, by omega⟩
    have hok : sp_ok (sp_set V 3 t (sp_plan V t + ((m + 1 : Nat) : Int))) := sp_ok_set3 hV (by omega) (by omega)
    obtain ⟨M', e1, e2, e3, e4⟩ := pX4_triesFrom (sp_RA_K h h3.1) hV ht (x := sp_plan V t + ((m + 1 : Nat) : Int)) (by omega) (by omega)
    have e5 := sp_KP_t h3 e2
    have b1 := sp_L_le hV
    have b2 := sp_L_le hok
    have b3 := sp_E_le hV
    have b4 := sp_E_le hok
    have c1 : zi (sp_L (sp_set V 3 t (sp_plan V t + ((m + 1 : Nat) : Int)))) < zi (sp_L V) ↔ sp_L (sp_set V 3 t (sp_plan V t + ((m + 1 : Nat) : Int))) < sp_L V := zi_lt (by omega) (by omega) (by omega) (by omega)
    have c2 : zi (sp_E V) < zi (sp_E (sp_set V 3 t (sp_plan V t + ((m + 1 : Nat) : Int)))) ↔ sp_E V < sp_E (sp_set V 3 t (sp_plan V t + ((m + 1 : Nat) : Int))) := zi_lt (by omega) (by omega) (by omega) (by omega)
    have g1 : fX4_laid M'.2.1 M'.2.2.2.2.2.2.2.2.2.2.2.2 = some (zi (sp_L (sp_set V 3 t (sp_plan V t + ((m + 1 : Nat) : Int))))) := pX4_laid e3 hok e4 (sp_bokp hok)
    have g2 : fX4_laid M'.1 M'.2.2.2.2.2.2.2.2.2.2.2.1 = some (zi (sp_L V)) := pX4_laid (sp_RA_K h e5.1) hV (sp_RB_K hP e5) (sp_bokp hV)
    have g3 : fX4_end M'.2.1 M'.2.2.2.2.2.2.2.2.2.2.2.2 = some (zi (sp_E (sp_set V 3 t (sp_plan V t + ((m + 1 : Nat) : Int))))) := pX4_end e3 hok e4 (sp_bokp hok)
    have g4 : fX4_end M'.1 M'.2.2.2.2.2.2.2.2.2.2.2.1 = some (zi (sp_E V)) := pX4_end (sp_RA_K h e5.1) hV (sp_RB_K hP e5) (sp_bokp hV)
    have hpk : M.2.2.2.2.2.2.2.2.2.2.2.1 t = zi (sp_plan V t) := by rw [h3.2]; exact hP t ht
    rw [fX4_slack_15, z0, if_neg (by rw [zi_le (by omega) (by omega) (by omega) (by omega)]; omega), zi_n (by omega) (by omega), zi_Tn (by omega), hpk, zi_add, e1, ob_some, g1, ob_some, g2, ob_some, g3, ob_some, g4, ob_some, zi_prd, sp_sl]
    by_cases d1 : sp_L (sp_set V 3 t (sp_plan V t + ((m + 1 : Nat) : Int))) < sp_L V
    · rw [if_pos (c1.mpr d1), if_pos (Or.inl d1)]
      exact pX4_slack_15 h hV hP ht hp m fuel _ (by omega) (by omega) e5
    · rw [if_neg (fun q => d1 (c1.mp q))]
      by_cases d2 : sp_E V < sp_E (sp_set V 3 t (sp_plan V t + ((m + 1 : Nat) : Int)))
      · rw [if_pos (c2.mpr d2), if_pos (Or.inr d2)]
        exact pX4_slack_15 h hV hP ht hp m fuel _ (by omega) (by omega) e5
      · rw [if_neg (fun q => d2 (c2.mp q)), if_neg (fun q => q.elim d1 d2)]
        exact ⟨_, rfl, e5⟩
theorem pX4_slack {M : tw_Md} {V : tw_V} (h : sp_RA M.1 V) (hV : sp_ok V) (hP : sp_RB M.2.2.2.2.2.2.2.2.2.2.2.1 V (sp_plan V)) {t : Nat} (ht : t < sp_n V) : ∃ M', fX4_slack M (zi t) = some (zi (sp_slk V t), M') ∧ sp_KP M M' := by
  have hn := sp_12 hV
  have hpl := sp_p_le hV ht
  have c : zi (sp_plan V t) = -1 ↔ sp_plan V t = -1 := by
    rw [zm1]
    exact zi_eq (by omega) (by omega) (by omega) (by omega)
  unfold fX4_slack sp_slk
  rw [zi_n (by omega) (by omega), zi_Tn (by omega), hP t ht]
  by_cases e : sp_plan V t = -1
  · rw [if_neg (fun q => q (c.mpr e)), if_pos e]
    exact ⟨M, rfl, sp_KP_r M⟩
  · rw [if_pos (fun q => e (c.mp q)), if_neg e]
    exact pX4_slack_15 h hV hP ht e 30 512 _ (by omega) (by omega) (sp_KP_r M)
theorem pX4_critical {M : tw_Md} {V : tw_V} (h : sp_RA M.1 V) (hV : sp_ok V) (hP : sp_RB M.2.2.2.2.2.2.2.2.2.2.2.1 V (sp_plan V)) : ∃ M', fX4_critical M = some (zi (sp_crit V), M') ∧ sp_KP M M' := by
  have hn := sp_12 hV
  have key : ∀ (m k fuel : Nat) (Z : tw_Md), k + m = sp_n V → m < fuel → sp_KP M Z → ∃ M', fX4_critical_4 fuel (zi (sp_sum (fun t => if sp_slk V t = 0 then 1 else 0) k)) (zi k) Z = some (zi (sp_crit V), M') ∧ sp_KP M M' := by
    intro m
    induction m with
    | zero =>
      intro k fuel Z h1 h2 h3
      obtain ⟨fuel, rfl⟩ : ∃ f, fuel = f + 1 := ⟨fuel - 1, by omega⟩
      have : k = sp_n V := by omega
      subst this
      rw [fX4_critical_4, zT0, h3.1.1, h.1, if_pos ((zi_le (by omega) (by omega) (by omega) (by omega)).mpr (Int.le_refl _))]
      exact ⟨Z, rfl, h3⟩
    | succ m ih =>
      intro k fuel Z h1 h2 h3
      obtain ⟨fuel, rfl⟩ : ∃ f, fuel = f + 1 := ⟨fuel - 1, by omega⟩
      obtain ⟨Z', e1, e2⟩ := pX4_slack (sp_RA_K h h3.1) hV (sp_RB_K hP h3) (t := k) (by omega)
      have b := sp_slk_le (V := V) (t := k)
      have c : zi (sp_slk V k) = 0 ↔ sp_slk V k = 0 := zi_eq (b := 0) (by omega) (by omega) (by omega) (by omega)
      have ih' := ih (k + 1) fuel Z' (by omega) (by omega) (sp_KP_t h3 e2)
      rw [sp_sum] at ih'
      rw [fX4_critical_4, zT0, h3.1.1, h.1, if_neg (by rw [zi_le (by omega) (by omega) (by omega) (by omega)]; omega), e1, ob_some, zi_suc]
      by_cases d : sp_slk V k = 0
      · rw [if_pos d] at ih'
        rw [if_neg (fun q => q (c.mpr d)), show zi (sp_sum (fun t => if sp_slk V t = 0 then 1 else 0) k) + 1 = zi (sp_sum (fun t => if sp_slk V t = 0 then 1 else 0) k + 1) from zi_add _ 1]
        exact ih'
      · rw [if_neg d] at ih'
        rw [if_pos (fun q => d (c.mp q)), show zi (sp_sum (fun t => if sp_slk V t = 0 then 1 else 0) k) + 0 = zi (sp_sum (fun t => if sp_slk V t = 0 then 1 else 0) k + 0) from zi_add _ 0]
        exact ih'
  exact key (sp_n V) 0 512 M (by omega) (by omega) (sp_KP_r M)
/-! the longest row -/
theorem pX4_longest_19 {M : tw_Md} {V : tw_V} (h : sp_RA M.1 V) (hV : sp_ok V) (k4 : Int32 → Int32 → tw_Md → Option (Int32 × tw_Md)) {k : Nat} (hk : k < sp_n V) (hr : ∀ i, i < k → M.2.2.2.2.2.2.2.2.2.2.2.2 i = zi (sp_rt V k i)) : ∀ (m o fuel : Nat), o + m = k → m < fuel →
    fX4_longest_19 k4 fuel (zi (sp_lg V k)) (zi k) (zi (sp_ah V (sp_rt V k) k o)) (zi o) M = k4 (zi (sp_lg V (k + 1))) (zi ((k + 1 : Nat) : Int)) (M.1, M.2.1, M.2.2.1, M.2.2.2.1, M.2.2.2.2.1, M.2.2.2.2.2.1, M.2.2.2.2.2.2.1, M.2.2.2.2.2.2.2.1, M.2.2.2.2.2.2.2.2.1, M.2.2.2.2.2.2.2.2.2.1, M.2.2.2.2.2.2.2.2.2.2.1, M.2.2.2.2.2.2.2.2.2.2.2.1, upd M.2.2.2.2.2.2.2.2.2.2.2.2 k (zi (sp_ah V (sp_rt V k) k k + sp_len V k)))
  | 0, o, fuel, h1, h2 => by
    have hn := sp_12 hV
    obtain ⟨fuel, rfl⟩ : ∃ f, fuel = f + 1 := ⟨fuel - 1, by omega⟩
    have : o = k := by omega
    subst this
    have b1 := sp_lg_le hV o (by omega)
    have b2 := sp_ah_le (V := V) (t := o) (sp_rt_le hV o (by omega)) o
    obtain ⟨l1, l2, -⟩ := hV.2.2.2.1 o hk
    have g := fun {α : Type} (x : Option α) => zi_g (a := (o : Int)) (n := 12) (x := x) (by omega) (by omega) (by omega)
    rw [fX4_longest_19, if_pos ((zi_le (by omega) (by omega) (by omega) (by omega)).mpr (Int.le_refl _)), pX4_len h hV hk, ob_some, g, g, g, zi_Tn (by omega), upd_s, zi_add, zif_le (by omega) (by omega) (by omega) (by omega), zi_suc, sp_lg]
    by_cases e : sp_ah V (sp_rt V o) o o + sp_len V o ≤ sp_lg V o
    · rw [if_pos e, if_neg (by omega)]
    · rw [if_neg e, if_pos (by omega)]
  | m + 1, o, fuel, h1, h2 => by
    have hn := sp_12 hV
    obtain ⟨fuel, rfl⟩ : ∃ f, fuel = f + 1 := ⟨fuel - 1, by omega⟩
    have b2 := sp_ah_le (V := V) (t := k) (sp_rt_le hV k (by omega)) o
    have b3 := sp_rt_le hV k (by omega) o
    have ih := pX4_longest_19 h hV k4 hk hr m (o + 1) fuel (by omega) (by omega)
    have g := fun {α : Type} (x : Option α) => zi_g (a := (o : Int)) (n := 12) (x := x) (by omega) (by omega) (by omega)
    rw [fX4_longest_19, if_neg (by rw [zi_le (by omega) (by omega) (by omega) (by omega)]; omega), pX4_msk h hV hk, ob_some, zi_suc]
    rw [sp_ah] at ih
    by_cases e : sp_bit V k o = true
    · rw [if_neg (by rw [tb_shr1 (by omega)]; exact fun q => q e), g, g, zi_Tn (by omega), hr o (by omega), zif_le (by omega) (by omega) (by omega) (by omega)]
      by_cases e2 : sp_rt V k o ≤ sp_ah V (sp_rt V k) k o
      · rw [if_pos e2]
        rw [if_neg (fun q => absurd q.2 (by omega))] at ih
        exact ih
      · rw [if_neg e2]
        rw [if_pos ⟨e, by omega⟩] at ih
        exact ih
    · rw [if_pos ((tb_shr1 (by omega)).mpr e)]
      rw [if_neg (fun q => e q.1)] at ih
      exact ih
theorem pX4_longest {M : tw_Md} {V : tw_V} (h : sp_RA M.1 V) (hV : sp_ok V) : ∃ M', fX4_longest M = some (zi (sp_lg V (sp_n V)), M') ∧ sp_KP M M' := by
  have hn := sp_12 hV
  have key : ∀ (m k fuel : Nat) (Z : tw_Md), k + m = sp_n V → m < fuel → sp_KP M Z → (∀ i, i < k → Z.2.2.2.2.2.2.2.2.2.2.2.2 i = zi (sp_rt V k i)) → ∃ M', fX4_longest_4 fuel (zi (sp_lg V k)) (zi k) Z = some (zi (sp_lg V (sp_n V)), M') ∧ sp_KP M M' := by
    intro m
    induction m with
    | zero =>
      intro k fuel Z h1 h2 h3 h4
      obtain ⟨fuel, rfl⟩ : ∃ f, fuel = f + 1 := ⟨fuel - 1, by omega⟩
      have : k = sp_n V := by omega
      subst this
      rw [fX4_longest_4, zT0, h3.1.1, h.1, if_pos ((zi_le (by omega) (by omega) (by omega) (by omega)).mpr (Int.le_refl _))]
      exact ⟨Z, rfl, h3⟩
    | succ m ih =>
      intro k fuel Z h1 h2 h3 h4
      obtain ⟨fuel, rfl⟩ : ∃ f, fuel = f + 1 := ⟨fuel - 1, by omega⟩
      have e := pX4_longest_19 (sp_RA_K h h3.1) hV (fX4_longest_4 fuel) (by omega) h4 k 0 512 (by omega) (by omega)
      rw [fX4_longest_4, zT0, h3.1.1, h.1, if_neg (by rw [zi_le (by omega) (by omega) (by omega) (by omega)]; omega)]
      have e' : fX4_longest_19 (fX4_longest_4 fuel) 512 (zi (sp_lg V k)) (zi k) 0 0 Z = _ := e
      rw [e']
      refine ih (k + 1) fuel _ (by omega) (by omega) h3 (fun i hi => ?_)
      show upd Z.2.2.2.2.2.2.2.2.2.2.2.2 k _ i = zi (sp_rt V (k + 1) i)
      rw [sp_rt]
      by_cases q : i = k
      · subst q; rw [upd_s, va_up_s]
      · rw [upd_n q, va_up_n q]; exact h4 i (by omega)
  exact key (sp_n V) 0 512 M (by omega) (by omega) (sp_KP_r M) (fun i hi => absurd hi (Nat.not_lt_zero i))
/-! lengths -/
theorem pX4_lengths0 {M : tw_Md} {V : tw_V} (h : sp_RA M.1 V) (hV : sp_ok V) : fX4_lengths M (0 : Int32) = some (zi (sp_sum (sp_len V) (sp_n V))) := by
  have hn := sp_12 hV
  unfold fX4_lengths
  refine lup (fun fuel k => fX4_lengths_4 M (0 : Int32) fuel (zi (sp_sum (sp_len V) k)) (zi k)) _ (sp_n V) (fun fuel => ?_) (fun fuel k hk => ?_) 512 (by omega)
  · (try dsimp only)
    rw [fX4_lengths_4, zT0, h.1, if_pos ((zi_le (by omega) (by omega) (by omega) (by omega)).mpr (Int.le_refl _))]
  · (try dsimp only)
    rw [fX4_lengths_4, zT0, h.1, if_neg (by rw [zi_le (by omega) (by omega) (by omega) (by omega)]; omega), if_pos rfl]
    unfold fX4_lengths_29
    rw [pX4_len h hV hk, ob_some, zi_add, zi_suc]
    rfl
theorem pX4_lengths1 {M : tw_Md} {V : tw_V} (h : sp_RA M.1 V) (hV : sp_ok V) (hP : sp_RB M.2.2.2.2.2.2.2.2.2.2.2.1 V (sp_plan V)) : fX4_lengths M (1 : Int32) = some (zi (sp_sum (fun t => if sp_plan V t ≠ -1 then sp_len V t else 0) (sp_n V))) := by
  have hn := sp_12 hV
  unfold fX4_lengths
  refine lup (fun fuel k => fX4_lengths_4 M (1 : Int32) fuel (zi (sp_sum (fun t => if sp_plan V t ≠ -1 then sp_len V t else 0) k)) (zi k)) _ (sp_n V) (fun fuel => ?_) (fun fuel k hk => ?_) 512 (by omega)
  · (try dsimp only)
    rw [fX4_lengths_4, zT0, h.1, if_pos ((zi_le (by omega) (by omega) (by omega) (by omega)).mpr (Int.le_refl _))]
  · (try dsimp only)
    have hpl := sp_p_le hV hk
    rw [fX4_lengths_4, zT0, h.1, if_neg (by rw [zi_le (by omega) (by omega) (by omega) (by omega)]; omega), if_neg (by decide), zi_n (by omega) (by omega), zi_Tn (by omega), hP k hk, zm1, zif_eq (by omega) (by omega) (by omega) (by omega)]
    unfold fX4_lengths_29
    rw [pX4_len h hV hk, ob_some, zi_add, zi_suc, z0, zi_add, sp_sum]
    by_cases e : sp_plan V k = -1
    · rw [if_pos e, if_neg (fun q => q e)]
    · rw [if_neg e, if_pos e]
/-! another rule -/
theorem pX4_byRule {M : tw_Md} {V : tw_V} (h : sp_RA M.1 V) (hV : sp_ok V) {r w : Int} (r0 : 0 ≤ r) (r1 : r ≤ 3) (w0 : 0 ≤ w) (w1 : w ≤ 2) : ∃ M', fX4_byRule M (zi r) (zi w) = some (zi (if w = 0 then sp_E (sp_rul V r) else if w = 1 then sp_L (sp_rul V r) else sp_W (sp_rul V r)), M') ∧ sp_KP M M' := by
  have hn := sp_12 hV
  obtain ⟨th, e1, e2⟩ := pX4_tries M
  have h2 : sp_RA th V := sp_RA_cong hn h e2
  have hok := sp_ok_rul hV r0 r1
  obtain ⟨d, e3, e4⟩ := pX4_lays (sp_RA_rul (r := r) h2) hok M.2.2.2.2.2.2.2.2.2.2.2.2
  have g1 : fX4_laid (upd th 1 (zi r)) d = some (zi (sp_L (sp_rul V r))) := pX4_laid (sp_RA_rul h2) hok e4 (sp_bokp hok)
  have g2 : fX4_end (upd th 1 (zi r)) d = some (zi (sp_E (sp_rul V r))) := pX4_end (sp_RA_rul h2) hok e4 (sp_bokp hok)
  have g3 : fX4_waiting (upd th 1 (zi r)) d = some (zi (sp_W (sp_rul V r))) := pX4_waiting (sp_RA_rul h2) hok e4 (sp_bokp hok)
  have c0 : zi w = 0 ↔ w = 0 := zi_eq (b := 0) (by omega) (by omega) (by omega) (by omega)
  have c1 : zi w = (1 : Int32) ↔ w = 1 := zi_eq (b := 1) (by omega) (by omega) (by omega) (by omega)
  unfold fX4_byRule
  rw [e1, ob_some, zT1]
  (try dsimp only)
  rw [e3, ob_some, g1, g2, g3]
  simp only [ob_some]
  by_cases d0 : w = 0
  · rw [if_neg (fun q => q (c0.mpr d0)), if_pos d0]
    exact ⟨_, rfl, ⟨rfl, rfl, rfl, rfl, rfl, rfl⟩, rfl⟩
  · rw [if_pos (fun q => d0 (c0.mp q)), if_neg d0]
    by_cases d1 : w = 1
    · rw [if_neg (fun q => q (c1.mpr d1)), if_pos d1]
      exact ⟨_, rfl, ⟨rfl, rfl, rfl, rfl, rfl, rfl⟩, rfl⟩
    · rw [if_pos (fun q => d1 (c1.mp q)), if_neg d1]
      exact ⟨_, rfl, ⟨rfl, rfl, rfl, rfl, rfl, rfl⟩, rfl⟩
theorem pX4_best {M : tw_Md} {V : tw_V} (h : sp_RA M.1 V) (hV : sp_ok V) : ∃ M', fX4_best M = some (zi (sp_best V 3), M') ∧ sp_KP M M' := by
  have key : ∀ (m k fuel : Nat) (Z : tw_Md), k + m = 3 → m + 1 < fuel → sp_KP M Z → ∃ M', fX4_best_4 fuel (zi (sp_best V k)) (zi ((k + 1 : Nat) : Int)) Z = some (zi (sp_best V 3), M') ∧ sp_KP M M' := by
    intro m
    induction m with
    | zero =>
      intro k fuel Z h1 h2 h3
      obtain ⟨fuel, rfl⟩ : ∃ f, fuel = f + 1 := ⟨fuel - 1, by omega⟩
      have : k = 3 := by omega
      subst this
      rw [fX4_best_4, if_pos (by decide)]
      exact ⟨Z, rfl, h3⟩
    | succ m ih =>
      intro k fuel Z h1 h2 h3
      obtain ⟨fuel, rfl⟩ : ∃ f, fuel = f + 1 := ⟨fuel - 1, by omega⟩
      have b0 := sp_best_le (V := V) k
      have ok1 := sp_ok_rul hV (r := ((k + 1 : Nat) : Int)) (by omega) (by omega)
      have ok2 := sp_ok_rul hV (r := sp_best V k) (by omega) (by omega)
      have b1 := sp_L_le ok1
      have b2 := sp_L_le ok2
      have b3 := sp_E_le ok1
      have b4 := sp_E_le ok2
      obtain ⟨Z1, e1, k1⟩ := pX4_byRule (sp_RA_K h h3.1) hV (r := ((k + 1 : Nat) : Int)) (w := 1) (by omega) (by omega) (by omega) (by omega)
      have k1 := sp_KP_t h3 k1
      obtain ⟨Z2, e2, k2⟩ := pX4_byRule (sp_RA_K h k1.1) hV (r := sp_best V k) (w := 1) (by omega) (by omega) (by omega) (by omega)
      have k2 := sp_KP_t k1 k2
      obtain ⟨Z3, e3, k3⟩ := pX4_byRule (sp_RA_K h k2.1) hV (r := ((k + 1 : Nat) : Int)) (w := 0) (by omega) (by omega) (by omega) (by omega)
      have k3 := sp_KP_t k2 k3
      obtain ⟨Z4, e4, k4⟩ := pX4_byRule (sp_RA_K h k3.1) hV (r := sp_best V k) (w := 0) (by omega) (by omega) (by omega) (by omega)
      have k4 := sp_KP_t k3 k4
      have i1 : (if (1 : Int) = 0 then sp_E (sp_rul V ((k + 1 : Nat) : Int)) else if (1 : Int) = 1 then sp_L (sp_rul V ((k + 1 : Nat) : Int)) else sp_W (sp_rul V ((k + 1 : Nat) : Int))) = sp_L (sp_rul V ((k + 1 : Nat) : Int)) := rfl
      have i2 : (if (1 : Int) = 0 then sp_E (sp_rul V (sp_best V k)) else if (1 : Int) = 1 then sp_L (sp_rul V (sp_best V k)) else sp_W (sp_rul V (sp_best V k))) = sp_L (sp_rul V (sp_best V k)) := rfl
      have i3 : (if (0 : Int) = 0 then sp_E (sp_rul V ((k + 1 : Nat) : Int)) else if (0 : Int) = 1 then sp_L (sp_rul V ((k + 1 : Nat) : Int)) else sp_W (sp_rul V ((k + 1 : Nat) : Int))) = sp_E (sp_rul V ((k + 1 : Nat) : Int)) := rfl
      have i4 : (if (0 : Int) = 0 then sp_E (sp_rul V (sp_best V k)) else if (0 : Int) = 1 then sp_L (sp_rul V (sp_best V k)) else sp_W (sp_rul V (sp_best V k))) = sp_E (sp_rul V (sp_best V k)) := rfl
      rw [i1] at e1
      rw [i2] at e2
      rw [i3] at e3
      rw [i4] at e4
      rw [show zi 1 = (1 : Int32) from rfl] at e1 e2
      rw [show zi 0 = (0 : Int32) from rfl] at e3 e4
      have ih1 := ih (k + 1) fuel Z2 (by omega) (by omega) k2
      have ih2 := ih (k + 1) fuel Z4 (by omega) (by omega) k4
      rw [sp_best] at ih1 ih2
      rw [fX4_best_4, show (4 : Int32) = zi 4 from rfl, if_neg (by rw [zi_le (by omega) (by omega) (by omega) (by omega)]; omega), e1, ob_some]
      (try dsimp only)
      rw [e2, ob_some]
      (try dsimp only)
      rw [e3, ob_some]
      (try dsimp only)
      rw [e4, ob_some, zi_sub, zi_suc]
      have c1 : 0 < zi (sp_L (sp_rul V ((k + 1 : Nat) : Int)) - sp_L (sp_rul V (sp_best V k))) ↔ sp_L (sp_rul V (sp_best V k)) < sp_L (sp_rul V ((k + 1 : Nat) : Int)) := by
        rw [z0, zi_lt (by omega) (by omega) (by omega) (by omega)]; omega
      have c2 : zi (sp_L (sp_rul V ((k + 1 : Nat) : Int)) - sp_L (sp_rul V (sp_best V k))) = 0 ↔ sp_L (sp_rul V ((k + 1 : Nat) : Int)) = sp_L (sp_rul V (sp_best V k)) := by
        rw [z0, zi_eq (by omega) (by omega) (by omega) (by omega)]; omega
      have c3 : zi (sp_E (sp_rul V (sp_best V k))) ≤ zi (sp_E (sp_rul V ((k + 1 : Nat) : Int))) ↔ sp_E (sp_rul V (sp_best V k)) ≤ sp_E (sp_rul V ((k + 1 : Nat) : Int)) := zi_le (by omega) (by omega) (by omega) (by omega)
      by_cases d1 : sp_L (sp_rul V (sp_best V k)) < sp_L (sp_rul V ((k + 1 : Nat) : Int))
      · rw [if_pos (c1.mpr d1)]
        rw [if_pos (Or.inl d1)] at ih1
        exact ih1
      · rw [if_neg (fun q => d1 (c1.mp q))]
        by_cases d2 : sp_L (sp_rul V ((k + 1 : Nat) : Int)) = sp_L (sp_rul V (sp_best V k))
        · rw [if_neg (fun q => q (c2.mpr d2))]
          by_cases d3 : sp_E (sp_rul V (sp_best V k)) ≤ sp_E (sp_rul V ((k + 1 : Nat) : Int))
          · rw [if_pos (c3.mpr d3)]
            rw [if_neg (fun q => q.elim d1 (fun q => absurd q.2 (by omega)))] at ih2
            exact ih2
          · rw [if_neg (fun q => d3 (c3.mp q))]
            rw [if_pos (Or.inr ⟨d2, by omega⟩)] at ih2
            exact ih2
        · rw [if_pos (fun q => d2 (c2.mp q))]
          rw [if_neg (fun q => q.elim d1 (fun q => d2 q.1))] at ih1
          exact ih1
  exact key 3 0 512 M (by omega) (by omega) (sp_KP_r M)
/-! a person freed -/
theorem sp_RA_frd0 {s : tw_F} {V : tw_V} (h : sp_RA s V) {p : Int} : sp_RA s (sp_frd V p 0) := by
  refine ⟨h.1, h.2.1, fun u hu => ?_, h.2.2.2⟩
  obtain ⟨a1, a2, a3, a4, a5⟩ := h.2.2.1 u hu
  refine ⟨a1, ?_, a3, a4, a5⟩
  rw [sp_frd_per, if_neg (fun q => absurd q.1 (Nat.not_lt_zero u))]
  exact a2
theorem sp_RA_frd {s : tw_F} {V : tw_V} {p : Int} {k : Nat} (h : sp_RA s (sp_frd V p k)) : sp_RA (upd s (10 + 5 * k + 1) (zi (if sp_per V k = p then -1 else sp_per V k))) (sp_frd V p (k + 1)) := by
  refine ⟨?_, ?_, fun u hu => ?_, fun j hj => ?_⟩
  · rw [upd_n (by omega)]; exact h.1
  · rw [upd_n (by omega)]; exact h.2.1
  · obtain ⟨a1, a2, a3, a4, a5⟩ := h.2.2.1 u hu
    rw [upd_n (by omega), upd_n (j := 10 + 5 * u + 2) (by omega), upd_n (j := 10 + 5 * u + 3) (by omega), upd_n (j := 10 + 5 * u + 4) (by omega)]
    refine ⟨a1, ?_, a3, a4, a5⟩
    rw [sp_frd_per] at a2 ⊢
    by_cases q2 : u = k
    · subst q2
      rw [upd_s]
      by_cases e : sp_per V u = p
      · rw [if_pos e, if_pos ⟨by omega, e⟩]
      · rw [if_neg e, if_neg (fun q => e q.2)]
    · rw [upd_n (by omega), a2]
      by_cases e : u < k ∧ sp_per V u = p
      · rw [if_pos e, if_pos ⟨by omega, e.2⟩]
      · rw [if_neg e, if_neg (fun q => e ⟨by omega, q.2⟩)]
  · rw [upd_n (by omega), upd_n (by omega)]
    exact h.2.2.2 j hj
theorem pX4_freed {M : tw_Md} {V : tw_V} (h : sp_RA M.1 V) (hV : sp_ok V) {p : Int} (p0 : 0 ≤ p) (p1 : p ≤ 5) : ∃ M', fX4_freed M (zi p) = some (zi (sp_F V p), M') ∧ sp_KP M M' := by
  have hn := sp_12 hV
  have key : ∀ (m k fuel : Nat) (Z : tw_Md), k + m = sp_n V → m < fuel → sp_KP M Z → sp_RA Z.2.1 (sp_frd V p k) → ∃ M', fX4_freed_6 (zi p) fuel (zi k) Z = some (zi (sp_F V p), M') ∧ sp_KP M M' := by
    intro m
    induction m with
    | zero =>
      intro k fuel Z h1 h2 h3 h4
      obtain ⟨fuel, rfl⟩ : ∃ f, fuel = f + 1 := ⟨fuel - 1, by omega⟩
      have : k = sp_n V := by omega
      subst this
      have hok := sp_frd_ok hV (p := p) (k := sp_n V)
      obtain ⟨d, e3, e4⟩ := pX4_lays h4 hok Z.2.2.2.2.2.2.2.2.2.2.2.2
      have g2 : fX4_end Z.2.1 d = some (zi (sp_F V p)) := pX4_end h4 hok e4 (sp_bokp hok)
      rw [fX4_freed_6, zT0, show Z.1 0 = zi (sp_n V) from by rw [h3.1.1, h.1], if_pos ((zi_le (by omega) (by omega) (by omega) (by omega)).mpr (Int.le_refl _)), e3, ob_some, g2, ob_some]
      exact ⟨_, rfl, h3⟩
    | succ m ih =>
      intro k fuel Z h1 h2 h3 h4
      obtain ⟨fuel, rfl⟩ : ∃ f, fuel = f + 1 := ⟨fuel - 1, by omega⟩
      have hk : k < sp_n V := by omega
      obtain ⟨-, -, a1, a2, -⟩ := hV.2.2.2.1 k hk
      have hpk : Z.2.1 (10 + 5 * k + 1) = zi (sp_per V k) := by
        have := (h4.2.2.1 k hk).2.1
        rw [sp_frd_per, if_neg (fun q => absurd q.1 (Nat.lt_irrefl k))] at this
        exact this
      have c : zi (sp_per V k) = zi p ↔ sp_per V k = p := zi_eq (by omega) (by omega) (by omega) (by omega)
      have hf := sp_RA_frd h4
      have g := fun {α : Type} (x : Option α) => zi_n (k := 10 + 5 * k + 1) (n := 70) (by omega) (by omega) x
      rw [fX4_freed_6, zT0, show Z.1 0 = zi (sp_n V) from by rw [h3.1.1, h.1], if_neg (by rw [zi_le (by omega) (by omega) (by omega) (by omega)]; omega), zi_row, zi_p1, g, zi_Tn (by omega), hpk, g, g, g, zi_suc]
      by_cases e : sp_per V k = p
      · rw [if_neg (fun q => q (c.mpr e))]
        rw [if_pos e] at hf
        exact ih (k + 1) fuel _ (by omega) (by omega) h3 hf
      · rw [if_pos (fun q => e (c.mp q))]
        rw [if_neg e] at hf
        exact ih (k + 1) fuel _ (by omega) (by omega) h3 hf
  obtain ⟨th, e1, e2⟩ := pX4_tries M
  have h2 : sp_RA th V := sp_RA_cong hn h e2
  unfold fX4_freed
  rw [e1, ob_some]
  exact key (sp_n V) 0 512 _ (by omega) (by omega) ⟨⟨rfl, rfl, rfl, rfl, rfl, rfl⟩, rfl⟩ (sp_RA_frd0 h2)
/-! the worst slip -/
theorem pX4_worst_11 {M : tw_Md} {V : tw_V} (h : sp_RA M.1 V) (hV : sp_ok V) (hP : sp_RB M.2.2.2.2.2.2.2.2.2.2.2.1 V (sp_plan V)) {d : Int} (d0 : 1 ≤ d) (d1 : d ≤ 20) : ∀ (m k fuel : Nat) (Z : tw_Md), k + m = sp_n V → m < fuel → sp_KP M Z → ∃ M', fX4_worst_11 (zi d) fuel (zi (sp_ws V d k).1) (zi (sp_ws V d k).2) (zi k) Z = some (zi (sp_ws V d (sp_n V)).1, M') ∧ sp_KP M M'
  | 0, k, fuel, Z, h1, h2, h3 => by
    have hn := sp_12 hV
    obtain ⟨fuel, rfl⟩ : ∃ f, fuel = f + 1 := ⟨fuel - 1, by omega⟩
    have : k = sp_n V := by omega
    subst this
    rw [fX4_worst_11, zT0, h3.1.1, h.1, if_pos ((zi_le (by omega) (by omega) (by omega) (by omega)).mpr (Int.le_refl _))]
    exact ⟨Z, rfl, h3⟩
  | m + 1, k, fuel, Z, h1, h2, h3 => by
    have hn := sp_12 hV
    obtain ⟨fuel, rfl⟩ : ∃ f, fuel = f + 1 := ⟨fuel - 1, by omega⟩
    have hk : k < sp_n V := by omega
    have hpl := sp_p_le hV hk
    have b := sp_ws_le hV d0 d1 k (by omega)
    have hpk : Z.2.2.2.2.2.2.2.2.2.2.2.1 k = zi (sp_plan V k) := by rw [h3.2]; exact hP k hk
    have hsz : Z.1 0 = zi (sp_n V) := by rw [h3.1.1, h.1]
    have g := fun {α : Type} (x : Option α) => zi_n (k := k) (n := 12) (by omega) (by omega) x
    have c1 : zi (sp_plan V k) = -1 ↔ sp_plan V k = -1 := zi_eq (b := -1) (by omega) (by omega) (by omega) (by omega)
    have c2 : (60 : Int32) < zi (sp_plan V k + d) ↔ 60 < sp_plan V k + d := zi_lt (a := 60) (by omega) (by omega) (by omega) (by omega)
    have ihz := pX4_worst_11 h hV hP d0 d1 m (k + 1) fuel Z (by omega) (by omega) h3
    rw [fX4_worst_11, zT0, hsz, if_neg (by rw [zi_le (by omega) (by omega) (by omega) (by omega)]; omega), g, g, g, zi_Tn (by omega), hpk, zi_add, zi_suc]
    rw [sp_ws] at ihz
    by_cases e1 : sp_plan V k = -1
    · rw [if_pos (c1.mpr e1)]
      rw [if_neg (fun q => q.1.1 e1)] at ihz
      exact ihz
    · rw [if_neg (fun q => e1 (c1.mp q))]
      by_cases e2 : 60 < sp_plan V k + d
      · rw [if_pos (c2.mpr e2)]
        rw [if_neg (fun q => absurd q.1.2 (by omega))] at ihz
        exact ihz
      · rw [if_neg (fun q => e2 (c2.mp q))]
        have hok : sp_ok (sp_set V 3 k (sp_plan V k + d)) := sp_ok_set3 hV (by omega) (by omega)
        obtain ⟨M', f1, f2, f3, f4⟩ := pX4_triesFrom (sp_RA_K h h3.1) hV hk (x := sp_plan V k + d) (by omega) (by omega)
        have f5 := sp_KP_t h3 f2
        have b3 := sp_E_le hok
        have g3 : fX4_end M'.2.1 M'.2.2.2.2.2.2.2.2.2.2.2.2 = some (zi (sp_E (sp_set V 3 k (sp_plan V k + d)))) := pX4_end f3 hok f4 (sp_bokp hok)
        have c3 : zi (sp_E (sp_set V 3 k (sp_plan V k + d))) ≤ zi (sp_ws V d k).2 ↔ sp_E (sp_set V 3 k (sp_plan V k + d)) ≤ (sp_ws V d k).2 := zi_le (by omega) (by omega) (by omega) (by omega)
        have ih := pX4_worst_11 h hV hP d0 d1 m (k + 1) fuel M' (by omega) (by omega) f5
        rw [sp_ws] at ih
        rw [f1, ob_some, g3, ob_some]
        unfold fX4_worst_87
        rw [zi_suc]
        by_cases e5 : sp_E (sp_set V 3 k (sp_plan V k + d)) ≤ (sp_ws V d k).2
        · rw [if_pos (c3.mpr e5), if_pos (c3.mpr e5)]
          rw [if_neg (fun q => absurd q.2 (by omega))] at ih
          exact ih
        · rw [if_neg (fun q => e5 (c3.mp q)), if_neg (fun q => e5 (c3.mp q))]
          rw [if_pos ⟨⟨e1, by omega⟩, by omega⟩] at ih
          exact ih
theorem pX4_worst {M : tw_Md} {V : tw_V} (h : sp_RA M.1 V) (hV : sp_ok V) {d : Int} (d0 : 1 ≤ d) (d1 : d ≤ 20) : ∃ M', fX4_worst M (zi d) = some (zi (sp_ws V d (sp_n V)).1, M') ∧ sp_KM M M' := by
  have hn := sp_12 hV
  obtain ⟨M1, e1, e2, e3⟩ := pX4_plans h hV
  unfold fX4_worst
  rw [e1, ob_some]
  obtain ⟨M', f1, f2⟩ := pX4_worst_11 (sp_RA_K h e2) hV e3 d0 d1 (sp_n V) 0 512 M1 (by omega) (by omega) (sp_KP_r M1)
  exact ⟨M', f1, sp_KM_t e2 f2.1⟩
