/-! what the class finds out with its trial rows -/
/-- but for the trial rows, nothing is changed -/
def sp_K (Y Y' : tw_Wl) : Prop := Y'.1 = Y.1 ∧ Y'.2.1 = Y.2.1 ∧ Y'.2.2.2.2.1 = Y.2.2.2.2.1 ∧ Y'.2.2.2.2.2.2 = Y.2.2.2.2.2.2
theorem sp_K_r (Y : tw_Wl) : sp_K Y Y := ⟨rfl, rfl, rfl, rfl⟩
theorem sp_K_t {Y Y' Y2 : tw_Wl} (h : sp_K Y Y') (h2 : sp_K Y' Y2) : sp_K Y Y2 := ⟨h2.1.trans h.1, h2.2.1.trans h.2.1, h2.2.2.1.trans h.2.2.1, h2.2.2.2.trans h.2.2.2⟩
theorem zi_prd (k : Nat) : zi ((k + 1 : Nat) : Int) + (-1) = zi (k : Int) := by
  rw [zm1, zi_add]
  exact congrArg zi (by omega)
theorem sp_RS_e3 {S : tw_St} {V : tw_V} (h : sp_RS S V) {t : Nat} {x : Int} : sp_RS (S.1, S.2.1, S.2.2.1, upd S.2.2.2.1 t (zi x), S.2.2.2.2.1, S.2.2.2.2.2.1, S.2.2.2.2.2.2.1, S.2.2.2.2.2.2.2.1, S.2.2.2.2.2.2.2.2) (sp_set V 3 t x) := sp_RS_set3 h
theorem pX3_tryRule {Y : tw_Wl} {V : tw_V} (h : sp_RS Y.1 V) (hV : sp_ok V) {r : Int} (h0 : 0 ≤ r) (h1 : r ≤ 3) : ∃ Y', fX3_tryRule Y (zi r) = some Y' ∧ sp_K Y Y' ∧ sp_RS Y'.2.2.1 (sp_rul V r) ∧ sp_RP Y'.2.2.2.1 (sp_rul V r) (sp_plan (sp_rul V r)) := by
  obtain ⟨S', e1, e2⟩ := pX1_copyFrom h hV Y.2.2.1
  obtain ⟨P', e3, e4⟩ := pX0_lay (sp_RS_rul e2) (sp_ok_rul hV h0 h1) Y.2.2.2.1
  unfold fX3_tryRule
  rw [e1, ob_some, e3, ob_some]
  exact ⟨_, rfl, ⟨rfl, rfl, rfl, rfl⟩, sp_RS_rul e2, e4⟩
theorem pX3_slackOf_31 {Y0 : tw_Wl} {V : tw_V} (h : sp_RS Y0.1 V) (hV : sp_ok V) (hP : sp_RP Y0.2.1 V (sp_plan V)) {t : Nat} (ht : t < sp_n V) (hp : sp_plan V t ≠ -1) : ∀ (m fuel : Nat) (Y : tw_Wl) (x : Int), m < fuel → m ≤ 30 → sp_K Y0 Y → sp_RS Y.2.2.1 (sp_set V 3 t x) → ∃ Y', fX3_slackOf_31 (zi t) fuel (zi (sp_plan V t)) (zi m) Y = some (zi (sp_sl V t m), Y') ∧ sp_K Y0 Y'
  | 0, fuel, Y, x, h1, h2, h3, h4 => by
    obtain ⟨fuel, rfl⟩ : ∃ f, fuel = f + 1 := ⟨fuel - 1, by omega⟩
    rw [fX3_slackOf_31, if_pos (by decide)]
    exact ⟨Y, rfl, h3⟩
  | m + 1, fuel, Y, x, h1, h2, h3, h4 => by
    have hn := sp_12 hV
    have hpl := sp_p_le hV ht
    obtain ⟨fuel, rfl⟩ : ∃ f, fuel = f + 1 := ⟨fuel - 1, by omega⟩
    have hok : sp_ok (sp_set V 3 t (sp_plan V t + ((m + 1 : Nat) : Int))) := sp_ok_set3 hV (by omega) (by omega)
    have hS := sp_RS_e3 (t := t) (x := sp_plan V t + ((m + 1 : Nat) : Int)) h4
    rw [sp_set_set] at hS
    obtain ⟨P', e1, e2⟩ := pX0_lay hS hok Y.2.2.2.1
    have b1 := sp_L_le hV
    have b2 := sp_L_le hok
    have b3 := sp_E_le hV
    have b4 := sp_E_le hok
    have c1 : P'.2.2.2.1 < Y.2.1.2.2.2.1 ↔ sp_L (sp_set V 3 t (sp_plan V t + ((m + 1 : Nat) : Int))) < sp_L V := by
      rw [e2.2.1, h3.2.1, hP.2.1]
      exact zi_lt (by unfold sp_L at b2; omega) (by unfold sp_L at b2; omega) (by unfold sp_L at b1; omega) (by unfold sp_L at b1; omega)
    have c2 : Y.2.1.2.2.2.2 < P'.2.2.2.2 ↔ sp_E V < sp_E (sp_set V 3 t (sp_plan V t + ((m + 1 : Nat) : Int))) := by
      rw [e2.2.2, h3.2.1, hP.2.2]
      exact zi_lt (by unfold sp_E at b3; omega) (by unfold sp_E at b3; omega) (by unfold sp_E at b4; omega) (by unfold sp_E at b4; omega)
    rw [fX3_slackOf_31, z0, if_neg (by rw [zi_le (by omega) (by omega) (by omega) (by omega)]; omega), zi_g (by omega) (by omega) (by omega), zi_Tn (by omega), zi_add, e1, ob_some, zi_prd, sp_sl]
    by_cases d1 : sp_L (sp_set V 3 t (sp_plan V t + ((m + 1 : Nat) : Int))) < sp_L V
    · rw [if_pos (c1.mpr d1), if_pos (Or.inl d1)]
      exact pX3_slackOf_31 h hV hP ht hp m fuel _ _ (by omega) (by omega) h3 hS
    · rw [if_neg (fun q => d1 (c1.mp q))]
      by_cases d2 : sp_E V < sp_E (sp_set V 3 t (sp_plan V t + ((m + 1 : Nat) : Int)))
      · rw [if_pos (c2.mpr d2), if_pos (Or.inr d2)]
        exact pX3_slackOf_31 h hV hP ht hp m fuel _ _ (by omega) (by omega) h3 hS
      · rw [if_neg (fun q => d2 (c2.mp q)), if_neg (fun q => q.elim d1 d2)]
        exact ⟨_, rfl, h3⟩
theorem pX3_slackOf {Y : tw_Wl} {V : tw_V} (h : sp_RS Y.1 V) (hV : sp_ok V) (hP : sp_RP Y.2.1 V (sp_plan V)) {t : Nat} (ht : t < sp_n V) : ∃ Y', fX3_slackOf Y (zi t) = some (zi (sp_slk V t), Y') ∧ sp_K Y Y' := by
  have hn := sp_12 hV
  have hpl := sp_p_le hV ht
  have c : Y.2.1.1 t = -1 ↔ sp_plan V t = -1 := by
    rw [hP.1 t ht, zm1]
    exact zi_eq (by omega) (by omega) (by omega) (by omega)
  obtain ⟨S', e1, e2⟩ := pX1_copyFrom h hV Y.2.2.1
  unfold fX3_slackOf sp_slk
  rw [zi_g (by omega) (by omega) (by omega), zi_Tn (by omega)]
  by_cases e : sp_plan V t = -1
  · rw [if_neg (fun q => q (c.mpr e)), if_pos e]
    exact ⟨Y, rfl, sp_K_r Y⟩
  · rw [if_pos (fun q => e (c.mp q)), if_neg e, e1, ob_some, hP.1 t ht]
    have e3 : sp_RS S' (sp_set V 3 t (sp_ear V t)) := by
      have : sp_set V 3 t (sp_ear V t) = V := sp_set_same
      rw [this]; exact e2
    exact pX3_slackOf_31 h hV hP ht e 30 512 _ _ (by omega) (by omega) ⟨rfl, rfl, rfl, rfl⟩ e3
theorem sp_RS_K {Y Y' : tw_Wl} {V : tw_V} (h : sp_RS Y.1 V) (hK : sp_K Y Y') : sp_RS Y'.1 V := by rw [hK.1]; exact h
theorem sp_RP_K {Y Y' : tw_Wl} {V : tw_V} {b : Nat → Int} (h : sp_RP Y.2.1 V b) (hK : sp_K Y Y') : sp_RP Y'.2.1 V b := by rw [hK.2.1]; exact h
theorem pX3_criticalTasks {Y : tw_Wl} {V : tw_V} (h : sp_RS Y.1 V) (hV : sp_ok V) (hP : sp_RP Y.2.1 V (sp_plan V)) : ∃ Y', fX3_criticalTasks Y = some (zi (sp_crit V), Y') ∧ sp_K Y Y' := by
  have hn := sp_12 hV
  have key : ∀ (m k fuel : Nat) (Z : tw_Wl), k + m = sp_n V → m < fuel → sp_K Y Z → ∃ Y', fX3_criticalTasks_4 fuel (zi (sp_sum (fun t => if sp_slk V t = 0 then 1 else 0) k)) (zi k) Z = some (zi (sp_crit V), Y') ∧ sp_K Y Y' := by
    intro m
    induction m with
    | zero =>
      intro k fuel Z h1 h2 h3
      obtain ⟨fuel, rfl⟩ : ∃ f, fuel = f + 1 := ⟨fuel - 1, by omega⟩
      have : k = sp_n V := by omega
      subst this
      rw [fX3_criticalTasks_4, h3.1, h.1, if_pos ((zi_le (by omega) (by omega) (by omega) (by omega)).mpr (Int.le_refl _))]
      exact ⟨Z, rfl, h3⟩
    | succ m ih =>
      intro k fuel Z h1 h2 h3
      obtain ⟨fuel, rfl⟩ : ∃ f, fuel = f + 1 := ⟨fuel - 1, by omega⟩
      obtain ⟨Z', e1, e2⟩ := pX3_slackOf (sp_RS_K h h3) hV (sp_RP_K hP h3) (t := k) (by omega)
      have b := sp_slk_le (V := V) (t := k)
      have c : zi (sp_slk V k) = 0 ↔ sp_slk V k = 0 := zi_eq (b := 0) (by omega) (by omega) (by omega) (by omega)
      have ih' := ih (k + 1) fuel Z' (by omega) (by omega) (sp_K_t h3 e2)
      rw [sp_sum] at ih'
      rw [fX3_criticalTasks_4, h3.1, h.1, if_neg (by rw [zi_le (by omega) (by omega) (by omega) (by omega)]; omega), e1, ob_some, zi_suc]
      by_cases d : sp_slk V k = 0
      · rw [if_pos d] at ih'
        rw [if_neg (fun q => q (c.mpr d)), show zi (sp_sum (fun t => if sp_slk V t = 0 then 1 else 0) k) + 1 = zi (sp_sum (fun t => if sp_slk V t = 0 then 1 else 0) k + 1) from zi_add _ 1]
        exact ih'
      · rw [if_neg d, Int.add_zero] at ih'
        rw [if_pos (fun q => d (c.mp q))]
        exact ih'
  exact key (sp_n V) 0 512 Y (by omega) (by omega) (sp_K_r Y)
/-! the longest row -/
theorem sp_ah_le {V : tw_V} {r : Nat → Int} {c : Int} {t : Nat} (h : ∀ i, 0 ≤ r i ∧ r i ≤ c) : ∀ o, 0 ≤ sp_ah V r t o ∧ sp_ah V r t o ≤ c
  | 0 => by
    have := h 0
    rw [sp_ah]; omega
  | o + 1 => by
    have ih := sp_ah_le (V := V) (t := t) h o
    have := h o
    rw [sp_ah]
    split <;> omega
theorem sp_rt_le {V : tw_V} (hV : sp_ok V) : ∀ k, k ≤ sp_n V → ∀ i, 0 ≤ sp_rt V k i ∧ sp_rt V k i ≤ 9 * k
  | 0, _, i => by
    show (0 : Int) ≤ 0 ∧ (0 : Int) ≤ 9 * ((0 : Nat) : Int)
    omega
  | k + 1, hk, i => by
    have ih := sp_rt_le hV k (by omega)
    have h1 := sp_ah_le (V := V) (t := k) ih k
    obtain ⟨l1, l2, -⟩ := hV.2.2.2.1 k (by omega)
    rw [sp_rt]
    by_cases e : i = k
    · subst e; rw [va_up_s]; omega
    · rw [va_up_n e]; have := ih i; omega
theorem sp_lg_le {V : tw_V} (hV : sp_ok V) : ∀ k, k ≤ sp_n V → 0 ≤ sp_lg V k ∧ sp_lg V k ≤ 9 * k
  | 0, _ => by rw [sp_lg]; omega
  | k + 1, hk => by
    have ih := sp_lg_le hV k (by omega)
    have h1 := sp_ah_le (V := V) (t := k) (sp_rt_le hV k (by omega)) k
    obtain ⟨l1, l2, -⟩ := hV.2.2.2.1 k (by omega)
    rw [sp_lg]
    split <;> omega
theorem pX3_longestRow_20 {Y : tw_Wl} {V : tw_V} (h : sp_RS Y.1 V) (hV : sp_ok V) (k4 : Int32 → Int32 → tw_Wl → Option (Int32 × tw_Wl)) {k : Nat} (hk : k < sp_n V) (hr : ∀ i, i < k → Y.2.2.2.2.2.1 i = zi (sp_rt V k i)) : ∀ (m o fuel : Nat), o + m = k → m < fuel →
    fX3_longestRow_20 k4 fuel (zi (sp_lg V k)) (zi k) (zi (sp_ah V (sp_rt V k) k o)) (zi o) Y = k4 (zi (sp_lg V (k + 1))) (zi ((k + 1 : Nat) : Int)) (Y.1, Y.2.1, Y.2.2.1, Y.2.2.2.1, Y.2.2.2.2.1, upd Y.2.2.2.2.2.1 k (zi (sp_ah V (sp_rt V k) k k + sp_len V k)), Y.2.2.2.2.2.2.1, Y.2.2.2.2.2.2.2.1, Y.2.2.2.2.2.2.2.2)
  | 0, o, fuel, h1, h2 => by
    have hn := sp_12 hV
    obtain ⟨fuel, rfl⟩ : ∃ f, fuel = f + 1 := ⟨fuel - 1, by omega⟩
    have : o = k := by omega
    subst this
    have b1 := sp_lg_le hV o (by omega)
    have b2 := sp_ah_le (V := V) (t := o) (sp_rt_le hV o (by omega)) o
    obtain ⟨l1, l2, -⟩ := hV.2.2.2.1 o hk
    have g := fun {α : Type} (x : Option α) => zi_g (a := (o : Int)) (n := 12) (x := x) (by omega) (by omega) (by omega)
    rw [fX3_longestRow_20, if_pos ((zi_le (by omega) (by omega) (by omega) (by omega)).mpr (Int.le_refl _)), g, g, g, zi_Tn (by omega), upd_s, sp_RS_len h o hk, zi_add, zi_max _ _ (by omega) (by omega) (by omega) (by omega), zi_suc, sp_lg]
  | m + 1, o, fuel, h1, h2 => by
    have hn := sp_12 hV
    obtain ⟨fuel, rfl⟩ : ∃ f, fuel = f + 1 := ⟨fuel - 1, by omega⟩
    have b2 := sp_ah_le (V := V) (t := k) (sp_rt_le hV k (by omega)) o
    have b3 := sp_rt_le hV k (by omega) o
    have ih := pX3_longestRow_20 h hV k4 hk hr m (o + 1) fuel (by omega) (by omega)
    have c0 : ¬ (1 : Int32) = 0 := by decide
    have g := fun {α : Type} (x : Option α) => zi_g (a := (o : Int)) (n := 12) (x := x) (by omega) (by omega) (by omega)
    rw [fX3_longestRow_20, if_neg (by rw [zi_le (by omega) (by omega) (by omega) (by omega)]; omega), pX1_isNeeded h hV hk (by omega), ob_some, zi_suc]
    rw [sp_ah] at ih
    by_cases e : sp_bit V k o = true
    · rw [if_pos e, if_neg c0, g, zi_Tn (by omega), hr o (by omega), zi_max _ _ (by omega) (by omega) (by omega) (by omega)]
      simp only [e, true_and] at ih
      exact ih
    · rw [if_neg e, if_pos rfl]
      rw [if_neg (fun q => e q.1)] at ih
      exact ih
theorem pX3_longestRow {Y : tw_Wl} {V : tw_V} (h : sp_RS Y.1 V) (hV : sp_ok V) : ∃ Y', fX3_longestRow Y = some (zi (sp_lg V (sp_n V)), Y') ∧ sp_K Y Y' := by
  have hn := sp_12 hV
  have key : ∀ (m k fuel : Nat) (Z : tw_Wl), k + m = sp_n V → m < fuel → sp_K Y Z → (∀ i, i < k → Z.2.2.2.2.2.1 i = zi (sp_rt V k i)) → ∃ Y', fX3_longestRow_4 fuel (zi (sp_lg V k)) (zi k) Z = some (zi (sp_lg V (sp_n V)), Y') ∧ sp_K Y Y' := by
    intro m
    induction m with
    | zero =>
      intro k fuel Z h1 h2 h3 h4
      obtain ⟨fuel, rfl⟩ : ∃ f, fuel = f + 1 := ⟨fuel - 1, by omega⟩
      have : k = sp_n V := by omega
      subst this
      rw [fX3_longestRow_4, h3.1, h.1, if_pos ((zi_le (by omega) (by omega) (by omega) (by omega)).mpr (Int.le_refl _))]
      exact ⟨Z, rfl, h3⟩
    | succ m ih =>
      intro k fuel Z h1 h2 h3 h4
      obtain ⟨fuel, rfl⟩ : ∃ f, fuel = f + 1 := ⟨fuel - 1, by omega⟩
      have e := pX3_longestRow_20 (sp_RS_K h h3) hV (fX3_longestRow_4 fuel) (by omega) h4 k 0 512 (by omega) (by omega)
      rw [fX3_longestRow_4, h3.1, h.1, if_neg (by rw [zi_le (by omega) (by omega) (by omega) (by omega)]; omega)]
      have e' : fX3_longestRow_20 (fX3_longestRow_4 fuel) 512 (zi (sp_lg V k)) (zi k) 0 0 Z = _ := e
      rw [e']
      refine ih (k + 1) fuel _ (by omega) (by omega) h3 (fun i hi => ?_)
      show upd Z.2.2.2.2.2.1 k _ i = zi (sp_rt V (k + 1) i)
      rw [sp_rt]
      by_cases q : i = k
      · subst q; rw [upd_s, va_up_s]
      · rw [upd_n q, va_up_n q]; exact h4 i (by omega)
  exact key (sp_n V) 0 512 Y (by omega) (by omega) (sp_K_r Y) (fun i hi => absurd hi (Nat.not_lt_zero i))
/-! the best rule -/
/-! a person freed -/
theorem sp_frd_per {V : tw_V} {p : Int} {k t : Nat} : sp_per (sp_frd V p k) t = if t < k ∧ sp_per V t = p then -1 else sp_per V t := by
  by_cases e : t < k ∧ sp_per V t = p
  · rw [if_pos e]
    exact if_pos ⟨rfl, e⟩
  · rw [if_neg e]
    exact if_neg (fun q => e q.2)
theorem sp_frd_ok {V : tw_V} (hV : sp_ok V) {p : Int} {k : Nat} : sp_ok (sp_frd V p k) := by
  refine ⟨hV.1, hV.2.1, hV.2.2.1, fun u hu => ?_, hV.2.2.2.2⟩
  obtain ⟨a1, a2, a3, a4, a5, a6, a7, a8, a9⟩ := hV.2.2.2.1 u hu
  have : -1 ≤ sp_per (sp_frd V p k) u ∧ sp_per (sp_frd V p k) u ≤ 5 := by
    rw [sp_frd_per]
    split <;> omega
  exact ⟨a1, a2, this.1, this.2, a5, a6, a7, a8, a9⟩
theorem sp_frd_RS0 {S : tw_St} {V : tw_V} (h : sp_RS S V) {p : Int} : sp_RS S (sp_frd V p 0) := by
  refine ⟨h.1, h.2.1, fun u hu => ?_, h.2.2.2⟩
  obtain ⟨a1, a2, a3, a4, a5⟩ := h.2.2.1 u hu
  refine ⟨a1, ?_, a3, a4, a5⟩
  rw [sp_frd_per, if_neg (fun q => absurd q.1 (Nat.not_lt_zero u))]
  exact a2
theorem sp_frd_RSn {S : tw_St} {V : tw_V} {p : Int} {k : Nat} (h : sp_RS S (sp_frd V p k)) (hp : sp_per V k ≠ p) : sp_RS S (sp_frd V p (k + 1)) := by
  refine ⟨h.1, h.2.1, fun u hu => ?_, h.2.2.2⟩
  obtain ⟨a1, a2, a3, a4, a5⟩ := h.2.2.1 u hu
  refine ⟨a1, ?_, a3, a4, a5⟩
  rw [sp_frd_per] at a2 ⊢
  rw [a2]
  by_cases e : u < k ∧ sp_per V u = p
  · rw [if_pos e, if_pos ⟨by omega, e.2⟩]
  · rw [if_neg e, if_neg (fun q => by
      by_cases q2 : u = k
      · subst q2; exact hp q.2
      · exact e ⟨by omega, q.2⟩)]
theorem sp_frd_RSy {S : tw_St} {V : tw_V} {p : Int} {k : Nat} (h : sp_RS S (sp_frd V p k)) (hp : sp_per V k = p) : sp_RS (S.1, upd S.2.1 k (-1), S.2.2.1, S.2.2.2.1, S.2.2.2.2.1, S.2.2.2.2.2.1, S.2.2.2.2.2.2.1, S.2.2.2.2.2.2.2.1, S.2.2.2.2.2.2.2.2) (sp_frd V p (k + 1)) := by
  refine ⟨h.1, h.2.1, fun u hu => ?_, h.2.2.2⟩
  obtain ⟨a1, a2, a3, a4, a5⟩ := h.2.2.1 u hu
  refine ⟨a1, ?_, a3, a4, a5⟩
  show upd S.2.1 k (-1) u = _
  rw [sp_frd_per] at a2 ⊢
  by_cases q2 : u = k
  · subst q2
    rw [upd_s, if_pos ⟨by omega, hp⟩]; rfl
  · rw [upd_n q2, a2]
    by_cases e : u < k ∧ sp_per V u = p
    · rw [if_pos e, if_pos ⟨by omega, e.2⟩]
    · rw [if_neg e, if_neg (fun q => e ⟨by omega, q.2⟩)]
def sp_F (V : tw_V) (p : Int) : Int := sp_E (sp_frd V p (sp_n V))
/-! the worst slip -/
theorem sp_ws_le {V : tw_V} (hV : sp_ok V) {d : Int} (d0 : 1 ≤ d) (d1 : d ≤ 20) : ∀ k, k ≤ sp_n V → (-1 ≤ (sp_ws V d k).1 ∧ (sp_ws V d k).1 < k) ∧ -1 ≤ (sp_ws V d k).2 ∧ (sp_ws V d k).2 ≤ 100
  | 0, _ => by
    show (-1 ≤ (-1 : Int) ∧ (-1 : Int) < ((0 : Nat) : Int)) ∧ -1 ≤ (-1 : Int) ∧ (-1 : Int) ≤ 100
    omega
  | k + 1, hk => by
    have ih := sp_ws_le hV d0 d1 k (by omega)
    have hpl := sp_p_le hV (t := k) (by omega)
    rw [sp_ws]
    by_cases e : (sp_plan V k ≠ -1 ∧ sp_plan V k + d ≤ 60) ∧ (sp_ws V d k).2 < sp_E (sp_set V 3 k (sp_plan V k + d))
    · rw [if_pos e]
      have := sp_E_le (sp_ok_set3 hV (t := k) (x := sp_plan V k + d) (by omega) (by omega))
      (try dsimp only)
      omega
    · rw [if_neg e]
      omega
theorem pX3_couldSlip {Y : tw_Wl} {V : tw_V} (hV : sp_ok V) (hP : sp_RP Y.2.1 V (sp_plan V)) {d : Int} (d0 : 1 ≤ d) (d1 : d ≤ 20) {t : Nat} (ht : t < sp_n V) : fX3_couldSlip Y (zi t) (zi d) = some (if sp_plan V t ≠ -1 ∧ sp_plan V t + d ≤ 60 then 1 else 0) := by
  have hn := sp_12 hV
  have hpl := sp_p_le hV ht
  unfold fX3_couldSlip
  rw [zi_g (by omega) (by omega) (by omega), zi_Tn (by omega), hP.1 t ht, zm1, zif_eq (by omega) (by omega) (by omega) (by omega), zi_add, show (60 : Int32) = zi 60 from rfl, zif_lt (by omega) (by omega) (by omega) (by omega)]
  by_cases e1 : sp_plan V t = -1
  · rw [if_pos e1, if_neg (fun q => q.1 e1)]
  · rw [if_neg e1]
    by_cases e2 : 60 < sp_plan V t + d
    · rw [if_pos e2, if_neg (fun q => absurd q.2 (by omega))]
    · rw [if_neg e2, if_pos ⟨e1, by omega⟩]
theorem pX3_worstSlip_22 {Y : tw_Wl} {V : tw_V} (h : sp_RS Y.1 V) (hV : sp_ok V) (hP : sp_RP Y.2.1 V (sp_plan V)) {d : Int} (d0 : 1 ≤ d) (d1 : d ≤ 20) : ∀ (m k fuel : Nat) (Z : tw_Wl), k + m = sp_n V → m < fuel → sp_K Y Z → ∃ Y', fX3_worstSlip_22 (zi d) fuel (zi (sp_ws V d k).1) (zi (sp_ws V d k).2) (zi k) Z = some (0, zi (sp_ws V d (sp_n V)).1, Y') ∧ sp_K Y Y'
  | 0, k, fuel, Z, h1, h2, h3 => by
    have hn := sp_12 hV
    obtain ⟨fuel, rfl⟩ : ∃ f, fuel = f + 1 := ⟨fuel - 1, by omega⟩
    have : k = sp_n V := by omega
    subst this
    rw [fX3_worstSlip_22, h3.1, h.1, if_pos ((zi_le (by omega) (by omega) (by omega) (by omega)).mpr (Int.le_refl _))]
    exact ⟨Z, rfl, h3⟩
  | m + 1, k, fuel, Z, h1, h2, h3 => by
    have hn := sp_12 hV
    obtain ⟨fuel, rfl⟩ : ∃ f, fuel = f + 1 := ⟨fuel - 1, by omega⟩
    have hk : k < sp_n V := by omega
    have hpl := sp_p_le hV hk
    have b := sp_ws_le hV d0 d1 k (by omega)
    have c0 : ¬ (1 : Int32) = 0 := by decide
    have g := fun {α : Type} (x : Option α) => zi_g (a := (k : Int)) (n := 12) (x := x) (by omega) (by omega) (by omega)
    rw [fX3_worstSlip_22, pX3_couldSlip hV (sp_RP_K hP h3) d0 d1 hk, ob_some, zi_suc]
    have hsz : Z.1.2.2.2.2.2.2.2.1 = zi (sp_n V) := by rw [h3.1, h.1]
    rw [hsz, if_neg (by rw [zi_le (by omega) (by omega) (by omega) (by omega)]; omega)]
    by_cases e : sp_plan V k ≠ -1 ∧ sp_plan V k + d ≤ 60
    · obtain ⟨S', e1, e2⟩ := pX1_copyFrom (sp_RS_K h h3) hV Z.2.2.1
      have hok : sp_ok (sp_set V 3 k (sp_plan V k + d)) := sp_ok_set3 hV (by omega) (by omega)
      have hS := sp_RS_e3 (t := k) (x := sp_plan V k + d) e2
      obtain ⟨P', e3, e4⟩ := pX0_lay hS hok Z.2.2.2.1
      have b3 := sp_E_le hok
      have hpk : Z.2.1.1 k = zi (sp_plan V k) := by rw [h3.2.1]; exact hP.1 k hk
      have l2 : P'.2.2.2.2 = zi (sp_E (sp_set V 3 k (sp_plan V k + d))) := e4.2.2
      have c3 : zi (sp_E (sp_set V 3 k (sp_plan V k + d))) ≤ zi (sp_ws V d k).2 ↔ sp_E (sp_set V 3 k (sp_plan V k + d)) ≤ (sp_ws V d k).2 := zi_le (by omega) (by omega) (by omega) (by omega)
      rw [if_pos e, if_neg c0, e1, ob_some, g, g, zi_Tn (by omega), hpk, zi_add, e3, ob_some, l2]
      have ih := pX3_worstSlip_22 h hV hP d0 d1 m (k + 1) fuel (Z.1, Z.2.1, (S'.1, S'.2.1, S'.2.2.1, (upd S'.2.2.2.1 k (zi (sp_plan V k + d))), S'.2.2.2.2.1, S'.2.2.2.2.2.1, S'.2.2.2.2.2.2.1, S'.2.2.2.2.2.2.2.1, S'.2.2.2.2.2.2.2.2), P', Z.2.2.2.2.1, Z.2.2.2.2.2.1, Z.2.2.2.2.2.2.1, Z.2.2.2.2.2.2.2.1, Z.2.2.2.2.2.2.2.2) (by omega) (by omega) h3
      rw [sp_ws] at ih
      by_cases e5 : sp_E (sp_set V 3 k (sp_plan V k + d)) ≤ (sp_ws V d k).2
      · rw [if_pos (c3.mpr e5)]
        rw [if_neg (fun q => absurd q.2 (by omega))] at ih
        exact ih
      · rw [if_neg (fun q => e5 (c3.mp q))]
        rw [if_pos ⟨e, by omega⟩] at ih
        exact ih
    · rw [if_neg e, if_pos rfl]
      have ih := pX3_worstSlip_22 h hV hP d0 d1 m (k + 1) fuel Z (by omega) (by omega) h3
      rw [sp_ws, if_neg (fun q => e q.1)] at ih
      exact ih
