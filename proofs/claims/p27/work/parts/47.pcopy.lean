/-! copies, sums and other looks of the class's State and Plan -/
theorem pX1_copyFrom {O : tw_St} {V : tw_V} (h : sp_RS O V) (hV : sp_ok V) (S : tw_St) : ∃ S', fX1_copyFrom S O = some S' ∧ sp_RS S' V := by
  have hn := sp_12 hV
  have halls : ∀ (m k fuel : Nat) (S : tw_St), k + m = 4 → m < fuel → (S.2.2.2.2.2.2.2.1 = zi (sp_n V) ∧ S.2.2.2.2.2.2.2.2 = zi (sp_rule V)) → (∀ t, t < sp_n V → S.1 t = zi (sp_len V t) ∧ S.2.1 t = zi (sp_per V t) ∧ S.2.2.1 t = zi (sp_hal V t) ∧ S.2.2.2.1 t = zi (sp_ear V t) ∧ S.2.2.2.2.1 t = sp_msk V t) → (∀ h, h < k → S.2.2.2.2.2.1 h = zi (sp_fst V h) ∧ S.2.2.2.2.2.2.1 h = zi (sp_lst V h)) → ∃ S', fX1_copyFrom_94 O fuel (zi k) S = some S' ∧ sp_RS S' V := by
    intro m
    induction m with
    | zero =>
      intro k fuel S h1 h2 h3 h4 h5
      obtain ⟨fuel, rfl⟩ : ∃ f, fuel = f + 1 := ⟨fuel - 1, by omega⟩
      have : k = 4 := by omega
      subst this
      rw [fX1_copyFrom_94, if_pos (by decide)]
      exact ⟨S, rfl, h3.1, h3.2, h4, h5⟩
    | succ m ih =>
      intro k fuel S h1 h2 h3 h4 h5
      obtain ⟨fuel, rfl⟩ : ∃ f, fuel = f + 1 := ⟨fuel - 1, by omega⟩
      have g := fun {α : Type} (x : Option α) => zi_g (a := (k : Int)) (n := 4) (x := x) (by omega) (by omega) (by omega)
      rw [fX1_copyFrom_94, show (4 : Int32) = zi 4 from rfl, if_neg (by rw [zi_le (by omega) (by omega) (by omega) (by omega)]; omega), g, g, g, g, zi_Tn (by omega), zi_suc]
      refine ih (k + 1) fuel _ (by omega) (by omega) h3 h4 (fun j hj => ?_)
      (try dsimp only)
      by_cases e : j = k
      · subst e; rw [upd_s, upd_s]; exact h.2.2.2 j (by omega)
      · rw [upd_n e, upd_n e]; exact h5 j (by omega)
  have tasks : ∀ (m k fuel : Nat) (S : tw_St), k + m = sp_n V → m < fuel → (S.2.2.2.2.2.2.2.1 = zi (sp_n V) ∧ S.2.2.2.2.2.2.2.2 = zi (sp_rule V)) → (∀ t, t < k → S.1 t = zi (sp_len V t) ∧ S.2.1 t = zi (sp_per V t) ∧ S.2.2.1 t = zi (sp_hal V t) ∧ S.2.2.2.1 t = zi (sp_ear V t) ∧ S.2.2.2.2.1 t = sp_msk V t) → ∃ S', fX1_copyFrom_18 O fuel (zi k) S = some S' ∧ sp_RS S' V := by
    intro m
    induction m with
    | zero =>
      intro k fuel S h1 h2 h3 h4
      obtain ⟨fuel, rfl⟩ : ∃ f, fuel = f + 1 := ⟨fuel - 1, by omega⟩
      have : k = sp_n V := by omega
      subst this
      rw [fX1_copyFrom_18, h3.1, if_pos ((zi_le (by omega) (by omega) (by omega) (by omega)).mpr (Int.le_refl _))]
      exact halls 4 0 512 S (by omega) (by omega) h3 h4 (fun j hj => absurd hj (Nat.not_lt_zero j))
    | succ m ih =>
      intro k fuel S h1 h2 h3 h4
      obtain ⟨fuel, rfl⟩ : ∃ f, fuel = f + 1 := ⟨fuel - 1, by omega⟩
      have g := fun {α : Type} (x : Option α) => zi_g (a := (k : Int)) (n := 12) (x := x) (by omega) (by omega) (by omega)
      rw [fX1_copyFrom_18, h3.1, if_neg (by rw [zi_le (by omega) (by omega) (by omega) (by omega)]; omega), g, g, g, g, g, g, g, g, g, g, zi_Tn (by omega), zi_suc]
      refine ih (k + 1) fuel _ (by omega) (by omega) ⟨rfl, h3.2⟩ (fun j hj => ?_)
      (try dsimp only)
      by_cases e : j = k
      · subst e; rw [upd_s, upd_s, upd_s, upd_s, upd_s]; exact h.2.2.1 j (by omega)
      · rw [upd_n e, upd_n e, upd_n e, upd_n e, upd_n e]; exact h4 j (by omega)
  unfold fX1_copyFrom
  exact tasks (sp_n V) 0 512 _ (by omega) (by omega) ⟨h.1, h.2.1⟩ (fun t ht => absurd ht (Nat.not_lt_zero t))
theorem sp_slen_le {V : tw_V} (hV : sp_ok V) (p : Nat → Prop) [DecidablePred p] : ∀ k, k ≤ sp_n V → 0 ≤ sp_sum (fun t => if p t then sp_len V t else 0) k ∧ sp_sum (fun t => if p t then sp_len V t else 0) k ≤ k * 9 := by
  intro k hk
  exact sp_sum_le (fun t ht => by
    obtain ⟨l1, l2, -⟩ := hV.2.2.2.1 t (by omega)
    (try dsimp only)
    split <;> omega)
theorem pX1_lengthOfAll {S : tw_St} {V : tw_V} (h : sp_RS S V) (hV : sp_ok V) : fX1_lengthOfAll S = some (zi (sp_sum (sp_len V) (sp_n V))) := by
  have hn := sp_12 hV
  unfold fX1_lengthOfAll
  refine lup (fun fuel k => fX1_lengthOfAll_4 S fuel (zi (sp_sum (sp_len V) k)) (zi k)) _ (sp_n V) (fun fuel => ?_) (fun fuel k hk => ?_) 512 (by omega)
  · (try dsimp only)
    rw [fX1_lengthOfAll_4, h.1, if_pos ((zi_le (by omega) (by omega) (by omega) (by omega)).mpr (Int.le_refl _))]
  · (try dsimp only)
    rw [fX1_lengthOfAll_4, h.1, if_neg (by rw [zi_le (by omega) (by omega) (by omega) (by omega)]; omega), zi_g (by omega) (by omega) (by omega), zi_Tn (by omega), sp_RS_len h k hk, zi_add, zi_suc]
    rfl
/-- the sum of the lengths of those that are laid, where p holds -/
theorem pX0_lengthOfLaid {P : tw_Pl} {S : tw_St} {V : tw_V} {b : Nat → Int} (h : sp_RS S V) (hV : sp_ok V) (hB : sp_RB P.1 V b) (hb : sp_bok V b) : fX0_lengthOfLaid P S = some (zi (sp_sum (fun t => if b t ≠ -1 then sp_len V t else 0) (sp_n V))) := by
  have hn := sp_12 hV
  unfold fX0_lengthOfLaid
  refine lup (fun fuel k => fX0_lengthOfLaid_4 P S fuel (zi (sp_sum (fun t => if b t ≠ -1 then sp_len V t else 0) k)) (zi k)) _ (sp_n V) (fun fuel => ?_) (fun fuel k hk => ?_) 512 (by omega)
  · (try dsimp only)
    rw [fX0_lengthOfLaid_4, h.1, if_pos ((zi_le (by omega) (by omega) (by omega) (by omega)).mpr (Int.le_refl _))]
  · (try dsimp only)
    have h2 := sp_b_le hV hb hk
    have g := fun {α : Type} (x : Option α) => zi_g (a := (k : Int)) (n := 12) (x := x) (by omega) (by omega) (by omega)
    rw [fX0_lengthOfLaid_4, h.1, if_neg (by rw [zi_le (by omega) (by omega) (by omega) (by omega)]; omega), g, g, zi_Tn (by omega), hB k hk, sp_RS_len h k hk, zi_add, zi_suc, zm1, zif_eq (by omega) (by omega) (by omega) (by omega), sp_sum]
    by_cases e : b k = -1
    · rw [if_pos e, if_neg (fun q => q e), Int.add_zero]
    · rw [if_neg e, if_pos e]
theorem pX0_daysIn {P : tw_Pl} {S : tw_St} {V : tw_V} {b : Nat → Int} (h : sp_RS S V) (hV : sp_ok V) (hB : sp_RB P.1 V b) (hb : sp_bok V b) {a : Int} (a1 : 0 ≤ a) (a2 : a < 100) : fX0_daysIn P S (zi a) = some (zi (sp_sum (fun t => if sp_hal V t = a ∧ b t ≠ -1 then sp_len V t else 0) (sp_n V))) := by
  have hn := sp_12 hV
  unfold fX0_daysIn
  refine lup (fun fuel k => fX0_daysIn_5 P S (zi a) fuel (zi (sp_sum (fun t => if sp_hal V t = a ∧ b t ≠ -1 then sp_len V t else 0) k)) (zi k)) _ (sp_n V) (fun fuel => ?_) (fun fuel k hk => ?_) 512 (by omega)
  · (try dsimp only)
    rw [fX0_daysIn_5, h.1, if_pos ((zi_le (by omega) (by omega) (by omega) (by omega)).mpr (Int.le_refl _))]
  · (try dsimp only)
    have h2 := sp_b_le hV hb hk
    obtain ⟨-, -, -, -, q1, q2, -⟩ := hV.2.2.2.1 k hk
    have g := fun {α : Type} (x : Option α) => zi_g (a := (k : Int)) (n := 12) (x := x) (by omega) (by omega) (by omega)
    rw [fX0_daysIn_5, h.1, if_neg (by rw [zi_le (by omega) (by omega) (by omega) (by omega)]; omega), g, g, g, zi_Tn (by omega), hB k hk, sp_RS_len h k hk, sp_RS_hal h k hk, zi_add, zi_suc, zm1, zif_eq (by omega) (by omega) (by omega) (by omega), zif_ne (by omega) (by omega) (by omega) (by omega), sp_sum]
    by_cases e : b k = -1
    · rw [if_pos e, if_neg (fun q => q.2 e), Int.add_zero]
    · rw [if_neg e]
      by_cases e2 : sp_hal V k = a
      · rw [if_pos e2, if_pos ⟨e2, e⟩]
      · rw [if_neg e2, if_neg (fun q => e2 q.1), Int.add_zero]
theorem pX0_tasksIn {P : tw_Pl} {S : tw_St} {V : tw_V} {b : Nat → Int} (h : sp_RS S V) (hV : sp_ok V) (hB : sp_RB P.1 V b) (hb : sp_bok V b) {a : Int} (a1 : 0 ≤ a) (a2 : a < 100) : fX0_tasksIn P S (zi a) = some (zi (sp_sum (fun t => if sp_hal V t = a ∧ b t ≠ -1 then 1 else 0) (sp_n V))) := by
  have hn := sp_12 hV
  unfold fX0_tasksIn
  refine lup (fun fuel k => fX0_tasksIn_5 P S (zi a) fuel (zi (sp_sum (fun t => if sp_hal V t = a ∧ b t ≠ -1 then 1 else 0) k)) (zi k)) _ (sp_n V) (fun fuel => ?_) (fun fuel k hk => ?_) 512 (by omega)
  · (try dsimp only)
    rw [fX0_tasksIn_5, h.1, if_pos ((zi_le (by omega) (by omega) (by omega) (by omega)).mpr (Int.le_refl _))]
  · (try dsimp only)
    have h2 := sp_b_le hV hb hk
    obtain ⟨-, -, -, -, q1, q2, -⟩ := hV.2.2.2.1 k hk
    have g := fun {α : Type} (x : Option α) => zi_g (a := (k : Int)) (n := 12) (x := x) (by omega) (by omega) (by omega)
    rw [fX0_tasksIn_5, h.1, if_neg (by rw [zi_le (by omega) (by omega) (by omega) (by omega)]; omega), g, g, zi_Tn (by omega), hB k hk, sp_RS_hal h k hk, zi_suc, zm1, zif_eq (by omega) (by omega) (by omega) (by omega), zif_ne (by omega) (by omega) (by omega) (by omega), sp_sum, show zi (sp_sum (fun t => if sp_hal V t = a ∧ b t ≠ -1 then 1 else 0) k) + 1 = zi (sp_sum (fun t => if sp_hal V t = a ∧ b t ≠ -1 then 1 else 0) k + 1) by rw [z1, zi_add]]
    by_cases e : b k = -1
    · rw [if_pos e, if_neg (fun q => q.2 e), Int.add_zero]
    · rw [if_neg e]
      by_cases e2 : sp_hal V k = a
      · rw [if_pos e2, if_pos ⟨e2, e⟩]
      · rw [if_neg e2, if_neg (fun q => e2 q.1), Int.add_zero]
/-- who is there on a day: the first of the tasks from k on -/
def sp_on (V : tw_V) (b own : Nat → Int) (a d : Int) : Nat → Nat → Int
  | 0, _ => -1
  | m + 1, k => if (b k ≠ -1 ∧ own k = a) ∧ b k ≤ d ∧ d < b k + sp_len V k then (k : Int) else sp_on V b own a d m (k + 1)
theorem pX0_taskOnP {P : tw_Pl} {S : tw_St} {V : tw_V} {b : Nat → Int} (h : sp_RS S V) (hV : sp_ok V) (hB : sp_RB P.1 V b) (hb : sp_bok V b) {a d : Int} (a1 : 0 ≤ a) (a2 : a < 100) (d1 : 0 ≤ d) (d2 : d < 100) : fX0_taskOnP P S (zi a) (zi d) = some (zi (sp_on V b (sp_per V) a d (sp_n V) 0)) := by
  have hn := sp_12 hV
  unfold fX0_taskOnP
  refine ldn (fun fuel k => fX0_taskOnP_3 P S (zi a) (zi d) fuel (zi k)) (fun k => zi (sp_on V b (sp_per V) a d (sp_n V - k) k)) (sp_n V) (fun fuel => ?_) (fun fuel k hk hr => ?_) 0 512 (by omega) (by omega)
  · (try dsimp only)
    rw [fX0_taskOnP_3, h.1, if_pos ((zi_le (by omega) (by omega) (by omega) (by omega)).mpr (Int.le_refl _)), Nat.sub_self]
    rfl
  · (try dsimp only at hr ⊢)
    have h2 := sp_b_le hV hb hk
    obtain ⟨l1, l2, q1, q2, -⟩ := hV.2.2.2.1 k hk
    have g := fun {α : Type} (x : Option α) => zi_g (a := (k : Int)) (n := 12) (x := x) (by omega) (by omega) (by omega)
    rw [fX0_taskOnP_3, h.1, if_neg (by rw [zi_le (by omega) (by omega) (by omega) (by omega)]; omega)]
    simp only [g, zi_Tn (show k < 2147483648 by omega), hB k hk, sp_RS_len h k hk, sp_RS_per h k hk, zi_add, zi_suc, hr]
    rw [zm1, zif_eq (by omega) (by omega) (by omega) (by omega), zif_ne (by omega) (by omega) (by omega) (by omega), zif_lt (by omega) (by omega) (by omega) (by omega), zif_le (by omega) (by omega) (by omega) (by omega), show sp_n V - k = (sp_n V - (k + 1)) + 1 by omega, sp_on]
    by_cases e1 : b k = -1
    · rw [if_pos e1, if_neg (fun q => q.1.1 e1)]
    · rw [if_neg e1]
      by_cases e2 : sp_per V k = a
      · rw [if_pos e2]
        by_cases e3 : d < b k
        · rw [if_pos e3, if_neg (by omega)]
        · rw [if_neg e3]
          by_cases e4 : b k + sp_len V k ≤ d
          · rw [if_pos e4, if_neg (by omega)]
          · rw [if_neg e4, if_pos ⟨⟨e1, e2⟩, by omega, by omega⟩]
      · rw [if_neg e2, if_neg (fun q => e2 q.1.2)]
theorem pX0_taskOnH {P : tw_Pl} {S : tw_St} {V : tw_V} {b : Nat → Int} (h : sp_RS S V) (hV : sp_ok V) (hB : sp_RB P.1 V b) (hb : sp_bok V b) {a d : Int} (a1 : 0 ≤ a) (a2 : a < 100) (d1 : 0 ≤ d) (d2 : d < 100) : fX0_taskOnH P S (zi a) (zi d) = some (zi (sp_on V b (sp_hal V) a d (sp_n V) 0)) := by
  have hn := sp_12 hV
  unfold fX0_taskOnH
  refine ldn (fun fuel k => fX0_taskOnH_3 P S (zi a) (zi d) fuel (zi k)) (fun k => zi (sp_on V b (sp_hal V) a d (sp_n V - k) k)) (sp_n V) (fun fuel => ?_) (fun fuel k hk hr => ?_) 0 512 (by omega) (by omega)
  · (try dsimp only)
    rw [fX0_taskOnH_3, h.1, if_pos ((zi_le (by omega) (by omega) (by omega) (by omega)).mpr (Int.le_refl _)), Nat.sub_self]
    rfl
  · (try dsimp only at hr ⊢)
    have h2 := sp_b_le hV hb hk
    obtain ⟨l1, l2, -, -, q1, q2, -⟩ := hV.2.2.2.1 k hk
    have g := fun {α : Type} (x : Option α) => zi_g (a := (k : Int)) (n := 12) (x := x) (by omega) (by omega) (by omega)
    rw [fX0_taskOnH_3, h.1, if_neg (by rw [zi_le (by omega) (by omega) (by omega) (by omega)]; omega)]
    simp only [g, zi_Tn (show k < 2147483648 by omega), hB k hk, sp_RS_len h k hk, sp_RS_hal h k hk, zi_add, zi_suc, hr]
    rw [zm1, zif_eq (by omega) (by omega) (by omega) (by omega), zif_ne (by omega) (by omega) (by omega) (by omega), zif_lt (by omega) (by omega) (by omega) (by omega), zif_le (by omega) (by omega) (by omega) (by omega), show sp_n V - k = (sp_n V - (k + 1)) + 1 by omega, sp_on]
    by_cases e1 : b k = -1
    · rw [if_pos e1, if_neg (fun q => q.1.1 e1)]
    · rw [if_neg e1]
      by_cases e2 : sp_hal V k = a
      · rw [if_pos e2]
        by_cases e3 : d < b k
        · rw [if_pos e3, if_neg (by omega)]
        · rw [if_neg e3]
          by_cases e4 : b k + sp_len V k ≤ d
          · rw [if_pos e4, if_neg (by omega)]
          · rw [if_neg e4, if_pos ⟨⟨e1, e2⟩, by omega, by omega⟩]
      · rw [if_neg e2, if_neg (fun q => e2 q.1.2)]
/-- the days for which a task waits -/
def sp_wai (V : tw_V) (b : Nat → Int) (t : Nat) : Int := if b t = -1 then 0 else b t - sp_start V b t
/-- laid tasks need only laid ones -/
def sp_cl (V : tw_V) (b : Nat → Int) : Prop := ∀ t, t < sp_n V → b t ≠ -1 → ∀ o, o < t → sp_bit V t o = true → b o ≠ -1
theorem pX0_waitOf {P : tw_Pl} {S : tw_St} {V : tw_V} {b : Nat → Int} (h : sp_RS S V) (hV : sp_ok V) (hB : sp_RB P.1 V b) (hb : sp_bok V b) (hc : sp_cl V b) {t : Nat} (ht : t < sp_n V) : fX0_waitOf P S (zi t) = some (zi (sp_wai V b t)) := by
  have hn := sp_12 hV
  have h2 := sp_b_le hV hb ht
  have g := fun {α : Type} (x : Option α) => zi_g (a := (t : Int)) (n := 12) (x := x) (by omega) (by omega) (by omega)
  unfold fX0_waitOf sp_wai
  rw [g, g, zi_Tn (by omega), hB t ht, zm1, zif_ne (by omega) (by omega) (by omega) (by omega)]
  by_cases e : b t = -1
  · rw [if_pos e, if_pos e]; rfl
  · rw [if_neg e, if_neg e, pX0_startOf h hV hB hb ht (hc t ht e), ob_some, zi_sub]
theorem pX0_waitOfAll {P : tw_Pl} {S : tw_St} {V : tw_V} {b : Nat → Int} (h : sp_RS S V) (hV : sp_ok V) (hB : sp_RB P.1 V b) (hb : sp_bok V b) (hc : sp_cl V b) : fX0_waitOfAll P S = some (zi (sp_sum (sp_wai V b) (sp_n V))) := by
  have hn := sp_12 hV
  unfold fX0_waitOfAll
  refine lup (fun fuel k => fX0_waitOfAll_4 P S fuel (zi (sp_sum (sp_wai V b) k)) (zi k)) _ (sp_n V) (fun fuel => ?_) (fun fuel k hk => ?_) 512 (by omega)
  · (try dsimp only)
    rw [fX0_waitOfAll_4, h.1, if_pos ((zi_le (by omega) (by omega) (by omega) (by omega)).mpr (Int.le_refl _))]
  · (try dsimp only)
    rw [fX0_waitOfAll_4, h.1, if_neg (by rw [zi_le (by omega) (by omega) (by omega) (by omega)]; omega), pX0_waitOf h hV hB hb hc hk, ob_some, zi_add, zi_suc]
    rfl
