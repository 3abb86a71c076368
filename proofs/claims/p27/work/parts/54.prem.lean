/-! a task removed -/
theorem lo_1 : ∀ g, g < 12 → ∀ i, i < 32 → bt (((1 : Int32) <<< (nI g &&& 31)) - 1) i = decide (i < g) := by decide +kernel
def sp_wb (m : Int32) (g : Nat) : Int32 := (m &&& (((1 : Int32) <<< (zi (g : Int) &&& 31)) - (1 : Int32))) ||| ((m >>> ((1 : Int32) &&& 31)) &&& ((((1 : Int32) <<< (zi (g : Int) &&& 31)) - (1 : Int32)) ^^^ (-1 : Int32)))
theorem sp_wb_bit {m : Int32} {g i : Nat} (hg : g < 12) (hi : i < 32) : bt (sp_wb m g) i = if i < g then bt m i else if i + 1 < 32 then bt m (i + 1) else bt m 31 := by
  unfold sp_wb
  have h1 : (1 : Int32) &&& 31 = nI 1 &&& 31 := rfl
  rw [zi_nI, b_or, b_and, b_and, b_xor, lo_1 g hg i hi, b_m1 i hi, h1, b_sshr 1 (by omega) m hi]
  by_cases e : i < g
  · rw [if_pos e, decide_eq_true e]
    simp
  · rw [if_neg e, decide_eq_false e, Nat.add_comm 1 i]
    simp
theorem pX1_withoutBit {m : Int32} {g : Nat} (hg : g < 12) : fX1_withoutBit m (zi g) = some (sp_wb m g) := by
  unfold fX1_withoutBit
  apply congrArg some
  rw [zi_p1]
  apply b_ext
  intro i hi
  rw [sp_wb_bit hg hi, zi_nI, zi_nI, b_or, b_and, lo_1 g hg i hi, b_shl g (by omega) _ hi, b_sshr (g + 1) (by omega) m (show i - g < 32 by omega)]
  by_cases e : i < g
  · rw [if_pos e, decide_eq_true e, decide_eq_false (by omega)]
    simp
  · rw [if_neg e, decide_eq_false e, decide_eq_true (by omega), show g + 1 + (i - g) = i + 1 by omega]
    simp
theorem sp_wb_lo {m : Int32} {g t : Nat} (hg : g < 12) (ht : t ≤ g) (h : ∀ i, t ≤ i → bt m i = false) : sp_wb m g = m := by
  apply b_ext
  intro i hi
  rw [sp_wb_bit hg hi]
  by_cases e : i < g
  · rw [if_pos e]
  · rw [if_neg e, h i (by omega)]
    split
    · exact h _ (by omega)
    · exact h _ (by omega)
def sp_drp (V : tw_V) (g : Nat) : tw_V := (V.1 - 1, V.2.1, fun w t => if w < 4 ∧ g ≤ t then V.2.2.1 w (t + 1) else V.2.2.1 w t, fun t => sp_wb (V.2.2.2 (if g ≤ t then t + 1 else t)) g)
theorem sp_drp_h {V : tw_V} {g w t : Nat} (h : 4 ≤ w) : (sp_drp V g).2.2.1 w t = V.2.2.1 w t := if_neg (fun q => absurd q.1 (by omega))
theorem sp_drp_l {V : tw_V} {g w t : Nat} (h : t < g) : (sp_drp V g).2.2.1 w t = V.2.2.1 w t := if_neg (fun q => absurd q.2 (by omega))
theorem sp_drp_r {V : tw_V} {g w t : Nat} (hw : w < 4) (h : g ≤ t) : (sp_drp V g).2.2.1 w t = V.2.2.1 w (t + 1) := if_pos ⟨hw, h⟩
theorem sp_drp_ml {V : tw_V} {g t : Nat} (h : t < g) : (sp_drp V g).2.2.2 t = sp_wb (V.2.2.2 t) g := congrArg (fun u => sp_wb (V.2.2.2 u) g) (if_neg (by omega))
theorem sp_drp_mr {V : tw_V} {g t : Nat} (h : g ≤ t) : (sp_drp V g).2.2.2 t = sp_wb (V.2.2.2 (t + 1)) g := congrArg (fun u => sp_wb (V.2.2.2 u) g) (if_pos h)
theorem sp_drp_ok {V : tw_V} (h : sp_ok6 V) {g : Nat} (hg : g < sp_n V) : sp_ok6 (sp_drp V g) := by
  have hn := sp_12 h.1
  have hn' : V.1 ≤ 12 := hn
  have key : ∀ t, t < V.1 - 1 → sp_okT (sp_drp V g) t ∧ sp_ear (sp_drp V g) t ≤ 60 := by
    intro t ht
    unfold sp_okT sp_len sp_per sp_hal sp_ear sp_bit sp_msk
    by_cases e : t < g
    · rw [sp_drp_l e, sp_drp_l e, sp_drp_l e, sp_drp_l e, sp_drp_ml e]
      have h1 := h.1.2.2.2.1 t (show t < V.1 by omega)
      have h2 := h.2 t (show t < V.1 by omega)
      obtain ⟨a1, a2, a3, a4, a5, a6, a7, a8, a9⟩ := h1
      have a9' : ∀ i, t ≤ i → bt (V.2.2.2 t) i = false := a9
      rw [sp_wb_lo (by omega) (by omega) a9']
      exact ⟨⟨a1, a2, a3, a4, a5, a6, a7, a8, a9⟩, h2⟩
    · rw [sp_drp_r (by decide) (by omega), sp_drp_r (by decide) (by omega), sp_drp_r (by decide) (by omega), sp_drp_r (by decide) (by omega), sp_drp_mr (by omega)]
      have h1 := h.1.2.2.2.1 (t + 1) (show t + 1 < V.1 by omega)
      have h2 := h.2 (t + 1) (show t + 1 < V.1 by omega)
      obtain ⟨a1, a2, a3, a4, a5, a6, a7, a8, a9⟩ := h1
      have a9' : ∀ i, t + 1 ≤ i → bt (V.2.2.2 (t + 1)) i = false := a9
      refine ⟨⟨a1, a2, a3, a4, a5, a6, a7, a8, fun i hi => ?_⟩, h2⟩
      rcases Nat.lt_or_ge i 32 with h3 | h3
      · rw [sp_wb_bit (by omega) h3, if_neg (by omega)]
        split
        · exact a9' _ (by omega)
        · exact a9' _ (by omega)
      · exact b_big h3
  refine ⟨⟨?_, h.1.2.1, h.1.2.2.1, fun t ht => (key t ht).1, fun j hj => ?_⟩, fun t ht => (key t ht).2⟩
  · show V.1 - 1 ≤ 12
    omega
  · unfold sp_okH sp_fst sp_lst
    rw [sp_drp_h (by omega), sp_drp_h (by omega)]
    exact h.1.2.2.2.2 j hj
/-- a State holds a task -/
def sp_at (S : tw_St) (V : tw_V) (t : Nat) : Prop := S.1 t = zi (sp_len V t) ∧ S.2.1 t = zi (sp_per V t) ∧ S.2.2.1 t = zi (sp_hal V t) ∧ S.2.2.2.1 t = zi (sp_ear V t) ∧ S.2.2.2.2.1 t = sp_msk V t
theorem pX1_dropTask {S : tw_St} {V : tw_V} (h : sp_RS S V) (hV : sp_ok V) {g : Nat} (hg : g < sp_n V) : ∃ S', fX1_dropTask S (zi g) = some S' ∧ sp_RS S' (sp_drp V g) := by
  have hn := sp_12 hV
  have key : ∀ (m k fuel : Nat) (S : tw_St), k + m = sp_n V - 1 → m < fuel → g ≤ k → S.2.2.2.2.2.2.2.1 = zi ((sp_n V - 1 : Nat) : Int) → S.2.2.2.2.2.2.2.2 = zi (sp_rule V) → (∀ t, t < k → sp_at S (sp_drp V g) t) → (∀ t, k ≤ t → t < sp_n V → sp_at S V t) → (∀ h, h < 4 → S.2.2.2.2.2.1 h = zi (sp_fst V h) ∧ S.2.2.2.2.2.2.1 h = zi (sp_lst V h)) → ∃ S', fX1_dropTask_12 (zi g) fuel (zi k) S = some S' ∧ sp_RS S' (sp_drp V g) := by
    intro m
    induction m with
    | zero =>
      intro k fuel S h1 h2 h3 h4 h5 h6 h7 h8
      obtain ⟨fuel, rfl⟩ : ∃ f, fuel = f + 1 := ⟨fuel - 1, by omega⟩
      have : k = sp_n V - 1 := by omega
      subst this
      rw [fX1_dropTask_12, h4, if_pos ((zi_le (by omega) (by omega) (by omega) (by omega)).mpr (Int.le_refl _))]
      exact ⟨S, rfl, h4, h5, h6, fun j hj => by
        unfold sp_fst sp_lst
        rw [sp_drp_h (by omega), sp_drp_h (by omega)]
        exact h8 j hj⟩
    | succ m ih =>
      intro k fuel S h1 h2 h3 h4 h5 h6 h7 h8
      obtain ⟨fuel, rfl⟩ : ∃ f, fuel = f + 1 := ⟨fuel - 1, by omega⟩
      have g0 := fun {α : Type} (x : Option α) => zi_n (k := k) (n := 12) (by omega) (by omega) x
      have g1 := fun {α : Type} (x : Option α) => zi_n (k := k + 1) (n := 12) (by omega) (by omega) x
      rw [fX1_dropTask_12, h4, if_neg (by rw [zi_le (by omega) (by omega) (by omega) (by omega)]; omega), zi_p1]
      simp only [g0, g1, zi_Tn (show k < 2147483648 by omega), zi_Tn (show k + 1 < 2147483648 by omega), pX1_withoutBit (show g < 12 by omega), ob_some, zi_suc]
      refine ih (k + 1) fuel _ (by omega) (by omega) (by omega) rfl h5 (fun t ht => ?_) (fun t ht1 ht2 => ?_) h8
      · unfold sp_at
        (try dsimp only)
        by_cases e : t = k
        · subst e
          rw [upd_s, upd_s, upd_s, upd_s, upd_s]
          unfold sp_len sp_per sp_hal sp_ear sp_msk
          rw [sp_drp_r (by decide) h3, sp_drp_r (by decide) h3, sp_drp_r (by decide) h3, sp_drp_r (by decide) h3, sp_drp_mr h3]
          obtain ⟨q1, q2, q3, q4, q5⟩ := h7 (t + 1) (by omega) (by omega)
          exact ⟨q1, q2, q3, q4, congrArg (fun x => sp_wb x g) q5⟩
        · rw [upd_n e, upd_n e, upd_n e, upd_n e, upd_n e]
          exact h6 t (by omega)
      · unfold sp_at
        (try dsimp only)
        have e : t ≠ k := by omega
        rw [upd_n e, upd_n e, upd_n e, upd_n e, upd_n e]
        exact h7 t (by omega) ht2
  unfold fX1_dropTask
  refine key (sp_n V - 1 - g) g 512 _ (by omega) (by omega) (Nat.le_refl g) ?_ h.2.1 (fun t ht => ?_) (fun t _ ht => h.2.2.1 t ht) h.2.2.2
  · show S.2.2.2.2.2.2.2.1 - (1 : Int32) = _
    rw [h.1, z1, zi_sub]
    exact congrArg zi (by omega)
  · obtain ⟨q1, q2, q3, q4, q5⟩ := h.2.2.1 t (by omega)
    obtain ⟨a1, a2, a3, a4, a5, a6, a7, a8, a9⟩ := hV.2.2.2.1 t (by omega)
    have a9' : ∀ i, t ≤ i → bt (V.2.2.2 t) i = false := a9
    unfold sp_at sp_len sp_per sp_hal sp_ear sp_msk
    rw [sp_drp_l ht, sp_drp_l ht, sp_drp_l ht, sp_drp_l ht, sp_drp_ml ht, sp_wb_lo (by omega) (by omega) a9']
    exact ⟨q1, q2, q3, q4, q5⟩
