/-! the law's act -/
theorem qa_and (x : Int32) : 0 ≤ (x &&& (2147483647 : Int32)).toInt := by
  have h : bt (x &&& (2147483647 : Int32)) 31 = false := by
    rw [b_and, show bt (2147483647 : Int32) 31 = false by decide +kernel, Bool.and_false]
  refine BitVec.toInt_nonneg_of_msb_false (x := (x &&& (2147483647 : Int32)).toBitVec) ?_
  rw [BitVec.msb_eq_getLsbD_last]
  exact h
theorem qa_low (x : Int32) {n : Int} (n1 : 1 ≤ n) (n2 : n < 1000) : ∃ r : Int, 0 ≤ r ∧ r < n ∧ fL_low x (zi n) = some (zi r) := by
  have h0 := qa_and x
  obtain ⟨a, a1, a2, ha⟩ := zi_any (x &&& (2147483647 : Int32))
  rw [ha, zi_toInt a1 a2] at h0
  have m1 : Int32.minValue.toInt = -2147483648 := by decide
  have m2 : Int32.maxValue.toInt = 2147483647 := by decide
  have hd : zi a / zi n = zi (a / n) := by
    have := Int32.ofInt_tdiv (a := a) (b := n) (by rw [m1]; exact a1) (by rw [m2]; omega) (by rw [m1]; omega) (by rw [m2]; omega)
    rw [Int.tdiv_eq_ediv_of_nonneg h0] at this
    exact this.symm
  refine ⟨a % n, Int.emod_nonneg a (by omega), Int.emod_lt_of_pos a (by omega), ?_⟩
  have hne : ¬ zi n = (0 : Int32) := fun q => absurd ((zi_0 (by omega) (by omega)).mp q) (by omega)
  unfold fL_low
  rw [zi_q hne, ha, hd, zi_mul, zi_sub, Int.emod_def, Int.mul_comm n]
theorem qa_cell {L k : Nat} {xs : Nat → Int32} (hL : L ≤ 260) (hk : k < L) : fL_cell L xs (zi (k : Int)) = some (xs k) := by
  have e : Int32.ofNat L = zi (L : Int) := (zi_nI L).symm
  unfold fL_cell
  rw [e, if_neg (by rw [zi_le (by omega) (by omega) (by omega) (by omega)]; omega), zi_n hk (by omega), zi_Tn (by omega)]
/-- a turn: something is done, and it answers more than -200; or nothing, and -200 -/
def qa_R (Y : tw_Wl) (X : Option (Int32 × tw_Wl)) : Prop := ∃ (r : Int32) (Y' : tw_Wl), X = some (r, Y') ∧ (((∃ x : Int, r = zi x ∧ -200 < x ∧ x < 1000) ∧ ∃ g, qp_I Y' g) ∨ (r = (-200 : Int32) ∧ sp_K Y Y'))
theorem qa_hlp {Y : tw_Wl} {X : Option (Nat × Int32 × tw_Wl)} (h : qp_R Y X) : qa_R Y ((X.bind fun r => tw_q (r.1 = 0 ∨ r.1 = 2) <| some (if r.1 = 0 then r.2.1 else (-200 : Int32), r.2.2)).bind fun r => some (r.1, r.2)) := by
  obtain ⟨kc, r, Y', rfl, hh⟩ := h
  rw [ob_some]
  rcases hh with ⟨rfl, ⟨x, hx, x1, x2⟩, g, hg⟩ | ⟨rfl, rfl⟩
  · rw [zi_q (Or.inl rfl), ob_some]
    exact ⟨r, Y', rfl, Or.inl ⟨⟨x, hx, x1, x2⟩, g, hg⟩⟩
  · rw [zi_q (Or.inr rfl), ob_some]
    exact ⟨_, _, rfl, Or.inr ⟨rfl, sp_K_r _⟩⟩
theorem qa_dir {Y : tw_Wl} {X : Option (Nat × Int32 × tw_Wl)} (h : qp_Z X) : qa_R Y (X.bind fun r => tw_q (r.1 = 0) <| some (r.2.1, r.2.2)) := by
  obtain ⟨r, Y', rfl, hx, hg⟩ := h
  rw [ob_some, zi_q rfl]
  exact ⟨_, _, rfl, Or.inl ⟨hx, hg⟩⟩
theorem qa_R_K {Y Z : tw_Wl} (hK : sp_K Y Z) {X : Option (Int32 × tw_Wl)} (h : qa_R Z X) : qa_R Y X := by
  obtain ⟨r, Y', e, h⟩ := h
  exact ⟨r, Y', e, h.imp id (fun q => ⟨q.1, sp_K_t hK q.2⟩)⟩
theorem qa_add {Y : tw_Wl} {g : tw_H} (h : qp_I Y g) {a b c : Int} (e1 : 1 ≤ a ∧ a ≤ 9) (e2 : -1 ≤ b ∧ b ≤ 5) (e3 : -1 ≤ c ∧ c ≤ 3) : qa_R Y ((fL_add Y (zi a) (zi b) (zi c)).bind fun r => some (r.1, r.2)) := qa_hlp (qo_add h e1 e2 e3)
theorem qa_slip {Y : tw_Wl} {g : tw_H} (h : qp_I Y g) {t : Nat} (ht : t < sp_n g.1) {d : Int} (e2 : 1 ≤ d ∧ d ≤ 20) : qa_R Y ((fL_slip Y (zi t) (zi d)).bind fun r => some (r.1, r.2)) := qa_hlp (qo_slip h ht e2)
theorem qa_undo {Y : tw_Wl} {g : tw_H} (h : qp_I Y g) : qa_R Y ((fL_undo Y).bind fun r => some (r.1, r.2)) := qa_hlp (qo_undo h)
theorem zi_1p (a : Int) : (1 : Int32) + zi a = zi (1 + a) := zi_add 1 a
theorem zi_m1 (a : Int) : zi a - (1 : Int32) = zi (a - 1) := zi_sub a 1
theorem qa_48 {Y : tw_Wl} {g : tw_H} (h : qp_I Y g) {L : Nat} (hL : L ≤ 260) {xs : Nat → Int32} {k : Nat} (hk : k < L) {t : Nat} (ht : sp_n g.1 = 0 ∨ t < sp_n g.1) (v3 v4 v5 : Int32) : qa_R Y (fL_act_48 L xs (zi (k : Int)) (zi (t : Int)) v3 v4 v5 (zi (sp_n g.1 : Int)) Y) := by
  have hn := sp_12 h.1.1.1
  have lw : ∀ (x : Int32) (n : Int), 1 ≤ n → n < 1000 → ∃ r : Int, 0 ≤ r ∧ r < n ∧ fL_low x (zi n) = some (zi r) := fun x n n1 n2 => qa_low x n1 n2
  obtain ⟨s, s0, s1, es⟩ := lw (xs k) 16 (by omega) (by omega)
  have es : fL_low (xs k) (16 : Int32) = some (zi s) := es
  have c5 : (5 : Int32) ≤ zi s ↔ 5 ≤ s := zi_le (a := 5) (by omega) (by omega) (by omega) (by omega)
  have c11 : (11 : Int32) ≤ zi s ↔ 11 ≤ s := zi_le (a := 11) (by omega) (by omega) (by omega) (by omega)
  have d5 : zi s = (5 : Int32) ↔ s = 5 := zi_eq (b := 5) (by omega) (by omega) (by omega) (by omega)
  have d6 : zi s = (6 : Int32) ↔ s = 6 := zi_eq (b := 6) (by omega) (by omega) (by omega) (by omega)
  have d7 : zi s = (7 : Int32) ↔ s = 7 := zi_eq (b := 7) (by omega) (by omega) (by omega) (by omega)
  have d11 : zi s = (11 : Int32) ↔ s = 11 := zi_eq (b := 11) (by omega) (by omega) (by omega) (by omega)
  have d12 : zi s = (12 : Int32) ↔ s = 12 := zi_eq (b := 12) (by omega) (by omega) (by omega) (by omega)
  have d13 : zi s = (13 : Int32) ↔ s = 13 := zi_eq (b := 13) (by omega) (by omega) (by omega) (by omega)
  unfold fL_act_48
  rw [qa_cell hL hk, ob_some, es, ob_some]
  by_cases e5 : 5 ≤ s
  · rw [if_pos (c5.mpr e5)]
    by_cases f5 : s = 5
    · obtain ⟨x, x0, x1, ex⟩ := lw v3 60 (by omega) (by omega)
      have ex : fL_low v3 (60 : Int32) = some (zi x) := ex
      obtain ⟨y, y0, y1, ey⟩ := lw v4 4 (by omega) (by omega)
      have ey : fL_low v4 (4 : Int32) = some (zi y) := ey
      obtain ⟨w, w0, w1, ew⟩ := lw v5 40 (by omega) (by omega)
      have ew : fL_low v5 (40 : Int32) = some (zi w) := ew
      obtain ⟨j, rfl⟩ : ∃ j : Nat, y = j := ⟨y.toNat, by omega⟩
      rw [if_neg (fun q => q (d5.mpr f5)), ex, ob_some, ey, ob_some, ew, ob_some, zi_add]
      exact qa_dir (qo_borrow h (j := j) (by omega) (by omega) (by omega))
    · rw [if_pos (fun q => f5 (d5.mp q))]
      by_cases f6 : s = 6
      · obtain ⟨x, x0, x1, ex⟩ := lw v3 4 (by omega) (by omega)
        have ex : fL_low v3 (4 : Int32) = some (zi x) := ex
        rw [if_neg (fun q => q (d6.mpr f6)), ex, ob_some]
        exact qa_dir (qo_rule h (by omega))
      · rw [if_pos (fun q => f6 (d6.mp q))]
        by_cases f7 : s = 7
        · rw [if_neg (fun q => q (d7.mpr f7))]
          exact qa_undo h
        · rw [if_pos (fun q => f7 (d7.mp q))]
          by_cases f0 : sp_n g.1 = 0
          · rw [if_neg (fun q => q ((zi_0 (a := (sp_n g.1 : Int)) (by omega) (by omega)).mpr (by omega)))]
            exact ⟨_, _, rfl, Or.inr ⟨rfl, sp_K_r Y⟩⟩
          · have ht : t < sp_n g.1 := ht.resolve_left f0
            rw [if_pos (fun q => f0 (by have := (zi_0 (a := (sp_n g.1 : Int)) (by omega) (by omega)).mp q; omega))]
            by_cases e11 : 11 ≤ s
            · rw [if_pos (c11.mpr e11)]
              by_cases f11 : s = 11
              · obtain ⟨x, x0, x1, ex⟩ := lw v5 2 (by omega) (by omega)
                have ex : fL_low v5 (2 : Int32) = some (zi x) := ex
                rw [if_neg (fun q => q (d11.mpr f11)), ex, ob_some]
                by_cases fx : x = 0
                · rw [if_neg (fun q => q ((zi_0 (by omega) (by omega)).mpr fx))]
                  exact qa_dir (qo_remove h ht)
                · obtain ⟨y, y0, y1, ey⟩ := lw v4 7 (by omega) (by omega)
                  have ey : fL_low v4 (7 : Int32) = some (zi y) := ey
                  rw [if_pos (fun q => fx ((zi_0 (by omega) (by omega)).mp q)), ey, ob_some, zi_m1]
                  exact qa_dir (qo_change (k := 1) h ht (x := y - 1) (by unfold sp_may; omega))
              · rw [if_pos (fun q => f11 (d11.mp q))]
                by_cases f12 : s = 12
                · obtain ⟨y, y0, y1, ey⟩ := lw v4 9 (by omega) (by omega)
                  have ey : fL_low v4 (9 : Int32) = some (zi y) := ey
                  rw [if_neg (fun q => q (d12.mpr f12)), ey, ob_some, zi_1p]
                  exact qa_dir (qo_change (k := 0) h ht (x := 1 + y) (by unfold sp_may; omega))
                · rw [if_pos (fun q => f12 (d12.mp q))]
                  by_cases f13 : s = 13
                  · obtain ⟨y, y0, y1, ey⟩ := lw v4 61 (by omega) (by omega)
                    have ey : fL_low v4 (61 : Int32) = some (zi y) := ey
                    rw [if_neg (fun q => q (d13.mpr f13)), ey, ob_some]
                    exact qa_dir (qo_change (k := 3) h ht (x := y) (by unfold sp_may; omega))
                  · obtain ⟨y, y0, y1, ey⟩ := lw v4 20 (by omega) (by omega)
                    have ey : fL_low v4 (20 : Int32) = some (zi y) := ey
                    rw [if_pos (fun q => f13 (d13.mp q)), ey, ob_some, zi_1p]
                    exact qa_slip h ht (by omega)
            · rw [if_neg (fun q => e11 (c11.mp q))]
              by_cases ft : t = 0
              · rw [if_neg (fun q => q ((zi_0 (a := (t : Int)) (by omega) (by omega)).mpr (by omega)))]
                exact ⟨_, _, rfl, Or.inl ⟨⟨0, rfl, by omega, by omega⟩, g, h⟩⟩
              · obtain ⟨x, x0, x1, ex⟩ := lw v4 (t : Int) (by omega) (by omega)
                obtain ⟨y, y0, y1, ey⟩ := lw v5 4 (by omega) (by omega)
                have ey : fL_low v5 (4 : Int32) = some (zi y) := ey
                obtain ⟨o, rfl⟩ : ∃ o : Nat, x = o := ⟨x.toNat, by omega⟩
                have cy : zi y ≤ (0 : Int32) ↔ y ≤ 0 := zi_le (b := 0) (by omega) (by omega) (by omega) (by omega)
                rw [if_pos (fun q => ft (by have := (zi_0 (a := (t : Int)) (by omega) (by omega)).mp q; omega)), ex, ob_some, ey, ob_some]
                by_cases fy : y ≤ 0
                · rw [if_pos (cy.mpr fy)]
                  exact qa_dir (qo_need h ht (show o < t by omega) _)
                · rw [if_neg (fun q => fy (cy.mp q))]
                  exact qa_dir (qo_need h ht (show o < t by omega) _)
  · obtain ⟨x, x0, x1, ex⟩ := lw v3 9 (by omega) (by omega)
    have ex : fL_low v3 (9 : Int32) = some (zi x) := ex
    obtain ⟨y, y0, y1, ey⟩ := lw v4 6 (by omega) (by omega)
    have ey : fL_low v4 (6 : Int32) = some (zi y) := ey
    obtain ⟨w, w0, w1, ew⟩ := lw v5 5 (by omega) (by omega)
    have ew : fL_low v5 (5 : Int32) = some (zi w) := ew
    rw [if_neg (fun q => e5 (c5.mp q)), ex, ob_some, ey, ob_some, ew, ob_some, zi_1p, zi_m1, zi_m1]
    exact qa_add h (by omega) (by omega) (by omega)
theorem qL_act {Y : tw_Wl} {g : tw_H} (h : qp_I Y g) {L : Nat} (hL : L ≤ 260) {xs : Nat → Int32} {k : Nat} (hk : k + 3 < L) : qa_R Y (fL_act Y L xs (zi (k : Int))) := by
  have hn := sp_12 h.1.1.1
  obtain ⟨Z, e1, k1⟩ := qc_c0 (qp_I_V h) (sp_K_r Y)
  have hZ := qp_I_K h k1
  refine qa_R_K k1 ?_
  unfold fL_act
  rw [zi_p1, zi_p2, zi_p3, qa_cell hL (k := k + 1) (by omega), ob_some, qa_cell hL (k := k + 2) (by omega), ob_some, qa_cell hL (k := k + 3) (by omega), ob_some, e1, ob_some, zi_q rfl]
  (try dsimp only)
  by_cases f0 : sp_n g.1 = 0
  · rw [if_neg (fun q => q ((zi_0 (a := (sp_n g.1 : Int)) (by omega) (by omega)).mpr (by omega)))]
    exact qa_48 hZ hL (k := k) (by omega) (t := 0) (Or.inl f0) _ _ _
  · obtain ⟨x, x0, x1, ex⟩ := qa_low (xs (k + 1)) (n := (sp_n g.1 : Int)) (by omega) (by omega)
    obtain ⟨t, rfl⟩ : ∃ t : Nat, x = t := ⟨x.toNat, by omega⟩
    rw [if_pos (fun q => f0 (by have := (zi_0 (a := (sp_n g.1 : Int)) (by omega) (by omega)).mp q; omega)), ex, ob_some]
    exact qa_48 hZ hL (k := k) (by omega) (t := t) (Or.inr (by omega)) _ _ _
