/-! changes of a wall of numbers -/
def sp_set (V : tw_V) (w t : Nat) (x : Int) : tw_V := (V.1, V.2.1, fun a b => if a = w ∧ b = t then x else V.2.2.1 a b, V.2.2.2)
def sp_rul (V : tw_V) (r : Int) : tw_V := (V.1, r, V.2.2)
theorem sp_set_set {V : tw_V} {w t : Nat} {x y : Int} : sp_set (sp_set V w t x) w t y = sp_set V w t y := by
  have : (fun a b => if a = w ∧ b = t then y else (fun a b => if a = w ∧ b = t then x else V.2.2.1 a b) a b) = fun a b => if a = w ∧ b = t then y else V.2.2.1 a b := by
    funext a b
    by_cases h : a = w ∧ b = t
    · rw [if_pos h, if_pos h]
    · rw [if_neg h, if_neg h]; exact if_neg h
  exact congrArg (fun f => (V.1, V.2.1, f, V.2.2.2)) this
theorem sp_set_same {V : tw_V} {w t : Nat} : sp_set V w t (V.2.2.1 w t) = V := by
  have : (fun a b => if a = w ∧ b = t then V.2.2.1 w t else V.2.2.1 a b) = V.2.2.1 := by
    funext a b
    by_cases h : a = w ∧ b = t
    · rw [if_pos h, h.1, h.2]
    · rw [if_neg h]
  exact congrArg (fun f => (V.1, V.2.1, f, V.2.2.2)) this
theorem sp_ear_set {V : tw_V} {t u : Nat} {x : Int} : sp_ear (sp_set V 3 t x) u = if u = t then x else sp_ear V u := by
  show (if 3 = 3 ∧ u = t then x else sp_ear V u) = _
  by_cases e : u = t
  · rw [if_pos e, if_pos ⟨rfl, e⟩]
  · rw [if_neg e, if_neg (fun q => e q.2)]
theorem sp_ok_set3 {V : tw_V} (hV : sp_ok V) {t : Nat} {x : Int} (h0 : 0 ≤ x) (h1 : x ≤ 129) : sp_ok (sp_set V 3 t x) := by
  refine ⟨hV.1, hV.2.1, hV.2.2.1, fun u hu => ?_, hV.2.2.2.2⟩
  obtain ⟨a1, a2, a3, a4, a5, a6, a7, a8, a9⟩ := hV.2.2.2.1 u hu
  have : 0 ≤ sp_ear (sp_set V 3 t x) u ∧ sp_ear (sp_set V 3 t x) u ≤ 129 := by
    rw [sp_ear_set]
    split <;> omega
  exact ⟨a1, a2, a3, a4, a5, a6, this.1, this.2, a9⟩
theorem sp_ok_rul {V : tw_V} (hV : sp_ok V) {r : Int} (h0 : 0 ≤ r) (h1 : r ≤ 3) : sp_ok (sp_rul V r) := ⟨hV.1, h0, h1, hV.2.2.2.1, hV.2.2.2.2⟩
theorem sp_RS_set3 {S : tw_St} {V : tw_V} (h : sp_RS S V) {t : Nat} {x : Int} : sp_RS (S.1, S.2.1, S.2.2.1, upd S.2.2.2.1 t (zi x), S.2.2.2.2) (sp_set V 3 t x) := by
  refine ⟨h.1, h.2.1, fun u hu => ?_, h.2.2.2⟩
  obtain ⟨a1, a2, a3, a4, a5⟩ := h.2.2.1 u hu
  refine ⟨a1, a2, a3, ?_, a5⟩
  show upd S.2.2.2.1 t (zi x) u = zi (sp_ear (sp_set V 3 t x) u)
  rw [sp_ear_set]
  by_cases e : u = t
  · subst e; rw [upd_s, if_pos rfl]
  · rw [upd_n e, if_neg e]; exact a4
theorem sp_RS_rul {S : tw_St} {V : tw_V} (h : sp_RS S V) {r : Int} : sp_RS (S.1, S.2.1, S.2.2.1, S.2.2.2.1, S.2.2.2.2.1, S.2.2.2.2.2.1, S.2.2.2.2.2.2.1, S.2.2.2.2.2.2.2.1, zi r) (sp_rul V r) := ⟨h.1, rfl, h.2.2.1, h.2.2.2⟩
/-! what is told of a wall's plan -/
def sp_L (V : tw_V) : Int := sp_laid V (sp_plan V)
def sp_E (V : tw_V) : Int := sp_end V (sp_plan V)
def sp_W (V : tw_V) : Int := sp_sum (sp_wai V (sp_plan V)) (sp_n V)
theorem sp_bokp {V : tw_V} (hV : sp_ok V) : sp_bok V (sp_plan V) := (sp_good_its hV (sp_n V)).1
theorem sp_clp {V : tw_V} (hV : sp_ok V) : sp_cl V (sp_plan V) := (sp_good_its hV (sp_n V)).2.2
theorem sp_L_le {V : tw_V} (hV : sp_ok V) : 0 ≤ sp_L V ∧ sp_L V ≤ 12 := by
  have hn := sp_12 hV
  have := sp_laid_le (V := V) (sp_plan V) (sp_n V)
  unfold sp_L sp_laid
  omega
theorem sp_E_le {V : tw_V} (hV : sp_ok V) : 0 ≤ sp_E V ∧ sp_E V ≤ 100 := sp_ene_le hV (sp_bokp hV) (sp_n V) (Nat.le_refl _)
theorem sp_p_le {V : tw_V} (hV : sp_ok V) {t : Nat} (ht : t < sp_n V) : -1 ≤ sp_plan V t ∧ sp_plan V t ≤ 99 := sp_b_le hV (sp_bokp hV) ht
def sp_sl (V : tw_V) (t : Nat) : Nat → Int
  | 0 => 0
  | m + 1 => if sp_L (sp_set V 3 t (sp_plan V t + ((m + 1 : Nat) : Int))) < sp_L V ∨ sp_E V < sp_E (sp_set V 3 t (sp_plan V t + ((m + 1 : Nat) : Int))) then sp_sl V t m else ((m + 1 : Nat) : Int)
def sp_slk (V : tw_V) (t : Nat) : Int := if sp_plan V t = -1 then -1 else sp_sl V t 30
theorem sp_sl_le {V : tw_V} {t : Nat} : ∀ m, 0 ≤ sp_sl V t m ∧ sp_sl V t m ≤ m
  | 0 => by rw [sp_sl]; omega
  | m + 1 => by
    have := sp_sl_le (V := V) (t := t) m
    rw [sp_sl]
    split <;> omega
theorem sp_slk_le {V : tw_V} {t : Nat} : -1 ≤ sp_slk V t ∧ sp_slk V t ≤ 30 := by
  have := sp_sl_le (V := V) (t := t) 30
  unfold sp_slk
  split <;> omega
def sp_crit (V : tw_V) : Int := sp_sum (fun t => if sp_slk V t = 0 then 1 else 0) (sp_n V)
/-- the longest row of needs: the sums of the tasks ahead of k -/
def sp_ah (V : tw_V) (r : Nat → Int) (t : Nat) : Nat → Int
  | 0 => 0
  | o + 1 => if sp_bit V t o = true ∧ sp_ah V r t o < r o then r o else sp_ah V r t o
def sp_rt (V : tw_V) : Nat → (Nat → Int)
  | 0 => fun _ => 0
  | k + 1 => va_up (sp_rt V k) k (sp_ah V (sp_rt V k) k k + sp_len V k)
def sp_lg (V : tw_V) : Nat → Int
  | 0 => 0
  | k + 1 => if sp_lg V k < sp_ah V (sp_rt V k) k k + sp_len V k then sp_ah V (sp_rt V k) k k + sp_len V k else sp_lg V k
/-- the best rule among the first -/
def sp_best (V : tw_V) : Nat → Int
  | 0 => 0
  | k + 1 => if sp_L (sp_rul V (sp_best V k)) < sp_L (sp_rul V ((k + 1 : Nat) : Int)) ∨ (sp_L (sp_rul V ((k + 1 : Nat) : Int)) = sp_L (sp_rul V (sp_best V k)) ∧ sp_E (sp_rul V ((k + 1 : Nat) : Int)) < sp_E (sp_rul V (sp_best V k))) then ((k + 1 : Nat) : Int) else sp_best V k
theorem sp_best_le {V : tw_V} : ∀ k, 0 ≤ sp_best V k ∧ sp_best V k ≤ k
  | 0 => by rw [sp_best]; omega
  | k + 1 => by
    have := sp_best_le (V := V) k
    rw [sp_best]
    split <;> omega
/-- nobody has a person's tasks -/
def sp_frd (V : tw_V) (p : Int) (k : Nat) : tw_V := (V.1, V.2.1, fun a b => if a = 1 ∧ (b < k ∧ V.2.2.1 1 b = p) then -1 else V.2.2.1 a b, V.2.2.2)
/-- the worst slip: the task and the end -/
def sp_ws (V : tw_V) (d : Int) : Nat → Int × Int
  | 0 => (-1, -1)
  | t + 1 => if (sp_plan V t ≠ -1 ∧ sp_plan V t + d ≤ 60) ∧ (sp_ws V d t).2 < sp_E (sp_set V 3 t (sp_plan V t + d)) then ((t : Int), sp_E (sp_set V 3 t (sp_plan V t + d))) else sp_ws V d t
