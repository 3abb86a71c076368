/-! what is told of a task, a hall, the wall: class and reference say the same -/
def sp_tk (V : tw_V) (t : Nat) : Nat → Int32
  | 0 => zi (sp_len V t)
  | 1 => zi (sp_per V t)
  | 2 => zi (sp_hal V t)
  | 3 => zi (sp_ear V t)
  | 4 => sp_msk V t
  | 5 => zi (sp_flw V t)
  | 6 => zi (sp_plan V t)
  | 7 => zi (sp_slk V t)
  | _ => zi (sp_wai V (sp_plan V) t)
theorem pX3_tk {Y : tw_Wl} {V : tw_V} (h : sp_RS Y.1 V) (hV : sp_ok V) (hP : sp_RP Y.2.1 V (sp_plan V)) {t : Nat} (ht : t < sp_n V) {w : Nat} (hw : w ≤ 8) : ∃ Y', fX3_task Y (zi t) (zi w) = some (0, sp_tk V t w, Y') ∧ sp_K Y Y' := by
  have hn := sp_12 hV
  obtain ⟨q0, q1, q2, q3, q4⟩ := h.2.2.1 t ht
  have g1 : ∀ {α : Type} (y : Option α), tw_g (zi (t : Int)) 12 y = y := fun y => zi_n (by omega) (by omega) y
  unfold fX3_task
  rw [pX3_isTask h hV (by omega) (by omega), ob_some, ifl1, if_pos (show 0 ≤ (t : Int) ∧ (t : Int) < sp_n V by omega)]
  have hw9 : w = 0 ∨ w = 1 ∨ w = 2 ∨ w = 3 ∨ w = 4 ∨ w = 5 ∨ w = 6 ∨ w = 7 ∨ w = 8 := by omega
  rcases hw9 with rfl | rfl | rfl | rfl | rfl | rfl | rfl | rfl | rfl
  · have pr : ∀ S : tw_St, fX1_property S (zi ((0 : Nat) : Int)) = some 1 := fun S => by
      unfold fX1_property
      rw [if_pos (by decide)]
    rw [if_neg (by decide), if_pos (by decide), if_neg (by decide), if_neg (by decide), if_neg (by decide), if_neg (by decide), pr, ob_some, if_pos rfl, g1, zi_Tn (by omega), q0]
    exact ⟨Y, rfl, sp_K_r Y⟩
  · have pr : ∀ S : tw_St, fX1_property S (zi ((1 : Nat) : Int)) = some 2 := fun S => by
      unfold fX1_property
      rw [if_neg (by decide), if_pos (by decide)]
    rw [if_neg (by decide), if_pos (by decide), if_neg (by decide), if_neg (by decide), if_neg (by decide), if_neg (by decide), pr, ob_some, if_neg (by decide), if_pos rfl, g1, zi_Tn (by omega), q1]
    exact ⟨Y, rfl, sp_K_r Y⟩
  · have pr : ∀ S : tw_St, fX1_property S (zi ((2 : Nat) : Int)) = some 3 := fun S => by
      unfold fX1_property
      rw [if_neg (by decide), if_neg (by decide), if_pos (by decide)]
    rw [if_neg (by decide), if_pos (by decide), if_neg (by decide), if_neg (by decide), if_neg (by decide), if_neg (by decide), pr, ob_some, if_neg (by decide), if_neg (by decide), if_pos rfl, g1, zi_Tn (by omega), q2]
    exact ⟨Y, rfl, sp_K_r Y⟩
  · have pr : ∀ S : tw_St, fX1_property S (zi ((3 : Nat) : Int)) = some 4 := fun S => by
      unfold fX1_property
      rw [if_neg (by decide), if_neg (by decide), if_neg (by decide), if_pos (by decide)]
    rw [if_neg (by decide), if_pos (by decide), if_neg (by decide), if_neg (by decide), if_neg (by decide), if_neg (by decide), pr, ob_some, if_neg (by decide), if_neg (by decide), if_neg (by decide), if_pos rfl, g1, zi_Tn (by omega), q3]
    exact ⟨Y, rfl, sp_K_r Y⟩
  · have pr : ∀ S : tw_St, fX1_property S (zi ((4 : Nat) : Int)) = some 5 := fun S => by
      unfold fX1_property
      rw [if_neg (by decide), if_neg (by decide), if_neg (by decide), if_neg (by decide)]
    rw [if_neg (by decide), if_pos (by decide), if_neg (by decide), if_neg (by decide), if_neg (by decide), if_neg (by decide), pr, ob_some, if_neg (by decide), if_neg (by decide), if_neg (by decide), if_neg (by decide), if_pos rfl, g1, zi_Tn (by omega), q4]
    exact ⟨Y, rfl, sp_K_r Y⟩
  · rw [if_neg (by decide), if_pos (by decide), if_pos (by decide), pX1_followers h hV ht, ob_some]
    exact ⟨Y, rfl, sp_K_r Y⟩
  · rw [if_neg (by decide), if_pos (by decide), if_neg (by decide), if_pos (by decide), g1, zi_Tn (by omega), hP.1 t ht]
    exact ⟨Y, rfl, sp_K_r Y⟩
  · obtain ⟨Y', e1, e2⟩ := pX3_slackOf h hV hP ht
    rw [if_neg (by decide), if_pos (by decide), if_neg (by decide), if_neg (by decide), if_pos (by decide), e1, ob_some]
    exact ⟨Y', rfl, e2⟩
  · rw [if_neg (by decide), if_pos (by decide), if_neg (by decide), if_neg (by decide), if_neg (by decide), if_pos (by decide), pX0_waitOf h hV hP.1 (sp_bokp hV) (sp_clp hV) ht, ob_some]
    exact ⟨Y, rfl, sp_K_r Y⟩
/-! who is there, and the halls -/
def sp_hl (V : tw_V) (j : Nat) : Nat → Int32
  | 0 => zi (sp_fst V j)
  | 1 => zi (sp_lst V j)
  | 2 => zi (sp_sum (fun t => if sp_hal V t = (j : Int) ∧ sp_plan V t ≠ -1 then sp_len V t else 0) (sp_n V))
  | _ => zi (sp_sum (fun t => if sp_hal V t = (j : Int) ∧ sp_plan V t ≠ -1 then 1 else 0) (sp_n V))
theorem pX3_hl {Y : tw_Wl} {V : tw_V} (h : sp_RS Y.1 V) (hV : sp_ok V) (hP : sp_RP Y.2.1 V (sp_plan V)) {j : Nat} (hj : j < 4) {w : Nat} (hw : w ≤ 3) : fX3_hall Y (zi j) (zi w) = some (0, sp_hl V j w) := by
  have g1 : ∀ {α : Type} (y : Option α), tw_g (zi (j : Int)) 4 y = y := fun y => zi_n (by omega) (by omega) y
  unfold fX3_hall
  rw [pX3_isHall (by omega) (by omega), ob_some, ifl1, if_pos (show 0 ≤ (j : Int) ∧ (j : Int) ≤ 3 by omega)]
  have hw4 : w = 0 ∨ w = 1 ∨ w = 2 ∨ w = 3 := by omega
  rcases hw4 with rfl | rfl | rfl | rfl
  · rw [if_neg (by decide), if_pos (by decide), if_pos (by decide), g1, zi_Tn (by omega), (h.2.2.2 j hj).1]
    rfl
  · rw [if_neg (by decide), if_pos (by decide), if_neg (by decide), if_pos (by decide), g1, zi_Tn (by omega), (h.2.2.2 j hj).2]
    rfl
  · rw [if_neg (by decide), if_pos (by decide), if_neg (by decide), if_neg (by decide), if_pos (by decide), pX0_daysIn h hV hP.1 (sp_bokp hV) (by omega) (by omega), ob_some]
    rfl
  · rw [if_neg (by decide), if_pos (by decide), if_neg (by decide), if_neg (by decide), if_neg (by decide), pX0_tasksIn h hV hP.1 (sp_bokp hV) (by omega) (by omega), ob_some]
    rfl
