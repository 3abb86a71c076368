/-! who is where -/
theorem dg_lt {n k : Nat} (h : k < n) (hn : n < 1000) : ¬ zi (n : Int) ≤ zi (k : Int) := by rw [zi_le (by omega) (by omega) (by omega) (by omega)]; omega
theorem dg_ge {n : Nat} (hn : n < 1000) : zi (n : Int) ≤ zi (n : Int) := (zi_le (by omega) (by omega) (by omega) (by omega)).mpr (Int.le_refl _)
theorem pX3_on {Y : tw_Wl} {V : tw_V} (h : sp_RS Y.1 V) (hV : sp_ok V) (hP : sp_RP Y.2.1 V (sp_plan V)) {a d : Int} (a0 : 0 ≤ a) (a1 : a ≤ 5) (d0 : 0 ≤ d) (d1 : d ≤ 99) : fX3_personOn Y (zi a) (zi d) = some (0, zi (sp_on V (sp_plan V) (sp_per V) a d (sp_n V) 0)) := by
  unfold fX3_personOn
  rw [pX3_isPerson (by omega) (by omega), ob_some, ifl0, if_pos ⟨a0, a1⟩, pX3_isDay (by omega) (by omega), ob_some, ifl1, if_pos ⟨d0, d1⟩, pX0_taskOnP h hV hP.1 (sp_bokp hV) a0 (by omega) d0 (by omega), ob_some]
theorem pX3_hon {Y : tw_Wl} {V : tw_V} (h : sp_RS Y.1 V) (hV : sp_ok V) (hP : sp_RP Y.2.1 V (sp_plan V)) {a d : Int} (a0 : 0 ≤ a) (a1 : a ≤ 3) (d0 : 0 ≤ d) (d1 : d ≤ 99) : fX3_hallOn Y (zi a) (zi d) = some (0, zi (sp_on V (sp_plan V) (sp_hal V) a d (sp_n V) 0)) := by
  unfold fX3_hallOn
  rw [pX3_isHall (by omega) (by omega), ob_some, ifl0, if_pos ⟨a0, a1⟩, pX3_isDay (by omega) (by omega), ob_some, ifl1, if_pos ⟨d0, d1⟩, pX0_taskOnH h hV hP.1 (sp_bokp hV) a0 (by omega) d0 (by omega), ob_some]
