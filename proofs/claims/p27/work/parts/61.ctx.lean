/-! what the law's looks at a wall rest on -/
def qp_V (Y : tw_Wl) (V : tw_V) (k : Nat) : Prop := sp_RS Y.1 V ∧ sp_ok V ∧ sp_RP Y.2.1 V (sp_plan V) ∧ Y.2.2.2.2.2.2.1 = zi k
theorem qp_VK {Y Z : tw_Wl} {V : tw_V} {k : Nat} (h : qp_V Y V k) (hK : sp_K Y Z) : qp_V Z V k := ⟨sp_RS_K h.1 hK, h.2.1, sp_RP_K h.2.2.1 hK, by rw [hK.2.2.2]; exact h.2.2.2⟩
section QC
variable {Y Z : tw_Wl} {V : tw_V} {kk : Nat}
theorem qc_c0 (h : qp_V Y V kk) (hK : sp_K Y Z) : ∃ Z', fX3_count Z (0 : Int32) = some (0, zi (sp_n V), Z') ∧ sp_K Y Z' := by
  have q := qp_VK h hK
  obtain ⟨Z', e, k⟩ := pX3_ct q.1 q.2.1 q.2.2.1 q.2.2.2 (w := 0) (by omega)
  exact ⟨Z', e, sp_K_t hK k⟩
theorem qc_c1 (h : qp_V Y V kk) (hK : sp_K Y Z) : ∃ Z', fX3_count Z (1 : Int32) = some (0, zi (sp_L V), Z') ∧ sp_K Y Z' := by
  have q := qp_VK h hK
  obtain ⟨Z', e, k⟩ := pX3_ct q.1 q.2.1 q.2.2.1 q.2.2.2 (w := 1) (by omega)
  exact ⟨Z', e, sp_K_t hK k⟩
theorem qc_c2 (h : qp_V Y V kk) (hK : sp_K Y Z) : ∃ Z', fX3_count Z (2 : Int32) = some (0, zi (sp_n V - sp_L V), Z') ∧ sp_K Y Z' := by
  have q := qp_VK h hK
  obtain ⟨Z', e, k⟩ := pX3_ct q.1 q.2.1 q.2.2.1 q.2.2.2 (w := 2) (by omega)
  exact ⟨Z', e, sp_K_t hK k⟩
theorem qc_c3 (h : qp_V Y V kk) (hK : sp_K Y Z) : ∃ Z', fX3_count Z (3 : Int32) = some (0, zi (sp_E V), Z') ∧ sp_K Y Z' := by
  have q := qp_VK h hK
  obtain ⟨Z', e, k⟩ := pX3_ct q.1 q.2.1 q.2.2.1 q.2.2.2 (w := 3) (by omega)
  exact ⟨Z', e, sp_K_t hK k⟩
theorem qc_c4 (h : qp_V Y V kk) (hK : sp_K Y Z) : ∃ Z', fX3_count Z (4 : Int32) = some (0, zi (sp_sum (sp_len V) (sp_n V)), Z') ∧ sp_K Y Z' := by
  have q := qp_VK h hK
  obtain ⟨Z', e, k⟩ := pX3_ct q.1 q.2.1 q.2.2.1 q.2.2.2 (w := 4) (by omega)
  exact ⟨Z', e, sp_K_t hK k⟩
theorem qc_c5 (h : qp_V Y V kk) (hK : sp_K Y Z) : ∃ Z', fX3_count Z (5 : Int32) = some (0, zi (sp_crit V), Z') ∧ sp_K Y Z' := by
  have q := qp_VK h hK
  obtain ⟨Z', e, k⟩ := pX3_ct q.1 q.2.1 q.2.2.1 q.2.2.2 (w := 5) (by omega)
  exact ⟨Z', e, sp_K_t hK k⟩
theorem qc_c6 (h : qp_V Y V kk) (hK : sp_K Y Z) : ∃ Z', fX3_count Z (6 : Int32) = some (0, zi (sp_W V), Z') ∧ sp_K Y Z' := by
  have q := qp_VK h hK
  obtain ⟨Z', e, k⟩ := pX3_ct q.1 q.2.1 q.2.2.1 q.2.2.2 (w := 6) (by omega)
  exact ⟨Z', e, sp_K_t hK k⟩
theorem qc_c7 (h : qp_V Y V kk) (hK : sp_K Y Z) : ∃ Z', fX3_count Z (7 : Int32) = some (0, zi (sp_lg V (sp_n V)), Z') ∧ sp_K Y Z' := by
  have q := qp_VK h hK
  obtain ⟨Z', e, k⟩ := pX3_ct q.1 q.2.1 q.2.2.1 q.2.2.2 (w := 7) (by omega)
  exact ⟨Z', e, sp_K_t hK k⟩
theorem qc_c8 (h : qp_V Y V kk) (hK : sp_K Y Z) : ∃ Z', fX3_count Z (8 : Int32) = some (0, zi kk, Z') ∧ sp_K Y Z' := by
  have q := qp_VK h hK
  obtain ⟨Z', e, k⟩ := pX3_ct q.1 q.2.1 q.2.2.1 q.2.2.2 (w := 8) (by omega)
  exact ⟨Z', e, sp_K_t hK k⟩
theorem qc_t0 (h : qp_V Y V kk) (hK : sp_K Y Z) {t : Nat} (ht : t < sp_n V) : ∃ Z', fX3_task Z (zi t) (0 : Int32) = some (0, zi (sp_len V t), Z') ∧ sp_K Y Z' := by
  have q := qp_VK h hK
  obtain ⟨Z', e, k⟩ := pX3_tk q.1 q.2.1 q.2.2.1 ht (w := 0) (by omega)
  exact ⟨Z', e, sp_K_t hK k⟩
theorem qc_t1 (h : qp_V Y V kk) (hK : sp_K Y Z) {t : Nat} (ht : t < sp_n V) : ∃ Z', fX3_task Z (zi t) (1 : Int32) = some (0, zi (sp_per V t), Z') ∧ sp_K Y Z' := by
  have q := qp_VK h hK
  obtain ⟨Z', e, k⟩ := pX3_tk q.1 q.2.1 q.2.2.1 ht (w := 1) (by omega)
  exact ⟨Z', e, sp_K_t hK k⟩
theorem qc_t2 (h : qp_V Y V kk) (hK : sp_K Y Z) {t : Nat} (ht : t < sp_n V) : ∃ Z', fX3_task Z (zi t) (2 : Int32) = some (0, zi (sp_hal V t), Z') ∧ sp_K Y Z' := by
  have q := qp_VK h hK
  obtain ⟨Z', e, k⟩ := pX3_tk q.1 q.2.1 q.2.2.1 ht (w := 2) (by omega)
  exact ⟨Z', e, sp_K_t hK k⟩
theorem qc_t3 (h : qp_V Y V kk) (hK : sp_K Y Z) {t : Nat} (ht : t < sp_n V) : ∃ Z', fX3_task Z (zi t) (3 : Int32) = some (0, zi (sp_ear V t), Z') ∧ sp_K Y Z' := by
  have q := qp_VK h hK
  obtain ⟨Z', e, k⟩ := pX3_tk q.1 q.2.1 q.2.2.1 ht (w := 3) (by omega)
  exact ⟨Z', e, sp_K_t hK k⟩
theorem qc_t4 (h : qp_V Y V kk) (hK : sp_K Y Z) {t : Nat} (ht : t < sp_n V) : ∃ Z', fX3_task Z (zi t) (4 : Int32) = some (0, sp_msk V t, Z') ∧ sp_K Y Z' := by
  have q := qp_VK h hK
  obtain ⟨Z', e, k⟩ := pX3_tk q.1 q.2.1 q.2.2.1 ht (w := 4) (by omega)
  exact ⟨Z', e, sp_K_t hK k⟩
theorem qc_t6 (h : qp_V Y V kk) (hK : sp_K Y Z) {t : Nat} (ht : t < sp_n V) : ∃ Z', fX3_task Z (zi t) (6 : Int32) = some (0, zi (sp_plan V t), Z') ∧ sp_K Y Z' := by
  have q := qp_VK h hK
  obtain ⟨Z', e, k⟩ := pX3_tk q.1 q.2.1 q.2.2.1 ht (w := 6) (by omega)
  exact ⟨Z', e, sp_K_t hK k⟩
theorem qc_t7 (h : qp_V Y V kk) (hK : sp_K Y Z) {t : Nat} (ht : t < sp_n V) : ∃ Z', fX3_task Z (zi t) (7 : Int32) = some (0, zi (sp_slk V t), Z') ∧ sp_K Y Z' := by
  have q := qp_VK h hK
  obtain ⟨Z', e, k⟩ := pX3_tk q.1 q.2.1 q.2.2.1 ht (w := 7) (by omega)
  exact ⟨Z', e, sp_K_t hK k⟩
theorem qc_t8 (h : qp_V Y V kk) (hK : sp_K Y Z) {t : Nat} (ht : t < sp_n V) : ∃ Z', fX3_task Z (zi t) (8 : Int32) = some (0, zi (sp_wai V (sp_plan V) t), Z') ∧ sp_K Y Z' := by
  have q := qp_VK h hK
  obtain ⟨Z', e, k⟩ := pX3_tk q.1 q.2.1 q.2.2.1 ht (w := 8) (by omega)
  exact ⟨Z', e, sp_K_t hK k⟩
theorem qc_onP (h : qp_V Y V kk) (hK : sp_K Y Z) {a d : Int} (a0 : 0 ≤ a) (a1 : a ≤ 5) (d0 : 0 ≤ d) (d1 : d ≤ 99) : fX3_personOn Z (zi a) (zi d) = some (0, zi (sp_on V (sp_plan V) (sp_per V) a d (sp_n V) 0)) := by
  have q := qp_VK h hK
  exact pX3_on q.1 q.2.1 q.2.2.1 a0 a1 d0 d1
theorem qc_onH (h : qp_V Y V kk) (hK : sp_K Y Z) {a d : Int} (a0 : 0 ≤ a) (a1 : a ≤ 3) (d0 : 0 ≤ d) (d1 : d ≤ 99) : fX3_hallOn Z (zi a) (zi d) = some (0, zi (sp_on V (sp_plan V) (sp_hal V) a d (sp_n V) 0)) := by
  have q := qp_VK h hK
  exact pX3_hon q.1 q.2.1 q.2.2.1 a0 a1 d0 d1
theorem qc_h0 (h : qp_V Y V kk) (hK : sp_K Y Z) {j : Nat} (hj : j < 4) : fX3_hall Z (zi j) (0 : Int32) = some (0, zi (sp_fst V j)) := by
  have q := qp_VK h hK
  exact pX3_hl q.1 q.2.1 q.2.2.1 hj (w := 0) (by omega)
theorem qc_h1 (h : qp_V Y V kk) (hK : sp_K Y Z) {j : Nat} (hj : j < 4) : fX3_hall Z (zi j) (1 : Int32) = some (0, zi (sp_lst V j)) := by
  have q := qp_VK h hK
  exact pX3_hl q.1 q.2.1 q.2.2.1 hj (w := 1) (by omega)
theorem qc_h2 (h : qp_V Y V kk) (hK : sp_K Y Z) {j : Nat} (hj : j < 4) : fX3_hall Z (zi j) (2 : Int32) = some (0, zi (sp_sum (fun t => if sp_hal V t = (j : Int) ∧ sp_plan V t ≠ -1 then sp_len V t else 0) (sp_n V))) := by
  have q := qp_VK h hK
  exact pX3_hl q.1 q.2.1 q.2.2.1 hj (w := 2) (by omega)
theorem qc_h3 (h : qp_V Y V kk) (hK : sp_K Y Z) {j : Nat} (hj : j < 4) : fX3_hall Z (zi j) (3 : Int32) = some (0, zi (sp_sum (fun t => if sp_hal V t = (j : Int) ∧ sp_plan V t ≠ -1 then 1 else 0) (sp_n V))) := by
  have q := qp_VK h hK
  exact pX3_hl q.1 q.2.1 q.2.2.1 hj (w := 3) (by omega)
end QC
theorem zi_0 {a : Int} (h1 : -2147483648 ≤ a) (h2 : a < 2147483648) : zi a = (0 : Int32) ↔ a = 0 := zi_eq (b := 0) h1 h2 (by omega) (by omega)
theorem zi_m {a : Int} (h1 : -2147483648 ≤ a) (h2 : a < 2147483648) : zi a = (-1 : Int32) ↔ a = -1 := by
  rw [zm1]
  exact zi_eq h1 h2 (by omega) (by omega)
theorem zi_l0 {a : Int} (h1 : -2147483648 ≤ a) (h2 : a < 2147483648) : zi a < (0 : Int32) ↔ a < 0 := zi_lt (b := 0) h1 h2 (by omega) (by omega)
theorem zi_g0 {a : Int} (h1 : -2147483648 ≤ a) (h2 : a < 2147483648) : (0 : Int32) ≤ zi a ↔ 0 ≤ a := zi_le (a := 0) (by omega) (by omega) h1 h2
theorem zi_i1 (a : Int) : zi a + (1 : Int32) = zi (a + 1) := zi_add a 1
theorem zi_i0 (a : Int) : zi a + (0 : Int32) = zi a := by rw [z0, zi_add, Int.add_zero]
theorem qc_shr {m : Int32} {t : Nat} (ht : t < 12) (h : ∀ i, t ≤ i → bt m i = false) : m >>> (zi (t : Int) &&& 31) = 0 := by
  rw [zi_nI]
  apply b_ext
  intro i hi
  rw [b_sshr t (by omega) m hi, b_0]
  split
  · exact h _ (by omega)
  · exact h 31 (by omega)
