/-! the class's State, as numbers -/
theorem zi_c (n : Nat) : ((n : Nat) : Int) + 1 = ((n + 1 : Nat) : Int) := rfl
theorem zi_suc (k : Nat) : zi (k : Int) + 1 = zi ((k + 1 : Nat) : Int) := by rw [show (1 : Int32) = zi 1 from rfl, zi_add]; rfl
theorem sp_12 {V : tw_V} (h : sp_ok V) : sp_n V ≤ 12 := h.1
theorem pX1_isNeeded {S : tw_St} {V : tw_V} (h : sp_RS S V) (hV : sp_ok V) {t o : Nat} (ht : t < sp_n V) (ho : o < 32) : fX1_isNeeded S (zi t) (zi o) = some (if sp_bit V t o = true then 1 else 0) := by
  have hn := sp_12 hV
  unfold fX1_isNeeded
  rw [zi_g (by omega) (by omega) (by omega), zi_Tn (by omega), (h.2.2.1 t ht).2.2.2.2]
  by_cases hb : sp_bit V t o = true
  · rw [if_pos hb, if_neg]
    intro h0
    rw [tb_test ho] at h0
    unfold sp_bit at hb
    rw [h0] at hb
    cases hb
  · rw [if_neg hb, if_pos]
    rw [tb_test ho]
    unfold sp_bit at hb
    simpa using hb
theorem zi_b1 : ¬ (1 : Int32) = 0 := by decide
theorem sp_flw_lo {V : tw_V} (hV : sp_ok V) {t : Nat} : ∀ k, k ≤ t + 1 → k ≤ sp_n V → sp_sum (fun o => if sp_bit V o t = true then 1 else 0) k = 0
  | 0, _, _ => rfl
  | k + 1, h1, h2 => by
    rw [sp_sum, sp_flw_lo hV k (by omega) (by omega), if_neg]
    · rfl
    · rw [(hV.2.2.2.1 k (by omega)).2.2.2.2.2.2.2.2 t (by omega)]
      decide
theorem sp_flw_le {V : tw_V} (t k : Nat) : 0 ≤ sp_sum (fun o => if sp_bit V o t = true then 1 else 0) k ∧ sp_sum (fun o => if sp_bit V o t = true then 1 else 0) k ≤ k := by
  have := sp_sum_le (f := fun o => if sp_bit V o t = true then 1 else 0) (c := 1) (n := k) (fun o _ => by (try dsimp only); by_cases hb : sp_bit V o t = true <;> simp [hb])
  omega
theorem pX1_followers {S : tw_St} {V : tw_V} (h : sp_RS S V) (hV : sp_ok V) {t : Nat} (ht : t < sp_n V) : fX1_followers S (zi t) = some (zi (sp_flw V t)) := by
  have hn := sp_12 hV
  unfold fX1_followers
  have key := ldn (fun fuel k => fX1_followers_6 S (zi t) fuel (zi (sp_sum (fun o => if sp_bit V o t = true then 1 else 0) k)) (zi k)) (fun _ => zi (sp_flw V t)) (sp_n V) (fun fuel => by
      (try dsimp only)
      rw [fX1_followers_6, h.1, if_pos ((zi_le (by omega) (by omega) (by omega) (by omega)).mpr (Int.le_refl _))]
      rfl) (fun fuel k hk hr => by
      (try dsimp only at hr ⊢)
      rw [fX1_followers_6, h.1, if_neg (by rw [zi_le (by omega) (by omega) (by omega) (by omega)]; omega), pX1_isNeeded h hV hk (by omega)]
      rw [sp_sum] at hr
      rw [show (1 : Int32) = zi 1 from rfl, zi_add, zi_c]
      show (if (if sp_bit V k t = true then zi 1 else 0) = 0 then _ else _) = _
      by_cases hb : sp_bit V k t = true
      · rw [if_pos hb, if_neg (show ¬ zi 1 = 0 from zi_b1), zi_add]
        rw [if_pos hb] at hr
        exact hr
      · rw [if_neg hb, if_pos rfl]
        rw [if_neg hb, Int.add_zero] at hr
        exact hr) (t + 1) 512 (by omega) (by omega)
  (try dsimp only at key)
  rw [sp_flw_lo hV (t + 1) (by omega) (by omega)] at key
  rw [zi_suc]
  exact key
theorem sp_key_le {V : tw_V} (hV : sp_ok V) {t : Nat} (ht : t < sp_n V) : 0 ≤ sp_key V t ∧ sp_key V t ≤ 129 := by
  have hn := sp_12 hV
  obtain ⟨h1, h2, h3, h4, h5, h6, h7, h8, -⟩ := hV.2.2.2.1 t ht
  have h9 := sp_flw_le (V := V) t (sp_n V)
  unfold sp_key sp_flw
  split
  · omega
  · split
    · omega
    · split
      · omega
      · omega
theorem pX1_keyOf {S : tw_St} {V : tw_V} (h : sp_RS S V) (hV : sp_ok V) {t : Nat} (ht : t < sp_n V) : fX1_keyOf S (zi t) = some (zi (sp_key V t)) := by
  have hn := sp_12 hV
  obtain ⟨-, hr1, hr2, -⟩ := id hV
  unfold fX1_keyOf sp_key
  rw [h.2.1, show (1 : Int32) = zi 1 from rfl, show (2 : Int32) = zi 2 from rfl, show (3 : Int32) = zi 3 from rfl]
  simp only [zi_eq (a := sp_rule V) (by omega) (by omega) (by omega : (-2147483648 : Int) ≤ 1) (by omega), zi_eq (a := sp_rule V) (by omega) (by omega) (by omega : (-2147483648 : Int) ≤ 2) (by omega), zi_eq (a := sp_rule V) (by omega) (by omega) (by omega : (-2147483648 : Int) ≤ 3) (by omega)]
  by_cases h1 : sp_rule V = 1
  · rw [if_pos h1, if_pos h1, zi_g (by omega) (by omega) (by omega), zi_Tn (by omega), (h.2.2.1 t ht).1]
  · rw [if_neg h1, if_neg h1]
    by_cases h2 : sp_rule V = 2
    · rw [if_pos h2, if_pos h2, pX1_followers h (by assumption) ht]
      rfl
    · rw [if_neg h2, if_neg h2]
      by_cases h3 : sp_rule V = 3
      · rw [if_pos h3, if_pos h3, zi_g (by omega) (by omega) (by omega), zi_Tn (by omega), (h.2.2.1 t ht).2.2.2.1]
      · rw [if_neg h3, if_neg h3]
        rfl
theorem sp_RS_len {S : tw_St} {V : tw_V} (h : sp_RS S V) : ∀ t, t < sp_n V → S.1 t = zi (sp_len V t) := fun t ht => (h.2.2.1 t ht).1
theorem sp_RS_per {S : tw_St} {V : tw_V} (h : sp_RS S V) : ∀ t, t < sp_n V → S.2.1 t = zi (sp_per V t) := fun t ht => (h.2.2.1 t ht).2.1
theorem sp_RS_hal {S : tw_St} {V : tw_V} (h : sp_RS S V) : ∀ t, t < sp_n V → S.2.2.1 t = zi (sp_hal V t) := fun t ht => (h.2.2.1 t ht).2.2.1
theorem sp_RS_ear {S : tw_St} {V : tw_V} (h : sp_RS S V) : ∀ t, t < sp_n V → S.2.2.2.1 t = zi (sp_ear V t) := fun t ht => (h.2.2.1 t ht).2.2.2.1
theorem sp_RS_msk {S : tw_St} {V : tw_V} (h : sp_RS S V) : ∀ t, t < sp_n V → S.2.2.2.2.1 t = sp_msk V t := fun t ht => (h.2.2.1 t ht).2.2.2.2
theorem zm1 : (-1 : Int32) = zi (-1) := rfl
theorem z0 : (0 : Int32) = zi 0 := rfl
theorem z1 : (1 : Int32) = zi 1 := rfl
theorem pX1_share {S : tw_St} {V : tw_V} (h : sp_RS S V) (hV : sp_ok V) {t o : Nat} (ht : t < sp_n V) (ho : o < sp_n V) : fX1_share S (zi t) (zi o) = some (if sp_shr V t o = true then 1 else 0) := by
  have hn := sp_12 hV
  obtain ⟨-, -, a1, a2, a3, a4, -⟩ := hV.2.2.2.1 t ht
  obtain ⟨-, -, b1, b2, b3, b4, -⟩ := hV.2.2.2.1 o ho
  unfold fX1_share fX1_share_30 fX1_share_61
  simp (disch := omega) only [zi_g, zi_Tn, sp_RS_per h, sp_RS_hal h, zm1, zi_eq]
  have c1 : ¬ (1 : Int32) = 0 := by decide
  have c2 : (0 : Int32) = 0 := rfl
  unfold sp_shr
  by_cases e1 : sp_per V t = -1 <;> by_cases e2 : sp_per V t = sp_per V o <;> by_cases e3 : sp_hal V t = -1 <;> by_cases e4 : sp_hal V t = sp_hal V o <;>
    simp only [e1, e2, e3, e4, if_true, if_false, c1, not_true_eq_false, not_false_eq_true, decide_true, decide_false, Bool.and_true, Bool.and_false, Bool.or_false, Bool.or_true, Bool.false_eq_true, ne_eq, reduceIte] <;> simp_all
