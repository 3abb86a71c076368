/-! the reference's plan, as numbers -/
theorem zi_any (x : Int32) : ∃ a : Int, -2147483648 ≤ a ∧ a < 2147483648 ∧ x = zi a := ⟨x.toInt, by have := Int32.le_toInt x; omega, by have := Int32.toInt_lt x; omega, (zi_ofInt x).symm⟩
theorem pX4_in {a l h : Int} (a1 : -2147483648 ≤ a) (a2 : a < 2147483648) (l1 : -2147483648 ≤ l) (l2 : l < 2147483648) (h1 : -2147483648 ≤ h) (h2 : h < 2147483648) : fX4_in (zi a) (zi l) (zi h) = some (if l ≤ a ∧ a ≤ h then 1 else 0) := by
  unfold fX4_in
  rw [zif_lt a1 a2 l1 l2, zif_lt h1 h2 a1 a2]
  by_cases e1 : a < l
  · rw [if_pos e1, if_neg (by omega)]
  · rw [if_neg e1]
    by_cases e2 : h < a
    · rw [if_pos e2, if_neg (by omega)]
    · rw [if_neg e2, if_pos (by omega)]
theorem pX4_of {s : tw_F} {t k : Nat} (ht : t < 12) (hk : k < 5) : fX4_of s (zi t) (zi k) = some (s (10 + 5 * t + k)) := by
  unfold fX4_of
  rw [show (10 : Int32) = zi 10 from rfl, show (5 : Int32) = zi 5 from rfl, zi_mul, zi_add, zi_add, show (10 : Int) + 5 * (t : Int) + (k : Int) = ((10 + 5 * t + k : Nat) : Int) by omega, zi_g (by omega) (by omega) (by omega), zi_Tn (by omega)]
theorem zl3 : (3 : Int32) = zi ((3 : Nat) : Int) := rfl
theorem zl4 : (4 : Int32) = zi ((4 : Nat) : Int) := rfl
theorem zl2 : (2 : Int32) = zi ((2 : Nat) : Int) := rfl
theorem zl1 : (1 : Int32) = zi ((1 : Nat) : Int) := rfl
theorem zl0 : (0 : Int32) = zi ((0 : Nat) : Int) := rfl
theorem zT0 : (0 : Int32).toNatClampNeg = 0 := rfl
theorem zT1 : (1 : Int32).toNatClampNeg = 1 := rfl
theorem pX4_len {s : tw_F} {V : tw_V} (h : sp_RA s V) (hV : sp_ok V) {t : Nat} (ht : t < sp_n V) : fX4_of s (zi t) (0 : Int32) = some (zi (sp_len V t)) := by
  have hn := sp_12 hV
  rw [zl0, pX4_of (by omega) (by omega), Nat.add_zero, (h.2.2.1 t ht).1]
theorem pX4_per {s : tw_F} {V : tw_V} (h : sp_RA s V) (hV : sp_ok V) {t : Nat} (ht : t < sp_n V) : fX4_of s (zi t) (1 : Int32) = some (zi (sp_per V t)) := by
  have hn := sp_12 hV
  rw [zl1, pX4_of (by omega) (by omega), (h.2.2.1 t ht).2.1]
theorem pX4_hal {s : tw_F} {V : tw_V} (h : sp_RA s V) (hV : sp_ok V) {t : Nat} (ht : t < sp_n V) : fX4_of s (zi t) (2 : Int32) = some (zi (sp_hal V t)) := by
  have hn := sp_12 hV
  rw [zl2, pX4_of (by omega) (by omega), (h.2.2.1 t ht).2.2.1]
theorem pX4_ear {s : tw_F} {V : tw_V} (h : sp_RA s V) (hV : sp_ok V) {t : Nat} (ht : t < sp_n V) : fX4_of s (zi t) (3 : Int32) = some (zi (sp_ear V t)) := by
  have hn := sp_12 hV
  rw [zl3, pX4_of (by omega) (by omega), (h.2.2.1 t ht).2.2.2.1]
theorem pX4_msk {s : tw_F} {V : tw_V} (h : sp_RA s V) (hV : sp_ok V) {t : Nat} (ht : t < sp_n V) : fX4_of s (zi t) (4 : Int32) = some (sp_msk V t) := by
  have hn := sp_12 hV
  rw [zl4, pX4_of (by omega) (by omega), (h.2.2.1 t ht).2.2.2.2]
theorem ob_some {α β : Type} (x : α) (f : α → Option β) : (some x).bind f = f x := rfl
theorem pX4_followers {s : tw_F} {V : tw_V} (h : sp_RA s V) (hV : sp_ok V) {t : Nat} (ht : t < sp_n V) : fX4_followers s (zi t) = some (zi (sp_flw V t)) := by
  have hn := sp_12 hV
  unfold fX4_followers
  refine lup (fun fuel k => fX4_followers_4 s (zi t) fuel (zi (sp_sum (fun o => if sp_bit V o t = true then 1 else 0) k)) (zi k)) _ (sp_n V) (fun fuel => ?_) (fun fuel k hk => ?_) 512 (by omega)
  · (try dsimp only)
    rw [fX4_followers_4, zT0, h.1, if_pos ((zi_le (by omega) (by omega) (by omega) (by omega)).mpr (Int.le_refl _))]
    rfl
  · (try dsimp only)
    rw [fX4_followers_4, zT0, h.1, if_neg (by rw [zi_le (by omega) (by omega) (by omega) (by omega)]; omega), pX4_msk h hV hk, ob_some, tb_shr (by omega), zi_suc, sp_sum]
    unfold sp_bit
    by_cases hb : bt (sp_msk V k) t = true
    · rw [if_pos hb, if_pos hb, z1, zi_add]
    · rw [if_neg hb, if_neg hb, z0, zi_add]
theorem pX4_weight {s : tw_F} {V : tw_V} (h : sp_RA s V) (hV : sp_ok V) {t : Nat} (ht : t < sp_n V) : fX4_weight s (zi t) = some (zi (sp_key V t)) := by
  have hn := sp_12 hV
  obtain ⟨-, hr1, hr2, -⟩ := id hV
  unfold fX4_weight sp_key
  rw [zT1, h.2.1, pX4_len h hV ht, pX4_followers h hV ht, pX4_ear h hV ht, show (2 : Int32) = zi 2 from rfl, z0, z1]
  simp only [ob_some]
  rw [zif_eq (by omega) (by omega) (by omega) (by omega), zif_eq (by omega) (by omega) (by omega) (by omega), zif_eq (by omega) (by omega) (by omega) (by omega)]
  by_cases e0 : sp_rule V = 0
  · rw [if_pos e0, if_neg (by omega), if_neg (by omega), if_neg (by omega)]
  · rw [if_neg e0]
    by_cases e1 : sp_rule V = 1
    · rw [if_pos e1, if_pos e1]
    · rw [if_neg e1, if_neg e1]
      by_cases e2 : sp_rule V = 2
      · rw [if_pos e2, if_pos e2]
      · rw [if_neg e2, if_neg e2, if_pos (by omega)]
theorem pX4_behind {s d : tw_F} {V : tw_V} {b : Nat → Int} (h : sp_RA s V) (hV : sp_ok V) (hB : sp_RB d V b) {t : Nat} (ht : t < sp_n V) : fX4_behind s d (zi t) = some (zi (b t + sp_len V t)) := by
  have hn := sp_12 hV
  unfold fX4_behind
  rw [zi_g (by omega) (by omega) (by omega), pX4_len h hV ht, ob_some, zi_Tn (by omega), hB t ht, zi_add]
theorem tb_shr1 {m : Int32} {k : Nat} (hk : k < 32) : ¬ ((m >>> (zi (k : Int) &&& 31)) &&& (1 : Int32)) = (1 : Int32) ↔ ¬ bt m k = true := by
  rw [tb_shr hk]
  by_cases h : bt m k = true
  · rw [if_pos h]; simp [h]
  · rw [if_neg h]; simp [h]
theorem pX4_ready {s d : tw_F} {V : tw_V} {b : Nat → Int} (h : sp_RA s V) (hV : sp_ok V) (hB : sp_RB d V b) (hb : sp_bok V b) {t : Nat} (ht : t < sp_n V) : fX4_ready s d (zi t) = some (zi (sp_start V b t)) := by
  have hn := sp_12 hV
  unfold fX4_ready
  rw [pX4_ear h hV ht, ob_some]
  refine lup (fun fuel k => fX4_ready_10 s d (zi t) fuel (zi (sp_sta V b t k)) (zi k)) _ t (fun fuel => ?_) (fun fuel k hk => ?_) 512 (by omega)
  · (try dsimp only)
    rw [fX4_ready_10, if_pos ((zi_le (by omega) (by omega) (by omega) (by omega)).mpr (Int.le_refl _))]
    rfl
  · (try dsimp only)
    have h1 := sp_sta_le hV hb ht k (by omega)
    have h2 := sp_b_le hV hb (t := k) (by omega)
    obtain ⟨l1, l2, -⟩ := hV.2.2.2.1 k (by omega)
    rw [fX4_ready_10, if_neg (by rw [zi_le (by omega) (by omega) (by omega) (by omega)]; omega), pX4_msk h hV ht, ob_some, pX4_behind h hV hB (by omega : k < sp_n V), zi_suc, sp_sta]
    simp only [ob_some]
    unfold sp_bit
    by_cases hbt : bt (sp_msk V t) k = true
    · rw [if_neg (by rw [tb_shr1 (by omega)]; exact fun q => q hbt), zif_le (by omega) (by omega) (by omega) (by omega)]
      by_cases e : b k + sp_len V k ≤ sp_sta V b t k
      · rw [if_pos e, if_neg (by omega)]
      · rw [if_neg e, if_pos ⟨hbt, by omega⟩]
    · rw [if_pos ((tb_shr1 (by omega)).mpr hbt), if_neg (fun q => hbt q.1)]
theorem sp_all_suc {p : Nat → Bool} {k : Nat} : sp_all p (k + 1) = (sp_all p k && p k) := rfl
theorem pX4_isFree_166 {s d : tw_F} {p2 p3 : Int32} {k70 : Int32 → Int32 → Int32 → Int32 → Option Int32} {t0 v4 v5 v7 v8 : Int32} : fX4_isFree_166 s d p2 p3 k70 t0 v4 v5 v7 v8 = k70 v4 v5 (if v8 = 0 ∨ t0 = 0 then 1 else 0) (v7 + 1) := by
  unfold fX4_isFree_166
  by_cases e1 : v8 = 0
  · rw [if_pos e1, if_pos (Or.inl e1)]
  · rw [if_neg e1]
    by_cases e2 : t0 = 0
    · rw [if_neg (fun q => q e2), if_pos (Or.inr e2)]
    · rw [if_pos e2, if_neg (fun q => q.elim e1 e2)]
theorem pX4_isFree_143 {s d : tw_F} {V : tw_V} (h : sp_RA s V) (hV : sp_ok V) {t o : Nat} (ht : t < sp_n V) (ho : o < sp_n V) {p3 : Int32} {k70 : Int32 → Int32 → Int32 → Int32 → Option Int32} {v4 v8 : Int32} : fX4_isFree_143 s d (zi t) p3 k70 v4 (zi (sp_hal V t)) (zi o) v8 = k70 v4 (zi (sp_hal V t)) (if v8 = 0 ∨ ¬ (sp_hal V t ≠ -1 ∧ sp_hal V t = sp_hal V o) then 1 else 0) (zi ((o + 1 : Nat) : Int)) := by
  have hn := sp_12 hV
  obtain ⟨-, -, -, -, a1, a2, -⟩ := hV.2.2.2.1 t ht
  obtain ⟨-, -, -, -, b1, b2, -⟩ := hV.2.2.2.1 o ho
  have c0 : ¬ (1 : Int32) = 0 := by decide
  have e1 : zi (sp_hal V t) = -1 ↔ sp_hal V t = -1 := zi_eq (b := -1) (by omega) (by omega) (by omega) (by omega)
  have e2 : zi (sp_hal V t) = zi (sp_hal V o) ↔ sp_hal V t = sp_hal V o := zi_eq (by omega) (by omega) (by omega) (by omega)
  unfold fX4_isFree_143
  rw [pX4_hal h hV ho, ob_some, pX4_isFree_166, pX4_isFree_166, zi_suc]
  by_cases u1 : sp_hal V t = -1
  · rw [if_pos (e1.mpr u1), if_pos (Or.inr rfl), if_pos (Or.inr (fun q => q.1 u1))]
  · rw [if_neg (fun q => u1 (e1.mp q))]
    by_cases u2 : sp_hal V t = sp_hal V o
    · rw [if_neg (fun q => q (e2.mpr u2))]
      by_cases u3 : v8 = 0
      · rw [if_pos (Or.inl u3), if_pos (Or.inl u3)]
      · rw [if_neg (fun q => q.elim u3 c0), if_neg (fun q => q.elim u3 (fun q => q ⟨u1, u2⟩))]
    · rw [if_pos (fun q => u2 (e2.mp q)), if_pos (Or.inr rfl), if_pos (Or.inr (fun q => u2 q.2))]
theorem pX4_isFree_115 {s d : tw_F} {V : tw_V} (h : sp_RA s V) (hV : sp_ok V) {t o : Nat} (ht : t < sp_n V) (ho : o < sp_n V) {p3 : Int32} {k70 : Int32 → Int32 → Int32 → Int32 → Option Int32} {v4 t0 : Int32} : fX4_isFree_115 s d (zi t) p3 k70 t0 v4 (zi (sp_hal V t)) (zi o) = k70 v4 (zi (sp_hal V t)) (if t0 = 0 ∨ ¬ sp_shr V t o = true then 1 else 0) (zi ((o + 1 : Nat) : Int)) := by
  have hn := sp_12 hV
  obtain ⟨-, -, a1, a2, -⟩ := hV.2.2.2.1 t ht
  obtain ⟨-, -, b1, b2, -⟩ := hV.2.2.2.1 o ho
  have c0 : ¬ (1 : Int32) = 0 := by decide
  have e1 : zi (sp_per V t) = -1 ↔ sp_per V t = -1 := zi_eq (b := -1) (by omega) (by omega) (by omega) (by omega)
  have e2 : zi (sp_per V t) = zi (sp_per V o) ↔ sp_per V t = sp_per V o := zi_eq (by omega) (by omega) (by omega) (by omega)
  have hs : sp_shr V t o = true ↔ (sp_per V t ≠ -1 ∧ sp_per V t = sp_per V o) ∨ (sp_hal V t ≠ -1 ∧ sp_hal V t = sp_hal V o) := by
    unfold sp_shr
    simp only [Bool.or_eq_true, Bool.and_eq_true, decide_eq_true_eq]
  unfold fX4_isFree_115
  rw [pX4_per h hV ht, ob_some, ob_some, pX4_per h hV ho, ob_some, pX4_isFree_143 h hV ht ho, pX4_isFree_166, zi_suc]
  by_cases u1 : sp_per V t = -1
  · rw [if_pos (e1.mpr u1)]
    have : sp_shr V t o = true ↔ (sp_hal V t ≠ -1 ∧ sp_hal V t = sp_hal V o) := by rw [hs]; exact ⟨fun q => q.resolve_left (fun q => q.1 u1), Or.inr⟩
    simp only [this]
  · rw [if_neg (fun q => u1 (e1.mp q))]
    by_cases u2 : sp_per V t = sp_per V o
    · rw [if_pos (e2.mpr u2)]
      have : sp_shr V t o = true := hs.mpr (Or.inl ⟨u1, u2⟩)
      simp only [this, c0, not_true_eq_false]
    · rw [if_neg (fun q => u2 (e2.mp q))]
      have : sp_shr V t o = true ↔ (sp_hal V t ≠ -1 ∧ sp_hal V t = sp_hal V o) := by rw [hs]; exact ⟨fun q => q.resolve_left (fun q => u2 q.2), Or.inr⟩
      simp only [this]
theorem pX4_isFree {s d : tw_F} {V : tw_V} {b : Nat → Int} (h : sp_RA s V) (hV : sp_ok V) (hB : sp_RB d V b) (hb : sp_bok V b) {t : Nat} (ht : t < sp_n V) {x : Int} (x0 : 0 ≤ x) (x1 : x ≤ 200) : fX4_isFree s d (zi t) (zi x) = some (if sp_fre V b t x = true then 1 else 0) := by
  have hn := sp_12 hV
  obtain ⟨t1, t2, t3, t4, t5, t6, -⟩ := hV.2.2.2.1 t ht
  have c0 : ¬ (1 : Int32) = 0 := by decide
  have c1 : ¬ (0 : Int32) = 1 := by decide
  have loop : ∀ w : Bool, fX4_isFree_70 s d (zi t) (zi x) 512 (zi (x + sp_len V t - 1)) (zi (sp_hal V t)) (if w = true then 1 else 0) (0 : Int32) = some (if (w && sp_all (fun o => !sp_cls V b t x o) (sp_n V)) = true then 1 else 0) := by
    intro w
    refine ldn (fun fuel k => fX4_isFree_70 s d (zi t) (zi x) fuel (zi (x + sp_len V t - 1)) (zi (sp_hal V t)) (if (w && sp_all (fun o => !sp_cls V b t x o) k) = true then 1 else 0) (zi k)) (fun _ => if (w && sp_all (fun o => !sp_cls V b t x o) (sp_n V)) = true then 1 else 0) (sp_n V) (fun fuel => ?_) (fun fuel k hk hr => ?_) 0 512 (by omega) (by omega) |> fun q => by
      (try dsimp only at q)
      have e : sp_all (fun o => !sp_cls V b t x o) 0 = true := rfl
      rw [e, Bool.and_true] at q
      exact q
    · (try dsimp only)
      rw [fX4_isFree_70, zT0, h.1, if_pos ((zi_le (by omega) (by omega) (by omega) (by omega)).mpr (Int.le_refl _))]
      rw [zi_q (by split <;> simp)]
    · (try dsimp only at hr ⊢)
      have h2 := sp_b_le hV hb hk
      obtain ⟨l1, l2, p1, p2, q1, q2, -⟩ := hV.2.2.2.1 k hk
      rw [fX4_isFree_70, zT0, h.1, if_neg (by rw [zi_le (by omega) (by omega) (by omega) (by omega)]; omega)]
      by_cases hw : (w && sp_all (fun o => !sp_cls V b t x o) k) = true
      · rw [if_pos hw, if_neg c0]
        rw [sp_all_suc, ← Bool.and_assoc, hw, Bool.true_and] at hr
        simp only [zi_g (show (0 : Int) ≤ k by omega) (show (k : Int) < (12 : Nat) by omega) (show 12 < 1000 by omega), zi_Tn (show k < 2147483648 by omega), hB k hk, pX4_behind h hV hB hk, ob_some]
        rw [pX4_isFree_115 h hV ht hk, pX4_isFree_115 h hV ht hk]
        have e1 : zi (b k) < 0 ↔ b k < 0 := zi_lt (b := 0) (by omega) (by omega) (by omega) (by omega)
        have e2 : zi (x + sp_len V t - 1) < zi (b k) ↔ x + sp_len V t - 1 < b k := zi_lt (by omega) (by omega) (by omega) (by omega)
        have e3 : zi (b k + sp_len V k) ≤ zi x ↔ b k + sp_len V k ≤ x := zi_le (by omega) (by omega) (by omega) (by omega)
        have hm : sp_cls V b t x k = true ↔ (¬ b k < 0 ∧ ¬ x + sp_len V t - 1 < b k ∧ ¬ b k + sp_len V k ≤ x) ∧ sp_shr V t k = true := by
          rw [sp_cls_iff]
          exact and_congr (by omega) Iff.rfl
        have yes : ∀ (c : Prop) [Decidable c], c → (c → sp_cls V b t x k = false) → fX4_isFree_70 s d (zi t) (zi x) fuel (zi (x + sp_len V t - 1)) (zi (sp_hal V t)) (if c then 1 else 0) (zi ((k + 1 : Nat) : Int)) = some (if (w && sp_all (fun o => !sp_cls V b t x o) (sp_n V)) = true then 1 else 0) := fun c _ h1 h2 => by
          rw [if_pos h1]
          rw [h2 h1] at hr
          exact hr
        have nope : ∀ {c : Prop}, (c → False) → c → sp_cls V b t x k = false := fun q1 q2 => (q1 q2).elim
        by_cases v1 : b k < 0
        · rw [if_pos (e1.mpr v1)]
          exact yes _ (Or.inl rfl) (fun _ => by rw [← Bool.not_eq_true, hm]; exact fun q => q.1.1 v1)
        · rw [if_neg (fun q => v1 (e1.mp q))]
          by_cases v2 : x + sp_len V t - 1 < b k
          · rw [if_pos (e2.mpr v2)]
            exact yes _ (Or.inl rfl) (fun _ => by rw [← Bool.not_eq_true, hm]; exact fun q => q.1.2.1 v2)
          · rw [if_neg (fun q => v2 (e2.mp q))]
            by_cases v3 : b k + sp_len V k ≤ x
            · rw [if_pos (e3.mpr v3)]
              exact yes _ (Or.inl rfl) (fun _ => by rw [← Bool.not_eq_true, hm]; exact fun q => q.1.2.2 v3)
            · rw [if_neg (fun q => v3 (e3.mp q))]
              by_cases v4 : sp_shr V t k = true
              · rw [if_neg (fun q => q.elim c0 (fun q => q v4))]
                rw [hm.mpr ⟨⟨v1, v2, v3⟩, v4⟩] at hr
                exact hr
              · exact yes _ (Or.inr v4) (fun _ => by rw [← Bool.not_eq_true, hm]; exact fun q => v4 q.2)
      · rw [if_neg hw, if_pos rfl, zi_q (Or.inl rfl)]
        have : (w && sp_all (fun o => !sp_cls V b t x o) (sp_n V)) = false := by
          rw [← Bool.not_eq_true, Bool.and_eq_true, sp_all_iff]
          rw [Bool.and_eq_true, sp_all_iff] at hw
          exact fun q => hw ⟨q.1, fun j hj => q.2 j (by omega)⟩
        rw [this]
        rfl
  unfold fX4_isFree
  rw [pX4_len h hV ht, ob_some, pX4_hal h hV ht, ob_some, zm1, z1, zi_add, zi_sub, show (100 : Int32) = zi 100 from rfl, zif_le (by omega) (by omega) (by omega) (by omega), zif_eq (by omega) (by omega) (by omega) (by omega), ← z1]
  have hf : sp_fre V b t x = (sp_win V t x && sp_all (fun o => !sp_cls V b t x o) (sp_n V)) := rfl
  rw [hf]
  have l1 : ∀ w : Bool, sp_win V t x = w → fX4_isFree_70 s d (zi t) (zi x) 512 (zi (x + sp_len V t - 1)) (zi (sp_hal V t)) (if w = true then 1 else 0) (0 : Int32) = some (if (sp_win V t x && sp_all (fun o => !sp_cls V b t x o) (sp_n V)) = true then 1 else 0) := fun w hw => by rw [hw]; exact loop w
  have lt := l1 true
  have lf := l1 false
  simp only [if_true, Bool.false_eq_true, if_false] at lt lf
  by_cases e1 : 100 ≤ x + sp_len V t - 1
  · rw [if_pos e1]
    exact lf (by rw [← Bool.not_eq_true, sp_win_iff]; omega)
  · rw [if_neg e1]
    by_cases e2 : sp_hal V t = -1
    · rw [if_pos e2]
      exact lt (by rw [sp_win_iff]; exact ⟨by omega, Or.inl e2⟩)
    · rw [if_neg e2]
      obtain ⟨hh, hhe⟩ : ∃ hh : Nat, sp_hal V t = hh := ⟨(sp_hal V t).toNat, by omega⟩
      have h4 : hh < 4 := by omega
      obtain ⟨f1, f2, f3, f4⟩ := hV.2.2.2.2 hh h4
      rw [hhe] at lt lf ⊢
      rw [zl2, zi_mul, zi_add, show ((2 : Nat) : Int) + ((2 : Nat) : Int) * (hh : Int) = ((2 + 2 * hh : Nat) : Int) by omega, zi_g (by omega) (by omega) (by omega), zi_Tn (by omega), (h.2.2.2 hh h4).1, zi_suc, zi_g (by omega) (by omega) (by omega), zi_Tn (by omega), (h.2.2.2 hh h4).2, zif_lt (by omega) (by omega) (by omega) (by omega), zif_lt (by omega) (by omega) (by omega) (by omega)]
      have hwin : sp_win V t x = true ↔ ¬ x < sp_fst V hh ∧ ¬ sp_lst V hh < x + sp_len V t - 1 := by
        rw [sp_win_iff, hhe, Int.toNat_natCast]
        omega
      by_cases e3 : x < sp_fst V hh
      · rw [if_pos e3]
        exact lf (by rw [← Bool.not_eq_true, hwin]; omega)
      · rw [if_neg e3]
        by_cases e4 : sp_lst V hh < x + sp_len V t - 1
        · rw [if_pos e4]
          exact lf (by rw [← Bool.not_eq_true, hwin]; omega)
        · rw [if_neg e4]
          exact lt (hwin.mpr ⟨e3, e4⟩)
