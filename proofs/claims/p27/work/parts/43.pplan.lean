/-! the class's Plan, as numbers -/
theorem sp_sta_le {V : tw_V} (hV : sp_ok V) {b : Nat → Int} (hb : sp_bok V b) {t : Nat} (ht : t < sp_n V) : ∀ k, k ≤ t → 0 ≤ sp_sta V b t k ∧ sp_sta V b t k ≤ 129
  | 0, _ => by
    obtain ⟨-, -, -, -, -, -, h7, h8, -⟩ := hV.2.2.2.1 t ht
    exact ⟨h7, h8⟩
  | k + 1, hk => by
    have ih := sp_sta_le hV hb ht k (by omega)
    obtain ⟨l1, l2, -⟩ := hV.2.2.2.1 k (by omega)
    have h2 := hb k (by omega)
    rw [sp_sta]
    split
    · omega
    · exact ih
theorem sp_b_le {V : tw_V} (hV : sp_ok V) {b : Nat → Int} (hb : sp_bok V b) {t : Nat} (ht : t < sp_n V) : -1 ≤ b t ∧ b t ≤ 99 := by
  obtain ⟨l1, l2, -⟩ := hV.2.2.2.1 t ht
  rcases hb t ht with h | h <;> omega
theorem zi_max (a b : Int) (h1 : -2147483648 ≤ a) (h2 : a < 2147483648) (h3 : -2147483648 ≤ b) (h4 : b < 2147483648) : (if zi a < zi b then zi b else zi a) = zi (if a < b then b else a) := by
  by_cases h : a < b
  · rw [if_pos h, if_pos ((zi_lt h1 h2 h3 h4).mpr h)]
  · rw [if_neg h, if_neg (fun q => h ((zi_lt h1 h2 h3 h4).mp q))]
theorem pX0_startOf {P : tw_Pl} {S : tw_St} {V : tw_V} {b : Nat → Int} (h : sp_RS S V) (hV : sp_ok V) (hB : sp_RB P.1 V b) (hb : sp_bok V b) {t : Nat} (ht : t < sp_n V) (hnd : ∀ o, o < t → sp_bit V t o = true → b o ≠ -1) : fX0_startOf P S (zi t) = some (zi (sp_start V b t)) := by
  have hn := sp_12 hV
  unfold fX0_startOf
  rw [zi_g (by omega) (by omega) (by omega), zi_Tn (by omega), sp_RS_ear h t ht]
  refine lup (fun fuel k => fX0_startOf_10 P S (zi t) fuel (zi (sp_sta V b t k)) (zi k)) _ t (fun fuel => ?_) (fun fuel k hk => ?_) 512 (by omega)
  · (try dsimp only)
    rw [fX0_startOf_10, if_pos ((zi_le (by omega) (by omega) (by omega) (by omega)).mpr (Int.le_refl _))]
    rfl
  · (try dsimp only)
    have h1 := sp_sta_le hV hb ht k (by omega)
    have h2 := sp_b_le hV hb (t := k) (by omega)
    obtain ⟨l1, l2, -⟩ := hV.2.2.2.1 k (by omega)
    rw [fX0_startOf_10, if_neg (by rw [zi_le (by omega) (by omega) (by omega) (by omega)]; omega)]
    rw [zi_g (by omega) (by omega) (by omega), zi_Tn (by omega), hB k (by omega), zm1]
    have hadd : zi (k : Int) + 1 = zi ((k + 1 : Nat) : Int) := by rw [z1, zi_add]; rfl
    rw [hadd, sp_sta]
    by_cases hk1 : b k = -1
    · rw [if_pos (by rw [hk1]), if_neg]
      intro hq
      exact hnd k hk hq.1 hk1
    · rw [if_neg (by rw [zi_eq (by omega) (by omega) (by omega) (by omega)]; exact hk1), pX1_isNeeded h hV ht (by omega)]
      show (if (if sp_bit V t k = true then (1 : Int32) else 0) = 0 then _ else _) = _
      by_cases hbt : sp_bit V t k = true
      · rw [if_pos hbt, if_neg zi_b1, zi_g (by omega) (by omega) (by omega), zi_g (by omega) (by omega) (by omega), sp_RS_len h k (by omega), zi_add, zi_max _ _ (by omega) (by omega) (by omega) (by omega)]
        simp only [hbt, true_and]
      · rw [if_neg hbt, if_pos rfl, if_neg (fun q => hbt q.1)]
/-- the day behind the first task in the way, from k on; else the day itself -/
def sp_bc (V : tw_V) (b : Nat → Int) (t : Nat) (d : Int) : Nat → Nat → Int
  | 0, _ => d
  | m + 1, k => if sp_cls V b t d k = true then b k + sp_len V k else sp_bc V b t d m (k + 1)
theorem pX0_behindClash {P : tw_Pl} {S : tw_St} {V : tw_V} {b : Nat → Int} (h : sp_RS S V) (hV : sp_ok V) (hB : sp_RB P.1 V b) (hb : sp_bok V b) {t : Nat} (ht : t < sp_n V) {d : Int} (hd0 : 0 ≤ d) (hd1 : d ≤ 200) : fX0_behindClash P S (zi t) (zi d) = some (zi (sp_bc V b t d (sp_n V) 0)) := by
  have hn := sp_12 hV
  obtain ⟨t1, t2, -⟩ := hV.2.2.2.1 t ht
  unfold fX0_behindClash
  rw [zi_g (by omega) (by omega) (by omega), zi_Tn (by omega), sp_RS_len h t ht, zi_add]
  refine ldn (fun fuel k => fX0_behindClash_13 P S (zi t) (zi d) fuel (zi (d + sp_len V t)) (zi k)) (fun k => zi (sp_bc V b t d (sp_n V - k) k)) (sp_n V) (fun fuel => ?_) (fun fuel k hk hr => ?_) 0 512 (by omega) (by omega)
  · (try dsimp only)
    rw [fX0_behindClash_13, h.1, if_pos ((zi_le (by omega) (by omega) (by omega) (by omega)).mpr (Int.le_refl _)), Nat.sub_self]
    rfl
  · (try dsimp only at hr ⊢)
    have h2 := sp_b_le hV hb hk
    obtain ⟨l1, l2, -⟩ := hV.2.2.2.1 k hk
    have hadd : zi (k : Int) + 1 = zi ((k + 1 : Nat) : Int) := by rw [z1, zi_add]; rfl
    rw [fX0_behindClash_13, h.1, if_neg (by rw [zi_le (by omega) (by omega) (by omega) (by omega)]; omega)]
    rw [zi_g (by omega) (by omega) (by omega), zi_g (by omega) (by omega) (by omega), zi_Tn (by omega), hB k hk, zm1, hadd, sp_RS_len h k hk, zi_add, pX1_share h hV ht hk]
    rw [show sp_n V - k = (sp_n V - (k + 1)) + 1 by omega, sp_bc]
    show (if zi (b k) = zi (-1) then _ else if zi (d + sp_len V t) ≤ zi (b k) then _ else if zi (b k + sp_len V k) ≤ zi d then _ else if (if sp_shr V t k = true then (1 : Int32) else 0) = 0 then _ else _) = _
    simp (disch := omega) only [zi_eq, zi_le]
    unfold sp_cls
    by_cases e1 : b k = -1
    · rw [if_pos e1, if_neg (by simp [e1])]; exact hr
    · rw [if_neg e1]
      by_cases e2 : d + sp_len V t ≤ b k
      · rw [if_pos e2, if_neg (by simp; omega)]; exact hr
      · rw [if_neg e2]
        by_cases e3 : b k + sp_len V k ≤ d
        · rw [if_pos e3, if_neg (by simp; omega)]; exact hr
        · rw [if_neg e3]
          by_cases e4 : sp_shr V t k = true
          · rw [if_pos e4, if_neg zi_b1, if_pos (by simp [e4, e1]; omega)]
          · rw [if_neg e4, if_pos rfl, if_neg (by simp [e4])]; exact hr
/-! seeking a day -/
theorem sp_seek_fuel {V : tw_V} {b : Nat → Int} {t : Nat} : ∀ (f f' : Nat) (d : Int), 100 - d < f → 100 - d < f' → sp_seek V b t f d = sp_seek V b t f' d
  | 0, f', d, h1, h2 => by
    cases f' with
    | zero => rfl
    | succ f' => rw [sp_seek, sp_seek, if_pos (by omega)]
  | f + 1, 0, d, h1, h2 => by rw [sp_seek, sp_seek, if_pos (by omega)]
  | f + 1, f' + 1, d, h1, h2 => by
    rw [sp_seek, sp_seek]
    by_cases h : 100 ≤ d
    · rw [if_pos h, if_pos h]
    · rw [if_neg h, if_neg h, sp_seek_fuel f f' (d + 1) (by omega) (by omega)]
theorem sp_seek_skip {V : tw_V} {b : Nat → Int} {t : Nat} : ∀ (k : Nat) (f f' : Nat) (d : Int), 100 - d < f → 100 - (d + k) < f' → (∀ x : Int, d ≤ x → x < d + k → x < 100 → sp_fre V b t x = false) → sp_seek V b t f d = sp_seek V b t f' (d + k)
  | 0, f, f', d, h1, h2, _ => by
    rw [sp_seek_fuel f f' d h1 (by omega)]
    simp
  | k + 1, f, f', d, h1, h2, h3 => by
    have h4 : sp_seek V b t f d = sp_seek V b t f (d + 1) := by
      cases f with
      | zero => rfl
      | succ f =>
        rw [sp_seek]
        by_cases h : 100 ≤ d
        · rw [if_pos h, sp_seek, if_pos (by omega)]
        · rw [if_neg h, if_neg (by rw [h3 d (by omega) (by omega) (by omega)]; decide)]
          exact sp_seek_fuel f (f + 1) (d + 1) (by omega) (by omega)
    rw [h4, sp_seek_skip k f f' (d + 1) (by omega) (by omega) (fun x h5 h6 h7 => h3 x (by omega) (by omega) h7)]
    congr 1
    omega
theorem sp_seek_none {V : tw_V} {b : Nat → Int} {t : Nat} {f : Nat} {d : Int} (h1 : 100 - d < f) (h3 : ∀ x : Int, d ≤ x → x < 100 → sp_fre V b t x = false) : sp_seek V b t f d = -1 := by
  by_cases h : 100 ≤ d
  · cases f with
    | zero => rfl
    | succ f => rw [sp_seek, if_pos h]
  · rw [sp_seek_skip (100 - d).toNat f 1 d h1 (by omega) (fun x h5 _ h7 => h3 x h5 h7), sp_seek, if_pos (by omega)]
theorem sp_seek_here {V : tw_V} {b : Nat → Int} {t : Nat} {f : Nat} {d : Int} (h1 : 100 - d < f) (h2 : d < 100) (h3 : sp_fre V b t d = true) : sp_seek V b t f d = d := by
  cases f with
  | zero => omega
  | succ f => rw [sp_seek, if_neg (by omega), if_pos h3]
theorem sp_seek_spec {V : tw_V} {b : Nat → Int} {t : Nat} : ∀ (f : Nat) (d : Int), sp_seek V b t f d = -1 ∨ (d ≤ sp_seek V b t f d ∧ sp_seek V b t f d < 100 ∧ sp_fre V b t (sp_seek V b t f d) = true)
  | 0, d => Or.inl rfl
  | f + 1, d => by
    rw [sp_seek]
    by_cases h : 100 ≤ d
    · rw [if_pos h]; exact Or.inl rfl
    · rw [if_neg h]
      by_cases h2 : sp_fre V b t d = true
      · rw [if_pos h2]; exact Or.inr ⟨by omega, by omega, h2⟩
      · rw [if_neg h2]
        rcases sp_seek_spec f (d + 1) with h3 | h3
        · exact Or.inl h3
        · exact Or.inr ⟨by omega, h3.2⟩
theorem sp_bc_no {V : tw_V} {b : Nat → Int} {t : Nat} {d : Int} : ∀ (m k : Nat), (∀ o, k ≤ o → o < k + m → sp_cls V b t d o = false) → sp_bc V b t d m k = d
  | 0, _, _ => rfl
  | m + 1, k, h => by rw [sp_bc, if_neg (by rw [h k (by omega) (by omega)]; decide), sp_bc_no m (k + 1) (fun o h1 h2 => h o (by omega) (by omega))]
theorem sp_bc_yes {V : tw_V} {b : Nat → Int} {t : Nat} {d : Int} : ∀ (m k : Nat), (∃ o, k ≤ o ∧ o < k + m ∧ sp_cls V b t d o = true) → ∃ o, k ≤ o ∧ o < k + m ∧ sp_cls V b t d o = true ∧ sp_bc V b t d m k = b o + sp_len V o
  | 0, _, ⟨o, h1, h2, _⟩ => absurd h2 (by omega)
  | m + 1, k, ⟨o, h1, h2, h3⟩ => by
    rw [sp_bc]
    by_cases hk : sp_cls V b t d k = true
    · rw [if_pos hk]; exact ⟨k, by omega, by omega, hk, rfl⟩
    · rw [if_neg hk]
      have : k ≠ o := fun e => hk (by rw [e]; exact h3)
      obtain ⟨o', g1, g2, g3, g4⟩ := sp_bc_yes (V := V) (b := b) (t := t) (d := d) m (k + 1) ⟨o, by omega, by omega, h3⟩
      exact ⟨o', by omega, by omega, g3, g4⟩
/-- how many tasks could still be in the way behind a day -/
def sp_rem (V : tw_V) (b : Nat → Int) (t : Nat) (d : Int) (n : Nat) : Int := sp_sum (fun o => if (b o ≠ -1 ∧ d < b o + sp_len V o) ∧ sp_shr V t o = true then 1 else 0) n
theorem sp_sum_mono {f g : Nat → Int} : ∀ {n : Nat}, (∀ k, k < n → f k ≤ g k) → sp_sum f n ≤ sp_sum g n
  | 0, _ => Int.le_refl _
  | n + 1, h => by
    have h1 := sp_sum_mono (n := n) (fun k hk => h k (by omega))
    have h2 := h n (by omega)
    rw [sp_sum, sp_sum]; omega
theorem sp_sum_lt {f g : Nat → Int} {o : Nat} : ∀ {n : Nat}, (∀ k, k < n → f k ≤ g k) → o < n → f o + 1 ≤ g o → sp_sum f n + 1 ≤ sp_sum g n
  | 0, _, h, _ => absurd h (Nat.not_lt_zero o)
  | n + 1, h, ho, h2 => by
    rw [sp_sum, sp_sum]
    by_cases e : o = n
    · subst e
      have h1 := sp_sum_mono (n := o) (fun k hk => h k (by omega))
      omega
    · have h1 := sp_sum_lt (n := n) (fun k hk => h k (by omega)) (by omega) h2
      have h3 := h n (by omega)
      omega
theorem sp_cls_iff {V : tw_V} {b : Nat → Int} {t o : Nat} {d : Int} : sp_cls V b t d o = true ↔ (b o ≠ -1 ∧ b o < d + sp_len V t ∧ d < b o + sp_len V o) ∧ sp_shr V t o = true := by
  unfold sp_cls
  simp [and_assoc]
theorem sp_fre_iff {V : tw_V} {b : Nat → Int} {t : Nat} {d : Int} : sp_fre V b t d = true ↔ sp_win V t d = true ∧ ∀ o, o < sp_n V → sp_cls V b t d o = false := by
  unfold sp_fre
  rw [Bool.and_eq_true, sp_all_iff]
  simp
theorem sp_win_iff {V : tw_V} {t : Nat} {d : Int} : sp_win V t d = true ↔ d + sp_len V t ≤ 100 ∧ (sp_hal V t = -1 ∨ (sp_fst V (sp_hal V t).toNat ≤ d ∧ d + sp_len V t ≤ sp_lst V (sp_hal V t).toNat + 1)) := by
  unfold sp_win
  simp
/-- the search with jumps, from a day from which nothing ahead was free -/
theorem pX0_firstDay_51 {P : tw_Pl} {S : tw_St} {V : tw_V} {b : Nat → Int} (h : sp_RS S V) (hV : sp_ok V) (hB : sp_RB P.1 V b) (hb : sp_bok V b) {t : Nat} (ht : t < sp_n V) {e : Int} (he0 : 0 ≤ e) (he1 : e ≤ 100)
    (hwin : ∀ x : Int, e < x + sp_len V t → sp_win V t x = false) : ∀ (m : Nat) (fuel turn : Nat) (d : Int), turn + m = 12 → m < fuel → 0 ≤ d → d ≤ 199 → sp_rem V b t d (sp_n V) + 1 ≤ m → (∀ x : Int, d ≤ x → x + sp_len V t ≤ e → sp_win V t x = true) → fX0_firstDay_51 P S (zi t) fuel (zi d) (zi e) (zi turn) = some (zi (sp_seek V b t 300 d))
  | 0, fuel, turn, d, h1, h2, h3, h4, h5, h6 => by
    have := (sp_sum_le (f := fun o => if (b o ≠ -1 ∧ d < b o + sp_len V o) ∧ sp_shr V t o = true then 1 else 0) (c := 1) (n := sp_n V) (fun o _ => by (try dsimp only); split <;> omega)).1
    unfold sp_rem at h5
    omega
  | m + 1, fuel, turn, d, h1, h2, h3, h4, h5, h6 => by
    have hn := sp_12 hV
    obtain ⟨t1, t2, -⟩ := hV.2.2.2.1 t ht
    obtain ⟨fuel, rfl⟩ : ∃ f, fuel = f + 1 := ⟨fuel - 1, by omega⟩
    rw [fX0_firstDay_51, show (12 : Int32) = zi 12 from rfl, if_neg (by rw [zi_le (by omega) (by omega) (by omega) (by omega)]; omega)]
    rw [zi_g (by omega) (by omega) (by omega), zi_Tn (by omega), sp_RS_len h t ht, zi_add, zif_lt (by omega) (by omega) (by omega) (by omega)]
    by_cases e1 : e < d + sp_len V t
    · rw [if_pos e1, sp_seek_none (by omega) (fun x q1 q2 => ?_)]
      · rfl
      · rw [← Bool.not_eq_true, sp_fre_iff, hwin x (by omega)]
        simp
    · rw [if_neg e1, pX0_behindClash h hV hB hb ht h3 (by omega)]
      show (if ¬ zi (sp_bc V b t d (sp_n V) 0) = zi d then _ else some (zi d)) = _
      by_cases hc : ∃ o, 0 ≤ o ∧ o < 0 + sp_n V ∧ sp_cls V b t d o = true
      · obtain ⟨o, -, g2, g3, g4⟩ := sp_bc_yes (sp_n V) 0 hc
        rw [g4]
        have g5 := sp_cls_iff.mp g3
        have ho : o < sp_n V := by omega
        have g6 := sp_b_le hV hb ho
        obtain ⟨l1, l2, -⟩ := hV.2.2.2.1 o ho
        have hadd : zi (turn : Int) + 1 = zi ((turn + 1 : Nat) : Int) := by rw [z1, zi_add]; rfl
        rw [if_pos (by rw [zi_eq (by omega) (by omega) (by omega) (by omega)]; omega), hadd]
        rw [pX0_firstDay_51 h hV hB hb ht he0 he1 hwin m fuel (turn + 1) (b o + sp_len V o) (by omega) (by omega) (by omega) (by omega) ?_ (fun x q1 q2 => h6 x (by omega) q2)]
        · congr 1
          congr 1
          have := sp_seek_skip (V := V) (b := b) (t := t) (b o + sp_len V o - d).toNat 300 300 d (by omega) (by omega) (fun x q1 q2 q3 => by
            rw [← Bool.not_eq_true, sp_fre_iff]
            intro q4
            have q5 := q4.2 o ho
            rw [← Bool.not_eq_true, sp_cls_iff] at q5
            exact q5 ⟨⟨g5.1.1, by omega, by omega⟩, g5.2⟩)
          rw [this]
          congr 1
          omega
        · have : sp_rem V b t (b o + sp_len V o) (sp_n V) + 1 ≤ sp_rem V b t d (sp_n V) := by
            unfold sp_rem
            refine sp_sum_lt (o := o) (fun k hk => ?_) ho ?_
            · (try dsimp only)
              split
              · rename_i q
                rw [if_pos ⟨⟨q.1.1, by omega⟩, q.2⟩]
                omega
              · split <;> omega
            · (try dsimp only)
              rw [if_neg (by omega), if_pos ⟨⟨g5.1.1, by omega⟩, g5.2⟩]
              omega
          omega
      · have hno : ∀ o, o < sp_n V → sp_cls V b t d o = false := fun o ho => by
          rw [← Bool.not_eq_true]
          intro q
          exact hc ⟨o, by omega, by omega, q⟩
        rw [sp_bc_no (sp_n V) 0 (fun o _ q => hno o (by omega)), if_neg (by simp)]
        rw [sp_seek_here (by omega) (by omega) (sp_fre_iff.mpr ⟨h6 d (by omega) (by omega), hno⟩)]
theorem sp_start_le {V : tw_V} (hV : sp_ok V) {b : Nat → Int} (hb : sp_bok V b) {t : Nat} (ht : t < sp_n V) : 0 ≤ sp_start V b t ∧ sp_start V b t ≤ 129 := sp_sta_le hV hb ht t (Nat.le_refl t)
theorem sp_rem_11 {V : tw_V} (hV : sp_ok V) {b : Nat → Int} {t : Nat} (ht : t < sp_n V) (hbt : b t = -1) (d : Int) : sp_rem V b t d (sp_n V) + 1 ≤ 12 := by
  have hn := sp_12 hV
  have h1 : sp_sum (fun _ => (1 : Int)) (sp_n V) ≤ sp_n V := by
    have := (sp_sum_le (f := fun _ => (1 : Int)) (c := 1) (n := sp_n V) (fun o _ => by simp)).2
    omega
  have h2 : sp_rem V b t d (sp_n V) + 1 ≤ sp_sum (fun _ => (1 : Int)) (sp_n V) := by
    unfold sp_rem
    refine sp_sum_lt (o := t) (fun k hk => ?_) ht ?_
    · (try dsimp only); split <;> omega
    · (try dsimp only); rw [if_neg (fun q => q.1.1 hbt)]; omega
  omega
theorem pX0_firstDay {P : tw_Pl} {S : tw_St} {V : tw_V} {b : Nat → Int} (h : sp_RS S V) (hV : sp_ok V) (hB : sp_RB P.1 V b) (hb : sp_bok V b) {t : Nat} (ht : t < sp_n V) (hnd : ∀ o, o < t → sp_bit V t o = true → b o ≠ -1) (hbt : b t = -1) : fX0_firstDay P S (zi t) = some (zi (sp_day V b t)) := by
  have hn := sp_12 hV
  obtain ⟨t1, t2, t3, t4, t5, t6, -⟩ := hV.2.2.2.1 t ht
  have hs := sp_start_le hV hb ht
  have hr := sp_rem_11 hV ht hbt
  have hsd : sp_day V b t = sp_seek V b t 300 (sp_start V b t) := sp_seek_fuel 200 300 _ (by omega) (by omega)
  unfold fX0_firstDay
  rw [pX0_startOf h hV hB hb ht hnd]
  show (tw_g (zi t) 12 _) = _
  rw [zi_g (by omega) (by omega) (by omega), zi_Tn (by omega), sp_RS_hal h t ht, zm1, zif_eq (by omega) (by omega) (by omega) (by omega), show (100 : Int32) = zi 100 from rfl, z0]
  by_cases e1 : sp_hal V t = -1
  · rw [if_pos e1, hsd]
    refine pX0_firstDay_51 h hV hB hb ht (e := 100) (by omega) (by omega) ?_ 12 512 0 (sp_start V b t) (by omega) (by omega) (by omega) (by omega) (by have := hr (sp_start V b t); omega) ?_
    · intro x hx
      rw [← Bool.not_eq_true, sp_win_iff]; omega
    · intro x _ hx
      rw [sp_win_iff]; exact ⟨by omega, Or.inl e1⟩
  · obtain ⟨hh, hhe⟩ : ∃ hh : Nat, sp_hal V t = hh := ⟨(sp_hal V t).toNat, by omega⟩
    have h4 : hh < 4 := by omega
    obtain ⟨f1, f2, f3, f4⟩ := hV.2.2.2.2 hh h4
    rw [if_neg e1, hhe, zi_g (by omega) (by omega) (by omega), zi_g (by omega) (by omega) (by omega), zi_Tn (by omega), (h.2.2.2 hh h4).1, (h.2.2.2 hh h4).2, zi_max _ _ (by omega) (by omega) (by omega) (by omega), z1, zi_add]
    obtain ⟨d, hd⟩ : ∃ d : Int, d = if sp_start V b t < sp_fst V hh then sp_fst V hh else sp_start V b t := ⟨_, rfl⟩
    have hd1 : sp_start V b t ≤ d ∧ sp_fst V hh ≤ d ∧ (d = sp_fst V hh ∨ d = sp_start V b t) := by
      rw [hd]; split <;> omega
    rw [← hd, hsd]
    have key := pX0_firstDay_51 h hV hB hb ht (e := sp_lst V hh + 1) (by omega) (by omega) (by
      intro x hx
      rw [← Bool.not_eq_true, sp_win_iff, hhe, Int.toNat_natCast]; omega) 12 512 0 d (by omega) (by omega) (by omega) (by omega) (by have := hr d; omega) (by
      intro x q1 hx
      rw [sp_win_iff, hhe, Int.toNat_natCast]
      refine ⟨by omega, Or.inr ⟨by omega, by omega⟩⟩)
    refine key.trans ?_
    congr 2
    have := sp_seek_skip (V := V) (b := b) (t := t) (d - sp_start V b t).toNat 300 300 (sp_start V b t) (by omega) (by omega) (fun x q1 q2 q3 => by
      rw [← Bool.not_eq_true, sp_fre_iff, sp_win_iff, hhe]
      intro q4
      have q5 := q4.1.2
      rw [Int.toNat_natCast] at q5
      omega)
    rw [this]
    congr 1
    omega
