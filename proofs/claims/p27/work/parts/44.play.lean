/-! the class's lay, as numbers -/
theorem sp_dec {b b' : Int} (h : b = b') : decide (b ≠ -1) = decide (b' ≠ -1) := by subst h; rfl
theorem tb_if {α : Type} {m : Int32} {k : Nat} (hk : k < 32) {x y : α} : (if m &&& ((1 : Int32) <<< (zi (k : Int) &&& 31)) = 0 then x else y) = if bt m k = false then x else y := by
  by_cases h : bt m k = false
  · rw [if_pos h, if_pos ((tb_test hk).mpr h)]
  · rw [if_neg h, if_neg (fun q => h ((tb_test hk).mp q))]
/-- a mask is a set of tasks -/
def sp_mk (m : Int32) (n : Nat) (f : Nat → Bool) : Prop := (∀ i, i < n → bt m i = f i) ∧ ∀ i, n ≤ i → i < 32 → bt m i = false
theorem sp_rdy_mask {V : tw_V} (hV : sp_ok V) {b : Nat → Int} {l : Int32} (hl : sp_mk l (sp_n V) (fun i => decide (b i ≠ -1))) {k : Nat} (hk : k < sp_n V) : sp_msk V k &&& (l ^^^ (-1 : Int32)) = 0 ↔ sp_rdy V b k = true := by
  have hn := sp_12 hV
  rw [tb_sub]
  unfold sp_rdy
  rw [sp_all_iff]
  constructor
  · intro h o ho
    by_cases hb : sp_bit V k o = true
    · have h1 := h o (by omega) hb
      rw [hl.1 o (by omega)] at h1
      simp only [hb, Bool.not_true, Bool.false_or]
      exact h1
    · simp [hb]
  · intro h i hi hb
    by_cases hik : i < k
    · have h1 := h i hik
      unfold sp_bit at h1
      rw [hb] at h1
      rw [hl.1 i (by omega)]
      simpa using h1
    · have h2 := (hV.2.2.2.1 k hk).2.2.2.2.2.2.2.2 i (by omega)
      unfold sp_bit at h2
      rw [hb] at h2
      cases h2
theorem sp_pck_le {V : tw_V} {tr : Nat → Bool} {b : Nat → Int} : ∀ k, -1 ≤ sp_pck V tr b k ∧ sp_pck V tr b k < k
  | 0 => by rw [sp_pck]; omega
  | k + 1 => by
    have ih := sp_pck_le (V := V) (tr := tr) (b := b) k
    rw [sp_pck]
    split <;> omega
theorem sp_pck_in {V : tw_V} {tr : Nat → Bool} {b : Nat → Int} : ∀ k, sp_pck V tr b k ≠ -1 → tr (sp_pck V tr b k).toNat = false ∧ sp_rdy V b (sp_pck V tr b k).toNat = true
  | 0, h => absurd rfl h
  | k + 1, h => by
    rw [sp_pck] at h ⊢
    split
    · rename_i q
      rw [Int.toNat_natCast]
      exact q.1
    · rename_i q
      rw [if_neg q] at h
      exact sp_pck_in k h
/-- the key of what is found so far -/
def sp_pk (V : tw_V) (tr : Nat → Bool) (b : Nat → Int) (k : Nat) : Int := if sp_pck V tr b k = -1 then -1 else sp_key V (sp_pck V tr b k).toNat
theorem sp_pk_le {V : tw_V} (hV : sp_ok V) {tr : Nat → Bool} {b : Nat → Int} {k : Nat} (hk : k ≤ sp_n V) : -1 ≤ sp_pk V tr b k ∧ sp_pk V tr b k ≤ 129 := by
  have h1 := sp_pck_le (V := V) (tr := tr) (b := b) k
  unfold sp_pk
  split
  · omega
  · have := sp_key_le hV (t := (sp_pck V tr b k).toNat) (by omega)
    omega
theorem pX0_firstByRule {P : tw_Pl} {S : tw_St} {V : tw_V} {b : Nat → Int} {tr : Nat → Bool} {tm : Int32} (h : sp_RS S V) (hV : sp_ok V) (hk : ∀ t, t < sp_n V → P.2.1 t = zi (sp_key V t)) (hl : sp_mk P.2.2.1 (sp_n V) (fun i => decide (b i ≠ -1))) (ht : sp_mk tm (sp_n V) tr) : fX0_firstByRule P S tm = some (zi (sp_pick V tr b)) := by
  have hn := sp_12 hV
  unfold fX0_firstByRule
  refine lup (fun fuel k => fX0_firstByRule_8 P S tm fuel (zi (sp_pck V tr b k)) (zi (sp_pk V tr b k)) (zi k)) _ (sp_n V) (fun fuel => ?_) (fun fuel k hk2 => ?_) 512 (by omega)
  · (try dsimp only)
    rw [fX0_firstByRule_8, h.1, if_pos ((zi_le (by omega) (by omega) (by omega) (by omega)).mpr (Int.le_refl _))]
    rfl
  · (try dsimp only)
    have h1 := sp_pck_le (V := V) (tr := tr) (b := b) k
    have h2 := sp_pk_le hV (tr := tr) (b := b) (k := k) (by omega)
    have h3 := sp_key_le hV hk2
    rw [fX0_firstByRule_8, h.1, if_neg (by rw [zi_le (by omega) (by omega) (by omega) (by omega)]; omega)]
    have c0 : ¬ (1 : Int32) = 0 := by decide
    unfold fX0_firstByRule_31 fX0_firstByRule_55
    simp only [zi_Tn (show k < 2147483648 by omega), sp_RS_msk h k hk2, hk k hk2, zi_suc]
    rw [tb_if (by omega), ht.1 k hk2]
    have hgt : zi (sp_key V k) ≤ zi (sp_pk V tr b k) ↔ sp_key V k ≤ sp_pk V tr b k := zi_le (by omega) (by omega) (by omega) (by omega)
    have hpk : (sp_pck V tr b k = -1 ∨ sp_key V (sp_pck V tr b k).toNat < sp_key V k) ↔ ¬ sp_key V k ≤ sp_pk V tr b k := by
      unfold sp_pk
      split
      · rename_i q; simp only [q, true_or, true_iff]; omega
      · rename_i q; simp only [q, false_or]; omega
    have hsk : sp_pck V tr b (k + 1) = if (tr k = false ∧ sp_rdy V b k = true) ∧ ¬ sp_key V k ≤ sp_pk V tr b k then (k : Int) else sp_pck V tr b k := by
      rw [sp_pck]
      simp only [hpk]
    have hsp : sp_pk V tr b (k + 1) = if (tr k = false ∧ sp_rdy V b k = true) ∧ ¬ sp_key V k ≤ sp_pk V tr b k then sp_key V k else sp_pk V tr b k := by
      show (if sp_pck V tr b (k + 1) = -1 then -1 else sp_key V (sp_pck V tr b (k + 1)).toNat) = _
      rw [hsk]
      by_cases q : (tr k = false ∧ sp_rdy V b k = true) ∧ ¬ sp_key V k ≤ sp_pk V tr b k
      · rw [if_pos q, if_pos q, if_neg (by omega), Int.toNat_natCast]
      · rw [if_neg q, if_neg q]
        rfl
    rw [hsk, hsp]
    have hrd := sp_rdy_mask hV hl hk2
    have hg : ∀ (x : Option Int32), tw_g (zi (k : Int)) 12 x = x := fun x => zi_g (by omega) (by omega) (by omega)
    by_cases e1 : tr k = true
    · have e1' : ¬ tr k = false := by rw [e1]; decide
      rw [if_neg e1']
      have hno : ¬ ((tr k = false ∧ sp_rdy V b k = true) ∧ ¬ sp_key V k ≤ sp_pk V tr b k) := fun q => e1' q.1.1
      rw [if_neg hno, if_neg hno]
      simp only [hg, c0, not_false_eq_true, if_true, ite_self]
    · have e1' : tr k = false := by simpa using e1
      rw [if_pos e1']
      by_cases e2 : sp_rdy V b k = true
      · have e2' : ¬ ¬ sp_msk V k &&& (P.2.2.1 ^^^ (-1 : Int32)) = 0 := fun q => q (hrd.mpr e2)
        by_cases e3 : sp_key V k ≤ sp_pk V tr b k
        · have hno : ¬ ((tr k = false ∧ sp_rdy V b k = true) ∧ ¬ sp_key V k ≤ sp_pk V tr b k) := fun q => q.2 e3
          rw [if_neg hno, if_neg hno]
          simp only [hg, hgt, e3, if_true, ite_self, not_true_eq_false, if_false]
        · have hyes : ((tr k = false ∧ sp_rdy V b k = true) ∧ ¬ sp_key V k ≤ sp_pk V tr b k) := ⟨⟨e1', e2⟩, e3⟩
          rw [if_pos hyes, if_pos hyes, hg, if_neg e2']
          simp only [hg, hgt, e3, c0, not_true_eq_false, if_false]
      · have e2' : ¬ sp_msk V k &&& (P.2.2.1 ^^^ (-1 : Int32)) = 0 := fun q => e2 (hrd.mp q)
        have hno : ¬ ((tr k = false ∧ sp_rdy V b k = true) ∧ ¬ sp_key V k ≤ sp_pk V tr b k) := fun q => e2 q.1.2
        rw [if_neg hno, if_neg hno, hg, if_pos e2']
        simp only [not_true_eq_false, if_false, if_true]
/-! what holds of a plan as it grows -/
theorem upd_s {f : Nat → Int32} {k : Nat} {x : Int32} : upd f k x k = x := pk_us
theorem upd_n {f : Nat → Int32} {k j : Nat} {x : Int32} (h : j ≠ k) : upd f k x j = f j := pk_un h
theorem va_up_s {α : Type} {f : Nat → α} {k : Nat} {x : α} : va_up f k x k = x := if_pos rfl
theorem va_up_n {α : Type} {f : Nat → α} {k j : Nat} {x : α} (h : j ≠ k) : va_up f k x j = f j := if_neg h
def sp_good (V : tw_V) (s : (Nat → Bool) × (Nat → Int)) : Prop := sp_bok V s.2 ∧ (∀ t, s.1 t = false → s.2 t = -1) ∧ (∀ t, t < sp_n V → s.2 t ≠ -1 → ∀ o, o < t → sp_bit V t o = true → s.2 o ≠ -1)
theorem sp_day_ok {V : tw_V} (hV : sp_ok V) {b : Nat → Int} (hb : sp_bok V b) {t : Nat} (ht : t < sp_n V) : sp_day V b t = -1 ∨ (0 ≤ sp_day V b t ∧ sp_day V b t + sp_len V t ≤ 100) := by
  have hs := sp_start_le hV hb ht
  unfold sp_day
  rcases sp_seek_spec (V := V) (b := b) (t := t) 200 (sp_start V b t) with h | ⟨h1, h2, h3⟩
  · exact Or.inl h
  · rw [sp_fre_iff, sp_win_iff] at h3
    exact Or.inr ⟨by omega, h3.1.1⟩
theorem sp_rdy_iff {V : tw_V} {b : Nat → Int} {t : Nat} : sp_rdy V b t = true ↔ ∀ o, o < t → sp_bit V t o = true → b o ≠ -1 := by
  unfold sp_rdy
  rw [sp_all_iff]
  constructor
  · intro h o ho hb
    have := h o ho
    rw [hb] at this
    simpa using this
  · intro h o ho
    by_cases hb : sp_bit V t o = true
    · simp [hb, h o ho hb]
    · simp [hb]
theorem sp_good_0 {V : tw_V} : sp_good V (fun _ => false, fun _ => -1) := ⟨fun _ _ => Or.inl rfl, fun _ _ => rfl, fun _ _ h => absurd rfl h⟩
theorem sp_good_step {V : tw_V} (hV : sp_ok V) {s : (Nat → Bool) × (Nat → Int)} (h : sp_good V s) : sp_good V (sp_step V s) := by
  unfold sp_step
  by_cases hp : sp_pick V s.1 s.2 = -1
  · rw [if_pos hp]; exact h
  · rw [if_neg hp]
    have h1 := sp_pck_le (V := V) (tr := s.1) (b := s.2) (sp_n V)
    have h2 := sp_pck_in (V := V) (tr := s.1) (b := s.2) (sp_n V) hp
    generalize he : (sp_pick V s.1 s.2).toNat = t at *
    have he' : (sp_pck V s.1 s.2 (sp_n V)).toNat = t := he
    rw [he'] at h2
    have hp' : sp_pck V s.1 s.2 (sp_n V) ≠ -1 := hp
    have ht : t < sp_n V := by omega
    refine ⟨fun u hu => ?_, fun u hu => ?_, fun u hu hne o ho hbit => ?_⟩
    · (try dsimp only)
      by_cases e : u = t
      · subst e; rw [va_up_s]; exact sp_day_ok hV h.1 ht
      · rw [va_up_n e]; exact h.1 u hu
    · (try dsimp only at hu ⊢)
      by_cases e : u = t
      · subst e; rw [va_up_s] at hu; cases hu
      · rw [va_up_n e] at hu ⊢; exact h.2.1 u hu
    · (try dsimp only at hne ⊢)
      have key : s.2 o ≠ -1 := by
        by_cases e : u = t
        · subst e; exact sp_rdy_iff.mp h2.2 o ho hbit
        · rw [va_up_n e] at hne; exact h.2.2 u hu hne o ho hbit
      have hot : o ≠ t := by
        intro e
        subst e
        exact key (h.2.1 o h2.1)
      rw [va_up_n hot]; exact key
theorem sp_good_its {V : tw_V} (hV : sp_ok V) : ∀ k, sp_good V (sp_its V k)
  | 0 => sp_good_0
  | k + 1 => sp_good_step hV (sp_good_its hV k)
theorem sp_its_stay {V : tw_V} {k : Nat} (h : sp_pick V (sp_its V k).1 (sp_its V k).2 = -1) : ∀ j, k ≤ j → sp_its V j = sp_its V k
  | 0, hj => by have : k = 0 := by omega
                subst this; rfl
  | j + 1, hj => by
    by_cases e : k = j + 1
    · rw [e]
    · rw [sp_its, sp_its_stay h j (by omega)]
      unfold sp_step
      rw [if_pos h]
theorem sp_laid_up {V : tw_V} {b : Nat → Int} {t : Nat} (hb : b t = -1) {d : Int} (hd : d ≠ -1) : ∀ n, t < n → sp_sum (fun u => if va_up b t d u = -1 then 0 else 1) n = sp_sum (fun u => if b u = -1 then 0 else 1) n + 1
  | 0, h => absurd h (Nat.not_lt_zero t)
  | n + 1, h => by
    rw [sp_sum, sp_sum]
    by_cases e : t = n
    · subst e
      rw [sp_sum_cong (g := fun u => if b u = -1 then 0 else 1) (fun k hk => by (try dsimp only); rw [va_up_n (by omega)])]
      (try dsimp only)
      rw [va_up_s, if_neg hd, if_pos hb]
      omega
    · rw [sp_laid_up (V := V) hb hd n (by omega)]
      (try dsimp only)
      rw [va_up_n (by omega)]
      omega
theorem sp_laid_same {V : tw_V} {b : Nat → Int} {t : Nat} (hb : b t = -1) {n : Nat} : sp_sum (fun u => if va_up b t (-1) u = -1 then 0 else 1) n = sp_sum (fun u => if b u = -1 then 0 else 1) n := by
  refine sp_sum_cong (fun k _ => ?_)
  (try dsimp only)
  by_cases e : k = t
  · subst e; rw [va_up_s, hb]
  · rw [va_up_n e]
theorem sp_ene_up {V : tw_V} {b : Nat → Int} {t : Nat} (hb : b t = -1) {d : Int} (hd : d ≠ -1) : ∀ n, t < n → sp_ene V (va_up b t d) n = if sp_ene V b n < d + sp_len V t then d + sp_len V t else sp_ene V b n
  | 0, h => absurd h (Nat.not_lt_zero t)
  | n + 1, h => by
    rw [sp_ene, sp_ene]
    by_cases e : t = n
    · subst e
      have : ∀ m, m ≤ t → sp_ene V (va_up b t d) m = sp_ene V b m := by
        intro m
        induction m with
        | zero => intro _; rfl
        | succ m ih => intro hm; rw [sp_ene, sp_ene, ih (by omega), va_up_n (by omega)]
      rw [this t (Nat.le_refl t), va_up_s, if_neg (c := b t ≠ -1 ∧ sp_ene V b t < b t + sp_len V t) (fun q => q.1 hb)]
      simp only [ne_eq, hd, not_false_eq_true, true_and]
    · rw [sp_ene_up hb hd n (by omega), va_up_n (by omega)]
      by_cases e1 : b n = -1
      · simp only [ne_eq, e1, not_true_eq_false, false_and, if_false]
      · simp only [ne_eq, e1, not_false_eq_true, true_and]
        split <;> split <;> (try split) <;> (try split) <;> omega
theorem sp_ene_same {V : tw_V} {b : Nat → Int} {t : Nat} (hb : b t = -1) : ∀ n, sp_ene V (va_up b t (-1)) n = sp_ene V b n
  | 0 => rfl
  | n + 1 => by
    rw [sp_ene, sp_ene, sp_ene_same hb n]
    by_cases e : n = t
    · subst e
      rw [va_up_s, hb]
    · rw [va_up_n e]
theorem sp_ene_le {V : tw_V} (hV : sp_ok V) {b : Nat → Int} (hb : sp_bok V b) : ∀ n, n ≤ sp_n V → 0 ≤ sp_ene V b n ∧ sp_ene V b n ≤ 100
  | 0, _ => by rw [sp_ene]; omega
  | n + 1, h => by
    have ih := sp_ene_le hV hb n (by omega)
    obtain ⟨l1, l2, -⟩ := hV.2.2.2.1 n (by omega)
    rw [sp_ene]
    rcases hb n (by omega) with h1 | h1
    · rw [if_neg (fun q => q.1 h1)]; exact ih
    · split <;> omega
theorem sp_laid_le {V : tw_V} (b : Nat → Int) (n : Nat) : 0 ≤ sp_sum (fun u => if b u = -1 then 0 else 1) n ∧ sp_sum (fun u => if b u = -1 then 0 else 1) n ≤ n := by
  have := sp_sum_le (f := fun u => if b u = -1 then 0 else 1) (c := 1) (n := n) (fun o _ => by (try dsimp only); split <;> omega)
  omega
/-- what a Plan holds of a plan -/
def sp_RP (P : tw_Pl) (V : tw_V) (b : Nat → Int) : Prop := sp_RB P.1 V b ∧ P.2.2.2.1 = zi (sp_laid V b) ∧ P.2.2.2.2 = zi (sp_end V b)
theorem pX0_lay_53 {S : tw_St} {V : tw_V} (h : sp_RS S V) (hV : sp_ok V) : ∀ (m r fuel : Nat) (tm : Int32) (P : tw_Pl), r + m = sp_n V → m < fuel → sp_RP P V (sp_its V r).2 → (∀ t, t < sp_n V → P.2.1 t = zi (sp_key V t)) → sp_mk P.2.2.1 (sp_n V) (fun i => decide ((sp_its V r).2 i ≠ -1)) → sp_mk tm (sp_n V) (sp_its V r).1 → ∃ P', fX0_lay_53 S fuel tm (zi r) P = some P' ∧ sp_RP P' V (sp_plan V)
  | 0, r, fuel, tm, P, h1, h2, h3, h4, h5, h6 => by
    have hn := sp_12 hV
    obtain ⟨fuel, rfl⟩ : ∃ f, fuel = f + 1 := ⟨fuel - 1, by omega⟩
    have : r = sp_n V := by omega
    subst this
    rw [fX0_lay_53, h.1, if_pos ((zi_le (by omega) (by omega) (by omega) (by omega)).mpr (Int.le_refl _))]
    exact ⟨P, rfl, h3⟩
  | m + 1, r, fuel, tm, P, h1, h2, h3, h4, h5, h6 => by
    have hn := sp_12 hV
    obtain ⟨fuel, rfl⟩ : ∃ f, fuel = f + 1 := ⟨fuel - 1, by omega⟩
    have hg := sp_good_its hV r
    rw [fX0_lay_53, h.1, if_neg (by rw [zi_le (by omega) (by omega) (by omega) (by omega)]; omega), pX0_firstByRule h hV h4 h5 h6]
    have q1 := sp_pck_le (V := V) (tr := (sp_its V r).1) (b := (sp_its V r).2) (sp_n V)
    show ∃ P', (if ¬ zi (sp_pick V (sp_its V r).1 (sp_its V r).2) = -1 then _ else some P) = some P' ∧ _
    by_cases hp : sp_pick V (sp_its V r).1 (sp_its V r).2 = -1
    · rw [if_neg (by rw [hp]; simp [zm1])]
      refine ⟨P, rfl, ?_⟩
      unfold sp_plan
      rw [sp_its_stay hp (sp_n V) (by omega)]
      exact h3
    · have q2 := sp_pck_in (V := V) (tr := (sp_its V r).1) (b := (sp_its V r).2) (sp_n V) hp
      have hstep : sp_its V (r + 1) = (va_up (sp_its V r).1 (sp_pick V (sp_its V r).1 (sp_its V r).2).toNat true, va_up (sp_its V r).2 (sp_pick V (sp_its V r).1 (sp_its V r).2).toNat (sp_day V (sp_its V r).2 (sp_pick V (sp_its V r).1 (sp_its V r).2).toNat)) := by
        rw [sp_its]; unfold sp_step; rw [if_neg hp]
      obtain ⟨t, hte⟩ : ∃ t : Nat, sp_pick V (sp_its V r).1 (sp_its V r).2 = t := ⟨(sp_pick V (sp_its V r).1 (sp_its V r).2).toNat, by unfold sp_pick at hp ⊢; omega⟩
      have hte' : sp_pck V (sp_its V r).1 (sp_its V r).2 (sp_n V) = t := hte
      rw [hte'] at q1 q2
      rw [hte] at hstep ⊢
      rw [Int.toNat_natCast] at hstep q2
      have ht : t < sp_n V := by omega
      have hbt : (sp_its V r).2 t = -1 := hg.2.1 t q2.1
      rw [if_pos (by rw [zm1, zi_eq (by omega) (by omega) (by omega) (by omega)]; omega)]
      rw [pX0_firstDay h hV h3.1 hg.1 ht (sp_rdy_iff.mp q2.2) hbt]
      have hd := sp_day_ok hV hg.1 ht
      obtain ⟨t1, t2, -⟩ := hV.2.2.2.1 t ht
      have htm : sp_mk (tm ||| ((1 : Int32) <<< (zi (t : Int) &&& 31))) (sp_n V) (sp_its V (r + 1)).1 := by
        rw [hstep]
        refine ⟨fun i hi => ?_, fun i hi1 hi2 => ?_⟩
        · rw [tb_or (by omega) (by omega), h6.1 i hi]
          (try dsimp only)
          by_cases e : i = t
          · subst e; rw [va_up_s]; simp
          · rw [va_up_n e]; simp [e]
        · rw [tb_or (by omega) (by omega), h6.2 i hi1 hi2]
          simp; omega
      show ∃ P', (if zi (sp_day V (sp_its V r).2 t) = -1 then _ else _) = some P' ∧ _
      generalize hdd : sp_day V (sp_its V r).2 t = d at *
      rw [zi_suc]
      by_cases hd1 : d = -1
      · rw [if_pos (by rw [hd1]; rfl)]
        refine pX0_lay_53 h hV m (r + 1) fuel _ P (by omega) (by omega) ?_ h4 ?_ htm
        · rw [hstep]
          (try dsimp only)
          refine ⟨fun u hu => ?_, ?_, ?_⟩
          · by_cases e : u = t
            · subst e; rw [va_up_s, hd1, h3.1 u hu, hbt]
            · rw [va_up_n e]; exact h3.1 u hu
          · rw [h3.2.1, hd1]; unfold sp_laid; rw [sp_laid_same (V := V) hbt]
          · rw [h3.2.2, hd1]; unfold sp_end; rw [sp_ene_same hbt]
        · rw [hstep]
          (try dsimp only)
          refine ⟨fun i hi => ?_, h5.2⟩
          rw [h5.1 i hi]
          by_cases e : i = t
          · subst e; exact sp_dec (by show _ = va_up _ _ _ _; rw [va_up_s, hd1, hbt])
          · exact sp_dec (by show _ = va_up _ _ _ _; rw [va_up_n e])
      · have hd2 : 0 ≤ d ∧ d + sp_len V t ≤ 100 := hd.resolve_left hd1
        rw [if_neg (by rw [zm1, zi_eq (by omega) (by omega) (by omega) (by omega)]; exact hd1)]
        rw [zi_g (by omega) (by omega) (by omega), zi_g (by omega) (by omega) (by omega), zi_Tn (by omega), sp_RS_len h t ht, zi_add, h3.2.1, h3.2.2]
        have e1 := sp_ene_le hV hg.1 (sp_n V) (Nat.le_refl _)
        have e2 := sp_laid_le (V := V) (sp_its V r).2 (sp_n V)
        rw [zi_max _ _ (by unfold sp_end; omega) (by unfold sp_end; omega) (by omega) (by omega), z1, zi_add, ← z1]
        refine pX0_lay_53 h hV m (r + 1) fuel _ _ (by omega) (by omega) ?_ h4 ?_ htm
        · rw [hstep]
          (try dsimp only)
          refine ⟨fun u hu => ?_, ?_, ?_⟩
          · (try dsimp only)
            by_cases e : u = t
            · subst e; rw [va_up_s, upd_s]
            · rw [va_up_n e, upd_n e]; exact h3.1 u hu
          · (try dsimp only); unfold sp_laid; rw [sp_laid_up (V := V) hbt hd1 _ ht]
          · (try dsimp only); unfold sp_end; rw [sp_ene_up hbt hd1 _ ht]
        · rw [hstep]
          (try dsimp only)
          refine ⟨fun i hi => ?_, fun i hi1 hi2 => ?_⟩
          · rw [tb_or (by omega) (by omega), h5.1 i hi]
            by_cases e : i = t
            · subst e
              refine Eq.trans ?_ (sp_dec (b := d) (by show _ = va_up _ _ _ _; rw [va_up_s]))
              simp [hd1]
            · refine Eq.trans ?_ (sp_dec (b := (sp_its V r).2 i) (by show _ = va_up _ _ _ _; rw [va_up_n e]))
              simp [e]
          · rw [tb_or (by omega) (by omega), h5.2 i hi1 hi2]
            simp; omega
theorem pX0_lay {S : tw_St} {V : tw_V} (h : sp_RS S V) (hV : sp_ok V) (P : tw_Pl) : ∃ P', fX0_lay P S = some P' ∧ sp_RP P' V (sp_plan V) := by
  have hn := sp_12 hV
  unfold fX0_lay
  have key : ∀ (m k fuel : Nat) (P : tw_Pl), k + m = sp_n V → m < fuel → (P.2.2.1 = 0 ∧ P.2.2.2.1 = 0 ∧ P.2.2.2.2 = 0) → (∀ t, t < k → P.1 t = -1 ∧ P.2.1 t = zi (sp_key V t)) → ∃ P', fX0_lay_17 S fuel (zi k) P = some P' ∧ sp_RP P' V (sp_plan V) := by
    intro m
    induction m with
    | zero =>
      intro k fuel P h1 h2 h3 h4
      obtain ⟨fuel, rfl⟩ : ∃ f, fuel = f + 1 := ⟨fuel - 1, by omega⟩
      have : k = sp_n V := by omega
      subst this
      rw [fX0_lay_17, h.1, if_pos ((zi_le (by omega) (by omega) (by omega) (by omega)).mpr (Int.le_refl _))]
      refine pX0_lay_53 h hV (sp_n V) 0 512 0 P (by omega) (by omega) ⟨fun t ht => (h4 t ht).1, ?_, ?_⟩ (fun t ht => (h4 t ht).2) ⟨fun i hi => ?_, fun i _ _ => ?_⟩ ⟨fun i _ => ?_, fun i _ _ => ?_⟩
      · rw [h3.2.1]
        have : sp_laid V (sp_its V 0).2 = 0 := by
          unfold sp_laid
          show sp_sum (fun t => if (-1 : Int) = -1 then 0 else 1) _ = 0
          have := sp_sum_le (f := fun _ => if (-1 : Int) = -1 then 0 else 1) (c := 0) (n := sp_n V) (fun o _ => by simp)
          omega
        rw [this]; rfl
      · rw [h3.2.2]
        have : ∀ n, sp_ene V (sp_its V 0).2 n = 0 := by
          intro n
          induction n with
          | zero => rfl
          | succ n ih => rw [sp_ene, ih, if_neg (fun q => q.1 rfl)]
        unfold sp_end
        rw [this]; rfl
      · rw [h3.1, b_0]; rfl
      · rw [h3.1, b_0]
      · rw [b_0]; rfl
      · rw [b_0]
    | succ m ih =>
      intro k fuel P h1 h2 h3 h4
      obtain ⟨fuel, rfl⟩ : ∃ f, fuel = f + 1 := ⟨fuel - 1, by omega⟩
      rw [fX0_lay_17, h.1, if_neg (by rw [zi_le (by omega) (by omega) (by omega) (by omega)]; omega), zi_g (by omega) (by omega) (by omega), pX1_keyOf h hV (by omega)]
      show ∃ P', (tw_g (zi (k : Int)) 12 _) = some P' ∧ _
      rw [zi_g (by omega) (by omega) (by omega), zi_Tn (by omega), zi_suc]
      refine ih (k + 1) fuel _ (by omega) (by omega) h3 (fun t ht => ?_)
      (try dsimp only)
      by_cases e : t = k
      · subst e; rw [upd_s, upd_s]; exact ⟨rfl, rfl⟩
      · rw [upd_n e, upd_n e]; exact h4 t (by omega)
  exact key (sp_n V) 0 512 _ (by omega) (by omega) ⟨rfl, rfl, rfl⟩ (fun t ht => absurd ht (Nat.not_lt_zero t))
