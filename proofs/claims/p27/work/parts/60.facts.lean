/-! what holds of a plan: windows, starts, nobody twice on a day -/
theorem sp_sta_cong {V : tw_V} {b b' : Nat → Int} {t : Nat} : ∀ k, (∀ o, o < k → sp_bit V t o = true → b' o = b o) → sp_sta V b' t k = sp_sta V b t k
  | 0, _ => rfl
  | k + 1, h => by
    rw [sp_sta, sp_sta, sp_sta_cong k (fun o ho hb => h o (by omega) hb)]
    by_cases e : sp_bit V t k = true
    · rw [h k (by omega) e]
    · rw [if_neg (fun q => e q.1), if_neg (fun q => e q.1)]
theorem sp_shr_iff {V : tw_V} {t o : Nat} : sp_shr V t o = true ↔ (sp_per V t ≠ -1 ∧ sp_per V t = sp_per V o) ∨ (sp_hal V t ≠ -1 ∧ sp_hal V t = sp_hal V o) := by
  unfold sp_shr
  simp only [Bool.or_eq_true, Bool.and_eq_true, decide_eq_true_eq]
theorem sp_shr_sym {V : tw_V} {t o : Nat} (h : sp_shr V t o = true) : sp_shr V o t = true := by
  rw [sp_shr_iff] at h ⊢
  omega
def qp_pl (V : tw_V) (b : Nat → Int) : Prop := ∀ t, t < sp_n V → b t ≠ -1 → sp_win V t (b t) = true ∧ sp_start V b t ≤ b t ∧ ∀ o, o < sp_n V → o ≠ t → b o ≠ -1 → sp_shr V t o = true → b t + sp_len V t ≤ b o ∨ b o + sp_len V o ≤ b t
theorem qp_pl_up {V : tw_V} {s : (Nat → Bool) × (Nat → Int)} (h : sp_good V s) (hq : qp_pl V s.2) {t : Nat} (ht : t < sp_n V) (hbt : s.2 t = -1) {d : Int} (hd : d = -1 ∨ (sp_start V s.2 t ≤ d ∧ d < 100 ∧ sp_fre V s.2 t d = true)) : qp_pl V (va_up s.2 t d) := by
  have hst : ∀ u, u < sp_n V → (u = t ∨ s.2 u ≠ -1) → sp_start V (va_up s.2 t d) u = sp_start V s.2 u := fun u hu hor => sp_sta_cong u (fun o ho hb => by
    have hot : o ≠ t := by
      rcases hor with e | e
      · omega
      · intro q
        exact h.2.2 u hu e o ho hb (by rw [q]; exact hbt)
    exact va_up_n hot)
  have pr : d ≠ -1 → ∀ o, o < sp_n V → s.2 o ≠ -1 → sp_shr V t o = true → d + sp_len V t ≤ s.2 o ∨ s.2 o + sp_len V o ≤ d := fun hne o ho hl hs => by
    have q := (sp_fre_iff.mp (hd.resolve_left hne).2.2).2 o ho
    rw [← Bool.not_eq_true, sp_cls_iff] at q
    by_cases e1 : d + sp_len V t ≤ s.2 o
    · exact Or.inl e1
    · by_cases e2 : s.2 o + sp_len V o ≤ d
      · exact Or.inr e2
      · exact absurd ⟨⟨hl, by omega, by omega⟩, hs⟩ q
  intro u hu hne
  by_cases e : u = t
  · rw [e] at hne ⊢
    rw [va_up_s] at hne
    rw [hst t ht (Or.inl rfl), va_up_s]
    refine ⟨(sp_fre_iff.mp (hd.resolve_left hne).2.2).1, (hd.resolve_left hne).1, fun o ho hou hl hs => ?_⟩
    rw [va_up_n hou] at hl ⊢
    exact pr hne o ho hl hs
  · rw [va_up_n e] at hne
    rw [hst u hu (Or.inr hne), va_up_n e]
    obtain ⟨a1, a2, a3⟩ := hq u hu hne
    refine ⟨a1, a2, fun o ho hou hl hs => ?_⟩
    by_cases e2 : o = t
    · rw [e2] at hl hs ⊢
      rw [va_up_s] at hl ⊢
      rcases pr hl u hu hne (sp_shr_sym hs) with q | q
      · exact Or.inr q
      · exact Or.inl q
    · rw [va_up_n e2] at hl ⊢
      exact a3 o ho hou hl hs
theorem qp_pl_its {V : tw_V} (hV : sp_ok V) : ∀ k, qp_pl V (sp_its V k).2
  | 0 => fun t _ h => absurd rfl h
  | k + 1 => by
    have h := sp_good_its hV k
    have hq := qp_pl_its hV k
    rw [sp_its]
    generalize sp_its V k = s at *
    unfold sp_step
    by_cases hp : sp_pick V s.1 s.2 = -1
    · rw [if_pos hp]; exact hq
    · rw [if_neg hp]
      have h1 := sp_pck_le (V := V) (tr := s.1) (b := s.2) (sp_n V)
      have h2 := sp_pck_in (V := V) (tr := s.1) (b := s.2) (sp_n V) hp
      have hp' : sp_pck V s.1 s.2 (sp_n V) ≠ -1 := hp
      have ht : (sp_pck V s.1 s.2 (sp_n V)).toNat < sp_n V := by omega
      exact qp_pl_up h hq ht (h.2.1 _ h2.1) (sp_seek_spec 200 _)
theorem qp_plan {V : tw_V} (hV : sp_ok V) : qp_pl V (sp_plan V) := qp_pl_its hV (sp_n V)
theorem sp_sta_ear {V : tw_V} {b : Nat → Int} {t : Nat} : ∀ k, sp_ear V t ≤ sp_sta V b t k
  | 0 => Int.le_refl _
  | k + 1 => by
    have h := sp_sta_ear (V := V) (b := b) (t := t) k
    rw [sp_sta]
    split <;> omega
theorem sp_sta_ge {V : tw_V} {b : Nat → Int} {t : Nat} : ∀ k o, o < k → sp_bit V t o = true → b o + sp_len V o ≤ sp_sta V b t k
  | 0, o, h, _ => absurd h (Nat.not_lt_zero o)
  | k + 1, o, h, hb => by
    rw [sp_sta]
    by_cases e : o = k
    · rw [e] at hb ⊢
      by_cases c : sp_bit V t k = true ∧ sp_sta V b t k < b k + sp_len V k
      · rw [if_pos c]; omega
      · rw [if_neg c]
        have : ¬ sp_sta V b t k < b k + sp_len V k := fun q => c ⟨hb, q⟩
        omega
    · have ih := sp_sta_ge (V := V) (b := b) (t := t) k o (by omega) hb
      split <;> omega
/-- a laid task -/
theorem qp_laid {V : tw_V} (hV : sp_ok V) {t : Nat} (ht : t < sp_n V) (hl : sp_plan V t ≠ -1) : 0 ≤ sp_plan V t ∧ sp_plan V t + sp_len V t ≤ 100 ∧ sp_ear V t ≤ sp_plan V t ∧ sp_start V (sp_plan V) t ≤ sp_plan V t ∧ (sp_hal V t = -1 ∨ (sp_fst V (sp_hal V t).toNat ≤ sp_plan V t ∧ sp_plan V t + sp_len V t ≤ sp_lst V (sp_hal V t).toNat + 1)) ∧ ∀ o, o < t → sp_bit V t o = true → 0 ≤ sp_plan V o ∧ sp_plan V o + sp_len V o ≤ sp_plan V t := by
  obtain ⟨a1, a2, -⟩ := qp_plan hV t ht hl
  have b := sp_win_iff.mp a1
  have e := sp_sta_ear (V := V) (b := sp_plan V) (t := t) t
  have f : sp_sta V (sp_plan V) t t ≤ sp_plan V t := a2
  have g := (sp_bokp hV t ht).resolve_left hl
  refine ⟨g.1, g.2, by omega, a2, b.2, fun o ho hb => ?_⟩
  have q := sp_sta_ge (V := V) (b := sp_plan V) (t := t) t o ho hb
  have r := (sp_bokp hV o (by omega)).resolve_left (sp_clp hV t ht hl o ho hb)
  omega
/-! who is there on a day -/
abbrev qp_at (V : tw_V) (b own : Nat → Int) (a d : Int) (t : Nat) : Prop := (b t ≠ -1 ∧ own t = a) ∧ b t ≤ d ∧ d < b t + sp_len V t
theorem sp_on_hit {V : tw_V} {b own : Nat → Int} {a d : Int} : ∀ (m k t : Nat), k ≤ t → t < k + m → qp_at V b own a d t → (∀ o, k ≤ o → o < t → ¬ qp_at V b own a d o) → sp_on V b own a d m k = t
  | 0, k, t, h1, h2, _, _ => absurd h2 (by omega)
  | m + 1, k, t, h1, h2, h3, h4 => by
    rw [sp_on]
    by_cases e : k = t
    · rw [e]
      exact if_pos h3
    · refine (if_neg (h4 k (Nat.le_refl k) (by omega))).trans ?_
      exact sp_on_hit m (k + 1) t (by omega) (by omega) h3 (fun o h5 h6 => h4 o (by omega) h6)
theorem sp_on_dec {V : tw_V} {b own : Nat → Int} {a d : Int} : ∀ (m k : Nat), (sp_on V b own a d m k = -1 ∧ ∀ o, k ≤ o → o < k + m → ¬ qp_at V b own a d o) ∨ ∃ t : Nat, k ≤ t ∧ t < k + m ∧ qp_at V b own a d t ∧ sp_on V b own a d m k = t
  | 0, k => Or.inl ⟨rfl, fun o h1 h2 => absurd h2 (by omega)⟩
  | m + 1, k => by
    rw [sp_on]
    by_cases e : (b k ≠ -1 ∧ own k = a) ∧ b k ≤ d ∧ d < b k + sp_len V k
    · rw [if_pos e]
      exact Or.inr ⟨k, Nat.le_refl k, by omega, e, rfl⟩
    · rw [if_neg e]
      rcases sp_on_dec (V := V) (b := b) (own := own) (a := a) (d := d) m (k + 1) with ⟨h1, h2⟩ | ⟨t, h1, h2, h3, h4⟩
      · refine Or.inl ⟨h1, fun o h3 h4 => ?_⟩
        by_cases q : o = k
        · rw [q]; exact e
        · exact h2 o (by omega) (by omega)
      · exact Or.inr ⟨t, by omega, by omega, h3, h4⟩
theorem qp_uniP {V : tw_V} (hV : sp_ok V) {a d : Int} (ha : a ≠ -1) {t o : Nat} (ht : t < sp_n V) (ho : o < sp_n V) (h1 : qp_at V (sp_plan V) (sp_per V) a d t) (h2 : qp_at V (sp_plan V) (sp_per V) a d o) : o = t := by
  refine Classical.byContradiction (fun hne => ?_)
  have q := (qp_plan hV t ht h1.1.1).2.2 o ho hne h2.1.1 (sp_shr_iff.mpr (Or.inl ⟨by rw [h1.1.2]; exact ha, h1.1.2.trans h2.1.2.symm⟩))
  have r1 := h1.2
  have r2 := h2.2
  omega
theorem qp_uniH {V : tw_V} (hV : sp_ok V) {a d : Int} (ha : a ≠ -1) {t o : Nat} (ht : t < sp_n V) (ho : o < sp_n V) (h1 : qp_at V (sp_plan V) (sp_hal V) a d t) (h2 : qp_at V (sp_plan V) (sp_hal V) a d o) : o = t := by
  refine Classical.byContradiction (fun hne => ?_)
  have q := (qp_plan hV t ht h1.1.1).2.2 o ho hne h2.1.1 (sp_shr_iff.mpr (Or.inr ⟨by rw [h1.1.2]; exact ha, h1.1.2.trans h2.1.2.symm⟩))
  have r1 := h1.2
  have r2 := h2.2
  omega
theorem qp_onP {V : tw_V} (hV : sp_ok V) {t : Nat} (ht : t < sp_n V) (hl : sp_plan V t ≠ -1) (hp : sp_per V t ≠ -1) {d : Int} (d1 : sp_plan V t ≤ d) (d2 : d < sp_plan V t + sp_len V t) : sp_on V (sp_plan V) (sp_per V) (sp_per V t) d (sp_n V) 0 = t :=
  sp_on_hit (sp_n V) 0 t (Nat.zero_le t) (by omega) ⟨⟨hl, rfl⟩, d1, d2⟩ (fun o _ h2 h3 => absurd (qp_uniP hV hp ht (by omega) ⟨⟨hl, rfl⟩, d1, d2⟩ h3) (by omega))
theorem qp_onH {V : tw_V} (hV : sp_ok V) {t : Nat} (ht : t < sp_n V) (hl : sp_plan V t ≠ -1) (hp : sp_hal V t ≠ -1) {d : Int} (d1 : sp_plan V t ≤ d) (d2 : d < sp_plan V t + sp_len V t) : sp_on V (sp_plan V) (sp_hal V) (sp_hal V t) d (sp_n V) 0 = t :=
  sp_on_hit (sp_n V) 0 t (Nat.zero_le t) (by omega) ⟨⟨hl, rfl⟩, d1, d2⟩ (fun o _ h2 h3 => absurd (qp_uniH hV hp ht (by omega) ⟨⟨hl, rfl⟩, d1, d2⟩ h3) (by omega))
/-! sums -/
theorem sp_sum_0 {f : Nat → Int} : ∀ {n : Nat}, (∀ k, k < n → f k = 0) → sp_sum f n = 0
  | 0, _ => rfl
  | n + 1, h => by rw [sp_sum, sp_sum_0 (fun k hk => h k (by omega)), h n (by omega)]; rfl
theorem sp_sum_1 {f : Nat → Int} {t : Nat} : ∀ {n : Nat}, t < n → (∀ k, k < n → k ≠ t → f k = 0) → sp_sum f n = f t
  | 0, h, _ => absurd h (Nat.not_lt_zero t)
  | n + 1, h, h2 => by
    rw [sp_sum]
    by_cases e : t = n
    · rw [e, sp_sum_0 (fun k hk => h2 k (by omega) (by omega))]
      omega
    · rw [sp_sum_1 (t := t) (by omega) (fun k hk hn => h2 k (by omega) hn), h2 n (by omega) (by omega)]
      omega
theorem sp_sum_add {f g : Nat → Int} : ∀ (n : Nat), sp_sum (fun k => f k + g k) n = sp_sum f n + sp_sum g n
  | 0 => rfl
  | n + 1 => by
    rw [sp_sum, sp_sum, sp_sum, sp_sum_add n]
    omega
theorem sp_sum_swap {f : Nat → Nat → Int} (n : Nat) : ∀ (m : Nat), sp_sum (fun d => sp_sum (fun t => f d t) n) m = sp_sum (fun t => sp_sum (fun d => f d t) m) n
  | 0 => (sp_sum_0 (fun k _ => rfl)).symm
  | m + 1 => by
    rw [sp_sum, sp_sum_swap n m, ← sp_sum_add]
    exact sp_sum_cong (fun k _ => rfl)
theorem sp_sum_int {a l : Int} (a0 : 0 ≤ a) (l0 : 0 ≤ l) : ∀ (n : Nat), sp_sum (fun d => if a ≤ (d : Int) ∧ (d : Int) < a + l then 1 else 0) n = if (n : Int) ≤ a then 0 else if (n : Int) ≤ a + l then n - a else l
  | 0 => by rw [sp_sum, if_pos (by omega)]
  | n + 1 => by
    rw [sp_sum, sp_sum_int a0 l0 n]
    split <;> split <;> split <;> (try split) <;> omega
/-- the days of a hall are those on which somebody is there -/
theorem qp_days {V : tw_V} (hV : sp_ok V) {h : Int} (hh : h ≠ -1) : sp_sum (fun d => if sp_on V (sp_plan V) (sp_hal V) h (d : Int) (sp_n V) 0 < 0 then 0 else 1) 100 = sp_sum (fun t => if sp_hal V t = h ∧ sp_plan V t ≠ -1 then sp_len V t else 0) (sp_n V) := by
  have e1 : sp_sum (fun d => if sp_on V (sp_plan V) (sp_hal V) h (d : Int) (sp_n V) 0 < 0 then 0 else 1) 100 = sp_sum (fun d => sp_sum (fun t => if (sp_plan V t ≠ -1 ∧ sp_hal V t = h) ∧ sp_plan V t ≤ (d : Int) ∧ (d : Int) < sp_plan V t + sp_len V t then 1 else 0) (sp_n V)) 100 := by
    refine sp_sum_cong (fun d _ => ?_)
    (try dsimp only)
    rcases sp_on_dec (V := V) (b := sp_plan V) (own := sp_hal V) (a := h) (d := (d : Int)) (sp_n V) 0 with ⟨h1, h2⟩ | ⟨t, h1, h2, h3, h4⟩
    · rw [h1, if_pos (by omega)]
      exact (sp_sum_0 (fun k hk => if_neg (h2 k (Nat.zero_le k) (by omega)))).symm
    · rw [h4, if_neg (by omega)]
      exact ((sp_sum_1 (t := t) (by omega) (fun k hk hn => if_neg (fun q => hn (qp_uniH hV hh (by omega) hk h3 q)))).trans (if_pos h3)).symm
  rw [e1, sp_sum_swap]
  refine sp_sum_cong (fun t ht => ?_)
  (try dsimp only)
  by_cases e : sp_hal V t = h ∧ sp_plan V t ≠ -1
  · rw [if_pos e]
    obtain ⟨l1, l2, -⟩ := hV.2.2.2.1 t ht
    obtain ⟨g1, g2, -⟩ := qp_laid hV ht e.2
    have := sp_sum_int (a := sp_plan V t) (l := sp_len V t) g1 (by omega) 100
    rw [if_neg (by omega)] at this
    have e3 : sp_sum (fun d => if (sp_plan V t ≠ -1 ∧ sp_hal V t = h) ∧ sp_plan V t ≤ (d : Int) ∧ (d : Int) < sp_plan V t + sp_len V t then 1 else 0) 100 = sp_sum (fun d => if sp_plan V t ≤ (d : Int) ∧ (d : Int) < sp_plan V t + sp_len V t then 1 else 0) 100 := by
      refine sp_sum_cong (fun d _ => ?_)
      (try dsimp only)
      by_cases c : sp_plan V t ≤ (d : Int) ∧ (d : Int) < sp_plan V t + sp_len V t
      · rw [if_pos c, if_pos ⟨⟨e.2, e.1⟩, c⟩]
      · rw [if_neg c, if_neg (fun q => c q.2)]
    rw [e3, this]
    split <;> omega
  · rw [if_neg e]
    exact sp_sum_0 (fun d _ => if_neg (fun q => e ⟨q.1.2, q.1.1⟩))
/-! all laid: the plan is no shorter than the longest row of needs -/
theorem sp_laid_all {b : Nat → Int} : ∀ (n : Nat), sp_sum (fun t => if b t = -1 then 0 else 1) n = n → ∀ t, t < n → b t ≠ -1
  | 0, _, t, ht => absurd ht (Nat.not_lt_zero t)
  | n + 1, h, t, ht => by
    have q := (sp_sum_le (f := fun u => if b u = -1 then 0 else 1) (c := 1) (n := n) (fun o _ => by (try dsimp only); split <;> omega)).2
    rw [sp_sum] at h
    by_cases e : b n = -1
    · rw [if_pos e] at h
      omega
    · rw [if_neg e] at h
      by_cases e2 : t = n
      · rw [e2]; exact e
      · exact sp_laid_all (b := b) n (by omega) t (by omega)
theorem sp_ene_ge {V : tw_V} {b : Nat → Int} : ∀ (n t : Nat), t < n → b t ≠ -1 → b t + sp_len V t ≤ sp_ene V b n
  | 0, t, h, _ => absurd h (Nat.not_lt_zero t)
  | n + 1, t, h, hl => by
    rw [sp_ene]
    by_cases e : t = n
    · rw [e] at hl ⊢
      by_cases c : b n ≠ -1 ∧ sp_ene V b n < b n + sp_len V n
      · rw [if_pos c]; omega
      · rw [if_neg c]
        have : ¬ sp_ene V b n < b n + sp_len V n := fun q => c ⟨hl, q⟩
        omega
    · have ih := sp_ene_ge (V := V) (b := b) n t (by omega) hl
      split <;> omega
theorem qp_ah {V : tw_V} {r : Nat → Int} {t : Nat} {c : Int} (c0 : 0 ≤ c) : ∀ k, (∀ o, o < k → sp_bit V t o = true → r o ≤ c) → sp_ah V r t k ≤ c
  | 0, _ => by rw [sp_ah]; exact c0
  | k + 1, h => by
    have ih := qp_ah (V := V) (r := r) (t := t) c0 k (fun o ho hb => h o (by omega) hb)
    rw [sp_ah]
    by_cases e : sp_bit V t k = true ∧ sp_ah V r t k < r k
    · rw [if_pos e]; exact h k (by omega) e.1
    · rw [if_neg e]; exact ih
theorem qp_rt_end {V : tw_V} (hV : sp_ok V) (hl : ∀ t, t < sp_n V → sp_plan V t ≠ -1) : ∀ k, k ≤ sp_n V → (∀ i, i < k → sp_rt V k i ≤ sp_plan V i + sp_len V i) ∧ sp_lg V k ≤ sp_E V
  | 0, _ => ⟨fun i hi => absurd hi (Nat.not_lt_zero i), (sp_E_le hV).1⟩
  | k + 1, hk => by
    obtain ⟨ih1, ih2⟩ := qp_rt_end hV hl k (by omega)
    have g := qp_laid hV (t := k) (by omega) (hl k (by omega))
    have ha : sp_ah V (sp_rt V k) k k ≤ sp_plan V k := qp_ah g.1 k (fun o ho hb => by
      have q1 := ih1 o ho
      have q2 := g.2.2.2.2.2 o ho hb
      omega)
    have he : sp_plan V k + sp_len V k ≤ sp_E V := sp_ene_ge (sp_n V) k (by omega) (hl k (by omega))
    refine ⟨fun i hi => ?_, ?_⟩
    · rw [sp_rt]
      by_cases e : i = k
      · rw [e, va_up_s]; omega
      · rw [va_up_n e]; exact ih1 i (by omega)
    · rw [sp_lg]
      split <;> omega
theorem qp_longest {V : tw_V} (hV : sp_ok V) (h : sp_L V = sp_n V) : sp_lg V (sp_n V) ≤ sp_E V := (qp_rt_end hV (sp_laid_all (sp_n V) h) (sp_n V) (Nat.le_refl _)).2
theorem sp_sum_len_mono {V : tw_V} (hV : sp_ok V) : ∀ (n k : Nat), k ≤ n → n ≤ sp_n V → sp_sum (sp_len V) k ≤ sp_sum (sp_len V) n
  | 0, k, h, _ => by
    have : k = 0 := by omega
    rw [this]; exact Int.le_refl _
  | n + 1, k, h, hn => by
    by_cases e : k = n + 1
    · rw [e]; exact Int.le_refl _
    · have ih := sp_sum_len_mono hV n k (by omega) (by omega)
      obtain ⟨l1, l2, -⟩ := hV.2.2.2.1 n (by omega)
      rw [sp_sum]
      omega
theorem qp_rt_sum {V : tw_V} (hV : sp_ok V) : ∀ k, k ≤ sp_n V → (∀ i, i < k → sp_rt V k i ≤ sp_sum (sp_len V) (i + 1)) ∧ sp_lg V k ≤ sp_sum (sp_len V) k
  | 0, _ => ⟨fun i hi => absurd hi (Nat.not_lt_zero i), Int.le_refl _⟩
  | k + 1, hk => by
    obtain ⟨ih1, ih2⟩ := qp_rt_sum hV k (by omega)
    have h0 : 0 ≤ sp_sum (sp_len V) k := sp_sum_len_mono hV k 0 (Nat.zero_le k) (by omega)
    obtain ⟨l1, l2, -⟩ := hV.2.2.2.1 k (by omega)
    have ha : sp_ah V (sp_rt V k) k k ≤ sp_sum (sp_len V) k := qp_ah h0 k (fun o ho _ => by
      have q1 := ih1 o ho
      have q2 := sp_sum_len_mono hV k (o + 1) (by omega) (by omega)
      omega)
    refine ⟨fun i hi => ?_, ?_⟩
    · rw [sp_rt]
      by_cases e : i = k
      · rw [e, va_up_s, sp_sum]; omega
      · rw [va_up_n e]; exact ih1 i (by omega)
    · rw [sp_lg, sp_sum]
      split <;> omega
theorem qp_lg_all {V : tw_V} (hV : sp_ok V) : sp_lg V (sp_n V) ≤ sp_sum (sp_len V) (sp_n V) := (qp_rt_sum hV (sp_n V) (Nat.le_refl _)).2
/-! nothing is laid where the end is 0 -/
theorem qp_LE {V : tw_V} (hV : sp_ok V) : ∀ n, n ≤ sp_n V → (sp_sum (fun t => if sp_plan V t = -1 then 0 else 1) n = 0 ∧ sp_ene V (sp_plan V) n = 0) ∨ (1 ≤ sp_sum (fun t => if sp_plan V t = -1 then 0 else 1) n ∧ 1 ≤ sp_ene V (sp_plan V) n)
  | 0, _ => Or.inl ⟨rfl, rfl⟩
  | n + 1, hn => by
    have ih := qp_LE hV n (by omega)
    obtain ⟨l1, l2, -⟩ := hV.2.2.2.1 n (by omega)
    rw [sp_sum, sp_ene]
    by_cases e : sp_plan V n = -1
    · rw [if_pos e, if_neg (fun q => q.1 e), Int.add_zero]
      exact ih
    · have g := (sp_bokp hV n (by omega)).resolve_left e
      rw [if_neg e]
      refine Or.inr ⟨by omega, ?_⟩
      split <;> omega
theorem qp_LE0 {V : tw_V} (hV : sp_ok V) : (sp_L V = 0 ∧ sp_E V = 0) ∨ (1 ≤ sp_L V ∧ 1 ≤ sp_E V) := qp_LE hV (sp_n V) (Nat.le_refl _)
/-- the task of the worst slip -/
theorem qp_ws {V : tw_V} {d : Int} : ∀ k, (sp_ws V d k).1 = -1 ∨ ∃ t : Nat, t < k ∧ (sp_ws V d k).1 = t ∧ sp_plan V t ≠ -1 ∧ sp_plan V t + d ≤ 60
  | 0 => Or.inl rfl
  | k + 1 => by
    rw [sp_ws]
    by_cases e : (sp_plan V k ≠ -1 ∧ sp_plan V k + d ≤ 60) ∧ (sp_ws V d k).2 < sp_E (sp_set V 3 k (sp_plan V k + d))
    · rw [if_pos e]
      exact Or.inr ⟨k, by omega, rfl, e.1.1, e.1.2⟩
    · rw [if_neg e]
      rcases qp_ws (V := V) (d := d) k with h | ⟨t, h1, h2⟩
      · exact Or.inl h
      · exact Or.inr ⟨t, by omega, h2⟩
theorem qp_wait {V : tw_V} (hV : sp_ok V) {t : Nat} (ht : t < sp_n V) : 0 ≤ sp_wai V (sp_plan V) t ∧ sp_wai V (sp_plan V) t ≤ 100 := by
  unfold sp_wai
  by_cases e : sp_plan V t = -1
  · rw [if_pos e]; omega
  · have g := qp_laid hV ht e
    have h := sp_start_le hV (sp_bokp hV) ht
    obtain ⟨l1, l2, -⟩ := hV.2.2.2.1 t ht
    rw [if_neg e]
    omega
