/-! the reference's lays, as numbers -/
theorem sp_its_full {V : tw_V} (hV : sp_ok V) : ∀ k, (∀ j, j < k → sp_pick V (sp_its V j).1 (sp_its V j).2 ≠ -1) → sp_sum (fun t => if (sp_its V k).1 t = true then 1 else 0) (sp_n V) = k
  | 0, _ => by
    show sp_sum (fun t => if false = true then 1 else 0) (sp_n V) = ((0 : Nat) : Int)
    have := sp_sum_le (f := fun _ => if false = true then (1 : Int) else 0) (c := 0) (n := sp_n V) (fun o _ => by simp)
    omega
  | k + 1, h => by
    have ih := sp_its_full hV k (fun j hj => h j (by omega))
    have hp := h k (by omega)
    have q1 := sp_pck_le (V := V) (tr := (sp_its V k).1) (b := (sp_its V k).2) (sp_n V)
    have q2 := sp_pck_in (V := V) (tr := (sp_its V k).1) (b := (sp_its V k).2) (sp_n V) hp
    obtain ⟨t, hte⟩ : ∃ t : Nat, sp_pick V (sp_its V k).1 (sp_its V k).2 = t := ⟨(sp_pick V (sp_its V k).1 (sp_its V k).2).toNat, by unfold sp_pick at hp ⊢; omega⟩
    have hte' : sp_pck V (sp_its V k).1 (sp_its V k).2 (sp_n V) = t := hte
    rw [hte', Int.toNat_natCast] at q2
    rw [hte'] at q1
    have hs : (sp_its V (k + 1)).1 = va_up (sp_its V k).1 t true := by
      rw [sp_its]; unfold sp_step; rw [if_neg hp, hte, Int.toNat_natCast]
    rw [hs]
    have key : ∀ n, t < n → sp_sum (fun u => if va_up (sp_its V k).1 t true u = true then 1 else 0) n = sp_sum (fun u => if (sp_its V k).1 u = true then 1 else 0) n + 1 := by
      intro n
      induction n with
      | zero => intro h; omega
      | succ n ihn =>
        intro hn
        rw [sp_sum, sp_sum]
        by_cases e : t = n
        · subst e
          rw [sp_sum_cong (g := fun u => if (sp_its V k).1 u = true then 1 else 0) (fun j hj => by (try dsimp only); rw [va_up_n (by omega)])]
          (try dsimp only)
          rw [va_up_s, q2.1]
          simp
        · rw [ihn (by omega)]
          (try dsimp only)
          rw [va_up_n (by omega)]
          omega
    rw [key (sp_n V) (by omega), ih]
    omega
theorem sp_its_end {V : tw_V} (hV : sp_ok V) : ∃ k, k ≤ sp_n V ∧ sp_pick V (sp_its V k).1 (sp_its V k).2 = -1 ∧ ∀ j, j < k → sp_pick V (sp_its V j).1 (sp_its V j).2 ≠ -1 := by
  have hN : ∃ k, k ≤ sp_n V ∧ sp_pick V (sp_its V k).1 (sp_its V k).2 = -1 := by
    by_cases h : ∃ j, j < sp_n V ∧ sp_pick V (sp_its V j).1 (sp_its V j).2 = -1
    · obtain ⟨j, h1, h2⟩ := h; exact ⟨j, by omega, h2⟩
    · refine ⟨sp_n V, Nat.le_refl _, ?_⟩
      have hf := sp_its_full hV (sp_n V) (fun j hj e => h ⟨j, hj, e⟩)
      by_cases hp : sp_pick V (sp_its V (sp_n V)).1 (sp_its V (sp_n V)).2 = -1
      · exact hp
      · exfalso
        have q1 := sp_pck_le (V := V) (tr := (sp_its V (sp_n V)).1) (b := (sp_its V (sp_n V)).2) (sp_n V)
        have q2 := sp_pck_in (V := V) (tr := (sp_its V (sp_n V)).1) (b := (sp_its V (sp_n V)).2) (sp_n V) hp
        have hp' : sp_pck V (sp_its V (sp_n V)).1 (sp_its V (sp_n V)).2 (sp_n V) ≠ -1 := hp
        have h1 := sp_sum_lt (f := fun u => if (sp_its V (sp_n V)).1 u = true then 1 else 0) (g := fun _ => 1) (o := (sp_pck V (sp_its V (sp_n V)).1 (sp_its V (sp_n V)).2 (sp_n V)).toNat) (n := sp_n V) (fun j _ => by (try dsimp only); split <;> omega) (by omega) (by (try dsimp only); rw [q2.1]; simp)
        have h2 := (sp_sum_le (f := fun _ => (1 : Int)) (c := 1) (n := sp_n V) (fun o _ => by simp)).2
        omega
  obtain ⟨k, h1, h2⟩ := hN
  obtain ⟨k0, g1, g2⟩ := pk_least (fun k => k ≤ sp_n V ∧ sp_pick V (sp_its V k).1 (sp_its V k).2 = -1) ⟨k, h1, h2⟩
  exact ⟨k0, g1.1, g1.2, fun j hj e => g2 j hj ⟨by omega, e⟩⟩
/-- open tasks: those not tried -/
def sp_op (m : Int32) (n : Nat) (tr : Nat → Bool) : Prop := (∀ i, i < n → bt m i = !tr i) ∧ ∀ i, n ≤ i → i < 32 → bt m i = false
/-- the search of the next task, at its end -/
theorem pX4_lays_44 {s : tw_F} {V : tw_V} (h : sp_RA s V) (hV : sp_ok V) (k32 : Int32 → Int32 → Int32 → tw_F → Option tw_F) {b : Nat → Int} {tr : Nat → Bool} {om lm : Int32} (d : tw_F) (ho : sp_op om (sp_n V) tr) (hl : sp_mk lm (sp_n V) (fun i => decide (b i ≠ -1))) :
    fX4_lays_44 s k32 512 om lm (-1 : Int32) (0 : Int32) d = (if zi (sp_pick V tr b) = (-1 : Int32) then k32 om lm (zi (sp_pick V tr b)) d else (fX4_ready s d (zi (sp_pick V tr b))).bind fun r => fX4_lays_139 s k32 512 om lm (zi (sp_pick V tr b)) r d) := by
  have hn := sp_12 hV
  have key : ∀ (m k fuel : Nat), k + m = sp_n V → m < fuel → fX4_lays_44 s k32 fuel om lm (zi (sp_pck V tr b k)) (zi k) d = (if zi (sp_pick V tr b) = (-1 : Int32) then k32 om lm (zi (sp_pick V tr b)) d else (fX4_ready s d (zi (sp_pick V tr b))).bind fun r => fX4_lays_139 s k32 512 om lm (zi (sp_pick V tr b)) r d) := by
    intro m
    induction m with
    | zero =>
      intro k fuel h1 h2
      obtain ⟨fuel, rfl⟩ : ∃ f, fuel = f + 1 := ⟨fuel - 1, by omega⟩
      have : k = sp_n V := by omega
      subst this
      rw [fX4_lays_44, zT0, h.1, if_pos ((zi_le (by omega) (by omega) (by omega) (by omega)).mpr (Int.le_refl _))]
      rfl
    | succ m ih =>
      intro k fuel h1 h2
      obtain ⟨fuel, rfl⟩ : ∃ f, fuel = f + 1 := ⟨fuel - 1, by omega⟩
      have hk : k < sp_n V := by omega
      have q1 := sp_pck_le (V := V) (tr := tr) (b := b) k
      have ih' := ih (k + 1) fuel (by omega) (by omega)
      have c0 : ¬ (1 : Int32) = 0 := by decide
      rw [fX4_lays_44, zT0, h.1, if_neg (by rw [zi_le (by omega) (by omega) (by omega) (by omega)]; omega), pX4_msk h hV hk, ob_some]
      unfold fX4_lays_81
      rw [pX4_weight h hV hk, ob_some, zi_suc, zm1, zif_eq (by omega) (by omega) (by omega) (by omega), ← zm1]
      have hsk : sp_pck V tr b (k + 1) = if (tr k = false ∧ sp_rdy V b k = true) ∧ (sp_pck V tr b k = -1 ∨ sp_key V (sp_pck V tr b k).toNat < sp_key V k) then (k : Int) else sp_pck V tr b k := sp_pck.eq_2 _ _ _ _
      rw [hsk] at ih'
      have hot : ¬ ((om >>> (zi (k : Int) &&& 31)) &&& (1 : Int32)) = (1 : Int32) ↔ tr k = true := by
        rw [tb_shr1 (by omega), ho.1 k hk]
        cases tr k <;> simp
      by_cases e1 : tr k = true
      · rw [if_pos (hot.mpr e1), if_pos rfl]
        rw [if_neg (fun q => by rw [e1] at q; exact absurd q.1.1 (by decide))] at ih'
        exact ih'
      · rw [if_neg (fun q => e1 (hot.mp q))]
        have e1' : tr k = false := by simpa using e1
        have hrd := sp_rdy_mask hV hl hk
        by_cases e2 : sp_rdy V b k = true
        · rw [if_neg (fun q => q (hrd.mpr e2)), if_neg c0]
          by_cases e3 : sp_pck V tr b k = -1
          · rw [if_pos e3]
            rw [if_pos ⟨⟨e1', e2⟩, Or.inl e3⟩] at ih'
            exact ih'
          · rw [if_neg e3]
            obtain ⟨u, hu⟩ : ∃ u : Nat, sp_pck V tr b k = u := ⟨(sp_pck V tr b k).toNat, by omega⟩
            rw [hu] at ih' e3 ⊢
            have hun : u < sp_n V := by omega
            have k1 := sp_key_le hV hk
            have k2 := sp_key_le hV hun
            rw [pX4_weight h hV hun, ob_some, zif_le (by omega) (by omega) (by omega) (by omega)]
            rw [Int.toNat_natCast] at ih'
            by_cases e4 : sp_key V k ≤ sp_key V u
            · rw [if_pos e4]
              rw [if_neg (fun q => by rcases q.2 with q | q <;> omega)] at ih'
              exact ih'
            · rw [if_neg e4]
              rw [if_pos ⟨⟨e1', e2⟩, Or.inr (by omega)⟩] at ih'
              exact ih'
        · rw [if_pos (fun q => e2 (hrd.mp q)), if_pos rfl]
          rw [if_neg (fun q => e2 q.1.2)] at ih'
          exact ih'
  exact key (sp_n V) 0 512 (by omega) (by omega)
/-- the day by day search -/
theorem pX4_lays_139 {s d : tw_F} {V : tw_V} {b : Nat → Int} (h : sp_RA s V) (hV : sp_ok V) (hB : sp_RB d V b) (hb : sp_bok V b) {t : Nat} (ht : t < sp_n V) (k32 : Int32 → Int32 → Int32 → tw_F → Option tw_F) (om lm : Int32) : ∀ (m fuel : Nat) (x : Int), 100 - x ≤ m → m < fuel → 0 ≤ x → x ≤ 199 →
    fX4_lays_139 s k32 fuel om lm (zi t) (zi x) d = k32 (om &&& (((1 : Int32) <<< (zi t &&& 31)) ^^^ (-1 : Int32))) (lm ||| (if sp_seek V b t 300 x = -1 then 0 else ((1 : Int32) <<< (zi t &&& 31)))) (zi t) (upd d t (zi (sp_seek V b t 300 x)))
  | 0, fuel, x, h1, h2, h3, h4 => by
    have hn := sp_12 hV
    obtain ⟨fuel, rfl⟩ : ∃ f, fuel = f + 1 := ⟨fuel - 1, by omega⟩
    have hp : (100 : Int32) ≤ zi x := by rw [show (100 : Int32) = zi 100 from rfl, zi_le (by omega) (by omega) (by omega) (by omega)]; omega
    rw [fX4_lays_139, if_pos hp]
    unfold fX4_lays_164 fX4_lays_197
    rw [if_pos hp, if_pos hp, zi_g (by omega) (by omega) (by omega), zi_Tn (by omega), sp_seek_none (by omega) (fun y q1 q2 => by omega), if_pos rfl]
    rfl
  | m + 1, fuel, x, h1, h2, h3, h4 => by
    have hn := sp_12 hV
    obtain ⟨fuel, rfl⟩ : ∃ f, fuel = f + 1 := ⟨fuel - 1, by omega⟩
    by_cases e1 : 100 ≤ x
    · have hp : (100 : Int32) ≤ zi x := by rw [show (100 : Int32) = zi 100 from rfl, zi_le (by omega) (by omega) (by omega) (by omega)]; omega
      rw [fX4_lays_139, if_pos hp]
      unfold fX4_lays_164 fX4_lays_197
      rw [if_pos hp, if_pos hp, zi_g (by omega) (by omega) (by omega), zi_Tn (by omega), sp_seek_none (by omega) (fun y q1 q2 => by omega), if_pos rfl]
      rfl
    · have hp : ¬ (100 : Int32) ≤ zi x := by rw [show (100 : Int32) = zi 100 from rfl, zi_le (by omega) (by omega) (by omega) (by omega)]; omega
      have c0 : ¬ (1 : Int32) = 0 := by decide
      rw [fX4_lays_139, if_neg hp, pX4_isFree h hV hB hb ht h3 (by omega), ob_some]
      by_cases e2 : sp_fre V b t x = true
      · rw [if_pos e2, if_pos c0]
        unfold fX4_lays_164 fX4_lays_197
        rw [if_neg hp, if_neg hp, zi_g (by omega) (by omega) (by omega), zi_Tn (by omega), sp_seek_here (by omega) (by omega) e2, if_neg (by omega)]
      · rw [if_neg e2, if_neg (by simp), show zi x + 1 = zi (x + 1) by rw [z1, zi_add], pX4_lays_139 h hV hB hb ht k32 om lm m fuel (x + 1) (by omega) (by omega) (by omega) (by omega)]
        have := sp_seek_skip (V := V) (b := b) (t := t) 1 300 300 x (by omega) (by omega) (fun y q1 q2 q3 => by
          have : y = x := by omega
          rw [this]
          simpa using e2)
        have e : sp_seek V b t 300 x = sp_seek V b t 300 (x + 1) := this
        rw [e]
theorem pX4_lays {s : tw_F} {V : tw_V} (h : sp_RA s V) (hV : sp_ok V) (d : tw_F) : ∃ d', fX4_lays s d = some d' ∧ sp_RB d' V (sp_plan V) := by
  have hn := sp_12 hV
  obtain ⟨K, hK1, hK2, hK3⟩ := sp_its_end hV
  -- the outer loop, from the k-th state on
  have outer : ∀ (m k fuel : Nat) (om lm nx : Int32) (d : tw_F), k + m = K → m + 1 < fuel → nx ≠ (-1 : Int32) → sp_op om (sp_n V) (sp_its V k).1 → sp_mk lm (sp_n V) (fun i => decide ((sp_its V k).2 i ≠ -1)) → sp_RB d V (sp_its V k).2 → ∃ d', fX4_lays_32 s fuel om lm nx d = some d' ∧ sp_RB d' V (sp_plan V) := by
    intro m
    induction m with
    | zero =>
      intro k fuel om lm nx d h1 h2 h3 h4 h5 h6
      obtain ⟨fuel, rfl⟩ : ∃ f, fuel = f + 2 := ⟨fuel - 2, by omega⟩
      have : k = K := by omega
      subst this
      rw [fX4_lays_32, if_neg h3, pX4_lays_44 h hV _ d h4 h5, hK2, if_pos (show zi (-1) = (-1 : Int32) from rfl), fX4_lays_32, if_pos (show zi (-1) = (-1 : Int32) from rfl)]
      refine ⟨d, rfl, ?_⟩
      unfold sp_plan
      rw [sp_its_stay hK2 (sp_n V) hK1]
      exact h6
    | succ m ih =>
      intro k fuel om lm nx d h1 h2 h3 h4 h5 h6
      obtain ⟨fuel, rfl⟩ : ∃ f, fuel = f + 1 := ⟨fuel - 1, by omega⟩
      have hp := hK3 k (by omega)
      have hg := sp_good_its hV k
      have q1 := sp_pck_le (V := V) (tr := (sp_its V k).1) (b := (sp_its V k).2) (sp_n V)
      have q2 := sp_pck_in (V := V) (tr := (sp_its V k).1) (b := (sp_its V k).2) (sp_n V) hp
      have hstep : sp_its V (k + 1) = (va_up (sp_its V k).1 (sp_pick V (sp_its V k).1 (sp_its V k).2).toNat true, va_up (sp_its V k).2 (sp_pick V (sp_its V k).1 (sp_its V k).2).toNat (sp_day V (sp_its V k).2 (sp_pick V (sp_its V k).1 (sp_its V k).2).toNat)) := by
        rw [sp_its]; unfold sp_step; rw [if_neg hp]
      obtain ⟨t, hte⟩ : ∃ t : Nat, sp_pick V (sp_its V k).1 (sp_its V k).2 = t := ⟨(sp_pick V (sp_its V k).1 (sp_its V k).2).toNat, by unfold sp_pick at hp ⊢; omega⟩
      have hte' : sp_pck V (sp_its V k).1 (sp_its V k).2 (sp_n V) = t := hte
      rw [hte'] at q1 q2
      rw [hte] at hstep
      rw [Int.toNat_natCast] at hstep q2
      have ht : t < sp_n V := by omega
      have hbt : (sp_its V k).2 t = -1 := hg.2.1 t q2.1
      have hs := sp_start_le hV hg.1 ht
      have hd := sp_day_ok hV hg.1 ht
      obtain ⟨t1, t2, -⟩ := hV.2.2.2.1 t ht
      have hsd : sp_day V (sp_its V k).2 t = sp_seek V (sp_its V k).2 t 300 (sp_start V (sp_its V k).2 t) := sp_seek_fuel 200 300 _ (by omega) (by omega)
      rw [fX4_lays_32, if_neg h3, pX4_lays_44 h hV _ d h4 h5, hte, if_neg (by rw [zm1, zi_eq (by omega) (by omega) (by omega) (by omega)]; omega), pX4_ready h hV h6 hg.1 ht, ob_some]
      rw [pX4_lays_139 h hV h6 hg.1 ht _ om lm 200 512 _ (by omega) (by omega) (by omega) (by omega), ← hsd]
      refine ih (k + 1) fuel _ _ _ _ (by omega) (by omega) (by rw [zm1]; intro q; rw [zi_eq (by omega) (by omega) (by omega) (by omega)] at q; omega) ?_ ?_ ?_
      · rw [hstep]
        refine ⟨fun i hi => ?_, fun i hi1 hi2 => ?_⟩
        · rw [tb_clr (by omega) (by omega), h4.1 i hi]
          (try dsimp only)
          by_cases e : i = t
          · subst e; rw [va_up_s]; simp
          · rw [va_up_n e]; simp [e]
        · rw [tb_clr (by omega) (by omega), h4.2 i hi1 hi2]
          rfl
      · rw [hstep]
        by_cases hd1 : sp_day V (sp_its V k).2 t = -1
        · rw [if_pos hd1]
          refine ⟨fun i hi => ?_, fun i hi1 hi2 => ?_⟩
          · rw [b_or, b_0, h5.1 i hi, Bool.or_false]
            by_cases e : i = t
            · subst e; exact sp_dec (by show _ = va_up _ _ _ _; rw [va_up_s, hd1, hbt])
            · exact sp_dec (by show _ = va_up _ _ _ _; rw [va_up_n e])
          · rw [b_or, b_0, h5.2 i hi1 hi2]; rfl
        · rw [if_neg hd1]
          refine ⟨fun i hi => ?_, fun i hi1 hi2 => ?_⟩
          · rw [tb_or (by omega) (by omega), h5.1 i hi]
            by_cases e : i = t
            · subst e
              refine Eq.trans ?_ (sp_dec (b := sp_day V (sp_its V k).2 i) (by show _ = va_up _ _ _ _; rw [va_up_s]))
              simp [hd1]
            · refine Eq.trans ?_ (sp_dec (b := (sp_its V k).2 i) (by show _ = va_up _ _ _ _; rw [va_up_n e]))
              simp [e]
          · rw [tb_or (by omega) (by omega), h5.2 i hi1 hi2]
            simp; omega
      · rw [hstep]
        intro u hu
        (try dsimp only)
        by_cases e : u = t
        · subst e; rw [va_up_s, upd_s]
        · rw [va_up_n e, upd_n e]; exact h6 u hu
  unfold fX4_lays
  -- the first loop
  have first : ∀ (m k fuel : Nat) (om : Int32) (d : tw_F), k + m = sp_n V → m < fuel → sp_mk om k (fun _ => true) → (∀ t, t < k → d t = (-1 : Int32)) → ∃ d', fX4_lays_4 s fuel om (zi k) d = some d' ∧ sp_RB d' V (sp_plan V) := by
    intro m
    induction m with
    | zero =>
      intro k fuel om d h1 h2 h3 h4
      obtain ⟨fuel, rfl⟩ : ∃ f, fuel = f + 1 := ⟨fuel - 1, by omega⟩
      have : k = sp_n V := by omega
      subst this
      rw [fX4_lays_4, zT0, h.1, if_pos ((zi_le (by omega) (by omega) (by omega) (by omega)).mpr (Int.le_refl _))]
      refine outer K 0 512 om 0 0 d (by omega) (by omega) (by decide) ⟨fun i hi => ?_, h3.2⟩ ⟨fun i _ => ?_, fun i _ _ => ?_⟩ (fun t ht => ?_)
      · rw [h3.1 i hi]; rfl
      · rw [b_0]; rfl
      · rw [b_0]
      · rw [h4 t ht]; rfl
    | succ m ih =>
      intro k fuel om d h1 h2 h3 h4
      obtain ⟨fuel, rfl⟩ : ∃ f, fuel = f + 1 := ⟨fuel - 1, by omega⟩
      rw [fX4_lays_4, zT0, h.1, if_neg (by rw [zi_le (by omega) (by omega) (by omega) (by omega)]; omega), zi_g (by omega) (by omega) (by omega), zi_Tn (by omega), zi_suc]
      refine ih (k + 1) fuel _ _ (by omega) (by omega) ⟨fun i hi => ?_, fun i hi1 hi2 => ?_⟩ (fun t ht => ?_)
      · rw [tb_or (by omega) (by omega)]
        by_cases e : i = k
        · simp [e]
        · rw [h3.1 i (by omega)]; rfl
      · rw [tb_or (by omega) (by omega), h3.2 i (by omega) hi2]
        simp; omega
      · by_cases e : t = k
        · subst e; rw [upd_s]
        · rw [upd_n e]; exact h4 t (by omega)
  exact first (sp_n V) 0 512 0 d (by omega) (by omega) ⟨fun i hi => absurd hi (Nat.not_lt_zero i), fun i _ _ => b_0 i⟩ (fun t ht => absurd ht (Nat.not_lt_zero t))
theorem pX4_laid {s d : tw_F} {V : tw_V} {b : Nat → Int} (h : sp_RA s V) (hV : sp_ok V) (hB : sp_RB d V b) (hb : sp_bok V b) : fX4_laid s d = some (zi (sp_laid V b)) := by
  have hn := sp_12 hV
  unfold fX4_laid
  refine lup (fun fuel k => fX4_laid_4 s d fuel (zi (sp_sum (fun t => if b t = -1 then 0 else 1) k)) (zi k)) _ (sp_n V) (fun fuel => ?_) (fun fuel k hk => ?_) 512 (by omega)
  · (try dsimp only)
    rw [fX4_laid_4, zT0, h.1, if_pos ((zi_le (by omega) (by omega) (by omega) (by omega)).mpr (Int.le_refl _))]
    rfl
  · (try dsimp only)
    have h2 := sp_b_le hV hb hk
    rw [fX4_laid_4, zT0, h.1, if_neg (by rw [zi_le (by omega) (by omega) (by omega) (by omega)]; omega), zi_g (by omega) (by omega) (by omega), zi_Tn (by omega), hB k hk, zi_suc, zm1, zif_ne (by omega) (by omega) (by omega) (by omega), sp_sum, z0, z1, zi_add, zi_add]
    by_cases e : b k = -1
    · rw [if_pos e, if_pos e]
    · rw [if_neg e, if_neg e]
theorem pX4_end {s d : tw_F} {V : tw_V} {b : Nat → Int} (h : sp_RA s V) (hV : sp_ok V) (hB : sp_RB d V b) (hb : sp_bok V b) : fX4_end s d = some (zi (sp_end V b)) := by
  have hn := sp_12 hV
  unfold fX4_end
  refine lup (fun fuel k => fX4_end_4 s d fuel (zi (sp_ene V b k)) (zi k)) _ (sp_n V) (fun fuel => ?_) (fun fuel k hk => ?_) 512 (by omega)
  · (try dsimp only)
    rw [fX4_end_4, zT0, h.1, if_pos ((zi_le (by omega) (by omega) (by omega) (by omega)).mpr (Int.le_refl _))]
    rfl
  · (try dsimp only)
    have h2 := sp_b_le hV hb hk
    have h3 := sp_ene_le hV hb k (by omega)
    obtain ⟨l1, l2, -⟩ := hV.2.2.2.1 k hk
    rw [fX4_end_4, zT0, h.1, if_neg (by rw [zi_le (by omega) (by omega) (by omega) (by omega)]; omega), zi_g (by omega) (by omega) (by omega), zi_Tn (by omega), hB k hk, zi_suc, zm1, zif_eq (by omega) (by omega) (by omega) (by omega), pX4_behind h hV hB hk, ob_some, ob_some, zif_le (by omega) (by omega) (by omega) (by omega), sp_ene]
    by_cases e : b k = -1
    · rw [if_pos e, if_neg (fun q => q.1 e)]
    · rw [if_neg e]
      by_cases e2 : b k + sp_len V k ≤ sp_ene V b k
      · rw [if_pos e2, if_neg (by omega)]
      · rw [if_neg e2, if_pos ⟨e, by omega⟩]
