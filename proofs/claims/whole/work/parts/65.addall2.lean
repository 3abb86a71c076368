/-! texts: the reference adds the tasks of a text -/
theorem lw_iff {m : Int32} {s : Nat} (hs : s < 32) : m >>> (zi (s : Int) &&& 31) = 0 ↔ tx_lo m s := by
  rw [zi_nI]
  constructor
  · intro h i hi
    rcases Nat.lt_or_ge i 32 with h32 | h32
    · have h1 := b_sshr s hs m (i := i - s) (by omega)
      rw [h, b_0, if_pos (by omega), show s + (i - s) = i by omega] at h1
      exact h1.symm
    · exact b_big h32
  · intro h
    apply b_ext
    intro i hi
    rw [b_sshr s hs m hi, b_0]
    by_cases e : s + i < 32
    · rw [if_pos e, h (s + i) (by omega)]
    · rw [if_neg e, h 31 (by omega)]
theorem tx_ad_n {V : tw_V} {T : tw_F} : ∀ i, sp_n (tx_ad V T i) = sp_n V + i
  | 0 => rfl
  | i + 1 => congrArg (fun x => x + 1) (tx_ad_n i)
theorem tx_ad_m {V : tw_V} {T : tw_F} : ∀ i j, j < i → sp_msk (tx_ad V T i) (sp_n V + j) = T (4 * j + 3)
  | 0, j, h => absurd h (Nat.not_lt_zero j)
  | i + 1, j, h => by
    have hn : sp_n V + i = (tx_ad V T i).1 := (tx_ad_n i).symm
    rw [tx_ad]
    by_cases e : j = i
    · subst e
      rw [hn]
      exact sp_app_m1
    · exact (sp_app_m (by omega)).trans (tx_ad_m i j (by omega))
theorem tx_ow_ad {V : tw_V} {T : tw_F} {i : Nat} : tx_ow (sp_n V) (tx_ad V T i) ↔ sp_n V + i ≤ 12 ∧ ∀ j, j < i → tx_lo (T (4 * j + 3)) (sp_n V + j) := by
  unfold tx_ow
  rw [tx_ad_n]
  constructor
  · intro h
    refine ⟨h.1, fun j hj => ?_⟩
    have := h.2 (sp_n V + j) (by omega) (by omega)
    rwa [tx_ad_m i j hj] at this
  · intro h
    refine ⟨h.1, fun t h1 h2 => ?_⟩
    have := h.2 (t - sp_n V) (by omega)
    rw [← tx_ad_m (V := V) (T := T) i (t - sp_n V) (by omega), show sp_n V + (t - sp_n V) = t by omega] at this
    exact this
theorem rx_mc0 {M : tw_Md} {i : Nat} (hi : i ≤ 21) (hz : M.2.2.2.2.2.2.2.2.2.2.1 = zi i) : ∀ (m k fuel : Nat), k + m = i → m < fuel → fX4_mayCome_24 M fuel (0 : Int32) (zi k) = some 0
  | 0, k, fuel, h1, h2 => by
    obtain ⟨fuel, rfl⟩ : ∃ f, fuel = f + 1 := ⟨fuel - 1, by omega⟩
    have : k = i := by omega
    subst this
    rw [fX4_mayCome_24, hz, if_pos (dg_ge (by omega)), zi_q (Or.inl rfl)]
  | m + 1, k, fuel, h1, h2 => by
    obtain ⟨fuel, rfl⟩ : ∃ f, fuel = f + 1 := ⟨fuel - 1, by omega⟩
    rw [fX4_mayCome_24, hz, if_neg (dg_lt (show k < i by omega) (by omega)), if_pos rfl, zi_suc]
    exact rx_mc0 hi hz m (k + 1) fuel (by omega) (by omega)
theorem rx_mc1 {M : tw_Md} {n0 i : Nat} (hi : i ≤ 21) (hz : M.2.2.2.2.2.2.2.2.2.2.1 = zi i) (hn : M.1 0 = zi n0) (h12 : n0 + i ≤ 12) : ∀ (m k fuel : Nat), k + m = i → m < fuel → (fX4_mayCome_24 M fuel (1 : Int32) (zi k) = some 1 ∧ ∀ j, k ≤ j → j < i → tx_lo (M.2.2.2.2.2.2.2.2.2.1 (4 * j + 3)) (n0 + j)) ∨ (fX4_mayCome_24 M fuel (1 : Int32) (zi k) = some 0 ∧ ∃ j, k ≤ j ∧ j < i ∧ ¬ tx_lo (M.2.2.2.2.2.2.2.2.2.1 (4 * j + 3)) (n0 + j))
  | 0, k, fuel, h1, h2 => by
    obtain ⟨fuel, rfl⟩ : ∃ f, fuel = f + 1 := ⟨fuel - 1, by omega⟩
    have : k = i := by omega
    subst this
    rw [fX4_mayCome_24, hz, if_pos (dg_ge (by omega)), zi_q (Or.inr rfl)]
    exact Or.inl ⟨rfl, fun j a b => by omega⟩
  | m + 1, k, fuel, h1, h2 => by
    obtain ⟨fuel, rfl⟩ : ∃ f, fuel = f + 1 := ⟨fuel - 1, by omega⟩
    have hlw := lw_iff (m := M.2.2.2.2.2.2.2.2.2.1 (4 * k + 3)) (s := n0 + k) (by omega)
    rw [fX4_mayCome_24, hz, if_neg (dg_lt (show k < i by omega) (by omega)), if_neg (by first | exact i1n0 | exact fun q => q rfl | decide), show (3 : Int32) = zi ((3 : Nat) : Int) from rfl, rx_tol, zi_n (by omega) (by omega), zi_Tn (by omega), zT0, hn, zi_pk, zi_suc]
    by_cases e : tx_lo (M.2.2.2.2.2.2.2.2.2.1 (4 * k + 3)) (n0 + k)
    · rw [if_neg (fun q => q (hlw.mpr e))]
      rcases rx_mc1 hi hz hn h12 m (k + 1) fuel (by omega) (by omega) with ⟨a, b⟩ | ⟨a, j, b⟩
      · refine Or.inl ⟨a, fun j q1 q2 => ?_⟩
        by_cases e2 : j = k
        · subst e2; exact e
        · exact b j (by omega) q2
      · exact Or.inr ⟨a, j, by omega, b.2⟩
    · rw [if_pos (fun q => e (hlw.mp q)), rx_mc0 hi hz m (k + 1) fuel (by omega) (by omega)]
      exact Or.inr ⟨rfl, k, Nat.le_refl k, by omega, e⟩
theorem rx_mayCome {M : tw_Md} {V : tw_V} {i : Nat} (hR : sp_RA M.1 V) (hV : sp_n V ≤ 12) (hi : i ≤ 21) (hz : M.2.2.2.2.2.2.2.2.2.2.1 = zi i) : (fX4_mayCome M = some 1 ∧ tx_ow (sp_n V) (tx_ad V M.2.2.2.2.2.2.2.2.2.1 i)) ∨ (fX4_mayCome M = some 0 ∧ ¬ tx_ow (sp_n V) (tx_ad V M.2.2.2.2.2.2.2.2.2.1 i)) := by
  have c12 : (12 : Int32) < zi ((sp_n V + i : Nat) : Int) ↔ (12 : Int) < (sp_n V + i : Nat) := zi_lt (a := 12) (by omega) (by omega) (by omega) (by omega)
  unfold fX4_mayCome
  rw [zT0, hR.1, hz, zi_pk, tx_ow_ad]
  by_cases e : 12 < sp_n V + i
  · rw [if_pos (c12.mpr (by omega)), show fX4_mayCome_24 M 512 (0 : Int32) (0 : Int32) = _ from rx_mc0 hi hz i 0 512 (by omega) (by omega)]
    exact Or.inr ⟨rfl, fun q => by omega⟩
  · rw [if_neg (fun q => absurd (c12.mp q) (by omega))]
    rcases rx_mc1 hi hz hR.1 (show sp_n V + i ≤ 12 by omega) i 0 512 (by omega) (by omega) with ⟨a, b⟩ | ⟨a, j, b⟩
    · exact Or.inl ⟨a, by omega, fun j hj => b j (Nat.zero_le j) hj⟩
    · exact Or.inr ⟨a, fun q => b.2.2 (q.2 j b.2.1)⟩
theorem rx_tol0 {i : Nat} : (4 : Int32) * zi (i : Int) = zi ((4 * i : Nat) : Int) := by
  rw [show (4 : Int32) = zi 4 from rfl, zi_mul]
  exact congrArg zi (by omega)
theorem rx_42 {V : tw_V} {i : Nat} (h12 : sp_n V + i ≤ 12) : ∀ (m k fuel : Nat) (M : tw_Md), k + m = i → m < fuel → M.2.2.2.2.2.2.2.2.2.2.1 = zi i → sp_RA M.1 (tx_ad V M.2.2.2.2.2.2.2.2.2.1 k) → ∃ nw, fX4_addAll_42 fuel (zi k) M = some (zi ((sp_n V + i : Nat) : Int), (nw, M.2)) ∧ sp_RA nw (tx_ad V M.2.2.2.2.2.2.2.2.2.1 i)
  | 0, k, fuel, M, h1, h2, hz, hR => by
    obtain ⟨fuel, rfl⟩ : ∃ f, fuel = f + 1 := ⟨fuel - 1, by omega⟩
    have : k = i := by omega
    subst this
    rw [fX4_addAll_42, hz, if_pos (dg_ge (by omega)), zT0, hR.1, tx_ad_n]
    exact ⟨M.1, rfl, hR⟩
  | m + 1, k, fuel, M, h1, h2, hz, hR => by
    obtain ⟨fuel, rfl⟩ : ∃ f, fuel = f + 1 := ⟨fuel - 1, by omega⟩
    obtain ⟨nw, e1, e2⟩ := pX4_comes (M := M) hR (by rw [tx_ad_n]; omega) (M.2.2.2.2.2.2.2.2.2.1 (4 * k)).toInt (M.2.2.2.2.2.2.2.2.2.1 (4 * k + 1)).toInt (M.2.2.2.2.2.2.2.2.2.1 (4 * k + 2)).toInt (M.2.2.2.2.2.2.2.2.2.1 (4 * k + 3))
    rw [zi_ofInt, zi_ofInt, zi_ofInt] at e1
    rw [fX4_addAll_42, hz, if_neg (dg_lt (show k < i by omega) (by omega)), show (1 : Int32) = zi ((1 : Nat) : Int) from rfl, show (2 : Int32) = zi ((2 : Nat) : Int) from rfl, show (3 : Int32) = zi ((3 : Nat) : Int) from rfl, rx_tol, rx_tol, rx_tol, rx_tol0, zi_n (by omega) (by omega), zi_n (by omega) (by omega), zi_n (by omega) (by omega), zi_n (by omega) (by omega), zi_Tn (by omega), zi_Tn (by omega), zi_Tn (by omega), zi_Tn (by omega), e1, ob_some, zi_pk]
    exact rx_42 h12 m (k + 1) fuel (nw, M.2) (by omega) (by omega) hz e2
theorem op_addAll {Y : tw_Wl} {M : tw_Md} (hI : sp_I Y M) : sp_A 1 2 0 (fX3_addAll Y) (fX4_addAll M) := by
  obtain ⟨g, hg, hc, hm⟩ := hI
  have ht := tx_IG hg
  have hV := hg.1.1
  have hn := sp_12 hV
  have hm0 : sp_T (sp_m0 M).2.2.2.2.1 (sp_m0 M).2.2.2.2.2.1 g.2.2.2.1 g.2.2.2.2 := hm.2.2
  unfold fX3_addAll fX4_addAll
  rw [pX2_isComplete hc.2.2.1 ht, ob_some]
  rcases rx_isText (V := g.1) (M := sp_m0 M) hm0 ht with ⟨i, T, e1, e2, e3, e4, e5⟩ | ⟨i, T, k', f', e1, e2, e3⟩
  · rw [e1, ob_some, if_neg (show ¬ (tx_au g.2.2.2.2 g.2.2.2.1 < 4 ∨ tx_au g.2.2.2.2 g.2.2.2.1 = 7) by omega), if_pos (by first | exact i1n0 | rfl | decide), if_pos (by first | exact i1n0 | rfl | decide)]
    (try dsimp only)
    obtain ⟨S0, s1, s2⟩ := pX1_copyFrom hc.1 hV Y.2.2.1
    rw [s1, ob_some]
    have how := tx_wf_ow (V := g.1) (tc := g.2.2.2.2) hn (n := g.2.2.2.1) e2
    have hX4 := rx_mayCome (M := tx_m (sp_m0 M) (zi g.2.2.2.1) 0 T (zi i)) (V := g.1) (i := i) hm.1 hn e5 rfl
    have e4' : tx_ad g.1 (tx_m (sp_m0 M) (zi g.2.2.2.1) 0 T (zi i)).2.2.2.2.2.2.2.2.2.1 i = tx_wf g.1 g.2.2.2.2 g.2.2.2.1 := e4
    rw [e4'] at hX4
    have hadd : ∀ S', fX2_addTasksTo Y.2.2.2.2.1 S' = fX2_addTasksTo_4 Y.2.2.2.2.1 512 (zi (tx_au g.2.2.2.2 0)) (zi ((0 : Nat) : Int)) S' := fun _ => rfl
    rw [hadd]
    rcases px_add (X := Y.2.2.2.2.1) (V := g.1) hc.2.2.1 ht e2 g.2.2.2.1 0 512 S0 (by omega) (by have := ht.1; omega) (fun _ => s2) (fun q => absurd rfl q) hn with ⟨S', a1, a2, a3⟩ | ⟨S', a1, j, j1, j2, j3⟩
    · have hok : tx_ow (sp_n g.1) (tx_wf g.1 g.2.2.2.2 g.2.2.2.1) := how.mpr (fun j hj => a3 j (Nat.zero_le j) hj)
      have hV' : sp_ok6 (tx_wf g.1 g.2.2.2.2 g.2.2.2.1) := tx_wf_ok hg.1 e2 hok
      rcases hX4 with ⟨b1, b2⟩ | ⟨b1, b2⟩
      · rw [a1, ob_some, if_pos (by first | exact i1n0 | rfl | decide), b1, ob_some, if_pos (by first | exact i1n0 | rfl | decide)]
        obtain ⟨sc, Z, pi, p1, p2⟩ := pX3_saveState (W := (Y.1, Y.2.1, S', Y.2.2.2.1, Y.2.2.2.2.1, Y.2.2.2.2.2.1, Y.2.2.2.2.2.2.1, Y.2.2.2.2.2.2.2.1, Y.2.2.2.2.2.2.2.2)) hc.1 hV hc.2.2.2
        (try dsimp only at p1)
        rw [p1, ob_some]
        (try dsimp only)
        obtain ⟨S2, c1, c2⟩ := pX1_copyFrom a2 hV'.1 Y.1
        rw [c1, ob_some]
        obtain ⟨P', u1, u2⟩ := pX0_lay c2 hV'.1 Y.2.1
        rw [u1, ob_some]
        obtain ⟨past, kp, v1, v2⟩ := pX4_saves (M := tx_m (sp_m0 M) (zi g.2.2.2.1) 0 T (zi i)) (V := g.1) hm.1 hn (sp_IG_ns hg) hm.2.1
        (try dsimp only at v1)
        rw [v1, ob_some]
        (try dsimp only)
        obtain ⟨nw, w1, w2⟩ := rx_42 (V := g.1) (i := i) (by have := (tx_ow_ad (V := g.1) (T := T) (i := i)).mp (e4 ▸ b2); exact this.1) i 0 512 (M.1, M.2.1, past, kp, M.2.2.2.2.1, (0 : Int32), (0 : Int32), zi g.2.2.2.1, (0 : Int32), T, zi i, M.2.2.2.2.2.2.2.2.2.2.2.1, M.2.2.2.2.2.2.2.2.2.2.2.2) (by omega) (by omega) rfl hm.1
        rw [show fX4_addAll_42 512 (0 : Int32) (M.1, M.2.1, past, kp, M.2.2.2.2.1, (0 : Int32), (0 : Int32), zi g.2.2.2.1, (0 : Int32), T, zi i, M.2.2.2.2.2.2.2.2.2.2.2.1, M.2.2.2.2.2.2.2.2.2.2.2.2) = _ from w1]
        have w2' : sp_RA nw (tx_wf g.1 g.2.2.2.2 g.2.2.2.1) := e4 ▸ w2
        have hgn := sp_IG_new hg (sp_IG_6 hc) hV'
        refine sp_A0 (g := (tx_wf g.1 g.2.2.2.2 g.2.2.2.1, sp_nk g.2.1, sp_psh g.2.1 g.2.2.1 g.1, 0, g.2.2.2.2)) ⟨hV', hgn.2.1, Nat.zero_le _, fun i hi => absurd hi (Nat.not_lt_zero i)⟩ ⟨c2, u2, ⟨rfl, fun i hi => absurd hi (Nat.not_lt_zero i)⟩, p2⟩ ⟨w2', v2, rfl, fun i hi => absurd hi (Nat.not_lt_zero i)⟩ rfl ?_
        rw [c2.1, ← e4, tx_ad_n]
      · exact absurd hok b2
    · have hok : ¬ tx_ow (sp_n g.1) (tx_wf g.1 g.2.2.2.2 g.2.2.2.1) := fun q => how.mp q j j2 j3
      rcases hX4 with ⟨b1, b2⟩ | ⟨b1, b2⟩
      · exact absurd b2 hok
      · rw [a1, ob_some, if_neg (by first | exact i1n0 | exact fun q => q rfl | decide), b1, ob_some, if_neg (by first | exact i1n0 | exact fun q => q rfl | decide)]
        exact sp_A2 (M' := tx_m (sp_m0 M) (zi g.2.2.2.1) 0 T (zi i)) hg ⟨hc.1, hc.2.1, hc.2.2.1, hc.2.2.2⟩ ⟨hm.1, hm.2.1, hm.2.2⟩ i2n0
  · have hnc : tx_au g.2.2.2.2 g.2.2.2.1 < 4 ∨ tx_au g.2.2.2.2 g.2.2.2.1 = 7 := by
      rcases e3 with ⟨f1, f2, f3, f4⟩ | ⟨f1, f2, f3, f4⟩
      · have := tx_au_stick f4 (g.2.2.2.1 - (k' + 1))
        rw [show k' + 1 + (g.2.2.2.1 - (k' + 1)) = g.2.2.2.1 by omega] at this
        omega
      · exact f4
    rw [if_pos hnc, if_neg (fun q => q rfl), e1, ob_some, if_neg (fun q => q rfl)]
    exact sp_A1 (M' := tx_m (sp_m0 M) (zi k') f' T i) hg hc ⟨hm.1, hm.2.1, hm.2.2⟩ i1n0
