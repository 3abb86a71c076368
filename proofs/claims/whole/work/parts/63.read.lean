/-! texts: the reference reads a part, and a text -/
theorem zi_m97 {c : Int} : zi c - (97 : Int32) = zi (c - 97) := zi_sub c 97
theorem zi_one {c : Int} : zi c + (1 : Int32) = zi (c + 1) := zi_add c 1
theorem tx_pd_2 {tc : Nat → Int} {k : Nat} (h : tc k ≠ 59) (hq : tx_au tc k = 2) : tx_pd tc (k + 1) = ((tx_pd tc k).1, tc k - 48, (tx_pd tc k).2.2) := by
  rw [tx_pd, if_neg h, if_neg (by omega), if_pos hq]
theorem tx_wk_s {V : tw_V} {tc : Nat → Int} {k : Nat} (h : tc k ≠ 59) : tx_wk V tc (k + 1) = tx_wk V tc k := by
  rw [tx_wk, if_neg h]
theorem rx_tl1 {i : Nat} : ((4 : Int32) * zi (i : Int)) + (1 : Int32) = zi ((4 * i + 1 : Nat) : Int) := rx_tol (j := 1)
theorem rx_tl2 {i : Nat} : ((4 : Int32) * zi (i : Int)) + (2 : Int32) = zi ((4 * i + 2 : Nat) : Int) := rx_tol (j := 2)
theorem rx_tl3 {i : Nat} : ((4 : Int32) * zi (i : Int)) + (3 : Int32) = zi ((4 * i + 3 : Nat) : Int) := rx_tol (j := 3)
theorem rx_at1 {M : tw_Md} {n : Nat} {tc : Nat → Int} (hX : sp_T M.2.2.2.2.1 M.2.2.2.2.2.1 n tc) (ht : tx_ok n tc) {f : Int32} {T : tw_F} {i : Int32} {k : Nat} (hk : k < n) {lo hi : Int} (l1 : 0 ≤ lo) (l2 : lo ≤ 200) (h1 : 0 ≤ hi) (h2 : hi ≤ 200) (hc : lo ≤ tc k ∧ tc k ≤ hi) : fX4_isAt (tx_m M (zi k) f T i) (zi lo) (zi hi) = some 1 := by
  rw [rx_isAt hX ht (by omega) l1 l2 h1 h2, if_pos ⟨hk, hc⟩]
theorem rx_at0 {M : tw_Md} {n : Nat} {tc : Nat → Int} (hX : sp_T M.2.2.2.2.1 M.2.2.2.2.2.1 n tc) (ht : tx_ok n tc) {f : Int32} {T : tw_F} {i : Int32} {k : Nat} (hk : k ≤ n) {lo hi : Int} (l1 : 0 ≤ lo) (l2 : lo ≤ 200) (h1 : 0 ≤ hi) (h2 : hi ≤ 200) (hc : k < n → ¬ (lo ≤ tc k ∧ tc k ≤ hi)) : fX4_isAt (tx_m M (zi k) f T i) (zi lo) (zi hi) = some 0 := by
  rw [rx_isAt hX ht hk l1 l2 h1 h2, if_neg (fun q => hc q.1 q.2)]
theorem rx_needs {V : tw_V} {M : tw_Md} {n : Nat} {tc : Nat → Int} (hX : sp_T M.2.2.2.2.1 M.2.2.2.2.2.1 n tc) (ht : tx_ok n tc) {i : Nat} : ∀ (m k fuel : Nat) (T : tw_F), k + m = n → m < fuel → rx_P V tc n i k T → 7 ≤ tx_au tc k → rx_R V tc n M 0 i k (fX4_isNeeds_3 fuel (zi (tx_au tc k + 90)) (tx_m M (zi k) 0 T (zi i))) := by
  intro m
  induction m with
  | zero =>
    intro k fuel T h1 h2 hP h7
    obtain ⟨fuel, rfl⟩ : ∃ f, fuel = f + 1 := ⟨fuel - 1, by omega⟩
    obtain ⟨⟨a1, a2, a3⟩, a4, a5, a6, a7, a8⟩ := hP
    have hl := tx_au_le (tc := tc) k
    obtain ⟨-, -, -, d1', d2', -⟩ := tx_pd_ok k a8
    have d1 : tx_au tc k ≤ 7 → T (4 * i + 3) = 0 := fun h => a3.trans (d1' h)
    have d2 : 8 ≤ tx_au tc k → T (4 * i + 3) ≠ 0 := fun h q => d2' h (a3.symm.trans q)
    rw [fX4_isNeeds_3, show (108 : Int32) = zi 108 from rfl, rx_at0 hX ht (by omega) (by omega) (by omega) (by omega) (by omega) (fun q => absurd q (by omega)), ob_some, if_pos rfl]
    (try dsimp only)
    rw [show (3 : Int32) = zi ((3 : Nat) : Int) from rfl, rx_tol, zi_n (by omega) (by omega), zi_Tn (by omega)]
    by_cases e : tx_au tc k = 7
    · rw [if_neg (fun q => q (d1 (by omega))), rx_stops hX ht (by omega), ob_some, if_pos rfl]
      exact Or.inr ⟨k, T, _, rfl, rx_N_at a7 a8 (fun q => absurd q (by omega)) (Or.inr e)⟩
    · rw [if_pos (d2 (by omega))]
      exact Or.inl ⟨k, T, rfl, ⟨⟨a1, a2, a3⟩, a4, a5, a6, a7, a8⟩, Nat.le_refl k, by omega, e, fun q => absurd q (by omega)⟩
  | succ m ih =>
    intro k fuel T h1 h2 hP h7
    obtain ⟨fuel, rfl⟩ : ∃ f, fuel = f + 1 := ⟨fuel - 1, by omega⟩
    obtain ⟨⟨a1, a2, a3⟩, a4, a5, a6, a7, a8⟩ := hP
    have h60 := ht.1
    have hl := tx_au_le (tc := tc) k
    have hc := ht.2 k (by omega)
    obtain ⟨-, -, -, d1', d2', -⟩ := tx_pd_ok k a8
    have d1 : tx_au tc k ≤ 7 → T (4 * i + 3) = 0 := fun h => a3.trans (d1' h)
    have d2 : 8 ≤ tx_au tc k → T (4 * i + 3) ≠ 0 := fun h q => d2' h (a3.symm.trans q)
    rw [fX4_isNeeds_3, show (108 : Int32) = zi 108 from rfl]
    by_cases e0 : tx_au tc k - 7 ≤ tc k - 97 ∧ tc k - 97 < 12
    · have hau : tx_au tc (k + 1) = tc k - 89 := pb_7y h7 e0
      have hpd : tx_pd tc (k + 1) = ((tx_pd tc k).1, (tx_pd tc k).2.1, (tx_pd tc k).2.2.1, (tx_pd tc k).2.2.2 ||| ((1 : Int32) <<< (zi (tc k - 97) &&& 31))) := by
        rw [tx_pd, if_neg (by omega), if_neg (by omega), if_neg (by omega), if_neg (by omega), if_pos h7]
      have hwk : tx_wk V tc (k + 1) = tx_wk V tc k := by rw [tx_wk, if_neg (by omega)]
      rw [rx_at1 hX ht (by omega) (by omega) (by omega) (by omega) (by omega) ⟨by omega, by omega⟩, ob_some, if_neg (by first | exact i1n0 | exact fun q => q rfl | decide)]
      (try dsimp only)
      rw [show (3 : Int32) = zi ((3 : Nat) : Int) from rfl, rx_tol, zi_n (by omega) (by omega), zi_n (by omega) (by omega), zi_n (by omega) (by omega), zi_n (by omega) (by omega), zi_Tn (by omega), zi_Tn (by omega), hX.2 k (by omega), a3, zi_p1, zi_m97, zi_one, show tc k + 1 = tx_au tc (k + 1) + 90 by omega]
      refine rx_R_le (ih (k + 1) fuel (upd T (4 * i + 3) ((tx_pd tc k).2.2.2 ||| ((1 : Int32) <<< (zi (tc k - 97) &&& 31)))) (by omega) (by omega) ⟨⟨?_, ?_, ?_⟩, fun _ => ?_, ?_, a6, by omega, by omega⟩ (by omega)) (Nat.le_succ k)
      · rw [upd_n (by omega), hpd]; exact a1
      · rw [upd_n (by omega), hpd]; exact a2
      · rw [upd_s, hpd]
      · rw [upd_n (by omega), hpd]; exact a4 (Or.inl (by omega))
      · rw [hwk, ← a5]
        exact tx_ad_cong i (fun j hj => upd_n (by omega))
    · rw [rx_at0 hX ht (by omega) (by omega) (by omega) (by omega) (by omega) (fun _ q => e0 ⟨by omega, by omega⟩), ob_some, if_pos rfl]
      (try dsimp only)
      rw [show (3 : Int32) = zi ((3 : Nat) : Int) from rfl, rx_tol, zi_n (by omega) (by omega), zi_Tn (by omega)]
      by_cases e : tx_au tc k = 7
      · rw [if_neg (fun q => q (d1 (by omega))), rx_stops hX ht (by omega), ob_some, if_pos rfl]
        refine Or.inr ⟨k, T, _, rfl, rx_N_at a7 a8 (fun _ => ?_) (Or.inr e)⟩
        rw [tx_au]
        by_cases e9 : tc k = 59
        · rw [e9]; exact pb_59 (Or.inr e)
        · exact pb_7n h7 e9 e0
      · rw [if_pos (d2 (by omega))]
        refine Or.inl ⟨k, T, rfl, ⟨⟨a1, a2, a3⟩, a4, a5, a6, a7, a8⟩, Nat.le_refl k, by omega, e, fun _ e9 => ?_⟩
        exact pb_7n h7 e9 e0
theorem rx_bm {R : Option (Int32 × tw_Md)} {V : tw_V} {tc : Nat → Int} {n : Nat} {M : tw_Md} {f : Int32} {i k0 : Nat} (h : rx_R V tc n M f i k0 R) : rx_R V tc n M f i k0 (R.bind fun r126 => if r126.1 = 0 then some ((0 : Int32), r126.2) else some ((1 : Int32), r126.2)) := by
  rcases h with ⟨k', T', a, b⟩ | ⟨k', T', f', a, b⟩
  · refine Or.inl ⟨k', T', ?_, b⟩
    rw [a, ob_some, if_neg (by first | exact i1n0 | exact fun q => q rfl | decide)]
  · refine Or.inr ⟨k', T', f', ?_, b⟩
    rw [a, ob_some, if_pos rfl]
theorem rx_116 {V : tw_V} {M : tw_Md} {n : Nat} {tc : Nat → Int} (hX : sp_T M.2.2.2.2.1 M.2.2.2.2.2.1 n tc) (ht : tx_ok n tc) {i k : Nat} {T : tw_F} (hP : rx_P V tc n i k T) (hq : tx_au tc k = 4 ∨ tx_au tc k = 5 ∨ tx_au tc k = 6) (h1 : k < n → tc k = 112 → tx_au tc k ≠ 4) (h2 : k < n → tc k = 104 → tx_au tc k = 6) : rx_R V tc n M 0 i k (fX4_isPart_116 (tx_m M (zi k) 0 T (zi i))) := by
  have h60 := ht.1
  have hkn : k ≤ n := hP.2.2.2.2.1
  unfold fX4_isPart_116
  rw [show (110 : Int32) = zi 110 from rfl]
  by_cases e : k < n ∧ tc k = 110
  · rw [rx_yes hX ht e.1 e.2, ob_some, if_neg (by first | exact i1n0 | exact fun q => q rfl | decide)]
    have hau : tx_au tc (k + 1) = 7 := by
      rw [tx_au, e.2]
      unfold tx_pb
      rw [if_neg (by omega), if_pos (by omega), if_neg (by omega), if_neg (by omega), if_neg (by omega), if_neg (by omega), if_neg (by omega), if_neg (by omega), if_pos ⟨rfl, by omega⟩]
    have hP' := rx_P_s hP e.1 (by omega) (by omega) (by omega)
    have := rx_needs hX ht (n - (k + 1)) (k + 1) 512 T (by omega) (by omega) hP' (by omega)
    rw [hau] at this
    exact rx_R_le (rx_bm this) (Nat.le_succ k)
  · rw [rx_no hX ht hkn (by omega) (by omega) (fun a b => e ⟨a, b⟩), ob_some, if_pos rfl]
    exact Or.inl ⟨k, T, rfl, hP, Nat.le_refl k, by omega, by omega, fun a b => pb_456n hq b (h1 a) (h2 a) (fun x => e ⟨a, x⟩)⟩
theorem rx_93 {V : tw_V} {M : tw_Md} {n : Nat} {tc : Nat → Int} (hX : sp_T M.2.2.2.2.1 M.2.2.2.2.2.1 n tc) (ht : tx_ok n tc) {i k : Nat} {T : tw_F} (hP : rx_P V tc n i k T) (hq : tx_au tc k = 4 ∨ tx_au tc k = 5) (h1 : k < n → tc k = 112 → tx_au tc k ≠ 4) : rx_R V tc n M 0 i k (fX4_isPart_93 (tx_m M (zi k) 0 T (zi i))) := by
  have h60 := ht.1
  have hkn : k ≤ n := hP.2.2.2.2.1
  unfold fX4_isPart_93
  rw [show (104 : Int32) = zi 104 from rfl]
  by_cases e : k < n ∧ tc k = 104
  · rw [rx_yes hX ht e.1 e.2, ob_some, if_neg (by first | exact i1n0 | exact fun q => q rfl | decide)]
    have hau : tx_au tc (k + 1) = 3 := by
      rw [tx_au, e.2]
      unfold tx_pb
      rw [if_neg (by omega), if_pos (by omega), if_neg (by omega), if_neg (by omega), if_neg (by omega), if_neg (by omega), if_neg (by omega), if_pos ⟨rfl, hq⟩]
    obtain ⟨⟨a1, a2, a3⟩, a4, a5, a6, a7, a8⟩ := rx_P_s hP e.1 (by omega) (by omega) (by omega)
    rw [show (48 : Int32) = zi 48 from rfl, show (51 : Int32) = zi 51 from rfl, show (2 : Int32) = zi ((2 : Nat) : Int) from rfl]
    by_cases e2 : k + 1 < n ∧ (48 ≤ tc (k + 1) ∧ tc (k + 1) ≤ 51)
    · (try dsimp only)
      rw [rx_fyes hX ht (show i ≤ 25 by omega) (by omega) e2.1 (by omega) (by omega) (by omega) (by omega) e2.2, ob_some, if_pos (by first | exact i1n0 | rfl | decide)]
      have hau2 : tx_au tc (k + 1 + 1) = 6 := by
        rw [tx_au, hau]
        unfold tx_pb
        rw [if_neg (by omega), if_pos (by omega), if_neg (by omega), if_neg (by omega), if_neg (by omega), if_pos rfl, if_pos e2.2]
      have hpd : tx_pd tc (k + 1 + 1) = ((tx_pd tc (k + 1)).1, (tx_pd tc (k + 1)).2.1, tc (k + 1) - 48, (tx_pd tc (k + 1)).2.2.2) := by
        rw [tx_pd, if_neg (by omega), if_neg (by omega), if_neg (by omega), if_pos hau]
      have hwk : tx_wk V tc (k + 1 + 1) = tx_wk V tc (k + 1) := by rw [tx_wk, if_neg (by omega)]
      refine rx_R_le (rx_116 hX ht (k := k + 1 + 1) (T := upd T (4 * i + 2) (zi (tc (k + 1) - 48))) ⟨⟨?_, ?_, ?_⟩, fun _ => ?_, ?_, a6, by omega, by omega⟩ (Or.inr (Or.inr hau2)) (fun _ _ => by omega) (fun _ _ => hau2)) (by omega)
      · rw [upd_n (by omega), hpd]; exact a1
      · rw [upd_s, hpd]
      · rw [upd_n (by omega), hpd]; exact a3
      · rw [upd_n (by omega), hpd]; exact a4 (Or.inr (Or.inr hau))
      · rw [hwk, ← a5]
        exact tx_ad_cong i (fun j hj => upd_n (by omega))
    · (try dsimp only)
      rw [rx_fno hX ht (show k + 1 ≤ n by omega) (by omega) (by omega) (by omega) (by omega) (fun a b => e2 ⟨a, b⟩), ob_some, if_neg (by first | exact i1n0 | exact fun q => q rfl | decide)]
      refine Or.inr ⟨k + 1, T, _, rfl, rx_N_at (by omega) (by omega) (fun a => ?_) (Or.inl (by omega))⟩
      rw [tx_au, hau]
      exact pb_3n (fun b => e2 ⟨a, b⟩)
  · rw [rx_no hX ht hkn (by omega) (by omega) (fun a b => e ⟨a, b⟩), ob_some, if_pos rfl]
    exact rx_116 hX ht hP (by omega) h1 (fun a b => absurd ⟨a, b⟩ e)
theorem rx_part {V : tw_V} {M : tw_Md} {n : Nat} {tc : Nat → Int} (hX : sp_T M.2.2.2.2.1 M.2.2.2.2.2.1 n tc) (ht : tx_ok n tc) {i k : Nat} {T : tw_F} (hkn : k ≤ n) (hq : tx_au tc k = 0) (hA : tx_ad V T i = tx_wk V tc k) (hi : i ≤ 20) : rx_R V tc n M 0 i (k + 2) (fX4_isPart (tx_m M (zi k) 0 T (zi i))) := by
  have h60 := ht.1
  have hz := tx_pd_0 hq
  obtain ⟨T0, hT0⟩ : ∃ T0, T0 = upd (upd (upd T (4 * i + 1) (-1)) (4 * i + 2) (-1)) (4 * i + 3) 0 := ⟨_, rfl⟩
  have t1 : T0 (4 * i + 1) = zi (-1) := by rw [hT0, upd_n (by omega), upd_n (by omega), upd_s]; rfl
  have t2 : T0 (4 * i + 2) = zi (-1) := by rw [hT0, upd_n (by omega), upd_s]; rfl
  have t3 : T0 (4 * i + 3) = 0 := by rw [hT0, upd_s]
  have tA : tx_ad V T0 i = tx_wk V tc k := by
    rw [← hA, hT0]
    exact tx_ad_cong i (fun j hj => by rw [upd_n (by omega), upd_n (by omega), upd_n (by omega)])
  unfold fX4_isPart
  (try dsimp only)
  rw [rx_tl1, rx_tl2, rx_tl3, zi_n (by omega) (by omega), zi_n (by omega) (by omega), zi_n (by omega) (by omega), zi_Tn (by omega), zi_Tn (by omega), zi_Tn (by omega), ← hT0]
  rw [show (100 : Int32) = zi 100 from rfl, show (112 : Int32) = zi 112 from rfl, show (49 : Int32) = zi 49 from rfl, show (57 : Int32) = zi 57 from rfl, show (48 : Int32) = zi 48 from rfl, show (53 : Int32) = zi 53 from rfl]
  by_cases e : k < n ∧ tc k = 100
  · have hau : tx_au tc (k + 1) = 1 := by
      rw [tx_au, hq, e.2]
      unfold tx_pb
      rw [if_neg (by omega), if_pos (by omega), if_pos rfl, if_pos rfl]
    have hpd : tx_pd tc (k + 1) = tx_d0 := by rw [tx_pd, if_neg (by omega), if_neg (by omega), if_neg (by omega), if_neg (by omega), if_neg (by omega), hz]
    have hwk : tx_wk V tc (k + 1) = tx_wk V tc k := by rw [tx_wk, if_neg (by omega)]
    rw [rx_yes hX ht e.1 e.2, ob_some, if_pos (by first | exact i1n0 | rfl | decide)]
    (try dsimp only)
    by_cases e2 : k + 1 < n ∧ (49 ≤ tc (k + 1) ∧ tc (k + 1) ≤ 57)
    · have hau2 : tx_au tc (k + 1 + 1) = 4 := by
        rw [tx_au, hau]
        unfold tx_pb
        rw [if_neg (by omega), if_pos (by omega), if_neg (by omega), if_pos rfl, if_pos e2.2]
      have hpd2 : tx_pd tc (k + 1 + 1) = (tc (k + 1) - 48, -1, -1, 0) := by
        rw [tx_pd, if_neg (by omega), if_pos hau, hpd]
        rfl
      have hwk2 : tx_wk V tc (k + 1 + 1) = tx_wk V tc k := by rw [tx_wk, if_neg (by omega), hwk]
      rw [show fX4_isFigure (tx_m M (zi ((k + 1 : Nat) : Int)) 0 T0 (zi i)) (0 : Int32) (zi 49) (zi 57) = _ from rx_fyes hX ht (show i ≤ 25 by omega) (j := 0) (by omega) e2.1 (by omega) (by omega) (by omega) (by omega) e2.2, ob_some, if_pos (by first | exact i1n0 | rfl | decide)]
      (try dsimp only)
      have hP2 : rx_P V tc n i (k + 1 + 1) (upd T0 (4 * i + 0) (zi (tc (k + 1) - 48))) := by
        refine ⟨⟨?_, ?_, ?_⟩, fun _ => ?_, ?_, hi, by omega, by omega⟩
        · rw [upd_n (by omega), hpd2]; exact t1
        · rw [upd_n (by omega), hpd2]; exact t2
        · rw [upd_n (by omega), hpd2]; exact t3
        · rw [hpd2]; exact upd_s
        · rw [hwk2, ← tA]
          exact tx_ad_cong i (fun j hj => upd_n (by omega))
      by_cases e3 : k + 1 + 1 < n ∧ tc (k + 1 + 1) = 112
      · have hau3 : tx_au tc (k + 1 + 1 + 1) = 2 := by
          rw [tx_au, hau2, e3.2]
          unfold tx_pb
          rw [if_neg (by omega), if_pos (by omega), if_neg (by omega), if_neg (by omega), if_neg (by omega), if_neg (by omega), if_pos ⟨rfl, rfl⟩]
        obtain ⟨⟨a1, a2, a3⟩, a4, a5, a6, a7, a8⟩ := rx_P_s hP2 e3.1 (by omega) (by omega) (by omega)
        rw [rx_yes hX ht e3.1 e3.2, ob_some, if_neg (by first | exact i1n0 | exact fun q => q rfl | decide)]
        (try dsimp only)
        by_cases e4 : k + 1 + 1 + 1 < n ∧ (48 ≤ tc (k + 1 + 1 + 1) ∧ tc (k + 1 + 1 + 1) ≤ 53)
        · have hau4 : tx_au tc (k + 1 + 1 + 1 + 1) = 5 := by
            show tx_pb (tx_au tc (k + 1 + 1 + 1)) (tc (k + 1 + 1 + 1)) = 5
            rw [hau3]
            exact pb_2y e4.2
          have hpd4 : tx_pd tc (k + 1 + 1 + 1 + 1) = ((tx_pd tc (k + 1 + 1 + 1)).1, tc (k + 1 + 1 + 1) - 48, (tx_pd tc (k + 1 + 1 + 1)).2.2) := tx_pd_2 (k := k + 1 + 1 + 1) (by omega) hau3
          have hwk4 : tx_wk V tc (k + 1 + 1 + 1 + 1) = tx_wk V tc (k + 1 + 1 + 1) := tx_wk_s (k := k + 1 + 1 + 1) (by omega)
          rw [show fX4_isFigure (tx_m M (zi ((k + 1 + 1 + 1 : Nat) : Int)) 0 (upd T0 (4 * i + 0) (zi (tc (k + 1) - 48))) (zi i)) (1 : Int32) (zi 48) (zi 53) = _ from rx_fyes hX ht (show i ≤ 25 by omega) (j := 1) (by omega) e4.1 (by omega) (by omega) (by omega) (by omega) e4.2, ob_some, if_pos (by first | exact i1n0 | rfl | decide)]
          (try dsimp only)
          refine rx_R_le (rx_93 hX ht (k := k + 1 + 1 + 1 + 1) (T := upd (upd T0 (4 * i + 0) (zi (tc (k + 1) - 48))) (4 * i + 1) (zi (tc (k + 1 + 1 + 1) - 48))) ⟨⟨?_, ?_, ?_⟩, fun _ => ?_, ?_, a6, by omega, by omega⟩ (Or.inr hau4) (fun _ _ => by omega)) (by omega)
          · rw [upd_s, hpd4]
          · rw [upd_n (by omega), hpd4]; exact a2
          · rw [upd_n (by omega), hpd4]; exact a3
          · rw [upd_n (by omega), hpd4]; exact a4 (Or.inr (Or.inl hau3))
          · rw [hwk4, ← a5]
            exact tx_ad_cong i (fun j hj => upd_n (by omega))
        · rw [rx_fno hX ht (show k + 1 + 1 + 1 ≤ n by omega) (by omega) (by omega) (by omega) (by omega) (fun a b => e4 ⟨a, b⟩), ob_some, if_neg (by first | exact i1n0 | exact fun q => q rfl | decide)]
          refine Or.inr ⟨k + 1 + 1 + 1, _, _, rfl, rx_N_at (by omega) (by omega) (fun a => ?_) (Or.inl (by omega))⟩
          rw [tx_au, hau3]
          exact pb_2n (fun b => e4 ⟨a, b⟩)
      · rw [rx_no hX ht (show k + 1 + 1 ≤ n by omega) (by omega) (by omega) (fun a b => e3 ⟨a, b⟩), ob_some, if_pos rfl]
        exact rx_R_le (rx_93 hX ht hP2 (Or.inl hau2) (fun a b => absurd ⟨a, b⟩ e3)) (by omega)
    · rw [rx_fno hX ht (show k + 1 ≤ n by omega) (by omega) (by omega) (by omega) (by omega) (fun a b => e2 ⟨a, b⟩), ob_some, if_neg (by first | exact i1n0 | exact fun q => q rfl | decide)]
      refine Or.inr ⟨k + 1, T0, _, rfl, rx_N_at (by omega) (by omega) (fun a => ?_) (Or.inl (by omega))⟩
      rw [tx_au, hau]
      exact pb_1n (fun b => e2 ⟨a, b⟩)
  · rw [rx_no hX ht hkn (by omega) (by omega) (fun a b => e ⟨a, b⟩), ob_some, if_neg (by first | exact i1n0 | exact fun q => q rfl | decide)]
    rw [rx_stops hX ht hkn, ob_some, zi_q (Or.inl rfl)]
    refine Or.inr ⟨k, T0, _, rfl, rx_N_at hkn (by omega) (fun a => ?_) (Or.inl (by omega))⟩
    rw [tx_au, hq]
    exact pb_0n (fun b => e ⟨a, b⟩)
/-- the wall behind a whole text -/
def tx_wf (V : tw_V) (tc : Nat → Int) (n : Nat) : tw_V := tx_ap (tx_wk V tc n) (tx_pd tc n)
def rx_Z (V : tw_V) (tc : Nat → Int) (n : Nat) (M : tw_Md) (R : Option (Int32 × tw_Md)) : Prop := (∃ i T, R = some (1, tx_m M (zi n) 0 T (zi ((i : Nat) : Int))) ∧ 4 ≤ tx_au tc n ∧ tx_au tc n ≠ 7 ∧ tx_ad V T i = tx_wf V tc n ∧ i ≤ 21) ∨ (∃ i T k' f', R = some (0, tx_m M (zi ((k' : Nat) : Int)) f' T i) ∧ rx_N tc n f' k')
theorem tx_adS {V : tw_V} {tc : Nat → Int} {n i k : Nat} {T : tw_F} (h : rx_P V tc n i k T) (h4 : 4 ≤ tx_au tc k) : tx_ad V T (i + 1) = tx_ap (tx_wk V tc k) (tx_pd tc k) := by
  obtain ⟨⟨a1, a2, a3⟩, a4, a5, a6, a7, a8⟩ := h
  obtain ⟨d1, d2, d3, -⟩ := tx_pd_ok k a8
  rw [tx_ad, a5, a1, a2, a3, a4 (Or.inl h4), zi_toInt (by omega) (by omega), zi_toInt (by omega) (by omega), zi_toInt (by omega) (by omega)]
  rfl
theorem rx_text {V : tw_V} {M : tw_Md} {n : Nat} {tc : Nat → Int} (hX : sp_T M.2.2.2.2.1 M.2.2.2.2.2.1 n tc) (ht : tx_ok n tc) : ∀ (m i k fuel : Nat) (T : tw_F), k + m = n → m < fuel → tx_au tc k = 0 → tx_ad V T i = tx_wk V tc k → 3 * i ≤ k → rx_Z V tc n M (fX4_isText_17 fuel (1 : Int32) (tx_m M (zi k) 0 T (zi i))) := by
  intro m
  induction m using Nat.strongRecOn with
  | ind m ih =>
    intro i k fuel T h1 h2 hq hA h3
    have h60 := ht.1
    obtain ⟨fuel, rfl⟩ : ∃ f, fuel = f + 1 := ⟨fuel - 1, by omega⟩
    rw [fX4_isText_17, if_neg (by first | exact i1n0 | exact fun q => q rfl | decide)]
    rcases rx_part (V := V) hX ht (show k ≤ n by omega) hq hA (show i ≤ 20 by omega) with ⟨k', T', e1, hP, e3, e4, e5, e6⟩ | ⟨k', T', f', e1, e2⟩
    · rw [e1, ob_some, if_pos (by first | exact i1n0 | rfl | decide)]
      (try dsimp only)
      have hS := tx_adS hP e4
      have hk' : k' ≤ n := hP.2.2.2.2.1
      have ha := tx_au_le (tc := tc) k'
      rw [zi_p1, show (59 : Int32) = zi 59 from rfl]
      by_cases e : k' < n ∧ tc k' = 59
      · rw [rx_yes hX ht e.1 e.2, ob_some]
        refine ih (n - (k' + 1)) (by omega) (i + 1) (k' + 1) fuel T' (by omega) (by omega) ?_ ?_ (by omega)
        · rw [tx_au, e.2]
          unfold tx_pb
          rw [if_pos rfl, if_neg (by omega)]
        · rw [hS, tx_wk, if_pos e.2]
      · rw [rx_no hX ht hk' (by omega) (by omega) (fun a b => e ⟨a, b⟩), ob_some]
        obtain ⟨fuel, rfl⟩ : ∃ f, fuel = f + 1 := ⟨fuel - 1, by omega⟩
        (try dsimp only)
        rw [fX4_isText_17, if_pos rfl]
        unfold fX4_isText_67
        (try dsimp only)
        have cn : zi (k' : Int) = M.2.2.2.2.2.1 ↔ (k' : Int) = n := by
          rw [hX.1]
          exact zi_eq (by omega) (by omega) (by omega) (by omega)
        have cl : M.2.2.2.2.2.1 ≤ zi (k' : Int) ↔ (n : Int) ≤ k' := by
          rw [hX.1]
          exact zi_le (by omega) (by omega) (by omega) (by omega)
        by_cases e7 : k' < n
        · rw [if_neg (fun q => absurd (cl.mp q) (by omega)), zi_q (Or.inr rfl), if_pos (fun q => absurd (cn.mp q) (by omega))]
          exact Or.inr ⟨_, T', k', 1, rfl, hk', Or.inl ⟨rfl, e7, by omega, e6 e7 (fun q => e ⟨e7, q⟩)⟩⟩
        · have : k' = n := by omega
          subst this
          rw [if_pos (cl.mpr (by omega)), zi_q (Or.inl rfl), if_neg (fun q => q (cn.mpr rfl))]
          exact Or.inl ⟨i + 1, T', rfl, e4, e5, hS, by omega⟩
    · rw [e1, ob_some, if_neg (by first | exact i1n0 | exact fun q => q rfl | decide)]
      exact Or.inr ⟨_, T', k', f', rfl, e2⟩
theorem rx_isText {V : tw_V} {M : tw_Md} {n : Nat} {tc : Nat → Int} (hX : sp_T M.2.2.2.2.1 M.2.2.2.2.2.1 n tc) (ht : tx_ok n tc) : rx_Z V tc n M (fX4_isText M) := by
  unfold fX4_isText
  exact rx_text hX ht n 0 0 512 M.2.2.2.2.2.2.2.2.2.1 (by omega) (by have := ht.1; omega) rfl rfl (Nat.le_refl 0)
theorem tx_IG {g : tw_H} (hg : sp_IG g) : tx_ok g.2.2.2.1 g.2.2.2.2 := ⟨hg.2.2.1, hg.2.2.2⟩
theorem op_firstError {Y : tw_Wl} {M : tw_Md} (hI : sp_I Y M) : sp_B ((fX3_firstError Y).bind fun r => some (r, Y)) (fX4_firstError M) := by
  obtain ⟨g, hg, hc, hm⟩ := hI
  have ht := tx_IG hg
  have hm0 : sp_T (sp_m0 M).2.2.2.2.1 (sp_m0 M).2.2.2.2.2.1 g.2.2.2.1 g.2.2.2.2 := hm.2.2
  unfold fX3_firstError fX4_firstError
  rw [pX2_firstWrong hc.2.2.1 ht, ob_some, ob_some]
  rcases rx_isText (V := g.1) (M := sp_m0 M) hm0 ht with ⟨i, T, e1, e2, e3, -, -⟩ | ⟨i, T, k', f', e1, e2, e3⟩
  · rw [e1, ob_some, if_pos (by first | exact i1n0 | rfl | decide)]
    (try dsimp only)
    rw [hm.2.2.1, tx_fw_n (show tx_au g.2.2.2.2 g.2.2.2.1 ≠ -1 by omega) g.2.2.2.1 0 (by omega)]
    exact ⟨_, Y, _, rfl, rfl, g, hg, hc, hm⟩
  · rw [e1, ob_some, if_neg (by first | exact i1n0 | exact fun q => q rfl | decide)]
    (try dsimp only)
    rcases e3 with ⟨f1, f2, f3, f4⟩ | ⟨f1, f2, f3, f4⟩
    · subst f1
      rw [if_neg (by first | exact i1n0 | exact fun q => q rfl | decide), tx_fw_at f3 f4 f2 g.2.2.2.1 0 (by omega) (by omega)]
      exact ⟨_, Y, _, rfl, rfl, g, hg, hc, hm⟩
    · subst f1
      rw [if_pos rfl, hm.2.2.1, tx_fw_n f3 g.2.2.2.1 0 (by omega)]
      exact ⟨_, Y, _, rfl, rfl, g, hg, hc, hm⟩
