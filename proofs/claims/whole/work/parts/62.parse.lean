/-! texts: what a part holds, code by code -/
abbrev tx_D : Type := Int × Int × Int × Int32
def tx_d0 : tx_D := (1, -1, -1, 0)
def tx_pd (tc : Nat → Int) : Nat → tx_D
  | 0 => tx_d0
  | k + 1 =>
    if tc k = 59 then tx_d0
    else if tx_au tc k = 1 then (tc k - 48, (tx_pd tc k).2)
    else if tx_au tc k = 2 then ((tx_pd tc k).1, tc k - 48, (tx_pd tc k).2.2)
    else if tx_au tc k = 3 then ((tx_pd tc k).1, (tx_pd tc k).2.1, tc k - 48, (tx_pd tc k).2.2.2)
    else if 7 ≤ tx_au tc k then ((tx_pd tc k).1, (tx_pd tc k).2.1, (tx_pd tc k).2.2.1, (tx_pd tc k).2.2.2 ||| ((1 : Int32) <<< (zi (tc k - 97) &&& 31)))
    else tx_pd tc k
def tx_ap (W : tw_V) (p : tx_D) : tw_V := sp_app W p.1 p.2.1 p.2.2.1 p.2.2.2
def tx_wk (V : tw_V) (tc : Nat → Int) : Nat → tw_V
  | 0 => V
  | k + 1 => if tc k = 59 then tx_ap (tx_wk V tc k) (tx_pd tc k) else tx_wk V tc k
def tx_ad (V : tw_V) (T : tw_F) : Nat → tw_V
  | 0 => V
  | j + 1 => sp_app (tx_ad V T j) (T (4 * j)).toInt (T (4 * j + 1)).toInt (T (4 * j + 2)).toInt (T (4 * j + 3))
theorem tx_ad_cong {V : tw_V} {T T' : tw_F} : ∀ i, (∀ j, j < 4 * i → T' j = T j) → tx_ad V T' i = tx_ad V T i
  | 0, _ => rfl
  | i + 1, h => by
    rw [tx_ad, tx_ad, tx_ad_cong i (fun j hj => h j (by omega)), h (4 * i) (by omega), h (4 * i + 1) (by omega), h (4 * i + 2) (by omega), h (4 * i + 3) (by omega)]
theorem tx_pb_0 {q c : Int} (h : tx_pb q c = 0) : c = 59 := by
  rcases Classical.em (c = 59) with e | e
  · exact e
  · unfold tx_pb at h
    rw [if_neg e] at h
    repeat' split at h
    all_goals omega
/-- at the start of a part nothing of it is read -/
theorem tx_pd_0 {tc : Nat → Int} : ∀ {k}, tx_au tc k = 0 → tx_pd tc k = tx_d0
  | 0, _ => rfl
  | k + 1, h => by
    rw [tx_au] at h
    rw [tx_pd, if_pos (tx_pb_0 h)]
theorem tx_bit {m : Int32} {c : Int} (h0 : 97 ≤ c) (h1 : c ≤ 108) {i : Nat} (hi : i < 32) : bt (m ||| ((1 : Int32) <<< (zi (c - 97) &&& 31))) i = (bt m i || decide (i = (c - 97).toNat)) := by
  obtain ⟨u, hu⟩ : ∃ u : Nat, c - 97 = u := ⟨(c - 97).toNat, by omega⟩
  rw [hu, tb_or (show u < 32 by omega) hi]
  rfl
theorem pb_59 {q : Int} (h : q < 4 ∨ q = 7) : tx_pb q 59 = -1 := by unfold tx_pb; rw [if_pos rfl, if_pos h]
theorem pb_0n {c : Int} (h : c ≠ 100) : tx_pb 0 c = -1 := by
  unfold tx_pb
  by_cases e : c = 59
  · rw [if_pos e, if_pos (by omega)]
  · rw [if_neg e, if_pos (by omega), if_pos rfl, if_neg h]
theorem pb_1n {c : Int} (h : ¬ (49 ≤ c ∧ c ≤ 57)) : tx_pb 1 c = -1 := by
  unfold tx_pb
  by_cases e : c = 59
  · rw [if_pos e, if_pos (by omega)]
  · rw [if_neg e, if_pos (by omega), if_neg (by omega), if_pos rfl, if_neg h]
theorem pb_2n {c : Int} (h : ¬ (48 ≤ c ∧ c ≤ 53)) : tx_pb 2 c = -1 := by
  unfold tx_pb
  by_cases e : c = 59
  · rw [if_pos e, if_pos (by omega)]
  · rw [if_neg e, if_pos (by omega), if_neg (by omega), if_neg (by omega), if_pos rfl, if_neg h]
theorem pb_3n {c : Int} (h : ¬ (48 ≤ c ∧ c ≤ 51)) : tx_pb 3 c = -1 := by
  unfold tx_pb
  by_cases e : c = 59
  · rw [if_pos e, if_pos (by omega)]
  · rw [if_neg e, if_pos (by omega), if_neg (by omega), if_neg (by omega), if_neg (by omega), if_pos rfl, if_neg h]
theorem pb_456n {q c : Int} (hq : q = 4 ∨ q = 5 ∨ q = 6) (h59 : c ≠ 59) (h1 : c = 112 → q ≠ 4) (h2 : c = 104 → q = 6) (h3 : c ≠ 110) : tx_pb q c = -1 := by
  unfold tx_pb
  rw [if_neg h59, if_pos (by omega), if_neg (by omega), if_neg (by omega), if_neg (by omega), if_neg (by omega), if_neg (fun x => h1 x.1 x.2), if_neg (fun x => by have := h2 x.1; omega), if_neg (fun x => h3 x.1)]
theorem pb_7n {q c : Int} (hq : 7 ≤ q) (h59 : c ≠ 59) (h : ¬ (q - 7 ≤ c - 97 ∧ c - 97 < 12)) : tx_pb q c = -1 := by
  unfold tx_pb
  rw [if_neg h59, if_neg (by omega), if_neg h]
theorem pb_7y {q c : Int} (hq : 7 ≤ q) (h : q - 7 ≤ c - 97 ∧ c - 97 < 12) : tx_pb q c = c - 89 := by
  unfold tx_pb
  rw [if_neg (by omega), if_neg (by omega), if_pos h]
theorem pb_1y {c : Int} (h : 49 ≤ c ∧ c ≤ 57) : tx_pb 1 c = 4 := by
  unfold tx_pb
  rw [if_neg (by omega), if_pos (by omega), if_neg (by omega), if_pos rfl, if_pos h]
theorem pb_2y {c : Int} (h : 48 ≤ c ∧ c ≤ 53) : tx_pb 2 c = 5 := by
  unfold tx_pb
  rw [if_neg (by omega), if_pos (by omega), if_neg (by omega), if_neg (by omega), if_pos rfl, if_pos h]
theorem pb_3y {c : Int} (h : 48 ≤ c ∧ c ≤ 51) : tx_pb 3 c = 6 := by
  unfold tx_pb
  rw [if_neg (by omega), if_pos (by omega), if_neg (by omega), if_neg (by omega), if_neg (by omega), if_pos rfl, if_pos h]
theorem pb_lt7 {q c : Int} (h : q < 7) : tx_pb q c ≤ 7 := by
  unfold tx_pb
  repeat' split
  all_goals omega
theorem pb_59y {q : Int} (h : ¬ (q < 4 ∨ q = 7)) : tx_pb q 59 = 0 := by unfold tx_pb; rw [if_pos rfl, if_neg h]
theorem tx_d0_r : (1 ≤ tx_d0.1 ∧ tx_d0.1 ≤ 9) ∧ (-1 ≤ tx_d0.2.1 ∧ tx_d0.2.1 ≤ 5) ∧ (-1 ≤ tx_d0.2.2.1 ∧ tx_d0.2.2.1 ≤ 3) := by decide
/-- what a part holds is in its ranges, and it has needs just behind a letter -/
theorem tx_pd_ok {tc : Nat → Int} : ∀ k, tx_au tc k ≠ -1 → (1 ≤ (tx_pd tc k).1 ∧ (tx_pd tc k).1 ≤ 9) ∧ (-1 ≤ (tx_pd tc k).2.1 ∧ (tx_pd tc k).2.1 ≤ 5) ∧ (-1 ≤ (tx_pd tc k).2.2.1 ∧ (tx_pd tc k).2.2.1 ≤ 3) ∧ (tx_au tc k ≤ 7 → (tx_pd tc k).2.2.2 = 0) ∧ (8 ≤ tx_au tc k → (tx_pd tc k).2.2.2 ≠ 0) ∧ ∀ i, 12 ≤ i → bt (tx_pd tc k).2.2.2 i = false
  | 0, _ => ⟨tx_d0_r.1, tx_d0_r.2.1, tx_d0_r.2.2, fun _ => rfl, fun h => absurd (show (8 : Int) ≤ 0 from h) (by decide), fun i _ => b_0 i⟩
  | k + 1, h => by
    have hk : tx_au tc k ≠ -1 := tx_au_back h (by omega)
    obtain ⟨i1, i2, i3, i4, i5, i6⟩ := tx_pd_ok k hk
    have hl := tx_au_le (tc := tc) k
    have ha : tx_au tc (k + 1) = tx_pb (tx_au tc k) (tc k) := rfl
    rw [ha] at h ⊢
    rw [tx_pd]
    by_cases e : tc k = 59
    · have hp : tx_pb (tx_au tc k) (tc k) = 0 := by
        rw [e]
        apply pb_59y
        intro q
        rw [e] at h
        exact h (pb_59 q)
      rw [if_pos e, hp]
      exact ⟨tx_d0_r.1, tx_d0_r.2.1, tx_d0_r.2.2, fun _ => rfl, fun h => absurd h (by decide), fun i _ => b_0 i⟩
    · rw [if_neg e]
      by_cases q7 : tx_au tc k < 7
      · have i4' := i4 (by omega)
        by_cases q1 : tx_au tc k = 1
        · rw [if_pos q1]
          by_cases r : 49 ≤ tc k ∧ tc k ≤ 57
          · have hp : tx_pb (tx_au tc k) (tc k) = 4 := by rw [q1]; exact pb_1y r
            rw [hp]
            exact ⟨⟨(by omega : (1 : Int) ≤ tc k - 48), (by omega : tc k - 48 ≤ 9)⟩, i2, i3, fun _ => i4', fun x => absurd x (by decide), i6⟩
          · rw [q1] at h; exact absurd (pb_1n r) h
        · rw [if_neg q1]
          by_cases q2 : tx_au tc k = 2
          · rw [if_pos q2]
            by_cases r : 48 ≤ tc k ∧ tc k ≤ 53
            · have hp : tx_pb (tx_au tc k) (tc k) = 5 := by rw [q2]; exact pb_2y r
              rw [hp]
              exact ⟨i1, ⟨(by omega : (-1 : Int) ≤ tc k - 48), (by omega : tc k - 48 ≤ 5)⟩, i3, fun _ => i4', fun x => absurd x (by decide), i6⟩
            · rw [q2] at h; exact absurd (pb_2n r) h
          · rw [if_neg q2]
            by_cases q3 : tx_au tc k = 3
            · rw [if_pos q3]
              by_cases r : 48 ≤ tc k ∧ tc k ≤ 51
              · have hp : tx_pb (tx_au tc k) (tc k) = 6 := by rw [q3]; exact pb_3y r
                rw [hp]
                exact ⟨i1, i2, ⟨(by omega : (-1 : Int) ≤ tc k - 48), (by omega : tc k - 48 ≤ 3)⟩, fun _ => i4', fun x => absurd x (by decide), i6⟩
              · rw [q3] at h; exact absurd (pb_3n r) h
            · rw [if_neg q3, if_neg (show ¬ 7 ≤ tx_au tc k by omega)]
              have hq := pb_lt7 (c := tc k) q7
              exact ⟨i1, i2, i3, fun _ => i4', fun x => by omega, i6⟩
      · by_cases r : tx_au tc k - 7 ≤ tc k - 97 ∧ tc k - 97 < 12
        · have hp : tx_pb (tx_au tc k) (tc k) = tc k - 89 := pb_7y (by omega) r
          rw [hp, if_neg (show ¬ tx_au tc k = 1 by omega), if_neg (show ¬ tx_au tc k = 2 by omega), if_neg (show ¬ tx_au tc k = 3 by omega), if_pos (show 7 ≤ tx_au tc k by omega)]
          have hb := fun {i : Nat} (hi : i < 32) => tx_bit (m := (tx_pd tc k).2.2.2) (c := tc k) (by omega) (by omega) hi
          refine ⟨i1, i2, i3, fun x => by omega, fun _ x => ?_, fun i hi => ?_⟩
          · have x' : (tx_pd tc k).2.2.2 ||| ((1 : Int32) <<< (zi (tc k - 97) &&& 31)) = 0 := x
            have h1 := hb (i := (tc k - 97).toNat) (by omega)
            rw [x', b_0, decide_eq_true rfl, Bool.or_true] at h1
            exact absurd h1 (by decide)
          · show bt ((tx_pd tc k).2.2.2 ||| ((1 : Int32) <<< (zi (tc k - 97) &&& 31))) i = false
            rcases Nat.lt_or_ge i 32 with h32 | h32
            · rw [hb h32, i6 i hi, decide_eq_false (by omega)]; rfl
            · exact b_big h32
        · exact absurd (pb_7n (by omega) e r) h
/-! the reference's reading -/
abbrev tx_m (M : tw_Md) (a f : Int32) (T : tw_F) (i : Int32) : tw_Md := (M.1, M.2.1, M.2.2.1, M.2.2.2.1, M.2.2.2.2.1, M.2.2.2.2.2.1, M.2.2.2.2.2.2.1, a, f, T, i, M.2.2.2.2.2.2.2.2.2.2.2.1, M.2.2.2.2.2.2.2.2.2.2.2.2)
theorem rx_isAt {M : tw_Md} {n : Nat} {tc : Nat → Int} (hX : sp_T M.2.2.2.2.1 M.2.2.2.2.2.1 n tc) (ht : tx_ok n tc) {f : Int32} {T : tw_F} {i : Int32} {k : Nat} (hk : k ≤ n) {lo hi : Int} (l1 : 0 ≤ lo) (l2 : lo ≤ 200) (h1 : 0 ≤ hi) (h2 : hi ≤ 200) : fX4_isAt (tx_m M (zi k) f T i) (zi lo) (zi hi) = some (if k < n ∧ lo ≤ tc k ∧ tc k ≤ hi then 1 else 0) := by
  have h60 := ht.1
  unfold fX4_isAt
  (try dsimp only)
  rw [hX.1]
  by_cases e : k < n
  · have hc := ht.2 k e
    rw [if_neg (dg_lt e (by omega)), zi_n (by omega) (by omega), zi_Tn (by omega), hX.2 k e, pX4_in (by omega) (by omega) (by omega) (by omega) (by omega) (by omega), ob_some, ifl0]
    by_cases e2 : lo ≤ tc k ∧ tc k ≤ hi
    · rw [if_pos e2, if_pos ⟨e, e2⟩]
    · rw [if_neg e2, if_neg (fun q => e2 q.2)]
  · have : k = n := by omega
    subst this
    rw [if_pos (dg_ge (by omega)), if_neg (fun q => e q.1)]
theorem rx_stops {M : tw_Md} {n : Nat} {tc : Nat → Int} (hX : sp_T M.2.2.2.2.1 M.2.2.2.2.2.1 n tc) (ht : tx_ok n tc) {f : Int32} {T : tw_F} {i : Int32} {k : Nat} (hk : k ≤ n) : fX4_stops (tx_m M (zi k) f T i) = some (0, tx_m M (zi k) (if k < n then 1 else 0) T i) := by
  have h60 := ht.1
  have hc : M.2.2.2.2.2.1 ≤ zi (k : Int) ↔ (n : Int) ≤ k := by
    rw [hX.1]
    exact zi_le (by omega) (by omega) (by omega) (by omega)
  unfold fX4_stops
  (try dsimp only)
  by_cases e : k < n
  · rw [if_neg (fun q => absurd (hc.mp q) (by omega)), if_pos e]
  · rw [if_pos (hc.mpr (by omega)), if_neg e]
theorem rx_yes {M : tw_Md} {n : Nat} {tc : Nat → Int} (hX : sp_T M.2.2.2.2.1 M.2.2.2.2.2.1 n tc) (ht : tx_ok n tc) {f : Int32} {T : tw_F} {i : Int32} {k : Nat} (hk : k < n) {c : Int} (hc : tc k = c) : fX4_isSign (tx_m M (zi k) f T i) (zi c) = some (1, tx_m M (zi ((k + 1 : Nat) : Int)) f T i) := by
  have hc2 := ht.2 k hk
  have h1 : fX4_isAt (tx_m M (zi k) f T i) (zi c) (zi c) = some 1 := by
    rw [rx_isAt hX ht (by omega) (by omega) (by omega) (by omega) (by omega), if_pos ⟨hk, by omega, by omega⟩]
  unfold fX4_isSign
  rw [h1, ob_some, if_neg (by decide), zi_q (Or.inr rfl)]
  (try dsimp only)
  rw [zi_p1]
theorem rx_no {M : tw_Md} {n : Nat} {tc : Nat → Int} (hX : sp_T M.2.2.2.2.1 M.2.2.2.2.2.1 n tc) (ht : tx_ok n tc) {f : Int32} {T : tw_F} {i : Int32} {k : Nat} (hk : k ≤ n) {c : Int} (c0 : 0 ≤ c) (c1 : c ≤ 200) (hc : k < n → tc k ≠ c) : fX4_isSign (tx_m M (zi k) f T i) (zi c) = some (0, tx_m M (zi k) f T i) := by
  have hz : zi (k : Int) + (0 : Int32) = zi k := by
    rw [z0, zi_add]
    exact congrArg zi (Int.add_zero _)
  have h1 : fX4_isAt (tx_m M (zi k) f T i) (zi c) (zi c) = some 0 := by
    rw [rx_isAt hX ht hk (by omega) (by omega) (by omega) (by omega), if_neg (fun q => hc q.1 (by omega))]
  unfold fX4_isSign
  rw [h1, ob_some, if_pos rfl, zi_q (Or.inl rfl)]
  (try dsimp only)
  rw [hz]
theorem rx_tol {i j : Nat} : ((4 : Int32) * zi (i : Int)) + zi (j : Int) = zi ((4 * i + j : Nat) : Int) := by
  rw [show (4 : Int32) = zi 4 from rfl, zi_mul, zi_add]
  exact congrArg zi (by omega)
theorem rx_fyes {M : tw_Md} {n : Nat} {tc : Nat → Int} (hX : sp_T M.2.2.2.2.1 M.2.2.2.2.2.1 n tc) (ht : tx_ok n tc) {f : Int32} {T : tw_F} {i j : Nat} (hi : i ≤ 25) (hj : j ≤ 3) {k : Nat} (hk : k < n) {lo hi : Int} (l1 : 0 ≤ lo) (l2 : lo ≤ 200) (h1 : 0 ≤ hi) (h2 : hi ≤ 200) (hc : lo ≤ tc k ∧ tc k ≤ hi) : fX4_isFigure (tx_m M (zi k) f T (zi i)) (zi j) (zi lo) (zi hi) = some (1, tx_m M (zi ((k + 1 : Nat) : Int)) f (upd T (4 * i + j) (zi (tc k - 48))) (zi i)) := by
  have h60 := ht.1
  have h9 : fX4_isAt (tx_m M (zi k) f T (zi i)) (zi lo) (zi hi) = some 1 := by
    rw [rx_isAt hX ht (by omega) l1 l2 h1 h2, if_pos ⟨hk, hc⟩]
  unfold fX4_isFigure
  rw [h9, ob_some, if_pos (by decide)]
  (try dsimp only)
  rw [zi_n (by omega) (by omega), rx_tol, zi_n (by omega) (by omega), zi_Tn (by omega), zi_Tn (by omega), hX.2 k hk, zi_p1, show (48 : Int32) = zi 48 from rfl, zi_sub]
theorem rx_fno {M : tw_Md} {n : Nat} {tc : Nat → Int} (hX : sp_T M.2.2.2.2.1 M.2.2.2.2.2.1 n tc) (ht : tx_ok n tc) {f : Int32} {T : tw_F} {i : Int32} {j : Int32} {k : Nat} (hk : k ≤ n) {lo hi : Int} (l1 : 0 ≤ lo) (l2 : lo ≤ 200) (h1 : 0 ≤ hi) (h2 : hi ≤ 200) (hc : k < n → ¬ (lo ≤ tc k ∧ tc k ≤ hi)) : fX4_isFigure (tx_m M (zi k) f T i) j (zi lo) (zi hi) = some (0, tx_m M (zi k) (if k < n then 1 else 0) T i) := by
  have h9 : fX4_isAt (tx_m M (zi k) f T i) (zi lo) (zi hi) = some 0 := by
    rw [rx_isAt hX ht hk l1 l2 h1 h2, if_neg (fun q => hc q.1 q.2)]
  unfold fX4_isFigure
  rw [h9, ob_some, if_neg (by decide), rx_stops hX ht hk, ob_some, zi_q (Or.inl rfl)]
/-- while a part is read -/
def rx_P (V : tw_V) (tc : Nat → Int) (n i k : Nat) (T : tw_F) : Prop := (T (4 * i + 1) = zi (tx_pd tc k).2.1 ∧ T (4 * i + 2) = zi (tx_pd tc k).2.2.1 ∧ T (4 * i + 3) = (tx_pd tc k).2.2.2) ∧ (4 ≤ tx_au tc k ∨ tx_au tc k = 2 ∨ tx_au tc k = 3 → T (4 * i) = zi (tx_pd tc k).1) ∧ tx_ad V T i = tx_wk V tc k ∧ i ≤ 20 ∧ k ≤ n ∧ tx_au tc k ≠ -1
def rx_N (tc : Nat → Int) (n : Nat) (f' : Int32) (k' : Nat) : Prop := k' ≤ n ∧ ((f' = 1 ∧ k' < n ∧ tx_au tc k' ≠ -1 ∧ tx_au tc (k' + 1) = -1) ∨ (f' = 0 ∧ k' = n ∧ tx_au tc n ≠ -1 ∧ (tx_au tc n < 4 ∨ tx_au tc n = 7)))
def rx_R (V : tw_V) (tc : Nat → Int) (n : Nat) (M : tw_Md) (f : Int32) (i k0 : Nat) (R : Option (Int32 × tw_Md)) : Prop := (∃ (k' : Nat) (T' : tw_F), R = some (1, tx_m M (zi (k' : Int)) f T' (zi i)) ∧ rx_P V tc n i k' T' ∧ k0 ≤ k' ∧ 4 ≤ tx_au tc k' ∧ tx_au tc k' ≠ 7 ∧ (k' < n → tc k' ≠ 59 → tx_au tc (k' + 1) = -1)) ∨ (∃ (k' : Nat) (T' : tw_F) (f' : Int32), R = some (0, tx_m M (zi (k' : Int)) f' T' (zi i)) ∧ rx_N tc n f' k')
theorem rx_R_le {V : tw_V} {tc : Nat → Int} {n : Nat} {M : tw_Md} {f : Int32} {i k0 k1 : Nat} {R : Option (Int32 × tw_Md)} (h : rx_R V tc n M f i k1 R) (hk : k0 ≤ k1) : rx_R V tc n M f i k0 R := by
  rcases h with ⟨k', T', a, b, c, d⟩ | h
  · exact Or.inl ⟨k', T', a, b, Nat.le_trans hk c, d⟩
  · exact Or.inr h
/-- reading stops -/
theorem rx_N_at {tc : Nat → Int} {n k : Nat} (hk : k ≤ n) (ha : tx_au tc k ≠ -1) (h1 : k < n → tx_au tc (k + 1) = -1) (h2 : tx_au tc k < 4 ∨ tx_au tc k = 7) : rx_N tc n (if k < n then 1 else 0) k := by
  refine ⟨hk, ?_⟩
  by_cases e : k < n
  · rw [if_pos e]; exact Or.inl ⟨rfl, e, ha, h1 e⟩
  · rw [if_neg e]
    have : k = n := by omega
    subst this
    exact Or.inr ⟨rfl, rfl, ha, h2⟩
/-- a code is read that leaves what the part holds -/
theorem rx_P_s {V : tw_V} {tc : Nat → Int} {n i k : Nat} {T : tw_F} (h : rx_P V tc n i k T) (hk : k < n) (h59 : tc k ≠ 59) (hq : 4 ≤ tx_au tc k ∧ tx_au tc k < 7) (hn : tx_au tc (k + 1) ≠ -1) : rx_P V tc n i (k + 1) T := by
  obtain ⟨⟨a1, a2, a3⟩, a4, a5, a6, a7, a8⟩ := h
  have hp : tx_pd tc (k + 1) = tx_pd tc k := by rw [tx_pd, if_neg h59, if_neg (by omega), if_neg (by omega), if_neg (by omega), if_neg (by omega)]
  have hw : tx_wk V tc (k + 1) = tx_wk V tc k := by rw [tx_wk, if_neg h59]
  unfold rx_P
  rw [hp, hw]
  exact ⟨⟨a1, a2, a3⟩, fun _ => a4 (Or.inl hq.1), a5, a6, by omega, hn⟩
