/-! texts: the automaton of the class -/
def tx_pb (q c : Int) : Int :=
  if c = 59 then (if q < 4 ∨ q = 7 then -1 else 0)
  else if q < 7 then
    if q = 0 then (if c = 100 then 1 else -1)
    else if q = 1 then (if 49 ≤ c ∧ c ≤ 57 then 4 else -1)
    else if q = 2 then (if 48 ≤ c ∧ c ≤ 53 then 5 else -1)
    else if q = 3 then (if 48 ≤ c ∧ c ≤ 51 then 6 else -1)
    else (if c = 112 ∧ q = 4 then 2 else if c = 104 ∧ (q = 4 ∨ q = 5) then 3 else if c = 110 ∧ q ≠ -1 then 7 else -1)
  else (if q - 7 ≤ c - 97 ∧ c - 97 < 12 then c - 89 else -1)
def tx_au (tc : Nat → Int) : Nat → Int
  | 0 => 0
  | k + 1 => tx_pb (tx_au tc k) (tc k)
theorem tx_pb_m1 {c : Int} : tx_pb (-1) c = -1 := by
  unfold tx_pb
  by_cases e : c = 59
  · rw [if_pos e, if_pos (by omega)]
  · rw [if_neg e, if_pos (by omega), if_neg (by omega), if_neg (by omega), if_neg (by omega), if_neg (by omega), if_neg (by omega), if_neg (by omega), if_neg (by omega)]
theorem tx_pb_le {q c : Int} (h : -1 ≤ q) (h2 : q ≤ 19) : -1 ≤ tx_pb q c ∧ tx_pb q c ≤ 19 := by
  unfold tx_pb
  repeat' split
  all_goals omega
theorem tx_au_le {tc : Nat → Int} : ∀ k, -1 ≤ tx_au tc k ∧ tx_au tc k ≤ 19
  | 0 => by rw [tx_au]; omega
  | k + 1 => by
    have := tx_au_le (tc := tc) k
    rw [tx_au]
    exact tx_pb_le this.1 this.2
theorem tx_au_stick {tc : Nat → Int} {k : Nat} (h : tx_au tc k = -1) : ∀ m, tx_au tc (k + m) = -1
  | 0 => h
  | m + 1 => by
    rw [← Nat.add_assoc, tx_au, tx_au_stick h m, tx_pb_m1]
theorem tx_au_back {tc : Nat → Int} {n k : Nat} (h : tx_au tc n ≠ -1) (hk : k ≤ n) : tx_au tc k ≠ -1 := fun q => h (by
  have := tx_au_stick q (n - k)
  rwa [show k + (n - k) = n by omega] at this)
theorem pX2_isPartWhole {q : Int} (h : -1 ≤ q) (h2 : q ≤ 19) : fX2_isPartWhole (zi q) = some (if q < 4 ∨ q = 7 then 0 else 1) := by
  have c1 : zi q < (4 : Int32) ↔ q < 4 := zi_lt (b := 4) (by omega) (by omega) (by omega) (by omega)
  have c2 : zi q = (7 : Int32) ↔ q = 7 := zi_eq (b := 7) (by omega) (by omega) (by omega) (by omega)
  unfold fX2_isPartWhole
  by_cases e1 : q < 4
  · rw [if_pos (c1.mpr e1), if_pos (Or.inl e1)]
  · rw [if_neg (fun x => e1 (c1.mp x))]
    by_cases e2 : q = 7
    · rw [if_pos (c2.mpr e2), if_pos (Or.inr e2)]
    · rw [if_neg (fun x => e2 (c2.mp x)), if_neg (fun x => x.elim e1 e2)]
theorem pX2_mark {q c : Int} (h : -1 ≤ q) (h2 : q ≤ 19) (c1 : 0 ≤ c) (c2 : c ≤ 200) : fX2_placeBehindMark (zi q) (zi c) = some (zi (if c = 112 ∧ q = 4 then 2 else if c = 104 ∧ (q = 4 ∨ q = 5) then 3 else if c = 110 ∧ q ≠ -1 then 7 else -1)) := by
  have e112 : zi c = (112 : Int32) ↔ c = 112 := zi_eq (b := 112) (by omega) (by omega) (by omega) (by omega)
  have e104 : zi c = (104 : Int32) ↔ c = 104 := zi_eq (b := 104) (by omega) (by omega) (by omega) (by omega)
  have e110 : zi c = (110 : Int32) ↔ c = 110 := zi_eq (b := 110) (by omega) (by omega) (by omega) (by omega)
  have q4 : zi q = (4 : Int32) ↔ q = 4 := zi_eq (b := 4) (by omega) (by omega) (by omega) (by omega)
  have q5 : zi q = (5 : Int32) ↔ q = 5 := zi_eq (b := 5) (by omega) (by omega) (by omega) (by omega)
  have qm : zi q = (-1 : Int32) ↔ q = -1 := zi_eq (b := -1) (by omega) (by omega) (by omega) (by omega)
  obtain ⟨X, hX⟩ : ∃ X : Int, X = (if c = 112 ∧ q = 4 then 2 else if c = 104 ∧ (q = 4 ∨ q = 5) then 3 else if c = 110 ∧ q ≠ -1 then 7 else -1) := ⟨_, rfl⟩
  rw [← hX]
  unfold fX2_placeBehindMark fX2_placeBehindMark_13 fX2_placeBehindMark_31
  simp only [e112, e104, e110, q4, q5, qm]
  by_cases a1 : c = 112
  · by_cases a2 : q = 4
    · rw [if_pos ⟨a1, a2⟩] at hX
      rw [if_neg (fun x => x a1), if_neg (fun x => x a2), hX]; rfl
    · rw [if_neg (fun x => a2 x.2), if_neg (by omega), if_neg (by omega)] at hX
      rw [if_neg (fun x => x a1), if_pos a2, if_pos (show ¬ c = 104 by omega), if_pos (show ¬ c = 110 by omega), hX]; rfl
  · rw [if_neg (fun x => a1 x.1)] at hX
    rw [if_pos a1]
    by_cases a3 : c = 104
    · rw [if_neg (fun x => x a3)]
      by_cases a4 : q = 4
      · rw [if_pos ⟨a3, Or.inl a4⟩] at hX
        rw [if_pos a4, hX]; rfl
      · rw [if_neg a4]
        by_cases a5 : q = 5
        · rw [if_pos ⟨a3, Or.inr a5⟩] at hX
          rw [if_neg (fun x => x a5), hX]; rfl
        · rw [if_neg (by omega), if_neg (by omega)] at hX
          rw [if_pos a5, if_pos (show ¬ c = 110 by omega), hX]; rfl
    · rw [if_neg (fun x => a3 x.1)] at hX
      rw [if_pos a3]
      by_cases a6 : c = 110
      · rw [if_neg (fun x => x a6)]
        by_cases a7 : q = -1
        · rw [if_neg (by omega)] at hX
          rw [if_pos a7, hX]; rfl
        · rw [if_pos ⟨a6, a7⟩] at hX
          rw [if_neg a7, hX]; rfl
      · rw [if_neg (fun x => a6 x.1)] at hX
        rw [if_pos a6, hX]; rfl
theorem pX2_placeBehind {q c : Int} (h : -1 ≤ q) (h2 : q ≤ 19) (c1 : 0 ≤ c) (c2 : c ≤ 200) : fX2_placeBehind (zi q) (zi c) = some (zi (tx_pb q c)) := by
  have e59 : zi c = (59 : Int32) ↔ c = 59 := zi_eq (b := 59) (by omega) (by omega) (by omega) (by omega)
  have e100 : zi c = (100 : Int32) ↔ c = 100 := zi_eq (b := 100) (by omega) (by omega) (by omega) (by omega)
  have q7 : zi q < (7 : Int32) ↔ q < 7 := zi_lt (b := 7) (by omega) (by omega) (by omega) (by omega)
  have q0 : zi q = (0 : Int32) ↔ q = 0 := zi_eq (b := 0) (by omega) (by omega) (by omega) (by omega)
  have q1 : zi q = (1 : Int32) ↔ q = 1 := zi_eq (b := 1) (by omega) (by omega) (by omega) (by omega)
  have q2 : zi q = (2 : Int32) ↔ q = 2 := zi_eq (b := 2) (by omega) (by omega) (by omega) (by omega)
  have q3 : zi q = (3 : Int32) ↔ q = 3 := zi_eq (b := 3) (by omega) (by omega) (by omega) (by omega)
  have s48 : zi c - (48 : Int32) = zi (c - 48) := zi_sub c 48
  have s97 : zi c - (97 : Int32) = zi (c - 97) := zi_sub c 97
  have s7 : zi q - (7 : Int32) = zi (q - 7) := zi_sub q 7
  have l1 : zi (c - 97) < zi (q - 7) ↔ c - 97 < q - 7 := zi_lt (by omega) (by omega) (by omega) (by omega)
  have l2 : (12 : Int32) ≤ zi (c - 97) ↔ 12 ≤ c - 97 := zi_le (a := 12) (by omega) (by omega) (by omega) (by omega)
  have r9 : ((7 : Int32) + zi (c - 97)) + (1 : Int32) = zi (c - 89) := by
    rw [show (7 : Int32) = zi 7 from rfl, z1, zi_add, zi_add]
    exact congrArg zi (by omega)
  unfold fX2_placeBehind fX2_placeBehind_50 tx_pb
  rw [s48, s97, s7]
  simp only [pX3_isLength (a := c - 48) (by omega) (by omega), pX3_isPerson (a := c - 48) (by omega) (by omega), pX3_isHall (a := c - 48) (by omega) (by omega), pX2_mark h h2 c1 c2, pX2_isPartWhole h h2, ob_some, ifl0, e59, e100, q7, q0, q1, q2, q3, l1, l2, r9]
  by_cases a1 : c = 59
  · rw [if_neg (fun x => x a1), if_pos a1]
    by_cases a2 : q < 4 ∨ q = 7
    · rw [if_pos a2, if_pos a2, if_pos rfl]; rfl
    · rw [if_neg a2, if_neg a2, if_neg (by decide)]; rfl
  · rw [if_pos a1, if_neg a1]
    by_cases a2 : q < 7
    · rw [if_pos a2, if_pos a2]
      by_cases b0 : q = 0
      · rw [if_pos b0, if_pos b0]
        by_cases b : c = 100
        · rw [if_neg (fun x => x b), if_pos b]; rfl
        · rw [if_pos b, if_neg b]; rfl
      · rw [if_neg b0, if_neg b0]
        by_cases b1 : q = 1
        · rw [if_pos b1, if_pos b1]
          by_cases b : 49 ≤ c ∧ c ≤ 57
          · rw [if_pos (by omega), if_pos b]; rfl
          · rw [if_neg (by omega), if_neg b]; rfl
        · rw [if_neg b1, if_neg b1]
          by_cases b2 : q = 2
          · rw [if_pos b2, if_pos b2]
            by_cases b : 48 ≤ c ∧ c ≤ 53
            · rw [if_pos (by omega), if_pos b]; rfl
            · rw [if_neg (by omega), if_neg b]; rfl
          · rw [if_neg b2, if_neg b2]
            by_cases b3 : q = 3
            · rw [if_pos b3, if_pos b3]
              by_cases b : 48 ≤ c ∧ c ≤ 51
              · rw [if_pos (by omega), if_pos b]; rfl
              · rw [if_neg (by omega), if_neg b]; rfl
            · rw [if_neg b3, if_neg b3]
    · rw [if_neg a2, if_neg a2]
      by_cases b1 : c - 97 < q - 7
      · rw [if_pos b1, if_pos trivial, if_neg (by omega)]; rfl
      · rw [if_neg b1]
        by_cases b2 : 12 ≤ c - 97
        · rw [if_pos b2, if_pos trivial, if_neg (by omega)]; rfl
        · rw [if_neg b2, if_neg (by decide), if_pos (by omega)]
/-- codes of a text -/
def tx_ok (n : Nat) (tc : Nat → Int) : Prop := n ≤ 60 ∧ ∀ i, i < n → 33 ≤ tc i ∧ tc i ≤ 126
def tx_fw (tc : Nat → Int) : Nat → Nat → Nat
  | k, 0 => k
  | k, m + 1 => if tx_au tc (k + 1) = -1 then k else tx_fw tc (k + 1) m
theorem tx_fw_n {tc : Nat → Int} {n : Nat} (h : tx_au tc n ≠ -1) : ∀ m k, k + m = n → tx_fw tc k m = n
  | 0, k, hk => by rw [tx_fw]; omega
  | m + 1, k, hk => by
    rw [tx_fw, if_neg (tx_au_back h (by omega))]
    exact tx_fw_n h m (k + 1) (by omega)
theorem tx_fw_at {tc : Nat → Int} {j n : Nat} (h : tx_au tc j ≠ -1) (h1 : tx_au tc (j + 1) = -1) (hj : j < n) : ∀ m k, k + m = n → k ≤ j → tx_fw tc k m = j
  | 0, k, hk, hkj => by omega
  | m + 1, k, hk, hkj => by
    rw [tx_fw]
    by_cases e : k = j
    · subst e; rw [if_pos h1]
    · rw [if_neg (tx_au_back h (by omega))]
      exact tx_fw_at h h1 hj m (k + 1) (by omega) (by omega)
theorem pX2_firstWrong {X : tw_Tx} {n : Nat} {tc : Nat → Int} (hX : sp_T X.1 X.2 n tc) (ht : tx_ok n tc) : fX2_firstWrong X = some (zi (tx_fw tc 0 n)) := by
  have h60 := ht.1
  unfold fX2_firstWrong
  have := ldn (fun fuel k => fX2_firstWrong_4 X fuel (zi (tx_au tc k)) (zi k)) (fun k => zi (tx_fw tc k (n - k))) n (fun fuel => by
    (try dsimp only)
    rw [fX2_firstWrong_4, hX.1, if_pos (dg_ge (by omega)), Nat.sub_self]
    rfl) (fun fuel k hk hr => by
    (try dsimp only at hr ⊢)
    have ha := tx_au_le (tc := tc) k
    have hb := tx_au_le (tc := tc) (k + 1)
    have hc := ht.2 k hk
    have c1 : zi (tx_au tc (k + 1)) = (-1 : Int32) ↔ tx_au tc (k + 1) = -1 := zi_eq (b := -1) (by omega) (by omega) (by omega) (by omega)
    rw [fX2_firstWrong_4, hX.1, if_neg (dg_lt hk (by omega)), zi_n (by omega) (by omega), zi_Tn (by omega), hX.2 k hk, pX2_placeBehind ha.1 ha.2 (by omega) (by omega), ob_some, ← tx_au, zi_suc, hr, show n - k = (n - (k + 1)) + 1 by omega, tx_fw]
    by_cases e : tx_au tc (k + 1) = -1
    · rw [if_neg (fun q => q (c1.mpr e)), if_pos e]
    · rw [if_pos (fun q => e (c1.mp q)), if_neg e]) 0 512 (by omega) (by omega)
  exact this
theorem pX2_isComplete {X : tw_Tx} {n : Nat} {tc : Nat → Int} (hX : sp_T X.1 X.2 n tc) (ht : tx_ok n tc) : fX2_isComplete X = some (if tx_au tc n < 4 ∨ tx_au tc n = 7 then 0 else 1) := by
  have h60 := ht.1
  have hw : ∀ q : Int, tw_q ((if q < 4 ∨ q = 7 then (0 : Int32) else 1) = 0 ∨ (if q < 4 ∨ q = 7 then (0 : Int32) else 1) = 1) (some (if q < 4 ∨ q = 7 then (0 : Int32) else 1)) = some (if q < 4 ∨ q = 7 then (0 : Int32) else 1) := fun q => by
    apply zi_q
    by_cases e : q < 4 ∨ q = 7
    · rw [if_pos e]; exact Or.inl rfl
    · rw [if_neg e]; exact Or.inr rfl
  unfold fX2_isComplete
  have := ldn (fun fuel k => fX2_isComplete_4 X fuel (zi (tx_au tc k)) (zi k)) (fun _ => (if tx_au tc n < 4 ∨ tx_au tc n = 7 then (0 : Int32) else 1)) n (fun fuel => by
    (try dsimp only)
    have ha := tx_au_le (tc := tc) n
    rw [fX2_isComplete_4, hX.1, if_pos (dg_ge (by omega)), pX2_isPartWhole ha.1 ha.2, ob_some, hw]) (fun fuel k hk hr => by
    (try dsimp only at hr ⊢)
    have ha := tx_au_le (tc := tc) k
    have hc := ht.2 k hk
    have c1 : zi (tx_au tc k) = (-1 : Int32) ↔ tx_au tc k = -1 := zi_eq (b := -1) (by omega) (by omega) (by omega) (by omega)
    rw [fX2_isComplete_4, hX.1, if_neg (dg_lt hk (by omega)), zi_n (by omega) (by omega), zi_Tn (by omega), hX.2 k hk, pX2_placeBehind ha.1 ha.2 (by omega) (by omega), ob_some, ← tx_au, zi_suc, hr]
    by_cases e : tx_au tc k = -1
    · have hn : tx_au tc n = -1 := by
        have := tx_au_stick e (n - k)
        rwa [show k + (n - k) = n by omega] at this
      rw [if_pos (c1.mpr e), pX2_isPartWhole ha.1 ha.2, ob_some, hw, e, hn]
    · rw [if_neg (fun q => e (c1.mp q))]) 0 512 (by omega) (by omega)
  exact this
