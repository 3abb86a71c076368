/-! saved states -/
def sp_perm (f : Nat → Nat) : Prop := (∀ i, i < 6 → f i < 6) ∧ ∀ i j, i < 6 → j < 6 → f i = f j → i = j
/-- what the class holds of its k saved states -/
def sp_SV (sc : Int32) (Z : Nat → tw_St) (pi : Nat → Nat) (k : Nat) (Vs : Nat → tw_V) : Prop := sc = zi k ∧ k ≤ 6 ∧ sp_perm pi ∧ ∀ i, i < k → sp_RS (Z (pi i)) (Vs i)
def sp_nk (k : Nat) : Nat := if k < 6 then k + 1 else 6
def sp_psh (k : Nat) (Vs : Nat → tw_V) (V : tw_V) : Nat → tw_V := fun i => if k < 6 then (if i = k then V else Vs i) else (if i < 5 then Vs (i + 1) else V)
theorem sp_in6 {k : Nat} (h : k < 6) : tw_g (zi (k : Int)) 6 = fun (x : Option tw_Wl) => x := by
  funext x
  exact zi_g (by omega) (by omega) (by omega)
theorem pX3_saveState_13 {W : tw_Wl} {V : tw_V} {k : Nat} {Vs : Nat → tw_V} (h : sp_RS W.1 V) (hV : sp_ok V) (hk : k < 6) (hs : sp_SV W.2.2.2.2.2.2.1 W.2.2.2.2.2.2.2.1 W.2.2.2.2.2.2.2.2 k Vs) : ∃ sc Z pi, fX3_saveState_13 W = some (W.1, W.2.1, W.2.2.1, W.2.2.2.1, W.2.2.2.2.1, W.2.2.2.2.2.1, sc, Z, pi) ∧ sp_SV sc Z pi (k + 1) (fun i => if i = k then V else Vs i) := by
  obtain ⟨h1, h2, h3, h4⟩ := hs
  obtain ⟨S', e1, e2⟩ := pX1_copyFrom h hV (W.2.2.2.2.2.2.2.1 (W.2.2.2.2.2.2.2.2 k))
  unfold fX3_saveState_13
  rw [h1, zi_g (by omega) (by omega) (by omega), zi_Tn (by omega), zi_q (h3.1 k hk), e1, ob_some]
  refine ⟨_, _, _, rfl, by rw [z1, zi_add]; rfl, by omega, h3, fun i hi => ?_⟩
  by_cases e : i = k
  · subst e; show sp_RS (va_up _ _ _ _) (if i = i then V else Vs i); rw [va_up_s, if_pos rfl]; exact e2
  · show sp_RS (va_up _ _ _ _) (if i = k then V else Vs i)
    rw [va_up_n (fun q => e (h3.2 i k (by omega) hk q)), if_neg e]
    exact h4 i (by omega)
/-- the order of the saved states when the oldest one has gone -/
def sp_rot (f : Nat → Nat) : Nat → Nat := fun i => if i < 5 then f (i + 1) else if i = 5 then f 0 else f i
theorem sp_rot_perm {f : Nat → Nat} (h : sp_perm f) : sp_perm (sp_rot f) := by
  refine ⟨fun i hi => ?_, fun i j hi hj e => ?_⟩
  · unfold sp_rot
    split
    · exact h.1 _ (by omega)
    · rw [if_pos (by omega)]; exact h.1 0 (by omega)
  · unfold sp_rot at e
    by_cases a : i < 5 <;> by_cases b : j < 5
    · rw [if_pos a, if_pos b] at e
      have := h.2 _ _ (by omega) (by omega) e
      omega
    · rw [if_pos a, if_neg b, if_pos (by omega)] at e
      have := h.2 _ _ (by omega) (by omega) e
      omega
    · rw [if_neg a, if_pos (by omega), if_pos b] at e
      have := h.2 _ _ (by omega) (by omega) e
      omega
    · omega
theorem pX3_dropOldest {W : tw_Wl} (h : sp_perm W.2.2.2.2.2.2.2.2) : fX3_dropOldest W = some (W.1, W.2.1, W.2.2.1, W.2.2.2.1, W.2.2.2.2.1, W.2.2.2.2.2.1, zi 5, W.2.2.2.2.2.2.2.1, sp_rot W.2.2.2.2.2.2.2.2) := by
  have a0 := h.1 0 (by omega)
  have a1 := h.1 1 (by omega)
  have a2 := h.1 2 (by omega)
  have a3 := h.1 3 (by omega)
  have a4 := h.1 4 (by omega)
  have a5 := h.1 5 (by omega)
  unfold fX3_dropOldest
  have t0 : (0 : Int32).toNatClampNeg = 0 := rfl
  have t1 : (1 : Int32).toNatClampNeg = 1 := rfl
  have t2 : ((1 : Int32) + 1).toNatClampNeg = 2 := rfl
  have t3 : (((1 : Int32) + 1) + 1).toNatClampNeg = 3 := rfl
  have t4 : ((((1 : Int32) + 1) + 1) + 1).toNatClampNeg = 4 := rfl
  have t5 : (((((1 : Int32) + 1) + 1) + 1) + 1).toNatClampNeg = 5 := rfl
  have u0 : ((1 : Int32) - (1 : Int32)).toNatClampNeg = 0 := rfl
  have u1 : (((1 : Int32) + 1) - (1 : Int32)).toNatClampNeg = 1 := rfl
  have u2 : ((((1 : Int32) + 1) + 1) - (1 : Int32)).toNatClampNeg = 2 := rfl
  have u3 : (((((1 : Int32) + 1) + 1) + 1) - (1 : Int32)).toNatClampNeg = 3 := rfl
  have u4 : ((((((1 : Int32) + 1) + 1) + 1) + 1) - (1 : Int32)).toNatClampNeg = 4 := rfl
  have u5 : (5 : Int32).toNatClampNeg = 5 := rfl
  simp only [t0, t1, t2, t3, t4, t5, u0, u1, u2, u3, u4, u5]
  have n : ∀ (f : Nat → Nat) (k j x : Nat), j ≠ k → va_up f k x j = f j := fun f k j x q => va_up_n q
  simp only [n _ _ _ _ (show (2 : Nat) ≠ 0 by decide), n _ _ _ _ (show (3 : Nat) ≠ 0 by decide), n _ _ _ _ (show (3 : Nat) ≠ 1 by decide), n _ _ _ _ (show (4 : Nat) ≠ 0 by decide), n _ _ _ _ (show (4 : Nat) ≠ 1 by decide), n _ _ _ _ (show (4 : Nat) ≠ 2 by decide), n _ _ _ _ (show (5 : Nat) ≠ 0 by decide), n _ _ _ _ (show (5 : Nat) ≠ 1 by decide), n _ _ _ _ (show (5 : Nat) ≠ 2 by decide), n _ _ _ _ (show (5 : Nat) ≠ 3 by decide)]
  rw [zi_q a0, zi_q a1, zi_q a2, zi_q a3, zi_q a4, zi_q a5]
  have hr : va_up (va_up (va_up (va_up (va_up (va_up W.2.2.2.2.2.2.2.2 0 (W.2.2.2.2.2.2.2.2 1)) 1 (W.2.2.2.2.2.2.2.2 2)) 2 (W.2.2.2.2.2.2.2.2 3)) 3 (W.2.2.2.2.2.2.2.2 4)) 4 (W.2.2.2.2.2.2.2.2 5)) 5 (W.2.2.2.2.2.2.2.2 0) = sp_rot W.2.2.2.2.2.2.2.2 := by
    funext i
    unfold va_up sp_rot
    by_cases e5 : i = 5
    · subst e5; rfl
    · by_cases e4 : i = 4
      · subst e4; rfl
      · by_cases e3 : i = 3
        · subst e3; rfl
        · by_cases e2 : i = 2
          · subst e2; rfl
          · by_cases e1 : i = 1
            · subst e1; rfl
            · by_cases e0 : i = 0
              · subst e0; rfl
              · rw [if_neg e5, if_neg e4, if_neg e3, if_neg e2, if_neg e1, if_neg e0, if_neg (by omega), if_neg e5]
  rw [hr]
  rfl
theorem pX3_saveState {W : tw_Wl} {V : tw_V} {k : Nat} {Vs : Nat → tw_V} (h : sp_RS W.1 V) (hV : sp_ok V) (hs : sp_SV W.2.2.2.2.2.2.1 W.2.2.2.2.2.2.2.1 W.2.2.2.2.2.2.2.2 k Vs) : ∃ sc Z pi, fX3_saveState W = some (W.1, W.2.1, W.2.2.1, W.2.2.2.1, W.2.2.2.2.1, W.2.2.2.2.2.1, sc, Z, pi) ∧ sp_SV sc Z pi (sp_nk k) (sp_psh k Vs V) := by
  obtain ⟨h1, h2, h3, h4⟩ := id hs
  unfold fX3_saveState sp_nk sp_psh
  rw [h1, show (6 : Int32) = zi 6 from rfl, zif_lt (by omega) (by omega) (by omega) (by omega)]
  by_cases e : k < 6
  · simp only [if_pos e]
    rw [if_pos (by omega)]
    exact pX3_saveState_13 h hV e hs
  · have : k = 6 := by omega
    subst this
    simp only [if_neg e]
    rw [if_neg (by omega), pX3_dropOldest h3, ob_some]
    obtain ⟨sc, Z, pi, e1, e2⟩ := pX3_saveState_13 (W := (W.1, W.2.1, W.2.2.1, W.2.2.2.1, W.2.2.2.2.1, W.2.2.2.2.2.1, zi 5, W.2.2.2.2.2.2.2.1, sp_rot W.2.2.2.2.2.2.2.2)) (k := 5) (Vs := fun i => Vs (i + 1)) h hV (by omega) ⟨rfl, by omega, sp_rot_perm h3, fun i hi => by
      (try dsimp only)
      unfold sp_rot
      rw [if_pos hi]
      exact h4 (i + 1) (by omega)⟩
    refine ⟨sc, Z, pi, e1, e2.1, e2.2.1, e2.2.2.1, fun i hi => ?_⟩
    have h5 := e2.2.2.2 i hi
    (try dsimp only at h5 ⊢)
    by_cases q : i = 5
    · rw [if_pos q] at h5; rw [if_neg (by omega)]; exact h5
    · rw [if_neg q] at h5; rw [if_pos (by omega)]; exact h5
/-! the reference's -/
theorem zi_n {k : Nat} {n : Nat} (h : k < n) (hn : n < 1000) {α : Type} (x : Option α) : tw_g (zi (k : Int)) n x = x := zi_g (by omega) (by omega) hn
