/-! texts: the tasks of a text are added -/
def tx_lo (m : Int32) (s : Nat) : Prop := ∀ i, s ≤ i → bt m i = false
def tx_ow (n0 : Nat) (W : tw_V) : Prop := sp_n W ≤ 12 ∧ ∀ t, n0 ≤ t → t < sp_n W → tx_lo (sp_msk W t) t
def tx_fl (V : tw_V) (tc : Nat → Int) (k : Nat) : Prop := (tx_au tc k = 0 ∧ 12 ≤ sp_n (tx_wk V tc k)) ∨ (7 ≤ tx_au tc k ∧ tc k ≠ 59 ∧ (sp_n (tx_wk V tc k) : Int) ≤ tc k - 97)
theorem tx_ow_ap {n0 : Nat} {W : tw_V} {p : tx_D} (h0 : n0 ≤ sp_n W) : tx_ow n0 (tx_ap W p) ↔ tx_ow n0 W ∧ sp_n W < 12 ∧ tx_lo p.2.2.2 (sp_n W) := by
  have hm1 : sp_msk (tx_ap W p) (sp_n W) = p.2.2.2 := sp_app_m1
  have hm : ∀ t, t ≠ sp_n W → sp_msk (tx_ap W p) t = sp_msk W t := fun t h => sp_app_m h
  have hn : sp_n (tx_ap W p) = sp_n W + 1 := rfl
  unfold tx_ow
  rw [hn]
  constructor
  · intro h
    refine ⟨⟨by omega, fun t h1 h2 => ?_⟩, by omega, ?_⟩
    · have := h.2 t h1 (by omega)
      rwa [hm t (by omega)] at this
    · have := h.2 (sp_n W) h0 (by omega)
      rwa [hm1] at this
  · intro h
    refine ⟨by omega, fun t h1 h2 => ?_⟩
    by_cases e : t = sp_n W
    · subst e; rw [hm1]; exact h.2.2
    · rw [hm t e]; exact h.1.2 t h1 (by omega)
theorem tx_wk_n {V : tw_V} {tc : Nat → Int} : ∀ k, sp_n V ≤ sp_n (tx_wk V tc k)
  | 0 => Nat.le_refl _
  | k + 1 => by
    rw [tx_wk]
    by_cases e : tc k = 59
    · rw [if_pos e]; exact Nat.le_succ_of_le (tx_wk_n k)
    · rw [if_neg e]; exact tx_wk_n k
def tx_Q (V : tw_V) (tc : Nat → Int) (k : Nat) : Prop := tx_ow (sp_n V) (tx_wk V tc k) ∧ (tx_au tc k ≠ 0 → tx_ow (sp_n V) (tx_ap (tx_wk V tc k) (tx_pd tc k)))
theorem tx_lo_or {m : Int32} {c : Int} (h0 : 97 ≤ c) (h1 : c ≤ 108) {s : Nat} : tx_lo (m ||| ((1 : Int32) <<< (zi (c - 97) &&& 31))) s ↔ tx_lo m s ∧ ¬ (s : Int) ≤ c - 97 := by
  constructor
  · intro h
    constructor
    · intro i hi
      rcases Nat.lt_or_ge i 32 with h32 | h32
      · have := h i hi
        rw [tx_bit h0 h1 h32, Bool.or_eq_false_iff] at this
        exact this.1
      · exact b_big h32
    · intro hs
      have := h (c - 97).toNat (by omega)
      rw [tx_bit h0 h1 (by omega), decide_eq_true rfl, Bool.or_true] at this
      exact absurd this (by decide)
  · intro h i hi
    rcases Nat.lt_or_ge i 32 with h32 | h32
    · rw [tx_bit h0 h1 h32, h.1 i hi, decide_eq_false (by have := h.2; omega)]
      rfl
    · exact b_big h32
theorem tx_pb_59 {q : Int} (h : tx_pb q 59 ≠ -1) : 4 ≤ q ∧ q ≠ 7 := by
  unfold tx_pb at h
  rw [if_pos rfl] at h
  by_cases e : q < 4 ∨ q = 7
  · rw [if_pos e] at h; exact absurd rfl h
  · omega
theorem tx_pb_7 {q c : Int} (hq : 7 ≤ q) (h59 : c ≠ 59) (h : tx_pb q c ≠ -1) : q - 7 ≤ c - 97 ∧ c - 97 < 12 := by
  rcases Classical.em (q - 7 ≤ c - 97 ∧ c - 97 < 12) with e | e
  · exact e
  · exact absurd (pb_7n hq h59 e) h
theorem tx_Q_step {V : tw_V} {tc : Nat → Int} {k : Nat} (ha : tx_au tc (k + 1) ≠ -1) : tx_Q V tc (k + 1) ↔ tx_Q V tc k ∧ ¬ tx_fl V tc k := by
  have hk : tx_au tc k ≠ -1 := tx_au_back ha (by omega)
  have hl := tx_au_le (tc := tc) k
  have hn := tx_wk_n (V := V) (tc := tc) k
  have hau : tx_au tc (k + 1) = tx_pb (tx_au tc k) (tc k) := rfl
  unfold tx_Q
  by_cases e : tc k = 59
  · have h4 : 4 ≤ tx_au tc k ∧ tx_au tc k ≠ 7 := tx_pb_59 (by rw [hau, e] at ha; exact ha)
    have h0 : tx_au tc (k + 1) = 0 := by
      rw [hau, e]
      unfold tx_pb
      rw [if_pos rfl, if_neg (by omega)]
    have hf : ¬ tx_fl V tc k := by unfold tx_fl; omega
    rw [tx_wk, if_pos e]
    constructor
    · intro h
      exact ⟨⟨((tx_ow_ap hn).mp h.1).1, fun _ => h.1⟩, hf⟩
    · intro h
      exact ⟨h.1.2 (by omega), fun q => absurd h0 q⟩
  · have h1 : tx_au tc (k + 1) ≠ 0 := fun q => e (tx_pb_0 (hau ▸ q))
    rw [tx_wk, if_neg e, tx_ow_ap hn, tx_ow_ap hn]
    by_cases q0 : tx_au tc k = 0
    · have hp : tx_pd tc (k + 1) = tx_d0 := by rw [tx_pd, if_neg e, if_neg (by omega), if_neg (by omega), if_neg (by omega), if_neg (by omega), tx_pd_0 q0]
      rw [hp]
      have hf : ¬ tx_fl V tc k ↔ sp_n (tx_wk V tc k) < 12 := by unfold tx_fl; omega
      rw [hf]
      constructor
      · intro h
        exact ⟨⟨h.1, fun q => absurd q0 q⟩, (h.2 h1).2.1⟩
      · intro h
        exact ⟨h.1.1, fun _ => ⟨h.1.1, h.2, fun i _ => b_0 i⟩⟩
    · by_cases q7 : 7 ≤ tx_au tc k
      · have hr := tx_pb_7 q7 e (hau ▸ ha)
        have hp : (tx_pd tc (k + 1)).2.2.2 = (tx_pd tc k).2.2.2 ||| ((1 : Int32) <<< (zi (tc k - 97) &&& 31)) := by rw [tx_pd, if_neg e, if_neg (by omega), if_neg (by omega), if_neg (by omega), if_pos q7]
        rw [hp, tx_lo_or (by omega) (by omega)]
        have hf : ¬ tx_fl V tc k ↔ ¬ (sp_n (tx_wk V tc k) : Int) ≤ tc k - 97 := by
          unfold tx_fl
          constructor
          · intro h q; exact h (Or.inr ⟨q7, e, q⟩)
          · rintro h (q | q)
            · exact q0 q.1
            · exact h q.2.2
        rw [hf]
        constructor
        · intro h
          have := h.2 h1
          exact ⟨⟨h.1, fun _ => ⟨this.1, this.2.1, this.2.2.1⟩⟩, this.2.2.2⟩
        · intro h
          have := h.1.2 q0
          exact ⟨h.1.1, fun _ => ⟨this.1, this.2.1, this.2.2, h.2⟩⟩
      · have hp : (tx_pd tc (k + 1)).2.2.2 = (tx_pd tc k).2.2.2 := by
          rw [tx_pd, if_neg e]
          by_cases r1 : tx_au tc k = 1
          · rw [if_pos r1]
          · rw [if_neg r1]
            by_cases r2 : tx_au tc k = 2
            · rw [if_pos r2]
            · rw [if_neg r2]
              by_cases r3 : tx_au tc k = 3
              · rw [if_pos r3]
              · rw [if_neg r3, if_neg q7]
        have hf : ¬ tx_fl V tc k := by unfold tx_fl; omega
        rw [hp]
        constructor
        · intro h
          exact ⟨⟨h.1, fun _ => h.2 h1⟩, hf⟩
        · intro h
          exact ⟨h.1.1, fun _ => h.1.2 q0⟩
theorem tx_Q_all {V : tw_V} {tc : Nat → Int} (hV : sp_n V ≤ 12) : ∀ k, tx_au tc k ≠ -1 → (tx_Q V tc k ↔ ∀ j, j < k → ¬ tx_fl V tc j)
  | 0, _ => ⟨fun _ j hj => absurd hj (Nat.not_lt_zero j), fun _ => ⟨⟨hV, fun t h1 h2 => absurd h2 (Nat.not_lt.mpr h1)⟩, fun q => absurd rfl q⟩⟩
  | k + 1, h => by
    rw [tx_Q_step h, tx_Q_all hV k (tx_au_back h (by omega))]
    constructor
    · intro q j hj
      by_cases e : j = k
      · subst e; exact q.2
      · exact q.1 j (by omega)
    · intro q
      exact ⟨fun j hj => q j (by omega), q k (by omega)⟩
theorem tx_wf_ow {V : tw_V} {tc : Nat → Int} (hV : sp_n V ≤ 12) {n : Nat} (h4 : 4 ≤ tx_au tc n) : tx_ow (sp_n V) (tx_wf V tc n) ↔ ∀ j, j < n → ¬ tx_fl V tc j := by
  rw [← tx_Q_all hV n (by omega)]
  unfold tx_Q tx_wf
  constructor
  · intro h
    exact ⟨((tx_ow_ap (tx_wk_n n)).mp h).1, fun _ => h⟩
  · intro h
    exact h.2 (by omega)
theorem tx_ok6 {V : tw_V} {tc : Nat → Int} (hV : sp_ok6 V) : ∀ k, tx_au tc k ≠ -1 → tx_ow (sp_n V) (tx_wk V tc k) → sp_ok6 (tx_wk V tc k)
  | 0, _, _ => hV
  | k + 1, h, ho => by
    have hk : tx_au tc k ≠ -1 := tx_au_back h (by omega)
    rw [tx_wk] at ho ⊢
    by_cases e : tc k = 59
    · rw [if_pos e] at ho ⊢
      obtain ⟨h1, h2, h3⟩ := (tx_ow_ap (tx_wk_n k)).mp ho
      obtain ⟨d1, d2, d3, -⟩ := tx_pd_ok k hk
      exact sp_app_ok (tx_ok6 hV k hk h1) h2 d1 d2 d3 h3
    · rw [if_neg e] at ho ⊢
      exact tx_ok6 hV k hk ho
theorem tx_wf_ok {V : tw_V} {tc : Nat → Int} (hV : sp_ok6 V) {n : Nat} (h4 : 4 ≤ tx_au tc n) (ho : tx_ow (sp_n V) (tx_wf V tc n)) : sp_ok6 (tx_wf V tc n) := by
  obtain ⟨h1, h2, h3⟩ := (tx_ow_ap (tx_wk_n n)).mp ho
  obtain ⟨d1, d2, d3, -⟩ := tx_pd_ok (tc := tc) n (by omega)
  exact sp_app_ok (tx_ok6 hV n (by omega) h1) h2 d1 d2 d3 h3
/-! the class reads a task, code by code -/
theorem sp_RS_apa {S : tw_St} {W : tw_V} {a b c a' : Int} {m : Int32} (h : sp_RS S (sp_app W a b c m)) : sp_RS (upd S.1 (sp_n W) (zi a'), S.2) (sp_app W a' b c m) := by
  refine ⟨h.1, h.2.1, fun t ht => ?_, h.2.2.2⟩
  obtain ⟨q0, q1, q2, q3, q4⟩ := h.2.2.1 t ht
  refine ⟨?_, q1, q2, q3, q4⟩
  unfold sp_len at q0 ⊢
  by_cases e : t = W.1
  · subst e; rw [sp_app_0]; exact upd_s
  · rw [sp_app_o e] at q0 ⊢; exact (upd_n e).trans q0
theorem sp_RS_apb {S : tw_St} {W : tw_V} {a b c b' : Int} {m : Int32} (h : sp_RS S (sp_app W a b c m)) : sp_RS (S.1, upd S.2.1 (sp_n W) (zi b'), S.2.2) (sp_app W a b' c m) := by
  refine ⟨h.1, h.2.1, fun t ht => ?_, h.2.2.2⟩
  obtain ⟨q0, q1, q2, q3, q4⟩ := h.2.2.1 t ht
  refine ⟨q0, ?_, q2, q3, q4⟩
  unfold sp_per at q1 ⊢
  by_cases e : t = W.1
  · subst e; rw [sp_app_1]; exact upd_s
  · rw [sp_app_o e] at q1 ⊢; exact (upd_n e).trans q1
theorem sp_RS_apc {S : tw_St} {W : tw_V} {a b c c' : Int} {m : Int32} (h : sp_RS S (sp_app W a b c m)) : sp_RS (S.1, S.2.1, upd S.2.2.1 (sp_n W) (zi c'), S.2.2.2) (sp_app W a b c' m) := by
  refine ⟨h.1, h.2.1, fun t ht => ?_, h.2.2.2⟩
  obtain ⟨q0, q1, q2, q3, q4⟩ := h.2.2.1 t ht
  refine ⟨q0, q1, ?_, q3, q4⟩
  unfold sp_hal at q2 ⊢
  by_cases e : t = W.1
  · subst e; rw [sp_app_2]; exact upd_s
  · rw [sp_app_o e] at q2 ⊢; exact (upd_n e).trans q2
theorem sp_RS_apm {S : tw_St} {W : tw_V} {a b c : Int} {m m' : Int32} (h : sp_RS S (sp_app W a b c m)) : sp_RS (S.1, S.2.1, S.2.2.1, S.2.2.2.1, upd S.2.2.2.2.1 (sp_n W) m', S.2.2.2.2.2) (sp_app W a b c m') := by
  refine ⟨h.1, h.2.1, fun t ht => ?_, h.2.2.2⟩
  obtain ⟨q0, q1, q2, q3, q4⟩ := h.2.2.1 t ht
  refine ⟨q0, q1, q2, q3, ?_⟩
  unfold sp_msk at q4 ⊢
  by_cases e : t = W.1
  · subst e; rw [sp_app_m1]; exact upd_s
  · rw [sp_app_m e] at q4 ⊢; exact (upd_n e).trans q4
theorem px_read {V : tw_V} {tc : Nat → Int} {S : tw_St} {k : Nat} (h33 : 33 ≤ tc k ∧ tc k ≤ 126) (hS : sp_RS S (tx_ap (tx_wk V tc k) (tx_pd tc k))) (hn : sp_n (tx_wk V tc k) < 12) (h0 : tx_au tc k ≠ 0) (ha : tx_au tc (k + 1) ≠ -1) : (∃ S', fX2_readInto S (zi (tx_au tc k)) (zi (tc k)) = some (1, S') ∧ ¬ tx_fl V tc k ∧ (tc k = 59 → S' = S) ∧ (tc k ≠ 59 → sp_RS S' (tx_ap (tx_wk V tc (k + 1)) (tx_pd tc (k + 1))))) ∨ (∃ S', fX2_readInto S (zi (tx_au tc k)) (zi (tc k)) = some (0, S') ∧ tx_fl V tc k) := by
  have hk : tx_au tc k ≠ -1 := tx_au_back ha (by omega)
  have hl := tx_au_le (tc := tc) k
  have hau : tx_au tc (k + 1) = tx_pb (tx_au tc k) (tc k) := rfl
  have hsz : S.2.2.2.2.2.2.2.1 - (1 : Int32) = zi (sp_n (tx_wk V tc k)) := by
    have : S.2.2.2.2.2.2.2.1 = zi ((sp_n (tx_wk V tc k) + 1 : Nat) : Int) := hS.1
    rw [this, zi_nm1 (by omega)]
    rfl
  have c0 : (0 : Int32) ≤ zi (sp_n (tx_wk V tc k) : Int) := (zi_le (a := 0) (by omega) (by omega) (by omega) (by omega)).mpr (by omega)
  have q1 : zi (tx_au tc k) = (1 : Int32) ↔ tx_au tc k = 1 := zi_eq (b := 1) (by omega) (by omega) (by omega) (by omega)
  have q2 : zi (tx_au tc k) = (2 : Int32) ↔ tx_au tc k = 2 := zi_eq (b := 2) (by omega) (by omega) (by omega) (by omega)
  have q3 : zi (tx_au tc k) = (3 : Int32) ↔ tx_au tc k = 3 := zi_eq (b := 3) (by omega) (by omega) (by omega) (by omega)
  have q7 : zi (tx_au tc k) < (7 : Int32) ↔ tx_au tc k < 7 := zi_lt (b := 7) (by omega) (by omega) (by omega) (by omega)
  have q59 : zi (tc k) = (59 : Int32) ↔ tc k = 59 := zi_eq (b := 59) (by omega) (by omega) (by omega) (by omega)
  have s48 : zi (tc k) - (48 : Int32) = zi (tc k - 48) := zi_sub (tc k) 48
  have l1 : zi (tc k - 97) < zi (sp_n (tx_wk V tc k) : Int) ↔ tc k - 97 < sp_n (tx_wk V tc k) := zi_lt (by omega) (by omega) (by omega) (by omega)
  have g : ∀ {α : Type} (y : Option α), tw_g (zi (sp_n (tx_wk V tc k) : Int)) 12 y = y := fun y => zi_n hn (by omega) y
  unfold fX2_readInto
  rw [hsz, if_pos c0, s48, zi_m97, g, g, g, g, g, zi_Tn (by omega)]
  by_cases e : tc k = 59
  · have h4 : 4 ≤ tx_au tc k ∧ tx_au tc k ≠ 7 := tx_pb_59 (by rw [hau, e] at ha; exact ha)
    have hf : ¬ tx_fl V tc k := by unfold tx_fl; omega
    rw [if_pos (fun q => absurd (q1.mp q) (by omega)), if_pos (fun q => absurd (q2.mp q) (by omega)), if_pos (fun q => absurd (q3.mp q) (by omega))]
    by_cases e7 : tx_au tc k < 7
    · rw [if_pos (q7.mpr e7)]
      exact Or.inl ⟨S, rfl, hf, fun _ => rfl, fun q => absurd e q⟩
    · rw [if_neg (fun q => e7 (q7.mp q)), if_pos (q59.mpr e)]
      exact Or.inl ⟨S, rfl, hf, fun _ => rfl, fun q => absurd e q⟩
  · have hw : tx_wk V tc (k + 1) = tx_wk V tc k := by rw [tx_wk, if_neg e]
    rw [hw, tx_pd, if_neg e]
    by_cases r1 : tx_au tc k = 1
    · rw [if_neg (fun q => q (q1.mpr r1)), if_pos r1]
      exact Or.inl ⟨_, rfl, by unfold tx_fl; omega, fun q => absurd q e, fun _ => sp_RS_apa hS⟩
    · rw [if_pos (fun q => r1 (q1.mp q)), if_neg r1]
      by_cases r2 : tx_au tc k = 2
      · rw [if_neg (fun q => q (q2.mpr r2)), if_pos r2]
        exact Or.inl ⟨_, rfl, by unfold tx_fl; omega, fun q => absurd q e, fun _ => sp_RS_apb hS⟩
      · rw [if_pos (fun q => r2 (q2.mp q)), if_neg r2]
        by_cases r3 : tx_au tc k = 3
        · rw [if_neg (fun q => q (q3.mpr r3)), if_pos r3]
          exact Or.inl ⟨_, rfl, by unfold tx_fl; omega, fun q => absurd q e, fun _ => sp_RS_apc hS⟩
        · rw [if_pos (fun q => r3 (q3.mp q)), if_neg r3]
          by_cases r7 : tx_au tc k < 7
          · rw [if_pos (q7.mpr r7), if_neg (by omega)]
            exact Or.inl ⟨S, rfl, by unfold tx_fl; omega, fun q => absurd q e, fun _ => hS⟩
          · have hr := tx_pb_7 (q := tx_au tc k) (by omega) e (hau ▸ ha)
            rw [if_neg (fun q => r7 (q7.mp q)), if_neg (fun q => e (q59.mp q)), if_pos (show 7 ≤ tx_au tc k by omega)]
            have hmk : S.2.2.2.2.1 (sp_n (tx_wk V tc k)) = (tx_pd tc k).2.2.2 := by
              have := (hS.2.2.1 (sp_n (tx_wk V tc k)) (Nat.lt_succ_self _)).2.2.2.2
              rw [this]
              exact sp_app_m1
            by_cases rl : tc k - 97 < sp_n (tx_wk V tc k)
            · rw [if_pos (l1.mpr rl), hmk]
              exact Or.inl ⟨_, rfl, by unfold tx_fl; omega, fun q => absurd q e, fun _ => sp_RS_apm hS⟩
            · rw [if_neg (fun q => rl (l1.mp q))]
              exact Or.inr ⟨S, rfl, Or.inr ⟨by omega, e, by omega⟩⟩
theorem px_add {X : tw_Tx} {V : tw_V} {n : Nat} {tc : Nat → Int} (hX : sp_T X.1 X.2 n tc) (ht : tx_ok n tc) (h4 : 4 ≤ tx_au tc n) : ∀ (m k fuel : Nat) (S : tw_St), k + m = n → m < fuel → (tx_au tc k = 0 → sp_RS S (tx_wk V tc k)) → (tx_au tc k ≠ 0 → sp_RS S (tx_ap (tx_wk V tc k) (tx_pd tc k)) ∧ sp_n (tx_wk V tc k) < 12) → sp_n (tx_wk V tc k) ≤ 12 → (∃ S', fX2_addTasksTo_4 X fuel (zi (tx_au tc k)) (zi k) S = some (1, S') ∧ sp_RS S' (tx_wf V tc n) ∧ ∀ j, k ≤ j → j < n → ¬ tx_fl V tc j) ∨ (∃ S', fX2_addTasksTo_4 X fuel (zi (tx_au tc k)) (zi k) S = some (0, S') ∧ ∃ j, k ≤ j ∧ j < n ∧ tx_fl V tc j) := by
  intro m
  induction m with
  | zero =>
    intro k fuel S h1 h2 hS0 hS1 hn
    have h60 := ht.1
    obtain ⟨fuel, rfl⟩ : ∃ f, fuel = f + 1 := ⟨fuel - 1, by omega⟩
    have : k = n := by omega
    subst this
    rw [fX2_addTasksTo_4, hX.1, if_pos (dg_ge (by omega))]
    exact Or.inl ⟨S, rfl, (hS1 (by omega)).1, fun j a b => by omega⟩
  | succ m ih =>
    intro k fuel S h1 h2 hS0 hS1 hn
    have h60 := ht.1
    obtain ⟨fuel, rfl⟩ : ∃ f, fuel = f + 1 := ⟨fuel - 1, by omega⟩
    have hc := ht.2 k (by omega)
    have hl := tx_au_le (tc := tc) k
    have ha : tx_au tc (k + 1) ≠ -1 := tx_au_back (n := n) (by omega) (by omega)
    have hau : tx_au tc (k + 1) = tx_pb (tx_au tc k) (tc k) := rfl
    have c0 : zi (tx_au tc k) = (0 : Int32) ↔ tx_au tc k = 0 := zi_eq (b := 0) (by omega) (by omega) (by omega) (by omega)
    have h53 : ∀ S' : tw_St, fX2_addTasksTo_53 X (fX2_addTasksTo_4 X fuel) (zi (tx_au tc k)) (zi (k : Int)) S' = fX2_addTasksTo_4 X fuel (zi (tx_au tc (k + 1))) (zi ((k + 1 : Nat) : Int)) S' := fun S' => by
      unfold fX2_addTasksTo_53
      rw [zi_n (by omega) (by omega), zi_Tn (by omega), hX.2 k (by omega), pX2_placeBehind hl.1 hl.2 (by omega) (by omega), ob_some, zi_suc, hau]
    rw [fX2_addTasksTo_4, hX.1, if_neg (dg_lt (show k < n by omega) (by omega))]
    by_cases e0 : tx_au tc k = 0
    · have hS := hS0 e0
      have e59 : tc k ≠ 59 := fun q => by
        rw [hau, e0, q] at ha
        exact ha (pb_59 (Or.inl (by omega)))
      have c12 : zi (sp_n (tx_wk V tc k) : Int) < (12 : Int32) ↔ (sp_n (tx_wk V tc k) : Int) < 12 := zi_lt (b := 12) (by omega) (by omega) (by omega) (by omega)
      rw [if_neg (fun q => q (c0.mpr e0)), hS.1]
      by_cases e12 : sp_n (tx_wk V tc k) < 12
      · have hf : ¬ tx_fl V tc k := by unfold tx_fl; omega
        obtain ⟨S', t1, t2⟩ := pX1_appendTask hS e12 1 (-1) (-1)
        rw [if_pos (c12.mpr (by omega)), show fX1_appendTask S (1 : Int32) (-1 : Int32) (-1 : Int32) = _ from t1, ob_some, h53]
        have hp : tx_pd tc (k + 1) = tx_d0 := by rw [tx_pd, if_neg e59, if_neg (by omega), if_neg (by omega), if_neg (by omega), if_neg (by omega), tx_pd_0 e0]
        have hw : tx_wk V tc (k + 1) = tx_wk V tc k := by rw [tx_wk, if_neg e59]
        have hne : tx_au tc (k + 1) ≠ 0 := fun q => e59 (tx_pb_0 (hau ▸ q))
        rcases ih (k + 1) fuel S' (by omega) (by omega) (fun q => absurd q hne) (fun _ => by rw [hp, hw]; exact ⟨t2, e12⟩) (by rw [hw]; exact hn) with ⟨S2, a, b, c⟩ | ⟨S2, a, j, b, c⟩
        · refine Or.inl ⟨S2, a, b, fun j q1 q2 => ?_⟩
          by_cases e : j = k
          · subst e; exact hf
          · exact c j (by omega) q2
        · exact Or.inr ⟨S2, a, j, by omega, c⟩
      · rw [if_neg (fun q => absurd (c12.mp q) (by omega))]
        exact Or.inr ⟨S, rfl, k, Nat.le_refl k, by omega, Or.inl ⟨e0, by omega⟩⟩
    · obtain ⟨hS, e12⟩ := hS1 e0
      rw [if_pos (fun q => e0 (c0.mp q)), zi_n (by omega) (by omega), zi_Tn (by omega), hX.2 k (by omega)]
      rcases px_read hc hS e12 e0 ha with ⟨S', r1, hf, r2, r3⟩ | ⟨S', r1, hf⟩
      · rw [r1, ob_some, if_pos (by first | exact i1n0 | rfl | decide)]
        (try dsimp only)
        rw [h53]
        have hrec : (tx_au tc (k + 1) = 0 → sp_RS S' (tx_wk V tc (k + 1))) ∧ (tx_au tc (k + 1) ≠ 0 → sp_RS S' (tx_ap (tx_wk V tc (k + 1)) (tx_pd tc (k + 1))) ∧ sp_n (tx_wk V tc (k + 1)) < 12) ∧ sp_n (tx_wk V tc (k + 1)) ≤ 12 := by
          by_cases e59 : tc k = 59
          · have h40 : 4 ≤ tx_au tc k ∧ tx_au tc k ≠ 7 := tx_pb_59 (by rw [hau, e59] at ha; exact ha)
            have h00 : tx_au tc (k + 1) = 0 := by
              rw [hau, e59]
              unfold tx_pb
              rw [if_pos rfl, if_neg (by omega)]
            have hw : tx_wk V tc (k + 1) = tx_ap (tx_wk V tc k) (tx_pd tc k) := by rw [tx_wk, if_pos e59]
            rw [hw, r2 e59]
            exact ⟨fun _ => hS, fun q => absurd h00 q, e12⟩
          · have hw : tx_wk V tc (k + 1) = tx_wk V tc k := by rw [tx_wk, if_neg e59]
            have hne : tx_au tc (k + 1) ≠ 0 := fun q => e59 (tx_pb_0 (hau ▸ q))
            have r4 := r3 e59
            rw [hw] at r4 ⊢
            exact ⟨fun q => absurd q hne, fun _ => ⟨r4, e12⟩, hn⟩
        rcases ih (k + 1) fuel S' (by omega) (by omega) hrec.1 hrec.2.1 hrec.2.2 with ⟨S2, a, b, c⟩ | ⟨S2, a, j, b, c⟩
        · refine Or.inl ⟨S2, a, b, fun j q1 q2 => ?_⟩
          by_cases e : j = k
          · subst e; exact hf
          · exact c j (by omega) q2
        · exact Or.inr ⟨S2, a, j, by omega, c⟩
      · rw [r1, ob_some, if_neg (by first | exact i1n0 | exact fun q => q rfl | decide)]
        exact Or.inr ⟨S', rfl, k, Nat.le_refl k, by omega, hf⟩
