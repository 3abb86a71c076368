/-! the changes of a wall, in the class's State and in the reference's array -/
def sp_app (V : tw_V) (a b c : Int) (m : Int32) : tw_V := (V.1 + 1, V.2.1, fun w t => if w < 4 ∧ t = V.1 then (if w = 0 then a else if w = 1 then b else if w = 2 then c else 0) else V.2.2.1 w t, fun t => if t = V.1 then m else V.2.2.2 t)
theorem sp_app_o {V : tw_V} {a b c : Int} {m : Int32} {w t : Nat} (h : t ≠ V.1) : (sp_app V a b c m).2.2.1 w t = V.2.2.1 w t := if_neg (fun q => h q.2)
theorem sp_app_h {V : tw_V} {a b c : Int} {m : Int32} {w t : Nat} (h : 4 ≤ w) : (sp_app V a b c m).2.2.1 w t = V.2.2.1 w t := if_neg (fun q => absurd q.1 (by omega))
theorem sp_app_m {V : tw_V} {a b c : Int} {m : Int32} {t : Nat} (h : t ≠ V.1) : (sp_app V a b c m).2.2.2 t = V.2.2.2 t := if_neg h
theorem sp_app_m1 {V : tw_V} {a b c : Int} {m : Int32} : (sp_app V a b c m).2.2.2 V.1 = m := if_pos rfl
theorem sp_app_0 {V : tw_V} {a b c : Int} {m : Int32} : (sp_app V a b c m).2.2.1 0 V.1 = a := if_pos ⟨by decide, rfl⟩
theorem sp_app_1 {V : tw_V} {a b c : Int} {m : Int32} : (sp_app V a b c m).2.2.1 1 V.1 = b := if_pos ⟨by decide, rfl⟩
theorem sp_app_2 {V : tw_V} {a b c : Int} {m : Int32} : (sp_app V a b c m).2.2.1 2 V.1 = c := if_pos ⟨by decide, rfl⟩
theorem sp_app_3 {V : tw_V} {a b c : Int} {m : Int32} : (sp_app V a b c m).2.2.1 3 V.1 = 0 := if_pos ⟨by decide, rfl⟩
theorem sp_app_ok {V : tw_V} (h : sp_ok6 V) (hn : sp_n V < 12) {a b c : Int} {m : Int32} (ha : 1 ≤ a ∧ a ≤ 9) (hb : -1 ≤ b ∧ b ≤ 5) (hc : -1 ≤ c ∧ c ≤ 3) (hm : ∀ i, sp_n V ≤ i → bt m i = false) : sp_ok6 (sp_app V a b c m) := by
  have key : ∀ t, t < V.1 + 1 → sp_okT (sp_app V a b c m) t ∧ sp_ear (sp_app V a b c m) t ≤ 60 := by
    intro t ht
    unfold sp_okT sp_len sp_per sp_hal sp_ear sp_bit sp_msk
    by_cases e : t = V.1
    · subst e
      rw [sp_app_0, sp_app_1, sp_app_2, sp_app_3, sp_app_m1]
      exact ⟨⟨ha.1, ha.2, hb.1, hb.2, hc.1, hc.2, by omega, by omega, hm⟩, by omega⟩
    · rw [sp_app_o e, sp_app_o e, sp_app_o e, sp_app_o e, sp_app_m e]
      exact ⟨h.1.2.2.2.1 t (show t < V.1 by omega), h.2 t (show t < V.1 by omega)⟩
  refine ⟨⟨?_, h.1.2.1, h.1.2.2.1, fun t ht => (key t ht).1, fun j hj => ?_⟩, fun t ht => (key t ht).2⟩
  · show V.1 + 1 ≤ 12
    have : V.1 < 12 := hn
    omega
  · unfold sp_okH sp_fst sp_lst
    rw [sp_app_h (by omega), sp_app_h (by omega)]
    exact h.1.2.2.2.2 j hj
theorem sp_app_RS {S : tw_St} {V : tw_V} (h : sp_RS S V) {a b c : Int} {m : Int32} : sp_RS (upd S.1 (sp_n V) (zi a), upd S.2.1 (sp_n V) (zi b), upd S.2.2.1 (sp_n V) (zi c), upd S.2.2.2.1 (sp_n V) 0, upd S.2.2.2.2.1 (sp_n V) m, S.2.2.2.2.2.1, S.2.2.2.2.2.2.1, zi ((sp_n V + 1 : Nat) : Int), S.2.2.2.2.2.2.2.2) (sp_app V a b c m) := by
  refine ⟨rfl, h.2.1, fun t ht => ?_, fun j hj => ?_⟩
  · have ht' : t < V.1 + 1 := ht
    unfold sp_len sp_per sp_hal sp_ear sp_msk sp_n
    (try dsimp only)
    by_cases e : t = V.1
    · subst e
      rw [sp_app_0, sp_app_1, sp_app_2, sp_app_3, sp_app_m1, upd_s, upd_s, upd_s, upd_s, upd_s]
      exact ⟨rfl, rfl, rfl, rfl, rfl⟩
    · rw [sp_app_o e, sp_app_o e, sp_app_o e, sp_app_o e, sp_app_m e, upd_n e, upd_n e, upd_n e, upd_n e, upd_n e]
      exact h.2.2.1 t (show t < V.1 by omega)
  · unfold sp_fst sp_lst
    rw [sp_app_h (by omega), sp_app_h (by omega)]
    exact h.2.2.2 j hj
theorem pX1_appendTask {S : tw_St} {V : tw_V} (h : sp_RS S V) (hn : sp_n V < 12) (a b c : Int) : ∃ S', fX1_appendTask S (zi a) (zi b) (zi c) = some S' ∧ sp_RS S' (sp_app V a b c 0) := by
  unfold fX1_appendTask
  rw [h.1, zi_n (by omega) (by omega), zi_n (by omega) (by omega), zi_n (by omega) (by omega), zi_n (by omega) (by omega), zi_n (by omega) (by omega), zi_Tn (by omega), zi_p1]
  exact ⟨_, rfl, sp_app_RS h⟩
/-! a mask of needs changed -/
def sp_ms (V : tw_V) (t : Nat) (m : Int32) : tw_V := (V.1, V.2.1, V.2.2.1, fun u => if u = t then m else V.2.2.2 u)
theorem sp_ms_ok {V : tw_V} (h : sp_ok6 V) {t : Nat} {m : Int32} (hm : ∀ i, t ≤ i → bt m i = false) : sp_ok6 (sp_ms V t m) := by
  refine ⟨⟨h.1.1, h.1.2.1, h.1.2.2.1, fun u hu => ?_, h.1.2.2.2.2⟩, h.2⟩
  obtain ⟨a1, a2, a3, a4, a5, a6, a7, a8, a9⟩ := h.1.2.2.2.1 u hu
  refine ⟨a1, a2, a3, a4, a5, a6, a7, a8, fun i hi => ?_⟩
  show bt (if u = t then m else V.2.2.2 u) i = false
  by_cases e : u = t
  · subst e; rw [if_pos rfl]; exact hm i hi
  · rw [if_neg e]; exact a9 i hi
theorem sp_ms_RS {S : tw_St} {V : tw_V} (h : sp_RS S V) {t : Nat} {m : Int32} : sp_RS (S.1, S.2.1, S.2.2.1, S.2.2.2.1, upd S.2.2.2.2.1 t m, S.2.2.2.2.2.1, S.2.2.2.2.2.2.1, S.2.2.2.2.2.2.2.1, S.2.2.2.2.2.2.2.2) (sp_ms V t m) := by
  refine ⟨h.1, h.2.1, fun u hu => ?_, h.2.2.2⟩
  obtain ⟨a1, a2, a3, a4, a5⟩ := h.2.2.1 u hu
  refine ⟨a1, a2, a3, a4, ?_⟩
  show upd S.2.2.2.2.1 t m u = if u = t then m else V.2.2.2 u
  by_cases e : u = t
  · subst e; rw [upd_s, if_pos rfl]
  · rw [upd_n e, if_neg e]; exact a5
/-! a property changed -/
theorem sp_set_ok {V : tw_V} (h : sp_ok6 V) {t w : Nat} {x : Int} (hm : sp_may w x) : sp_ok6 (sp_set V w t x) := by
  have hw : w ≤ 3 := by unfold sp_may at hm; omega
  have o : ∀ {a u : Nat}, ¬ (a = w ∧ u = t) → (sp_set V w t x).2.2.1 a u = V.2.2.1 a u := fun q => if_neg q
  have key : ∀ u, u < V.1 → sp_okT (sp_set V w t x) u ∧ sp_ear (sp_set V w t x) u ≤ 60 := by
    intro u hu
    obtain ⟨a1, a2, a3, a4, a5, a6, a7, a8, a9⟩ := h.1.2.2.2.1 u hu
    have a10 := h.2 u hu
    have q0 : sp_len (sp_set V w t x) u = if 0 = w ∧ u = t then x else sp_len V u := rfl
    have q1 : sp_per (sp_set V w t x) u = if 1 = w ∧ u = t then x else sp_per V u := rfl
    have q2 : sp_hal (sp_set V w t x) u = if 2 = w ∧ u = t then x else sp_hal V u := rfl
    have q3 : sp_ear (sp_set V w t x) u = if 3 = w ∧ u = t then x else sp_ear V u := rfl
    unfold sp_may at hm
    have r0 : 1 ≤ sp_len (sp_set V w t x) u ∧ sp_len (sp_set V w t x) u ≤ 9 := by rw [q0]; split <;> omega
    have r1 : -1 ≤ sp_per (sp_set V w t x) u ∧ sp_per (sp_set V w t x) u ≤ 5 := by rw [q1]; split <;> omega
    have r2 : -1 ≤ sp_hal (sp_set V w t x) u ∧ sp_hal (sp_set V w t x) u ≤ 3 := by rw [q2]; split <;> omega
    have r3 : 0 ≤ sp_ear (sp_set V w t x) u ∧ sp_ear (sp_set V w t x) u ≤ 60 := by rw [q3]; split <;> omega
    exact ⟨⟨r0.1, r0.2, r1.1, r1.2, r2.1, r2.2, r3.1, by omega, a9⟩, r3.2⟩
  refine ⟨⟨h.1.1, h.1.2.1, h.1.2.2.1, fun u hu => (key u hu).1, fun j hj => ?_⟩, fun u hu => (key u hu).2⟩
  unfold sp_okH sp_fst sp_lst
  rw [o (by omega), o (by omega)]
  exact h.1.2.2.2.2 j hj
theorem sp_set_RS0 {S : tw_St} {V : tw_V} (h : sp_RS S V) {t : Nat} {x : Int} : sp_RS (upd S.1 t (zi x), S.2.1, S.2.2.1, S.2.2.2.1, S.2.2.2.2.1, S.2.2.2.2.2.1, S.2.2.2.2.2.2.1, S.2.2.2.2.2.2.2.1, S.2.2.2.2.2.2.2.2) (sp_set V 0 t x) := by
  refine ⟨h.1, h.2.1, fun u hu => ?_, h.2.2.2⟩
  obtain ⟨a1, a2, a3, a4, a5⟩ := h.2.2.1 u hu
  refine ⟨?_, a2, a3, a4, a5⟩
  show upd S.1 t (zi x) u = zi ((sp_set V 0 t x).2.2.1 0 u)
  by_cases e : u = t
  · subst e; rw [upd_s]; exact congrArg zi (if_pos ⟨rfl, rfl⟩ : (sp_set V 0 u x).2.2.1 0 u = x).symm
  · rw [upd_n e]; exact a1.trans (congrArg zi (if_neg (fun q => e q.2) : (sp_set V 0 t x).2.2.1 0 u = _).symm)
theorem sp_set_RS1 {S : tw_St} {V : tw_V} (h : sp_RS S V) {t : Nat} {x : Int} : sp_RS (S.1, upd S.2.1 t (zi x), S.2.2.1, S.2.2.2.1, S.2.2.2.2.1, S.2.2.2.2.2.1, S.2.2.2.2.2.2.1, S.2.2.2.2.2.2.2.1, S.2.2.2.2.2.2.2.2) (sp_set V 1 t x) := by
  refine ⟨h.1, h.2.1, fun u hu => ?_, h.2.2.2⟩
  obtain ⟨a1, a2, a3, a4, a5⟩ := h.2.2.1 u hu
  refine ⟨a1, ?_, a3, a4, a5⟩
  show upd S.2.1 t (zi x) u = zi ((sp_set V 1 t x).2.2.1 1 u)
  by_cases e : u = t
  · subst e; rw [upd_s]; exact congrArg zi (if_pos ⟨rfl, rfl⟩ : (sp_set V 1 u x).2.2.1 1 u = x).symm
  · rw [upd_n e]; exact a2.trans (congrArg zi (if_neg (fun q => e q.2) : (sp_set V 1 t x).2.2.1 1 u = _).symm)
theorem sp_set_RS2 {S : tw_St} {V : tw_V} (h : sp_RS S V) {t : Nat} {x : Int} : sp_RS (S.1, S.2.1, upd S.2.2.1 t (zi x), S.2.2.2.1, S.2.2.2.2.1, S.2.2.2.2.2.1, S.2.2.2.2.2.2.1, S.2.2.2.2.2.2.2.1, S.2.2.2.2.2.2.2.2) (sp_set V 2 t x) := by
  refine ⟨h.1, h.2.1, fun u hu => ?_, h.2.2.2⟩
  obtain ⟨a1, a2, a3, a4, a5⟩ := h.2.2.1 u hu
  refine ⟨a1, a2, ?_, a4, a5⟩
  show upd S.2.2.1 t (zi x) u = zi ((sp_set V 2 t x).2.2.1 2 u)
  by_cases e : u = t
  · subst e; rw [upd_s]; exact congrArg zi (if_pos ⟨rfl, rfl⟩ : (sp_set V 2 u x).2.2.1 2 u = x).symm
  · rw [upd_n e]; exact a3.trans (congrArg zi (if_neg (fun q => e q.2) : (sp_set V 2 t x).2.2.1 2 u = _).symm)
/-! a hall borrowed -/
def sp_bor (V : tw_V) (j : Nat) (a b : Int) : tw_V := (V.1, V.2.1, fun w t => if w = 4 ∧ t = j then a else if w = 5 ∧ t = j then b else V.2.2.1 w t, V.2.2.2)
theorem sp_bor_f {V : tw_V} {j i : Nat} {a b : Int} : sp_fst (sp_bor V j a b) i = if i = j then a else sp_fst V i := by
  show (if 4 = 4 ∧ i = j then a else if 4 = 5 ∧ i = j then b else sp_fst V i) = _
  by_cases e : i = j
  · rw [if_pos e, if_pos ⟨rfl, e⟩]
  · rw [if_neg e, if_neg (fun q => e q.2), if_neg (fun q => e q.2)]
theorem sp_bor_l {V : tw_V} {j i : Nat} {a b : Int} : sp_lst (sp_bor V j a b) i = if i = j then b else sp_lst V i := by
  show (if 5 = 4 ∧ i = j then a else if 5 = 5 ∧ i = j then b else sp_lst V i) = _
  by_cases e : i = j
  · rw [if_pos e, if_neg (fun q => absurd q.1 (by decide)), if_pos ⟨rfl, e⟩]
  · rw [if_neg e, if_neg (fun q => e q.2), if_neg (fun q => e q.2)]
theorem sp_bor_o {V : tw_V} {j w t : Nat} {a b : Int} (h : w < 4) : (sp_bor V j a b).2.2.1 w t = V.2.2.1 w t := (if_neg (fun q => absurd q.1 (by omega))).trans (if_neg (fun q => absurd q.1 (by omega)))
theorem sp_bor_ok {V : tw_V} (h : sp_ok6 V) {j : Nat} {a b : Int} (ha : 0 ≤ a ∧ a ≤ 99) (hb : 0 ≤ b ∧ b ≤ 99) : sp_ok6 (sp_bor V j a b) := by
  refine ⟨⟨h.1.1, h.1.2.1, h.1.2.2.1, fun u hu => ?_, fun i hi => ?_⟩, fun u hu => ?_⟩
  · unfold sp_okT sp_len sp_per sp_hal sp_ear
    rw [sp_bor_o (by decide), sp_bor_o (by decide), sp_bor_o (by decide), sp_bor_o (by decide)]
    exact h.1.2.2.2.1 u hu
  · unfold sp_okH
    rw [sp_bor_f, sp_bor_l]
    have := h.1.2.2.2.2 i hi
    unfold sp_okH at this
    split <;> omega
  · unfold sp_ear
    rw [sp_bor_o (by decide)]
    exact h.2 u hu
theorem sp_bor_RS {S : tw_St} {V : tw_V} (h : sp_RS S V) {j : Nat} {a b : Int} : sp_RS (S.1, S.2.1, S.2.2.1, S.2.2.2.1, S.2.2.2.2.1, upd S.2.2.2.2.2.1 j (zi a), upd S.2.2.2.2.2.2.1 j (zi b), S.2.2.2.2.2.2.2.1, S.2.2.2.2.2.2.2.2) (sp_bor V j a b) := by
  refine ⟨h.1, h.2.1, fun u hu => ?_, fun i hi => ?_⟩
  · unfold sp_len sp_per sp_hal sp_ear
    rw [sp_bor_o (by decide), sp_bor_o (by decide), sp_bor_o (by decide), sp_bor_o (by decide)]
    exact h.2.2.1 u hu
  · rw [sp_bor_f, sp_bor_l]
    (try dsimp only)
    by_cases e : i = j
    · subst e; rw [upd_s, upd_s, if_pos rfl, if_pos rfl]; exact ⟨rfl, rfl⟩
    · rw [upd_n e, upd_n e, if_neg e, if_neg e]; exact h.2.2.2 i hi
