/-! the calls that change a wall, as the law makes them -/
def qp_I (Y : tw_Wl) (g : tw_H) : Prop := sp_IG g ∧ sp_IC Y g ∧ qp_l g.1 ∧ ∀ i, i < g.2.1 → qp_l (g.2.2.1 i)
theorem qp_I_V {Y : tw_Wl} {g : tw_H} (h : qp_I Y g) : qp_V Y g.1 g.2.1 := ⟨h.2.1.1, h.1.1.1, h.2.1.2.1, h.2.1.2.2.2.1⟩
theorem qp_I_K {Y Z : tw_Wl} {g : tw_H} (h : qp_I Y g) (hK : sp_K Y Z) : qp_I Z g := ⟨h.1, sp_IC_K h.2.1 hK, h.2.2⟩
theorem qp_ls {g : tw_H} (h1 : qp_l g.1) (h2 : ∀ i, i < g.2.1 → qp_l (g.2.2.1 i)) (hk : g.2.1 ≤ 6) : ∀ i, i < sp_nk g.2.1 → qp_l (sp_psh g.2.1 g.2.2.1 g.1 i) := fun i hi => by
  unfold sp_nk at hi
  unfold sp_psh
  by_cases e : g.2.1 < 6
  · rw [if_pos e] at hi ⊢
    by_cases e2 : i = g.2.1
    · rw [if_pos e2]; exact h1
    · rw [if_neg e2]; exact h2 i (by omega)
  · rw [if_neg e] at hi ⊢
    by_cases e2 : i < 5
    · rw [if_pos e2]; exact h2 (i + 1) (by omega)
    · rw [if_neg e2]; exact h1
/-- a wall changed -/
theorem qp_I_new {Y Y' : tw_Wl} {g : tw_H} (h : qp_I Y g) {V : tw_V} (hV : sp_ok6 V) (hl : qp_l V) (hc : sp_IC Y' (sp_new g V)) : qp_I Y' (sp_new g V) := ⟨sp_IG_new h.1 (sp_IG_6 h.2.1) hV, hc, hl, qp_ls h.2.2.1 h.2.2.2 (sp_IG_6 h.2.1)⟩
theorem ql_app {V : tw_V} (h : qp_l V) {a b c : Int} {m : Int32} : qp_l (sp_app V a b c m) := fun j hj => by
  unfold sp_fst sp_lst
  rw [sp_app_h (by omega), sp_app_h (by omega)]
  exact h j hj
theorem ql_drp {V : tw_V} (h : qp_l V) {g : Nat} : qp_l (sp_drp V g) := fun j hj => by
  unfold sp_fst sp_lst
  rw [sp_drp_h (by omega), sp_drp_h (by omega)]
  exact h j hj
theorem ql_rul {V : tw_V} (h : qp_l V) {r : Int} : qp_l (sp_rul V r) := h
theorem ql_ms {V : tw_V} (h : qp_l V) {t : Nat} {m : Int32} : qp_l (sp_ms V t m) := h
theorem ql_set {V : tw_V} (h : qp_l V) {w t : Nat} (hw : w ≤ 3) {x : Int} : qp_l (sp_set V w t x) := fun j hj => by
  have e1 : sp_fst (sp_set V w t x) j = sp_fst V j := if_neg (fun q => absurd q.1 (by omega))
  have e2 : sp_lst (sp_set V w t x) j = sp_lst V j := if_neg (fun q => absurd q.1 (by omega))
  rw [e1, e2]
  exact h j hj
theorem ql_bor {V : tw_V} (h : qp_l V) {j : Nat} {a b : Int} (hab : a ≤ b) : qp_l (sp_bor V j a b) := fun i hi => by
  rw [sp_bor_f, sp_bor_l]
  by_cases e : i = j
  · rw [if_pos e, if_pos e]; exact hab
  · rw [if_neg e, if_neg e]; exact h i hi
/-- a call is made, and answers more than -200; or there is none, and nothing is changed -/
def qp_R (Y : tw_Wl) (X : Option (Nat × Int32 × tw_Wl)) : Prop := ∃ (kc : Nat) (r : Int32) (Y' : tw_Wl), X = some (kc, r, Y') ∧ ((kc = 0 ∧ (∃ x : Int, r = zi x ∧ -200 < x ∧ x < 1000) ∧ ∃ g, qp_I Y' g) ∨ (kc = 2 ∧ Y' = Y))
theorem qp_R0 {Y Y' : tw_Wl} {r : Int32} {g : tw_H} (x : Int) (hr : r = zi x) (h1 : -200 < x) (h2 : x < 1000) (hI : qp_I Y' g) : qp_R Y (some (0, r, Y')) := ⟨0, r, Y', rfl, Or.inl ⟨rfl, ⟨x, hr, h1, h2⟩, g, hI⟩⟩
/-- a call that is made, whatever it is -/
def qp_Z (X : Option (Nat × Int32 × tw_Wl)) : Prop := ∃ (r : Int32) (Y' : tw_Wl), X = some (0, r, Y') ∧ (∃ x : Int, r = zi x ∧ -200 < x ∧ x < 1000) ∧ ∃ g, qp_I Y' g
theorem qp_Z0 {Y' : tw_Wl} {r : Int32} {g : tw_H} (x : Int) (hr : r = zi x) (h1 : -200 < x) (h2 : x < 1000) (hI : qp_I Y' g) : qp_Z (some (0, r, Y')) := ⟨r, Y', rfl, ⟨x, hr, h1, h2⟩, g, hI⟩
theorem qp_R2 {Y : tw_Wl} {r : Int32} : qp_R Y (some (2, r, Y)) := ⟨2, r, Y, rfl, Or.inr ⟨rfl, rfl⟩⟩
section QO
variable {Y : tw_Wl} {g : tw_H}
theorem qo_add (h : qp_I Y g) {a b c : Int} (e1 : 1 ≤ a ∧ a ≤ 9) (e2 : -1 ≤ b ∧ b ≤ 5) (e3 : -1 ≤ c ∧ c ≤ 3) : qp_R Y (fX3_add Y (zi a) (zi b) (zi c)) := by
  obtain ⟨hg, hc, hl, -⟩ := id h
  have hn := sp_12 hg.1.1
  unfold fX3_add
  simp only [pX3_isLength (a := a) (by omega) (by omega), pX3_isPersonOrNone (a := b) (by omega) (by omega), pX3_isHallOrNone (a := c) (by omega) (by omega), ob_some, ifl0, ifl1]
  rw [if_pos e1, if_pos e2, if_pos e3]
  have c12 : zi (sp_n g.1 : Int) < (12 : Int32) ↔ (sp_n g.1 : Int) < 12 := zi_lt (b := 12) (by omega) (by omega) (by omega) (by omega)
  rw [hc.1.1]
  by_cases e4 : sp_n g.1 < 12
  · rw [if_pos (c12.mpr (by omega))]
    have hV' : sp_ok6 (sp_app g.1 a b c 0) := sp_app_ok hg.1 e4 e1 e2 e3 (fun i _ => b_0 i)
    obtain ⟨sc, Z, pi, s1, s2⟩ := op_save hg hc
    rw [s1, ob_some]
    obtain ⟨S', t1, t2⟩ := pX1_appendTask hc.1 e4 a b c
    (try dsimp only)
    rw [t1, ob_some]
    obtain ⟨P', u1, u2⟩ := pX0_lay t2 hV'.1 Y.2.1
    rw [u1, ob_some]
    have hr : S'.2.2.2.2.2.2.2.1 - (1 : Int32) = zi (sp_n g.1 : Int) := by
      rw [t2.1, zi_nm1 (show 1 ≤ sp_n (sp_app g.1 a b c 0) from Nat.succ_le_succ (Nat.zero_le _))]
      rfl
    exact qp_R0 (g := sp_new g (sp_app g.1 a b c 0)) (sp_n g.1 : Int) hr (by omega) (by omega) (qp_I_new h hV' (ql_app hl) ⟨t2, u2, hc.2.2.1, s2⟩)
  · rw [if_neg (fun q => absurd (c12.mp q) (by omega))]
    exact qp_R2
theorem qo_remove (h : qp_I Y g) {t : Nat} (ht : t < sp_n g.1) : qp_Z (fX3_remove Y (zi t)) := by
  obtain ⟨hg, hc, hl, -⟩ := id h
  have hn := sp_12 hg.1.1
  have hf := sp_flw_le (V := g.1) t (sp_n g.1)
  unfold fX3_remove
  simp only [pX3_isTask hc.1 hg.1.1 (a := (t : Int)) (by omega) (by omega), ob_some, ifl1]
  rw [if_pos (show 0 ≤ (t : Int) ∧ (t : Int) < sp_n g.1 by omega)]
  have hV' : sp_ok6 (sp_drp g.1 t) := sp_drp_ok hg.1 ht
  rw [pX1_followers hc.1 hg.1.1 ht, ob_some]
  obtain ⟨sc, Z, pi, s1, s2⟩ := op_save hg hc
  rw [s1, ob_some]
  obtain ⟨S', t1, t2⟩ := pX1_dropTask hc.1 hg.1.1 ht
  (try dsimp only)
  rw [t1, ob_some]
  obtain ⟨P', u1, u2⟩ := pX0_lay t2 hV'.1 Y.2.1
  rw [u1, ob_some]
  exact qp_Z0 (g := sp_new g (sp_drp g.1 t)) (sp_flw g.1 t) rfl (by unfold sp_flw; omega) (by unfold sp_flw; omega) (qp_I_new h hV' (ql_drp hl) ⟨t2, u2, hc.2.2.1, s2⟩)
theorem qo_rule (h : qp_I Y g) {a : Int} (e1 : 0 ≤ a ∧ a ≤ 3) : qp_Z (fX3_rule Y (zi a)) := by
  obtain ⟨hg, hc, hl, -⟩ := id h
  unfold fX3_rule
  simp only [pX3_isRule (a := a) (by omega) (by omega), ob_some, ifl0, ifl1]
  rw [if_pos e1]
  have hV' : sp_ok6 (sp_rul g.1 a) := ⟨sp_ok_rul hg.1.1 e1.1 e1.2, hg.1.2⟩
  obtain ⟨sc, Z, pi, s1, s2⟩ := op_save hg hc
  rw [s1, ob_some]
  obtain ⟨P', u1, u2⟩ := pX0_lay (sp_RS_rul (r := a) hc.1) hV'.1 Y.2.1
  (try dsimp only)
  rw [u1, ob_some]
  have q := hg.1.1.2.1
  have q2 := hg.1.1.2.2.1
  exact qp_Z0 (g := sp_new g (sp_rul g.1 a)) (sp_rule g.1) hc.1.2.1 (by omega) (by omega) (qp_I_new h hV' (ql_rul hl) ⟨sp_RS_rul hc.1, u2, hc.2.2.1, s2⟩)
theorem qo_borrow (h : qp_I Y g) {j : Nat} {b c : Int} (hj : j < 4) (e2 : 0 ≤ b ∧ b ≤ 99) (e3 : b ≤ c ∧ c ≤ 99) : qp_Z (fX3_borrow Y (zi j) (zi b) (zi c)) := by
  obtain ⟨hg, hc, hl, -⟩ := id h
  have cc : zi b ≤ zi c ↔ b ≤ c := zi_le (by omega) (by omega) (by omega) (by omega)
  unfold fX3_borrow
  simp only [pX3_isHall (a := (j : Int)) (by omega) (by omega), pX3_isDay (a := b) (by omega) (by omega), pX3_isDay (a := c) (by omega) (by omega), ob_some, ifl0, ifl1]
  rw [if_pos (show 0 ≤ (j : Int) ∧ (j : Int) ≤ 3 by omega), if_pos e2, if_pos (show 0 ≤ c ∧ c ≤ 99 by omega), if_pos (cc.mpr e3.1)]
  have hV' : sp_ok6 (sp_bor g.1 j b c) := sp_bor_ok hg.1 e2 (by omega)
  obtain ⟨sc, Z, pi, s1, s2⟩ := op_save hg hc
  rw [s1, ob_some, zi_n (by omega) (by omega), zi_n (by omega) (by omega), zi_Tn (by omega)]
  obtain ⟨P', u1, u2⟩ := pX0_lay (sp_bor_RS (j := j) (a := b) (b := c) hc.1) hV'.1 Y.2.1
  (try dsimp only)
  rw [u1, ob_some]
  have q := sp_L_le hV'.1
  exact qp_Z0 (g := sp_new g (sp_bor g.1 j b c)) (sp_L (sp_bor g.1 j b c)) u2.2.1 (by omega) (by omega) (qp_I_new h hV' (ql_bor hl e3.1) ⟨sp_bor_RS hc.1, u2, hc.2.2.1, s2⟩)
theorem qo_need (h : qp_I Y g) {t o : Nat} (ht : t < sp_n g.1) (hot : o < t) (p3 : Int32) : qp_Z (fX3_need Y (zi t) (zi o) p3) := by
  obtain ⟨hg, hc, hl, -⟩ := id h
  have hn := sp_12 hg.1.1
  have cc : zi (o : Int) < zi (t : Int) ↔ (o : Int) < t := zi_lt (by omega) (by omega) (by omega) (by omega)
  have hlow : ∀ i, t ≤ i → bt (sp_msk g.1 t) i = false := (hg.1.1.2.2.2.1 t ht).2.2.2.2.2.2.2.2
  obtain ⟨sc, Z, pi, s1, s2⟩ := op_save hg hc
  have key : ∃ Y' g', (∀ v, fX3_need_54 (zi t) (zi o) p3 v Y = some (0, v, Y')) ∧ qp_I Y' g' := by
    by_cases e4 : p3 = 0
    · have hV' : sp_ok6 (sp_ms g.1 t (sp_msk g.1 t &&& (((1 : Int32) <<< (zi (o : Int) &&& 31)) ^^^ (-1 : Int32)))) := sp_ms_ok hg.1 (fun i hi => by
        rcases Nat.lt_or_ge i 32 with h32 | h32
        · rw [tb_clr (by omega) h32]
          rw [hlow i hi, Bool.false_and]
        · exact b_big h32)
      obtain ⟨P', u1, u2⟩ := pX0_lay (sp_ms_RS (t := t) (m := sp_msk g.1 t &&& (((1 : Int32) <<< (zi (o : Int) &&& 31)) ^^^ (-1 : Int32))) hc.1) hV'.1 Y.2.1
      refine ⟨(_, P', Y.2.2.1, Y.2.2.2.1, Y.2.2.2.2.1, Y.2.2.2.2.2.1, sc, Z, pi), sp_new g (sp_ms g.1 t (sp_msk g.1 t &&& (((1 : Int32) <<< (zi (o : Int) &&& 31)) ^^^ (-1 : Int32)))), fun v => ?_, qp_I_new h hV' (ql_ms hl) ⟨sp_ms_RS (t := t) (m := sp_msk g.1 t &&& (((1 : Int32) <<< (zi (o : Int) &&& 31)) ^^^ (-1 : Int32))) hc.1, u2, hc.2.2.1, s2⟩⟩
      unfold fX3_need_54
      rw [s1, ob_some, if_pos e4, zi_n (by omega) (by omega), zi_n (by omega) (by omega), zi_Tn (by omega)]
      unfold fX3_need_99
      (try dsimp only)
      rw [(hc.1.2.2.1 t ht).2.2.2.2, u1, ob_some]
    · have hV' : sp_ok6 (sp_ms g.1 t (sp_msk g.1 t ||| ((1 : Int32) <<< (zi (o : Int) &&& 31)))) := sp_ms_ok hg.1 (fun i hi => by
        rcases Nat.lt_or_ge i 32 with h32 | h32
        · rw [tb_or (by omega) h32]
          rw [hlow i hi, decide_eq_false (by omega)]; rfl
        · exact b_big h32)
      obtain ⟨P', u1, u2⟩ := pX0_lay (sp_ms_RS (t := t) (m := sp_msk g.1 t ||| ((1 : Int32) <<< (zi (o : Int) &&& 31))) hc.1) hV'.1 Y.2.1
      refine ⟨(_, P', Y.2.2.1, Y.2.2.2.1, Y.2.2.2.2.1, Y.2.2.2.2.2.1, sc, Z, pi), sp_new g (sp_ms g.1 t (sp_msk g.1 t ||| ((1 : Int32) <<< (zi (o : Int) &&& 31)))), fun v => ?_, qp_I_new h hV' (ql_ms hl) ⟨sp_ms_RS (t := t) (m := sp_msk g.1 t ||| ((1 : Int32) <<< (zi (o : Int) &&& 31))) hc.1, u2, hc.2.2.1, s2⟩⟩
      unfold fX3_need_54
      rw [s1, ob_some, if_neg e4, zi_n (by omega) (by omega), zi_n (by omega) (by omega), zi_Tn (by omega)]
      unfold fX3_need_99
      (try dsimp only)
      rw [(hc.1.2.2.1 t ht).2.2.2.2, u1, ob_some]
  obtain ⟨Y', g', k1, k2⟩ := key
  unfold fX3_need
  simp only [pX3_isTask hc.1 hg.1.1 (a := (t : Int)) (by omega) (by omega), pX3_isTask hc.1 hg.1.1 (a := (o : Int)) (by omega) (by omega), ob_some, ifl0, ifl1]
  rw [if_pos (show 0 ≤ (t : Int) ∧ (t : Int) < sp_n g.1 by omega), if_pos (show 0 ≤ (o : Int) ∧ (o : Int) < sp_n g.1 by omega), if_pos (cc.mpr (by omega)), pX1_isNeeded hc.1 hg.1.1 ht (show o < 32 by omega), ob_some, ifl0, k1, k1]
  by_cases e5 : sp_bit g.1 t o = true
  · rw [if_pos e5]
    exact qp_Z0 1 rfl (by omega) (by omega) k2
  · rw [if_neg e5]
    exact qp_Z0 0 rfl (by omega) (by omega) k2
theorem qo_change (h : qp_I Y g) {t k : Nat} (ht : t < sp_n g.1) {x : Int} (hmay : sp_may k x) : qp_Z (fX3_change Y (zi t) (zi k) (zi x)) := by
  obtain ⟨hg, hc, hl, -⟩ := id h
  have hn := sp_12 hg.1.1
  have hk : k ≤ 3 := by unfold sp_may at hmay; omega
  have hx : -1 ≤ x ∧ x ≤ 60 := by unfold sp_may at hmay; omega
  unfold fX3_change
  simp only [pX3_isTask hc.1 hg.1.1 (a := (t : Int)) (by omega) (by omega), pX3_isValue (w := (k : Int)) (v := x) (by omega) (by omega) (by omega) (by omega), ob_some, ifl1]
  rw [if_pos (show 0 ≤ (t : Int) ∧ (t : Int) < sp_n g.1 by omega), if_pos (sp_mayb_iff.mpr hmay)]
  have hV' : sp_ok6 (sp_set g.1 k t x) := sp_set_ok hg.1 hmay
  obtain ⟨sc, Z, pi, s1, s2⟩ := op_save hg hc
  rw [s1, ob_some]
  (try dsimp only)
  obtain ⟨q0, q1, q2, q3, -⟩ := hc.1.2.2.1 t ht
  obtain ⟨l1, l2, l3, l4, l5, l6, l7, -⟩ := hg.1.1.2.2.2.1 t ht
  have l8 := hg.1.2 t ht
  have hk4 : k = 0 ∨ k = 1 ∨ k = 2 ∨ k = 3 := by omega
  rcases hk4 with rfl | rfl | rfl | rfl
  · have pr : ∀ S : tw_St, fX1_property S (zi ((0 : Nat) : Int)) = some 1 := fun S => by
      unfold fX1_property
      rw [if_pos (by decide)]
    rw [pr, ob_some, if_pos rfl, zi_n (by omega) (by omega), zi_n (by omega) (by omega), zi_Tn (by omega)]
    obtain ⟨P', u1, u2⟩ := pX0_lay (sp_set_RS0 (t := t) (x := x) hc.1) hV'.1 Y.2.1
    rw [u1, ob_some]
    exact qp_Z0 (sp_len g.1 t) q0 (by omega) (by omega) (qp_I_new h hV' (ql_set hl (by omega)) ⟨sp_set_RS0 (t := t) (x := x) hc.1, u2, hc.2.2.1, s2⟩)
  · have pr : ∀ S : tw_St, fX1_property S (zi ((1 : Nat) : Int)) = some 2 := fun S => by
      unfold fX1_property
      rw [if_neg (by decide), if_pos (by decide)]
    rw [pr, ob_some, if_neg (by decide), if_pos rfl, zi_n (by omega) (by omega), zi_n (by omega) (by omega), zi_Tn (by omega)]
    obtain ⟨P', u1, u2⟩ := pX0_lay (sp_set_RS1 (t := t) (x := x) hc.1) hV'.1 Y.2.1
    rw [u1, ob_some]
    exact qp_Z0 (sp_per g.1 t) q1 (by omega) (by omega) (qp_I_new h hV' (ql_set hl (by omega)) ⟨sp_set_RS1 (t := t) (x := x) hc.1, u2, hc.2.2.1, s2⟩)
  · have pr : ∀ S : tw_St, fX1_property S (zi ((2 : Nat) : Int)) = some 3 := fun S => by
      unfold fX1_property
      rw [if_neg (by decide), if_neg (by decide), if_pos (by decide)]
    rw [pr, ob_some, if_neg (by decide), if_neg (by decide), if_pos rfl, zi_n (by omega) (by omega), zi_n (by omega) (by omega), zi_Tn (by omega)]
    obtain ⟨P', u1, u2⟩ := pX0_lay (sp_set_RS2 (t := t) (x := x) hc.1) hV'.1 Y.2.1
    rw [u1, ob_some]
    exact qp_Z0 (sp_hal g.1 t) q2 (by omega) (by omega) (qp_I_new h hV' (ql_set hl (by omega)) ⟨sp_set_RS2 (t := t) (x := x) hc.1, u2, hc.2.2.1, s2⟩)
  · have pr : ∀ S : tw_St, fX1_property S (zi ((3 : Nat) : Int)) = some 4 := fun S => by
      unfold fX1_property
      rw [if_neg (by decide), if_neg (by decide), if_neg (by decide), if_pos (by decide)]
    rw [pr, ob_some, if_neg (by decide), if_neg (by decide), if_neg (by decide), if_pos rfl, zi_n (by omega) (by omega), zi_n (by omega) (by omega), zi_Tn (by omega)]
    obtain ⟨P', u1, u2⟩ := pX0_lay (sp_RS_e3 (t := t) (x := x) hc.1) hV'.1 Y.2.1
    rw [u1, ob_some]
    exact qp_Z0 (sp_ear g.1 t) q3 (by omega) (by omega) (qp_I_new h hV' (ql_set hl (by omega)) ⟨sp_RS_e3 (t := t) (x := x) hc.1, u2, hc.2.2.1, s2⟩)
theorem qo_slip (h : qp_I Y g) {t : Nat} (ht : t < sp_n g.1) {d : Int} (e2 : 1 ≤ d ∧ d ≤ 20) : qp_R Y (fX3_slip Y (zi t) (zi d)) := by
  obtain ⟨hg, hc, hl, -⟩ := id h
  have hn := sp_12 hg.1.1
  have hp := sp_p_le hg.1.1 ht
  unfold fX3_slip
  simp only [pX3_isTask hc.1 hg.1.1 (a := (t : Int)) (by omega) (by omega), pX3_isSlip (a := d) (by omega) (by omega), ob_some, ifl1]
  rw [if_pos (show 0 ≤ (t : Int) ∧ (t : Int) < sp_n g.1 by omega), if_pos e2, pX3_couldSlip hg.1.1 hc.2.1 e2.1 e2.2 ht, ob_some, ifl1]
  have g1 : ∀ {α : Type} (y : Option α), tw_g (zi (t : Int)) 12 y = y := fun y => zi_n (by omega) (by omega) y
  by_cases e3 : sp_plan g.1 t ≠ -1 ∧ sp_plan g.1 t + d ≤ 60
  · rw [if_pos e3]
    have hmay : sp_may ((3 : Nat) : Int) (sp_plan g.1 t + d) := by unfold sp_may; omega
    have hV' : sp_ok6 (sp_set g.1 3 t (sp_plan g.1 t + d)) := sp_set_ok (w := 3) hg.1 hmay
    obtain ⟨sc, Z, pi, s1, s2⟩ := op_save hg hc
    rw [s1, ob_some]
    simp only [g1, zi_Tn (show t < 2147483648 by omega)]
    (try dsimp only)
    rw [hc.2.1.1 t ht, zi_add]
    obtain ⟨P', u1, u2⟩ := pX0_lay (sp_RS_e3 (t := t) (x := sp_plan g.1 t + d) hc.1) hV'.1 Y.2.1
    rw [u1, ob_some]
    have b1 := sp_E_le hg.1.1
    have b2 := sp_E_le hV'.1
    have hr : P'.2.2.2.2 - Y.2.1.2.2.2.2 = zi (sp_E (sp_set g.1 3 t (sp_plan g.1 t + d)) - sp_E g.1) := by
      rw [u2.2.2, hc.2.1.2.2, zi_sub]
      rfl
    exact qp_R0 (g := sp_new g (sp_set g.1 3 t (sp_plan g.1 t + d))) _ hr (by omega) (by omega) (qp_I_new h hV' (ql_set hl (by omega)) ⟨sp_RS_e3 (t := t) (x := sp_plan g.1 t + d) hc.1, u2, hc.2.2.1, s2⟩)
  · rw [if_neg e3]
    exact qp_R2
theorem qo_undo (h : qp_I Y g) : qp_R Y (fX3_undo Y) := by
  obtain ⟨hg, hc, hl, hls⟩ := id h
  have h6 := sp_IG_6 hc
  obtain ⟨y1, y2, y3, y4⟩ := hc.2.2.2
  have c1 : (0 : Int32) < zi (g.2.1 : Int) ↔ (0 : Int) < g.2.1 := zi_lt (a := 0) (by omega) (by omega) (by omega) (by omega)
  unfold fX3_undo
  rw [y1]
  by_cases e1 : 0 < g.2.1
  · rw [if_pos (c1.mpr (by omega)), zi_nm1 e1, zi_n (by omega) (by omega), zi_Tn (by omega), zi_q (y3.1 _ (by omega))]
    have hV' := hg.2.1 (g.2.1 - 1) (by omega)
    obtain ⟨S', t1, t2⟩ := pX1_copyFrom (y4 (g.2.1 - 1) (by omega)) hV'.1 Y.1
    rw [t1, ob_some]
    obtain ⟨P', u1, u2⟩ := pX0_lay t2 hV'.1 Y.2.1
    rw [u1, ob_some]
    refine qp_R0 (g := (g.2.2.1 (g.2.1 - 1), g.2.1 - 1, g.2.2)) ((g.2.1 - 1 : Nat) : Int) rfl (by omega) (by omega) ⟨⟨hV', fun i hi => hg.2.1 i (Nat.lt_of_lt_of_le hi (Nat.sub_le _ _)), hg.2.2⟩, ⟨t2, u2, hc.2.2.1, rfl, Nat.le_trans (Nat.sub_le _ _) y2, y3, fun i hi => y4 i (Nat.lt_of_lt_of_le hi (Nat.sub_le _ _))⟩, hls (g.2.1 - 1) (by omega), fun i hi => hls i (Nat.lt_of_lt_of_le hi (Nat.sub_le _ _))⟩
  · rw [if_neg (fun q => absurd (c1.mp q) (by omega))]
    exact qp_R2
end QO
