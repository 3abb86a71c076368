/-! the law's loop -/
set_option maxHeartbeats 4000000 in
set_option maxRecDepth 100000 in
theorem law_147 {p : Program} {l : Launch} {e : Env} {s : State} {m : MethodId} {below : List Frame} {meth : Method} {c : Code} {b L : Nat} {xs : Nat → Int32} (C : lw_L p s m c b L xs) {Q : State → Prop} {G : va_G} {cI cQ : ClassId} {a na pa ta qa xa : Nat → Nat} {z : Nat → Nat → Nat} (hK : va_K G vwCl [(cI, .int), (cQ, .object RX1)] s) {T k : Nat} {Y : tw_Wl} {g : tw_H} {H : Heap} {locs : List Loc} {ls : Array Slot} {cells slots : Nat} (hI : qp_I Y g) (hP : va_P G vwCl (tw_wW cI cQ a na pa ta qa xa z Y) H) (hD : va_D (fun q : Nat => s.heap.size ≤ q) (tw_wW cI cQ a na pa ta qa xa z Y)) (hS : va_S (fun q : Nat => s.heap.size ≤ q) s.heap H locs) (hl : lv_has ls 9 [(0, .ref b), (1, .ref (a 0)), (2, .int (1 : Int32)), (3, .int (zi (T : Int))), (4, .int (zi (k : Int)))]) (hcs : cells ≤ 600130 ∧ slots ≤ 7301080)
    (kk : ∀ (H : Heap) (locs : List Loc) (ls : Array Slot), va_S (fun q : Nat => s.heap.size ≤ q) s.heap H locs → W p l e room_1 s m #[Value.ref b] below meth c H locs cells slots Q (F0 m 163 ls [.int 1])) : W p l e room_1 s m #[Value.ref b] below meth c H locs cells slots Q (F0 m 147 ls []) := by
  obtain ⟨hx, hb, hml, hown, hts, hX, hbl, hN, hNX, hNC, hU, hZ⟩ := id C
  have F : CallFix p m c cL_law 9 s #[Value.ref b] wsL_law RL := ⟨hx, hb, hml, hown, hts⟩
  have hA : ∀ q : Nat, s.heap.size ≤ q → (fun q : Nat => s.heap.size ≤ q) q := fun _ h => h
  have hbA : ¬ (fun q : Nat => s.heap.size ≤ q) b := Nat.not_le.mpr hbl
  obtain ⟨Z, e1, k1⟩ := qL_looks (qp_I_V hI) hI.2.2.1
  refine lv_iload_n hx hb dL_law_147 rfl (lv_at hl 2 rfl) ?_
  refine lv_if_eq (tgt := 162) hx hb dL_law_148 (by decide) (fun c => absurd c zi_b1) (fun _ => ?_)
  refine lv_aload_n hx hb dL_law_151 rfl (lv_at hl 1 rfl) ?_
  refine tw_callSiF (rv := (1 : Int32)) (ws' := tw_wW cI cQ a na pa ta qa xa z Z) (As := [.ref (a 0)]) (rest := []) F hN hK hP hD hS hA (mL_looks l G cI cQ a na pa ta qa xa z Y H.size e1) (va_cwS 1 hts gL_law_L_looks rfl rfl rfl (by decide +kernel) ⟨(Nat.le_of_ble_eq_true rfl), (Nat.le_of_ble_eq_true rfl)⟩) lw_fW rfl hl.1 rfl (Nat.le_of_ble_eq_true rfl) dL_law_152 hcs (fun H locs hP hD hS => ?_)
  refine lv_if_eq (tgt := 162) hx hb dL_law_155 (by decide) (fun c => absurd c zi_b1) (fun _ => ?_)
  refine lv_iconst (v := (1 : Int32)) hx hb dL_law_158 (by decide) ?_
  refine lv_goto (tgt := 163) hx hb dL_law_159 (by decide) ?_
  exact kk H locs ls hS
set_option maxHeartbeats 4000000 in
set_option maxRecDepth 100000 in
theorem law_114 {p : Program} {l : Launch} {e : Env} {s : State} {m : MethodId} {below : List Frame} {meth : Method} {c : Code} {b L : Nat} {xs : Nat → Int32} (C : lw_L p s m c b L xs) {Q : State → Prop} {G : va_G} {cI cQ : ClassId} {a na pa ta qa xa : Nat → Nat} {z : Nat → Nat → Nat} (hK : va_K G vwCl [(cI, .int), (cQ, .object RX1)] s) {T k : Nat} {Y : tw_Wl} {g : tw_H} {H : Heap} {locs : List Loc} {ls : Array Slot} {cells slots : Nat} (hI : qp_I Y g) (hP : va_P G vwCl (tw_wW cI cQ a na pa ta qa xa z Y) H) (hD : va_D (fun q : Nat => s.heap.size ≤ q) (tw_wW cI cQ a na pa ta qa xa z Y)) (hS : va_S (fun q : Nat => s.heap.size ≤ q) s.heap H locs) (hl : lv_has ls 9 [(0, .ref b), (1, .ref (a 0)), (2, .int (1 : Int32)), (3, .int (zi (T : Int))), (4, .int (zi (k : Int)))]) (hcs : cells ≤ 600130 ∧ slots ≤ 7301080)
    (kk : ∀ (Y : tw_Wl) (H : Heap) (locs : List Loc) (ls : Array Slot), qp_I Y g → va_P G vwCl (tw_wW cI cQ a na pa ta qa xa z Y) H → va_D (fun q : Nat => s.heap.size ≤ q) (tw_wW cI cQ a na pa ta qa xa z Y) → va_S (fun q : Nat => s.heap.size ≤ q) s.heap H locs → lv_has ls 9 [(0, .ref b), (1, .ref (a 0)), (2, .int (1 : Int32)), (3, .int (zi (T : Int))), (4, .int (zi ((k + 1 : Nat) : Int)))] → W p l e room_1 s m #[Value.ref b] below meth c H locs cells slots Q (F0 m 32 ls [])) : W p l e room_1 s m #[Value.ref b] below meth c H locs cells slots Q (F0 m 114 ls []) := by
  obtain ⟨hx, hb, hml, hown, hts, hX, hbl, hN, hNX, hNC, hU, hZ⟩ := id C
  have F : CallFix p m c cL_law 9 s #[Value.ref b] wsL_law RL := ⟨hx, hb, hml, hown, hts⟩
  have hA : ∀ q : Nat, s.heap.size ≤ q → (fun q : Nat => s.heap.size ≤ q) q := fun _ h => h
  have hbA : ¬ (fun q : Nat => s.heap.size ≤ q) b := Nat.not_le.mpr hbl
  obtain ⟨Z, e1, k1⟩ := qL_plan (qp_I_V hI)
  have hI1 := qp_I_K hI k1
  obtain ⟨Z2, e2, k2⟩ := qL_looks (qp_I_V hI1) hI1.2.2.1
  have hI2 := qp_I_K hI1 k2
  have end9 : ∀ (Y : tw_Wl) (H : Heap) (locs : List Loc) (ls : Array Slot), qp_I Y g → va_P G vwCl (tw_wW cI cQ a na pa ta qa xa z Y) H → va_D (fun q : Nat => s.heap.size ≤ q) (tw_wW cI cQ a na pa ta qa xa z Y) → va_S (fun q : Nat => s.heap.size ≤ q) s.heap H locs → lv_has ls 9 [(0, .ref b), (1, .ref (a 0)), (2, .int (1 : Int32)), (3, .int (zi (T : Int))), (4, .int (zi (k : Int)))] → W p l e room_1 s m #[Value.ref b] below meth c H locs cells slots Q (F0 m 135 ls []) := by
    intro Y H locs ls hI hP hD hS hl
    refine lv_iconst (v := (1 : Int32)) hx hb dL_law_135 (by decide) ?_
    refine lv_goto (tgt := 140) hx hb dL_law_136 (by decide) ?_
    refine lv_istore_n (lv' := [(2, .int (1 : Int32)), (0, .ref b), (1, .ref (a 0)), (3, .int (zi (T : Int))), (4, .int (zi (k : Int)))]) hx hb dL_law_140 rfl hl (by decide) rfl (fun ls hl => ?_)
    refine lv_iinc (v := (zi (k : Int) + 1)) (lv' := [(4, .int (zi (k : Int) + 1)), (2, .int (1 : Int32)), (0, .ref b), (1, .ref (a 0)), (3, .int (zi (T : Int)))]) hx hb dL_law_141 hl (k := 4) rfl rfl (by decide) rfl (fun ls hl => ?_)
    refine lv_goto (tgt := 32) hx hb dL_law_144 (by decide) ?_
    rw [zi_suc] at hl
    exact kk Y H locs ls hI hP hD hS (lv_sub hl [2, 3, 1, 4, 0] rfl)
  refine lv_aload_n hx hb dL_law_114 rfl (lv_at hl 1 rfl) ?_
  refine tw_callSiF (rv := (1 : Int32)) (ws' := tw_wW cI cQ a na pa ta qa xa z Z) (As := [.ref (a 0)]) (rest := []) F hN hK hP hD hS hA (mL_plan l G cI cQ a na pa ta qa xa z Y H.size e1) (va_cwS 1 hts gL_law_L_plan rfl rfl rfl (by decide +kernel) ⟨(Nat.le_of_ble_eq_true rfl), (Nat.le_of_ble_eq_true rfl)⟩) lw_fW rfl hl.1 rfl (Nat.le_of_ble_eq_true rfl) dL_law_115 hcs (fun H locs hP hD hS => ?_)
  refine lv_if_eq (tgt := 139) hx hb dL_law_118 (by decide) (fun c => absurd c zi_b1) (fun _ => ?_)
  refine lv_iload hx hb dL_law_121 (lv_at hl 4 rfl) ?_
  refine lv_iconst (v := (4 : Int32)) hx hb dL_law_123 (by decide) ?_
  refine lv_irem hx hb dL_law_124 (by decide) ?_
  refine lv_if_gt (tgt := 135) hx hb dL_law_125 (by decide) (fun _ => ?_) (fun _ => ?_)
  · exact end9 Z H locs ls hI1 hP hD hS hl
  · refine lv_aload_n hx hb dL_law_128 rfl (lv_at hl 1 rfl) ?_
    refine tw_callSiF (rv := (1 : Int32)) (ws' := tw_wW cI cQ a na pa ta qa xa z Z2) (As := [.ref (a 0)]) (rest := []) F hN hK hP hD hS hA (mL_looks l G cI cQ a na pa ta qa xa z Z H.size e2) (va_cwS 1 hts gL_law_L_looks rfl rfl rfl (by decide +kernel) ⟨(Nat.le_of_ble_eq_true rfl), (Nat.le_of_ble_eq_true rfl)⟩) lw_fW rfl hl.1 rfl (Nat.le_of_ble_eq_true rfl) dL_law_129 hcs (fun H locs hP hD hS => ?_)
    refine lv_if_eq (tgt := 139) hx hb dL_law_132 (by decide) (fun c => absurd c zi_b1) (fun _ => ?_)
    exact end9 Z2 H locs ls hI2 hP hD hS hl
set_option maxHeartbeats 4000000 in
set_option maxRecDepth 100000 in
theorem law_loop {p : Program} {l : Launch} {e : Env} {s : State} {m : MethodId} {below : List Frame} {meth : Method} {c : Code} {b L : Nat} {xs : Nat → Int32} (C : lw_L p s m c b L xs) {Q : State → Prop} {G : va_G} {cI cQ : ClassId} {a na pa ta qa xa : Nat → Nat} {z : Nat → Nat → Nat} (hK : va_K G vwCl [(cI, .int), (cQ, .object RX1)] s) (hst : l.stackTraces = false) (hL : L ≤ 260) {T : Nat} (hT : T ≤ 24) (hT4 : 4 * T ≤ L)
    (hend : ∀ (H : Heap) (locs : List Loc) (ls : Array Slot), va_S (fun q : Nat => s.heap.size ≤ q) s.heap H locs → W p l e room_1 s m #[Value.ref b] below meth c H locs 600130 7301080 Q (F0 m 163 ls [.int 1])) : ∀ (n k cells slots : Nat) (Y : tw_Wl) (g : tw_H) (H : Heap) (locs : List Loc) (ls : Array Slot), k + n = T → cells + n ≤ 600130 → slots + 6 * n ≤ 7301080 → qp_I Y g → va_P G vwCl (tw_wW cI cQ a na pa ta qa xa z Y) H → va_D (fun q : Nat => s.heap.size ≤ q) (tw_wW cI cQ a na pa ta qa xa z Y) → va_S (fun q : Nat => s.heap.size ≤ q) s.heap H locs → lv_has ls 9 [(0, .ref b), (1, .ref (a 0)), (2, .int (1 : Int32)), (3, .int (zi (T : Int))), (4, .int (zi (k : Int)))] → W p l e room_1 s m #[Value.ref b] below meth c H locs cells slots Q (F0 m 32 ls []) := by
  obtain ⟨hx, hb, hml, hown, hts, hX, hbl, hN, hNX, hNC, hU, hZ⟩ := id C
  have F : CallFix p m c cL_law 9 s #[Value.ref b] wsL_law RL := ⟨hx, hb, hml, hown, hts⟩
  have hA : ∀ q : Nat, s.heap.size ≤ q → (fun q : Nat => s.heap.size ≤ q) q := fun _ h => h
  have hbA : ¬ (fun q : Nat => s.heap.size ≤ q) b := Nat.not_le.mpr hbl
  intro n
  induction n with
  | zero =>
    intro k cells slots Y g H locs ls hk hc1 hc2 hI hP hD hS hl
    refine lv_iload hx hb dL_law_32 (lv_at hl 4 rfl) ?_
    refine lv_iload_n hx hb dL_law_34 rfl (lv_at hl 3 rfl) ?_
    refine lv_icmp_ge (tgt := 147) hx hb dL_law_35 (by decide) (fun _ => ?_) (fun h => absurd (by rw [zi_le (by omega) (by omega) (by omega) (by omega)]; omega) h)
    refine W.widen (k := 600130) (n := 7301080) (by omega) (by omega) ?_
    exact law_147 C hK hI hP hD hS hl ⟨Nat.le_refl _, Nat.le_refl _⟩ hend
  | succ n ih =>
    intro k cells slots Y g H locs ls hk hc1 hc2 hI hP hD hS hl
    obtain ⟨Z1, e1, k1⟩ := qc_c8 (qp_I_V hI) (sp_K_r Y)
    obtain ⟨Z2, e2, k2⟩ := qc_c0 (qp_I_V hI) k1
    obtain ⟨Z3, e3, k3⟩ := qc_c3 (qp_I_V hI) k2
    have hI3 := qp_I_K hI k3
    obtain ⟨r, Y4, e4, h4⟩ := qL_act hI3 hL (xs := xs) (k := 4 * k) (by omega)
    have hp : (4 : Int32) * zi (k : Int) = zi ((4 * k : Nat) : Int) := (zi_mul 4 (k : Int)).trans (congrArg zi (by omega))
    rw [← hp] at e4
    refine lv_iload hx hb dL_law_32 (lv_at hl 4 rfl) ?_
    refine lv_iload_n hx hb dL_law_34 rfl (lv_at hl 3 rfl) ?_
    refine lv_icmp_ge (tgt := 147) hx hb dL_law_35 (by decide) (fun h => absurd h (by rw [zi_le (by omega) (by omega) (by omega) (by omega)]; omega)) (fun _ => ?_)
    refine lv_iload_n hx hb dL_law_38 rfl (lv_at hl 2 rfl) ?_
    refine lv_if_eq (tgt := 147) hx hb dL_law_39 (by decide) (fun c => absurd c zi_b1) (fun _ => ?_)
    refine lv_aload_n hx hb dL_law_42 rfl (lv_at hl 1 rfl) ?_
    refine lv_bipush (v := (8 : Int32)) hx hb dL_law_43 (by decide) ?_
    refine tw_callViF (rv := zi (g.2.1 : Int)) (ws' := tw_wW cI cQ a na pa ta qa xa z Z1) (As := [.int (8 : Int32)]) (rest := []) F hN hK hP hD hS hA (mX3_count l G cI cQ a na pa ta qa xa z Y H.size (8 : Int32) e1 rfl) (cwV 1 hts gL_law_X3_count rfl rfl rfl (by decide +kernel) ⟨(Nat.le_of_ble_eq_true rfl), (Nat.le_of_ble_eq_true rfl)⟩) lw_fW (r0 := 0) (ci := 3) rfl rfl rfl rfl hl.1 rfl (Nat.le_of_ble_eq_true rfl) dL_law_45 ⟨by show cells ≤ 600130; omega, by show slots ≤ 7301080; omega⟩ (fun H locs hP hD hS => ?_)
    refine lv_istore (lv' := [(5, .int (zi (g.2.1 : Int))), (0, .ref b), (1, .ref (a 0)), (2, .int (1 : Int32)), (3, .int (zi (T : Int))), (4, .int (zi (k : Int)))]) hx hb dL_law_48 hl (by decide) rfl (fun ls hl => ?_)
    refine lv_aload_n hx hb dL_law_50 rfl (lv_at hl 2 rfl) ?_
    refine lv_iconst (v := (0 : Int32)) hx hb dL_law_51 (by decide) ?_
    refine tw_callViF (rv := zi (sp_n g.1 : Int)) (ws' := tw_wW cI cQ a na pa ta qa xa z Z2) (As := [.int (0 : Int32)]) (rest := []) F hN hK hP hD hS hA (mX3_count l G cI cQ a na pa ta qa xa z Z1 H.size (0 : Int32) e2 rfl) (cwV 1 hts gL_law_X3_count rfl rfl rfl (by decide +kernel) ⟨(Nat.le_of_ble_eq_true rfl), (Nat.le_of_ble_eq_true rfl)⟩) lw_fW (r0 := 0) (ci := 3) rfl rfl rfl rfl hl.1 rfl (Nat.le_of_ble_eq_true rfl) dL_law_52 ⟨by show cells ≤ 600130; omega, by show slots ≤ 7301080; omega⟩ (fun H locs hP hD hS => ?_)
    refine lv_istore (lv' := [(6, .int (zi (sp_n g.1 : Int))), (5, .int (zi (g.2.1 : Int))), (0, .ref b), (1, .ref (a 0)), (2, .int (1 : Int32)), (3, .int (zi (T : Int))), (4, .int (zi (k : Int)))]) hx hb dL_law_55 hl (by decide) rfl (fun ls hl => ?_)
    refine lv_aload_n hx hb dL_law_57 rfl (lv_at hl 3 rfl) ?_
    refine lv_iconst (v := (3 : Int32)) hx hb dL_law_58 (by decide) ?_
    refine tw_callViF (rv := zi (sp_E g.1)) (ws' := tw_wW cI cQ a na pa ta qa xa z Z3) (As := [.int (3 : Int32)]) (rest := []) F hN hK hP hD hS hA (mX3_count l G cI cQ a na pa ta qa xa z Z2 H.size (3 : Int32) e3 rfl) (cwV 1 hts gL_law_X3_count rfl rfl rfl (by decide +kernel) ⟨(Nat.le_of_ble_eq_true rfl), (Nat.le_of_ble_eq_true rfl)⟩) lw_fW (r0 := 0) (ci := 3) rfl rfl rfl rfl hl.1 rfl (Nat.le_of_ble_eq_true rfl) dL_law_59 ⟨by show cells ≤ 600130; omega, by show slots ≤ 7301080; omega⟩ (fun H locs hP hD hS => ?_)
    refine lv_istore (lv' := [(7, .int (zi (sp_E g.1))), (6, .int (zi (sp_n g.1 : Int))), (5, .int (zi (g.2.1 : Int))), (0, .ref b), (1, .ref (a 0)), (2, .int (1 : Int32)), (3, .int (zi (T : Int))), (4, .int (zi (k : Int)))]) hx hb dL_law_62 hl (by decide) rfl (fun ls hl => ?_)
    refine lv_aload_n hx hb dL_law_64 rfl (lv_at hl 4 rfl) ?_
    refine lv_aload_n hx hb dL_law_65 rfl (lv_at hl 3 rfl) ?_
    refine lv_iconst (v := (4 : Int32)) hx hb dL_law_66 (by decide) ?_
    refine lv_iload hx hb dL_law_67 (lv_at hl 7 rfl) ?_
    refine lv_imul hx hb dL_law_69 ?_
    refine tw_callA (rv := r) (w1' := tw_wW cI cQ a na pa ta qa xa z Y4) (As := [.ref (a 0), .ref b, .int ((4 : Int32) * zi (k : Int))]) (rest := []) F hN hK hP hD hS hA hNX hNC hU hZ hX hbl hbA (mL_act l hst b G cI cQ a na pa ta qa xa z Z3 L xs H.size ((4 : Int32) * zi (k : Int)) e4) (va_cwS 3 hts gL_law_L_act rfl rfl rfl (by decide +kernel) ⟨(Nat.le_of_ble_eq_true rfl), (Nat.le_of_ble_eq_true rfl)⟩) [0, 1] rfl lw_fW rfl hl.1 rfl (Nat.le_of_ble_eq_true rfl) dL_law_70 ⟨by show cells + 1 ≤ 600130; omega, by show slots + 6 ≤ 7301080; omega⟩ (fun H locs hP hD hS => ?_)
    refine lv_istore (lv' := [(8, .int r), (7, .int (zi (sp_E g.1))), (6, .int (zi (sp_n g.1 : Int))), (5, .int (zi (g.2.1 : Int))), (0, .ref b), (1, .ref (a 0)), (2, .int (1 : Int32)), (3, .int (zi (T : Int))), (4, .int (zi (k : Int)))]) hx hb dL_law_73 hl (by decide) rfl (fun ls hl => ?_)
    refine lv_iload hx hb dL_law_75 (lv_at hl 0 rfl) ?_
    refine lv_sipush (v := (-200 : Int32)) hx hb dL_law_77 (by decide) ?_
    rcases h4 with ⟨⟨x, hx9, x0, x1⟩, g4, hI4⟩ | ⟨hr, k4⟩
    · have hgt : (-200 : Int32) < r := by
        rw [hx9, show (-200 : Int32) = zi (-200) from by decide, zi_lt (by omega) (by omega) (by omega) (by omega)]
        exact x0
      refine lv_icmp_gt (tgt := 114) hx hb dL_law_80 (by decide) (fun _ => ?_) (fun h => absurd hgt h)
      exact law_114 C hK hI4 hP hD hS (lv_sub hl [4, 5, 6, 7, 8] rfl) ⟨by omega, by omega⟩ (fun Y H locs ls hI hP hD hS hl => ih (k + 1) (cells + 1) (slots + 6) Y g4 H locs ls (by omega) (by omega) (by omega) hI hP hD hS hl)
    · have hgt : ¬ (-200 : Int32) < r := by
        rw [hr]
        decide
      have hI4 := qp_I_K hI3 k4
      obtain ⟨Z5, e5, k5⟩ := qc_c8 (qp_I_V hI4) (sp_K_r Y4)
      obtain ⟨Z6, e6, k6⟩ := qc_c0 (qp_I_V hI4) k5
      obtain ⟨Z7, e7, k7⟩ := qc_c3 (qp_I_V hI4) k6
      have hI7 := qp_I_K hI4 k7
      refine lv_icmp_gt (tgt := 114) hx hb dL_law_80 (by decide) (fun h => absurd h hgt) (fun _ => ?_)
      refine lv_aload_n hx hb dL_law_83 rfl (lv_at hl 5 rfl) ?_
      refine lv_bipush (v := (8 : Int32)) hx hb dL_law_84 (by decide) ?_
      refine tw_callViF (rv := zi (g.2.1 : Int)) (ws' := tw_wW cI cQ a na pa ta qa xa z Z5) (As := [.int (8 : Int32)]) (rest := []) F hN hK hP hD hS hA (mX3_count l G cI cQ a na pa ta qa xa z Y4 H.size (8 : Int32) e5 rfl) (cwV 1 hts gL_law_X3_count rfl rfl rfl (by decide +kernel) ⟨(Nat.le_of_ble_eq_true rfl), (Nat.le_of_ble_eq_true rfl)⟩) lw_fW (r0 := 0) (ci := 3) rfl rfl rfl rfl hl.1 rfl (Nat.le_of_ble_eq_true rfl) dL_law_86 ⟨by show cells + 1 ≤ 600130; omega, by show slots + 6 ≤ 7301080; omega⟩ (fun H locs hP hD hS => ?_)
      refine lv_iload hx hb dL_law_89 (lv_at hl 3 rfl) ?_
      refine lv_icmp_ne (tgt := 139) hx hb dL_law_91 (by decide) (fun h => absurd rfl h) (fun _ => ?_)
      refine lv_aload_n hx hb dL_law_94 rfl (lv_at hl 5 rfl) ?_
      refine lv_iconst (v := (0 : Int32)) hx hb dL_law_95 (by decide) ?_
      refine tw_callViF (rv := zi (sp_n g.1 : Int)) (ws' := tw_wW cI cQ a na pa ta qa xa z Z6) (As := [.int (0 : Int32)]) (rest := []) F hN hK hP hD hS hA (mX3_count l G cI cQ a na pa ta qa xa z Z5 H.size (0 : Int32) e6 rfl) (cwV 1 hts gL_law_X3_count rfl rfl rfl (by decide +kernel) ⟨(Nat.le_of_ble_eq_true rfl), (Nat.le_of_ble_eq_true rfl)⟩) lw_fW (r0 := 0) (ci := 3) rfl rfl rfl rfl hl.1 rfl (Nat.le_of_ble_eq_true rfl) dL_law_96 ⟨by show cells + 1 ≤ 600130; omega, by show slots + 6 ≤ 7301080; omega⟩ (fun H locs hP hD hS => ?_)
      refine lv_iload hx hb dL_law_99 (lv_at hl 2 rfl) ?_
      refine lv_icmp_ne (tgt := 139) hx hb dL_law_101 (by decide) (fun h => absurd rfl h) (fun _ => ?_)
      refine lv_aload_n hx hb dL_law_104 rfl (lv_at hl 5 rfl) ?_
      refine lv_iconst (v := (3 : Int32)) hx hb dL_law_105 (by decide) ?_
      refine tw_callViF (rv := zi (sp_E g.1)) (ws' := tw_wW cI cQ a na pa ta qa xa z Z7) (As := [.int (3 : Int32)]) (rest := []) F hN hK hP hD hS hA (mX3_count l G cI cQ a na pa ta qa xa z Z6 H.size (3 : Int32) e7 rfl) (cwV 1 hts gL_law_X3_count rfl rfl rfl (by decide +kernel) ⟨(Nat.le_of_ble_eq_true rfl), (Nat.le_of_ble_eq_true rfl)⟩) lw_fW (r0 := 0) (ci := 3) rfl rfl rfl rfl hl.1 rfl (Nat.le_of_ble_eq_true rfl) dL_law_106 ⟨by show cells + 1 ≤ 600130; omega, by show slots + 6 ≤ 7301080; omega⟩ (fun H locs hP hD hS => ?_)
      refine lv_iload hx hb dL_law_109 (lv_at hl 1 rfl) ?_
      refine lv_icmp_ne (tgt := 139) hx hb dL_law_111 (by decide) (fun h => absurd rfl h) (fun _ => ?_)
      exact law_114 C hK hI7 hP hD hS (lv_sub hl [4, 5, 6, 7, 8] rfl) ⟨by omega, by omega⟩ (fun Y H locs ls hI hP hD hS hl => ih (k + 1) (cells + 1) (slots + 6) Y g H locs ls (by omega) (by omega) (by omega) hI hP hD hS hl)
