/-! the law, case by case -/
set_option maxHeartbeats 4000000 in
set_option maxRecDepth 100000 in
theorem lc_rule {p : Program} {l : Launch} {e : Env} {s : State} {m : MethodId} {below : List Frame} {meth : Method} {c : Code} (hst : l.stackTraces = false) {b L : Nat} {xs : Nat → Int32} (C : lw_L p s m c b L xs) {Q : State → Prop} {G : va_G} {cI cQ cL : ClassId} {a na pa ta qa xa : Nat → Nat} {z : Nat → Nat → Nat} {o : Nat} {ma : Nat → Nat} {Y : tw_Wl} {f : Nat → Int64} {M : tw_Md} {H : Heap} {locs : List Loc} {cells slots : Nat} {ls : Array Slot} {x4 : Int32} (h1 : vp_in (x4 + (1 : Int32)) L) (h2 : vp_in (x4 + (2 : Int32)) L) (h3 : vp_in (x4 + (3 : Int32)) L) (hI : sp_I Y M) (hK : va_K G vwCl [(cI, .int), (cQ, .object RX1), (cL, .long)] s) (hP : va_P G vwCl (tw_LW cI cQ cL a na pa ta qa xa z o ma Y f M) H) (hD : va_D (fun q : Nat => s.heap.size ≤ q) (tw_LW cI cQ cL a na pa ta qa xa z o ma Y f M)) (hS : va_S (fun q : Nat => s.heap.size ≤ q) s.heap H locs) (hl : lv_has ls 9 [(0, .ref b), (1, .ref (a 0)), (2, .ref (ma 0)), (3, .ref o), (4, .int x4)]) (hcs : cells + 1 ≤ 601650 ∧ slots + 6 ≤ 7291155) (kk : lw_K p l e s m below meth c b Q G cI cQ cL a na pa ta qa xa z o ma x4 (cells + 1) (slots + 6)) : W p l e room_1 s m #[Value.ref b] below meth c H locs cells slots Q (F0 m 608 ls []) := by
  obtain ⟨hx, hb, hml, hown, hts, hX, hbl, hN, hNX, hNC, hU, hZ⟩ := id C
  have F : CallFix p m c cL_law 9 s #[Value.ref b] wsL_law RL := ⟨hx, hb, hml, hown, hts⟩
  have hA : ∀ q : Nat, s.heap.size ≤ q → (fun q : Nat => s.heap.size ≤ q) q := fun _ h => h
  have hbA : ¬ (fun q : Nat => s.heap.size ≤ q) b := Nat.not_le.mpr hbl
  unfold tw_LW at hP hD
  refine lv_aload_n hx hb dL_law_608 rfl (lv_at hl 1 rfl) ?_
  refine lv_aload_n hx hb dL_law_609 rfl (lv_at hl 0 rfl) ?_
  refine lv_iload hx hb dL_law_610 (lv_at hl 4 rfl) ?_
  refine lv_iconst (v := (1 : Int32)) hx hb dL_law_612 (by decide) ?_
  refine lv_iadd hx hb dL_law_613 ?_
  refine va_sld hx hb hX hbl hbA hS h1 dL_law_614 ?_
  refine lv_aload_n hx hb dL_law_615 rfl (lv_at hl 3 rfl) ?_
  obtain ⟨kc, r, Y2, rb, M2, o1, o2, hI2, o3, o4, o5, o6⟩ := sp_A_t (op_rule hI (xs (x4 + (1 : Int32)).toNatClampNeg))
  have hkc : kc = 0 ∨ kc = 1 := by
    rcases o3 with h | ⟨h, h9⟩ | ⟨h, h9⟩ | ⟨h, h9⟩
    · exact Or.inl h
    · exact Or.inr h
    · exact absurd rfl h9
    · exact absurd rfl h9
  refine lw_callH (w1' := tw_wW cI cQ a na pa ta qa xa z Y2 ++ ([(o, .inl (cL, 1, .inr (.inl (if kc = 0 then vp_updL f 0 (r).toInt64 else f))))] : va_W)) F hN hK hP hD hS hA hNX hNC hU hZ (hL_rule l hst G cI cQ cL a na pa ta qa xa z o Y f H.size (xs (x4 + (1 : Int32)).toNatClampNeg) o1 hkc) (vx_cwSW 3 hts gL_law_L_rule rfl rfl rfl (by decide +kernel) ⟨Nat.le_of_ble_eq_true rfl, Nat.le_of_ble_eq_true rfl⟩) [0, 1, 2] rfl lw_fO (As := [.ref (a 0), .int (xs (x4 + (1 : Int32)).toNatClampNeg), .ref o]) (rest := []) rfl hl.1 rfl (Nat.le_of_ble_eq_true rfl) dL_law_616 hcs (fun H locs hP hD hS => ?_)
  refine lv_istore (lv' := [(5, .int (tw_hk 1 0 0 kc)), (0, .ref b), (1, .ref (a 0)), (2, .ref (ma 0)), (3, .ref o), (4, .int x4)]) hx hb dL_law_619 hl (by decide) rfl (fun ls hl => ?_)
  refine lv_aload_n hx hb dL_law_621 rfl (lv_at hl 3 rfl) ?_
  refine lv_aload_n hx hb dL_law_622 rfl (lv_at hl 1 rfl) ?_
  refine lv_iload hx hb dL_law_623 (lv_at hl 5 rfl) ?_
  refine lv_iconst (v := (1 : Int32)) hx hb dL_law_625 (by decide) ?_
  refine lv_iadd hx hb dL_law_626 ?_
  refine va_sld hx hb hX hbl hbA hS h1 dL_law_627 ?_
  refine tw_callVi (ws' := (tw_wW cI cQ a na pa ta qa xa z Y2 ++ ([(o, .inl (cL, 1, .inr (.inl (if kc = 0 then vp_updL f 0 (r).toInt64 else f))))] : va_W)) ++ tw_wM cI ma M2) F hN hK hP hD hS hA (mX4_rule l G cI ma M H.size (xs (x4 + (1 : Int32)).toNatClampNeg) o2) (cwV 1 hts gL_law_X4_rule rfl rfl rfl (by decide +kernel) ⟨Nat.le_of_ble_eq_true rfl, Nat.le_of_ble_eq_true rfl⟩) [0] rfl ((List.range (tw_wM cI ma M).length).map (fun i => i + (tw_wW cI cQ a na pa ta qa xa z Y2 ++ ([(o, .inl (cL, 1, .inr (.inl (if kc = 0 then vp_updL f 0 (r).toInt64 else f))))] : va_W)).length)) tw_snd tw_sC lw_fM (tw_sM lw_nM) (ci := 4) (r0 := 0) rfl rfl rfl (As := [.int (xs (x4 + (1 : Int32)).toNatClampNeg)]) (rest := []) rfl hl.1 rfl (Nat.le_of_ble_eq_true rfl) dL_law_628 hcs (fun H locs hP hD hS => ?_)
  refine lv_istore (lv' := [(6, .int rb), (5, .int (tw_hk 1 0 0 kc)), (0, .ref b), (1, .ref (a 0)), (2, .ref (ma 0)), (3, .ref o), (4, .int x4)]) hx hb dL_law_631 hl (by decide) rfl (fun ls hl => ?_)
  refine lv_aload_n hx hb dL_law_633 rfl (lv_at hl 4 rfl) ?_
  refine tw_callVi (rv := M2.2.2.2.2.2.2.1) (ws' := (tw_wW cI cQ a na pa ta qa xa z Y2 ++ ([(o, .inl (cL, 1, .inr (.inl (if kc = 0 then vp_updL f 0 (r).toInt64 else f))))] : va_W)) ++ (tw_wM cI ma M2)) F hN hK hP hD hS hA (mX4_thrown l G cI ma M2 H.size rfl) (cwV 0 hts gL_law_X4_thrown rfl rfl rfl (by decide +kernel) ⟨Nat.le_of_ble_eq_true rfl, Nat.le_of_ble_eq_true rfl⟩) [0] rfl ((List.range (tw_wM cI ma M2).length).map (fun i => i + (tw_wW cI cQ a na pa ta qa xa z Y2 ++ ([(o, .inl (cL, 1, .inr (.inl (if kc = 0 then vp_updL f 0 (r).toInt64 else f))))] : va_W)).length)) tw_snd tw_sC lw_fM (tw_sM lw_nM) (ci := 4) (r0 := 0) rfl rfl rfl (As := []) (rest := []) rfl hl.1 rfl (Nat.le_of_ble_eq_true rfl) dL_law_634 hcs (fun H locs hP hD hS => ?_)
  refine lv_iload hx hb dL_law_637 (lv_at hl 1 rfl) ?_
  refine lv_icmp_eq (tgt := 644) hx hb dL_law_639 (by decide) (fun _ => ?_) (fun c => absurd o4 c)
  refine lv_iload hx hb dL_law_644 (lv_at hl 1 rfl) ?_
  refine lv_if_ne (tgt := 661) hx hb dL_law_646 (by decide) (fun c5 => ?_) (fun c5 => ?_)
  · refine lv_goto (tgt := 1423) hx hb dL_law_661 (by decide) ?_
    exact kk Y2 (if kc = 0 then vp_updL f 0 (r).toInt64 else f) M2 H locs ls hI2 hP hD hS (lv_sub hl [2, 3, 4, 5, 6] rfl)
  · have hk0 : kc = 0 := Classical.byContradiction (fun q => o6 q c5)
    refine lv_aload_n hx hb dL_law_649 rfl (lv_at hl 5 rfl) ?_
    refine lv_iconst (v := (0 : Int32)) hx hb dL_law_650 (by decide) ?_
    refine va_lald (f := (if kc = 0 then vp_updL f 0 (r).toInt64 else f)) (n := 1) hx hb hK hP (tw_wW cI cQ a na pa ta qa xa z Y2).length 2 (by rw [List.getElem?_append_left (by rw [List.length_append]; exact Nat.lt_succ_self _)]; exact tw_get_l) rfl (i := (0 : Int32)) (tw_vin (by decide)) dL_law_651 ?_
    refine lv_iload hx hb dL_law_652 (lv_at hl 0 rfl) ?_
    refine lv_i2l hx hb dL_law_654 rfl ?_
    refine W.lcmp hx hb dL_law_655 ?_
    have he9 : lg_cmp ((if kc = 0 then vp_updL f 0 (r).toInt64 else f) (0 : Int32).toNatClampNeg) rb.toInt64 = 0 := by
      have : (if kc = 0 then vp_updL f 0 (r).toInt64 else f) (0 : Int32).toNatClampNeg = rb.toInt64 := by
        rw [if_pos hk0, ← o5 hk0]
        rfl
      rw [this]; exact lw_cmp_eq _
    refine lv_if_eq (tgt := 661) hx hb dL_law_656 (by decide) (fun _ => ?_) (fun c => absurd he9 c)
    refine lv_goto (tgt := 1423) hx hb dL_law_661 (by decide) ?_
    exact kk Y2 (if kc = 0 then vp_updL f 0 (r).toInt64 else f) M2 H locs ls hI2 hP hD hS (lv_sub hl [2, 3, 4, 5, 6] rfl)
set_option maxHeartbeats 4000000 in
set_option maxRecDepth 100000 in
theorem lc_append {p : Program} {l : Launch} {e : Env} {s : State} {m : MethodId} {below : List Frame} {meth : Method} {c : Code} (hst : l.stackTraces = false) {b L : Nat} {xs : Nat → Int32} (C : lw_L p s m c b L xs) {Q : State → Prop} {G : va_G} {cI cQ cL : ClassId} {a na pa ta qa xa : Nat → Nat} {z : Nat → Nat → Nat} {o : Nat} {ma : Nat → Nat} {Y : tw_Wl} {f : Nat → Int64} {M : tw_Md} {H : Heap} {locs : List Loc} {cells slots : Nat} {ls : Array Slot} {x4 : Int32} (h1 : vp_in (x4 + (1 : Int32)) L) (h2 : vp_in (x4 + (2 : Int32)) L) (h3 : vp_in (x4 + (3 : Int32)) L) (hI : sp_I Y M) (hK : va_K G vwCl [(cI, .int), (cQ, .object RX1), (cL, .long)] s) (hP : va_P G vwCl (tw_LW cI cQ cL a na pa ta qa xa z o ma Y f M) H) (hD : va_D (fun q : Nat => s.heap.size ≤ q) (tw_LW cI cQ cL a na pa ta qa xa z o ma Y f M)) (hS : va_S (fun q : Nat => s.heap.size ≤ q) s.heap H locs) (hl : lv_has ls 9 [(0, .ref b), (1, .ref (a 0)), (2, .ref (ma 0)), (3, .ref o), (4, .int x4)]) (hcs : cells + 1 ≤ 601650 ∧ slots + 6 ≤ 7291155) (kk : lw_K p l e s m below meth c b Q G cI cQ cL a na pa ta qa xa z o ma x4 (cells + 1) (slots + 6)) : W p l e room_1 s m #[Value.ref b] below meth c H locs cells slots Q (F0 m 664 ls []) := by
  obtain ⟨hx, hb, hml, hown, hts, hX, hbl, hN, hNX, hNC, hU, hZ⟩ := id C
  have F : CallFix p m c cL_law 9 s #[Value.ref b] wsL_law RL := ⟨hx, hb, hml, hown, hts⟩
  have hA : ∀ q : Nat, s.heap.size ≤ q → (fun q : Nat => s.heap.size ≤ q) q := fun _ h => h
  have hbA : ¬ (fun q : Nat => s.heap.size ≤ q) b := Nat.not_le.mpr hbl
  unfold tw_LW at hP hD
  refine lv_aload_n hx hb dL_law_664 rfl (lv_at hl 1 rfl) ?_
  refine lv_aload_n hx hb dL_law_665 rfl (lv_at hl 0 rfl) ?_
  refine lv_iload hx hb dL_law_666 (lv_at hl 4 rfl) ?_
  refine lv_iconst (v := (1 : Int32)) hx hb dL_law_668 (by decide) ?_
  refine lv_iadd hx hb dL_law_669 ?_
  refine va_sld hx hb hX hbl hbA hS h1 dL_law_670 ?_
  refine lv_aload_n hx hb dL_law_671 rfl (lv_at hl 3 rfl) ?_
  obtain ⟨kc, r, Y2, rb, M2, o1, o2, hI2, o3, o4, o5, o6⟩ := sp_A_t (op_append hI (xs (x4 + (1 : Int32)).toNatClampNeg))
  have hkc : kc = 0 ∨ kc = 1 ∨ kc = 2 := by
    rcases o3 with h | ⟨h, h9⟩ | ⟨h, h9⟩ | ⟨h, h9⟩
    · exact Or.inl h
    · exact Or.inr (Or.inl h)
    · exact Or.inr (Or.inr h)
    · exact absurd rfl h9
  refine lw_callH (w1' := tw_wW cI cQ a na pa ta qa xa z Y2 ++ ([(o, .inl (cL, 1, .inr (.inl (if kc = 0 then vp_updL f 0 (r).toInt64 else f))))] : va_W)) F hN hK hP hD hS hA hNX hNC hU hZ (hL_append l hst G cI cQ cL a na pa ta qa xa z o Y f H.size (xs (x4 + (1 : Int32)).toNatClampNeg) o1 hkc) (vx_cwSW 3 hts gL_law_L_append rfl rfl rfl (by decide +kernel) ⟨Nat.le_of_ble_eq_true rfl, Nat.le_of_ble_eq_true rfl⟩) [0, 1, 2] rfl lw_fO (As := [.ref (a 0), .int (xs (x4 + (1 : Int32)).toNatClampNeg), .ref o]) (rest := []) rfl hl.1 rfl (Nat.le_of_ble_eq_true rfl) dL_law_672 hcs (fun H locs hP hD hS => ?_)
  refine lv_istore (lv' := [(5, .int (tw_hk 1 2 0 kc)), (0, .ref b), (1, .ref (a 0)), (2, .ref (ma 0)), (3, .ref o), (4, .int x4)]) hx hb dL_law_675 hl (by decide) rfl (fun ls hl => ?_)
  refine lv_aload_n hx hb dL_law_677 rfl (lv_at hl 3 rfl) ?_
  refine lv_aload_n hx hb dL_law_678 rfl (lv_at hl 1 rfl) ?_
  refine lv_iload hx hb dL_law_679 (lv_at hl 5 rfl) ?_
  refine lv_iconst (v := (1 : Int32)) hx hb dL_law_681 (by decide) ?_
  refine lv_iadd hx hb dL_law_682 ?_
  refine va_sld hx hb hX hbl hbA hS h1 dL_law_683 ?_
  refine tw_callVi (ws' := (tw_wW cI cQ a na pa ta qa xa z Y2 ++ ([(o, .inl (cL, 1, .inr (.inl (if kc = 0 then vp_updL f 0 (r).toInt64 else f))))] : va_W)) ++ tw_wM cI ma M2) F hN hK hP hD hS hA (mX4_append l G cI ma M H.size (xs (x4 + (1 : Int32)).toNatClampNeg) o2) (cwV 1 hts gL_law_X4_append rfl rfl rfl (by decide +kernel) ⟨Nat.le_of_ble_eq_true rfl, Nat.le_of_ble_eq_true rfl⟩) [0] rfl ((List.range (tw_wM cI ma M).length).map (fun i => i + (tw_wW cI cQ a na pa ta qa xa z Y2 ++ ([(o, .inl (cL, 1, .inr (.inl (if kc = 0 then vp_updL f 0 (r).toInt64 else f))))] : va_W)).length)) tw_snd tw_sC lw_fM (tw_sM lw_nM) (ci := 4) (r0 := 0) rfl rfl rfl (As := [.int (xs (x4 + (1 : Int32)).toNatClampNeg)]) (rest := []) rfl hl.1 rfl (Nat.le_of_ble_eq_true rfl) dL_law_684 hcs (fun H locs hP hD hS => ?_)
  refine lv_istore (lv' := [(6, .int rb), (5, .int (tw_hk 1 2 0 kc)), (0, .ref b), (1, .ref (a 0)), (2, .ref (ma 0)), (3, .ref o), (4, .int x4)]) hx hb dL_law_687 hl (by decide) rfl (fun ls hl => ?_)
  refine lv_aload_n hx hb dL_law_689 rfl (lv_at hl 4 rfl) ?_
  refine tw_callVi (rv := M2.2.2.2.2.2.2.1) (ws' := (tw_wW cI cQ a na pa ta qa xa z Y2 ++ ([(o, .inl (cL, 1, .inr (.inl (if kc = 0 then vp_updL f 0 (r).toInt64 else f))))] : va_W)) ++ (tw_wM cI ma M2)) F hN hK hP hD hS hA (mX4_thrown l G cI ma M2 H.size rfl) (cwV 0 hts gL_law_X4_thrown rfl rfl rfl (by decide +kernel) ⟨Nat.le_of_ble_eq_true rfl, Nat.le_of_ble_eq_true rfl⟩) [0] rfl ((List.range (tw_wM cI ma M2).length).map (fun i => i + (tw_wW cI cQ a na pa ta qa xa z Y2 ++ ([(o, .inl (cL, 1, .inr (.inl (if kc = 0 then vp_updL f 0 (r).toInt64 else f))))] : va_W)).length)) tw_snd tw_sC lw_fM (tw_sM lw_nM) (ci := 4) (r0 := 0) rfl rfl rfl (As := []) (rest := []) rfl hl.1 rfl (Nat.le_of_ble_eq_true rfl) dL_law_690 hcs (fun H locs hP hD hS => ?_)
  refine lv_iload hx hb dL_law_693 (lv_at hl 1 rfl) ?_
  refine lv_icmp_eq (tgt := 700) hx hb dL_law_695 (by decide) (fun _ => ?_) (fun c => absurd o4 c)
  refine lv_iload hx hb dL_law_700 (lv_at hl 1 rfl) ?_
  refine lv_if_ne (tgt := 717) hx hb dL_law_702 (by decide) (fun c5 => ?_) (fun c5 => ?_)
  · refine lv_goto (tgt := 1423) hx hb dL_law_717 (by decide) ?_
    exact kk Y2 (if kc = 0 then vp_updL f 0 (r).toInt64 else f) M2 H locs ls hI2 hP hD hS (lv_sub hl [2, 3, 4, 5, 6] rfl)
  · have hk0 : kc = 0 := Classical.byContradiction (fun q => o6 q c5)
    refine lv_aload_n hx hb dL_law_705 rfl (lv_at hl 5 rfl) ?_
    refine lv_iconst (v := (0 : Int32)) hx hb dL_law_706 (by decide) ?_
    refine va_lald (f := (if kc = 0 then vp_updL f 0 (r).toInt64 else f)) (n := 1) hx hb hK hP (tw_wW cI cQ a na pa ta qa xa z Y2).length 2 (by rw [List.getElem?_append_left (by rw [List.length_append]; exact Nat.lt_succ_self _)]; exact tw_get_l) rfl (i := (0 : Int32)) (tw_vin (by decide)) dL_law_707 ?_
    refine lv_iload hx hb dL_law_708 (lv_at hl 0 rfl) ?_
    refine lv_i2l hx hb dL_law_710 rfl ?_
    refine W.lcmp hx hb dL_law_711 ?_
    have he9 : lg_cmp ((if kc = 0 then vp_updL f 0 (r).toInt64 else f) (0 : Int32).toNatClampNeg) rb.toInt64 = 0 := by
      have : (if kc = 0 then vp_updL f 0 (r).toInt64 else f) (0 : Int32).toNatClampNeg = rb.toInt64 := by
        rw [if_pos hk0, ← o5 hk0]
        rfl
      rw [this]; exact lw_cmp_eq _
    refine lv_if_eq (tgt := 717) hx hb dL_law_712 (by decide) (fun _ => ?_) (fun c => absurd he9 c)
    refine lv_goto (tgt := 1423) hx hb dL_law_717 (by decide) ?_
    exact kk Y2 (if kc = 0 then vp_updL f 0 (r).toInt64 else f) M2 H locs ls hI2 hP hD hS (lv_sub hl [2, 3, 4, 5, 6] rfl)
set_option maxHeartbeats 4000000 in
set_option maxRecDepth 100000 in
theorem lc_clearBuffer {p : Program} {l : Launch} {e : Env} {s : State} {m : MethodId} {below : List Frame} {meth : Method} {c : Code} (hst : l.stackTraces = false) {b L : Nat} {xs : Nat → Int32} (C : lw_L p s m c b L xs) {Q : State → Prop} {G : va_G} {cI cQ cL : ClassId} {a na pa ta qa xa : Nat → Nat} {z : Nat → Nat → Nat} {o : Nat} {ma : Nat → Nat} {Y : tw_Wl} {f : Nat → Int64} {M : tw_Md} {H : Heap} {locs : List Loc} {cells slots : Nat} {ls : Array Slot} {x4 : Int32} (h1 : vp_in (x4 + (1 : Int32)) L) (h2 : vp_in (x4 + (2 : Int32)) L) (h3 : vp_in (x4 + (3 : Int32)) L) (hI : sp_I Y M) (hK : va_K G vwCl [(cI, .int), (cQ, .object RX1), (cL, .long)] s) (hP : va_P G vwCl (tw_LW cI cQ cL a na pa ta qa xa z o ma Y f M) H) (hD : va_D (fun q : Nat => s.heap.size ≤ q) (tw_LW cI cQ cL a na pa ta qa xa z o ma Y f M)) (hS : va_S (fun q : Nat => s.heap.size ≤ q) s.heap H locs) (hl : lv_has ls 9 [(0, .ref b), (1, .ref (a 0)), (2, .ref (ma 0)), (3, .ref o), (4, .int x4)]) (hcs : cells + 1 ≤ 601650 ∧ slots + 6 ≤ 7291155) (kk : lw_K p l e s m below meth c b Q G cI cQ cL a na pa ta qa xa z o ma x4 (cells + 1) (slots + 6)) : W p l e room_1 s m #[Value.ref b] below meth c H locs cells slots Q (F0 m 720 ls []) := by
  obtain ⟨hx, hb, hml, hown, hts, hX, hbl, hN, hNX, hNC, hU, hZ⟩ := id C
  have F : CallFix p m c cL_law 9 s #[Value.ref b] wsL_law RL := ⟨hx, hb, hml, hown, hts⟩
  have hA : ∀ q : Nat, s.heap.size ≤ q → (fun q : Nat => s.heap.size ≤ q) q := fun _ h => h
  have hbA : ¬ (fun q : Nat => s.heap.size ≤ q) b := Nat.not_le.mpr hbl
  unfold tw_LW at hP hD
  refine lv_aload_n hx hb dL_law_720 rfl (lv_at hl 1 rfl) ?_
  obtain ⟨v, Y2, M2, o1, o2, hI2⟩ := op_clear hI
  have hP := hP
  rw [List.append_assoc] at hP hD
  refine tw_callVi (ws' := tw_wW cI cQ a na pa ta qa xa z Y2 ++ (([(o, .inl (cL, 1, .inr (.inl f)))] : va_W) ++ tw_wM cI ma M)) F hN hK hP hD hS hA (mX3_clearBuffer l G cI cQ a na pa ta qa xa z Y H.size o1) (cwV 0 hts gL_law_X3_clearBuffer rfl rfl rfl (by decide +kernel) ⟨Nat.le_of_ble_eq_true rfl, Nat.le_of_ble_eq_true rfl⟩) [0, 1] rfl (List.range (tw_wW cI cQ a na pa ta qa xa z Y).length) (tw_ndR _) tw_pC lw_fW (tw_mix_hit _ rfl lw_nW) (ci := 3) (r0 := 0) rfl rfl rfl (As := []) (rest := []) rfl hl.1 rfl (Nat.le_of_ble_eq_true rfl) dL_law_721 ⟨Nat.le_of_lt hcs.1, Nat.le_trans (Nat.le_add_right _ 6) hcs.2⟩ (fun H locs hP hD hS => ?_)
  rw [← List.append_assoc] at hP hD
  refine lv_aload_n hx hb dL_law_724 rfl (lv_at hl 2 rfl) ?_
  refine tw_callVi (ws' := (tw_wW cI cQ a na pa ta qa xa z Y2 ++ ([(o, .inl (cL, 1, .inr (.inl f)))] : va_W)) ++ tw_wM cI ma M2) F hN hK hP hD hS hA (mX4_clearBuffer l G cI ma M H.size o2) (cwV 0 hts gL_law_X4_clearBuffer rfl rfl rfl (by decide +kernel) ⟨Nat.le_of_ble_eq_true rfl, Nat.le_of_ble_eq_true rfl⟩) [0] rfl ((List.range (tw_wM cI ma M).length).map (fun i => i + (tw_wW cI cQ a na pa ta qa xa z Y2 ++ ([(o, .inl (cL, 1, .inr (.inl f)))] : va_W)).length)) tw_snd tw_sC lw_fM (tw_sM lw_nM) (ci := 4) (r0 := 0) rfl rfl rfl (As := []) (rest := [.int v]) rfl hl.1 rfl (Nat.le_of_ble_eq_true rfl) dL_law_725 ⟨Nat.le_of_lt hcs.1, Nat.le_trans (Nat.le_add_right _ 6) hcs.2⟩ (fun H locs hP hD hS => ?_)
  refine lv_icmp_eq (tgt := 1423) hx hb dL_law_728 (by decide) (fun _ => ?_) (fun c => absurd rfl c)
  refine W.widen (k := cells + 1) (n := slots + 6) (Nat.le_succ _) (Nat.le_add_right _ 6) ?_
  exact kk Y2 f M2 H locs ls hI2 hP hD hS hl
set_option maxHeartbeats 4000000 in
set_option maxRecDepth 100000 in
theorem lc_firstError {p : Program} {l : Launch} {e : Env} {s : State} {m : MethodId} {below : List Frame} {meth : Method} {c : Code} (hst : l.stackTraces = false) {b L : Nat} {xs : Nat → Int32} (C : lw_L p s m c b L xs) {Q : State → Prop} {G : va_G} {cI cQ cL : ClassId} {a na pa ta qa xa : Nat → Nat} {z : Nat → Nat → Nat} {o : Nat} {ma : Nat → Nat} {Y : tw_Wl} {f : Nat → Int64} {M : tw_Md} {H : Heap} {locs : List Loc} {cells slots : Nat} {ls : Array Slot} {x4 : Int32} (h1 : vp_in (x4 + (1 : Int32)) L) (h2 : vp_in (x4 + (2 : Int32)) L) (h3 : vp_in (x4 + (3 : Int32)) L) (hI : sp_I Y M) (hK : va_K G vwCl [(cI, .int), (cQ, .object RX1), (cL, .long)] s) (hP : va_P G vwCl (tw_LW cI cQ cL a na pa ta qa xa z o ma Y f M) H) (hD : va_D (fun q : Nat => s.heap.size ≤ q) (tw_LW cI cQ cL a na pa ta qa xa z o ma Y f M)) (hS : va_S (fun q : Nat => s.heap.size ≤ q) s.heap H locs) (hl : lv_has ls 9 [(0, .ref b), (1, .ref (a 0)), (2, .ref (ma 0)), (3, .ref o), (4, .int x4)]) (hcs : cells + 1 ≤ 601650 ∧ slots + 6 ≤ 7291155) (kk : lw_K p l e s m below meth c b Q G cI cQ cL a na pa ta qa xa z o ma x4 (cells + 1) (slots + 6)) : W p l e room_1 s m #[Value.ref b] below meth c H locs cells slots Q (F0 m 733 ls []) := by
  obtain ⟨hx, hb, hml, hown, hts, hX, hbl, hN, hNX, hNC, hU, hZ⟩ := id C
  have F : CallFix p m c cL_law 9 s #[Value.ref b] wsL_law RL := ⟨hx, hb, hml, hown, hts⟩
  have hA : ∀ q : Nat, s.heap.size ≤ q → (fun q : Nat => s.heap.size ≤ q) q := fun _ h => h
  have hbA : ¬ (fun q : Nat => s.heap.size ≤ q) b := Nat.not_le.mpr hbl
  unfold tw_LW at hP hD
  refine lv_aload_n hx hb dL_law_733 rfl (lv_at hl 1 rfl) ?_
  obtain ⟨v, Y2, M2, o1, o2, hI2⟩ := op_firstError hI
  obtain ⟨o8, rfl⟩ : fX3_firstError Y = some v ∧ Y = Y2 := by
    cases hu : fX3_firstError Y with
    | none => rw [hu] at o1; cases o1
    | some u => rw [hu] at o1; cases o1; exact ⟨rfl, rfl⟩
  have hP := hP
  rw [List.append_assoc] at hP hD
  refine tw_callVi (ws' := tw_wW cI cQ a na pa ta qa xa z Y ++ (([(o, .inl (cL, 1, .inr (.inl f)))] : va_W) ++ tw_wM cI ma M)) F hN hK hP hD hS hA (mX3_firstError l G cI cQ a na pa ta qa xa z Y H.size o8) (cwV 0 hts gL_law_X3_firstError rfl rfl rfl (by decide +kernel) ⟨Nat.le_of_ble_eq_true rfl, Nat.le_of_ble_eq_true rfl⟩) [0, 1] rfl (List.range (tw_wW cI cQ a na pa ta qa xa z Y).length) (tw_ndR _) tw_pC lw_fW (tw_mix_hit _ rfl lw_nW) (ci := 3) (r0 := 0) rfl rfl rfl (As := []) (rest := []) rfl hl.1 rfl (Nat.le_of_ble_eq_true rfl) dL_law_734 ⟨Nat.le_of_lt hcs.1, Nat.le_trans (Nat.le_add_right _ 6) hcs.2⟩ (fun H locs hP hD hS => ?_)
  rw [← List.append_assoc] at hP hD
  refine lv_aload_n hx hb dL_law_737 rfl (lv_at hl 2 rfl) ?_
  refine tw_callVi (ws' := (tw_wW cI cQ a na pa ta qa xa z Y ++ ([(o, .inl (cL, 1, .inr (.inl f)))] : va_W)) ++ tw_wM cI ma M2) F hN hK hP hD hS hA (mX4_firstError l G cI ma M H.size o2) (cwV 0 hts gL_law_X4_firstError rfl rfl rfl (by decide +kernel) ⟨Nat.le_of_ble_eq_true rfl, Nat.le_of_ble_eq_true rfl⟩) [0] rfl ((List.range (tw_wM cI ma M).length).map (fun i => i + (tw_wW cI cQ a na pa ta qa xa z Y ++ ([(o, .inl (cL, 1, .inr (.inl f)))] : va_W)).length)) tw_snd tw_sC lw_fM (tw_sM lw_nM) (ci := 4) (r0 := 0) rfl rfl rfl (As := []) (rest := [.int v]) rfl hl.1 rfl (Nat.le_of_ble_eq_true rfl) dL_law_738 ⟨Nat.le_of_lt hcs.1, Nat.le_trans (Nat.le_add_right _ 6) hcs.2⟩ (fun H locs hP hD hS => ?_)
  refine lv_icmp_eq (tgt := 1423) hx hb dL_law_741 (by decide) (fun _ => ?_) (fun c => absurd rfl c)
  refine W.widen (k := cells + 1) (n := slots + 6) (Nat.le_succ _) (Nat.le_add_right _ 6) ?_
  exact kk Y f M2 H locs ls hI2 hP hD hS hl
set_option maxHeartbeats 4000000 in
set_option maxRecDepth 100000 in
theorem lc_addAll {p : Program} {l : Launch} {e : Env} {s : State} {m : MethodId} {below : List Frame} {meth : Method} {c : Code} (hst : l.stackTraces = false) {b L : Nat} {xs : Nat → Int32} (C : lw_L p s m c b L xs) {Q : State → Prop} {G : va_G} {cI cQ cL : ClassId} {a na pa ta qa xa : Nat → Nat} {z : Nat → Nat → Nat} {o : Nat} {ma : Nat → Nat} {Y : tw_Wl} {f : Nat → Int64} {M : tw_Md} {H : Heap} {locs : List Loc} {cells slots : Nat} {ls : Array Slot} {x4 : Int32} (h1 : vp_in (x4 + (1 : Int32)) L) (h2 : vp_in (x4 + (2 : Int32)) L) (h3 : vp_in (x4 + (3 : Int32)) L) (hI : sp_I Y M) (hK : va_K G vwCl [(cI, .int), (cQ, .object RX1), (cL, .long)] s) (hP : va_P G vwCl (tw_LW cI cQ cL a na pa ta qa xa z o ma Y f M) H) (hD : va_D (fun q : Nat => s.heap.size ≤ q) (tw_LW cI cQ cL a na pa ta qa xa z o ma Y f M)) (hS : va_S (fun q : Nat => s.heap.size ≤ q) s.heap H locs) (hl : lv_has ls 9 [(0, .ref b), (1, .ref (a 0)), (2, .ref (ma 0)), (3, .ref o), (4, .int x4)]) (hcs : cells + 1 ≤ 601650 ∧ slots + 6 ≤ 7291155) (kk : lw_K p l e s m below meth c b Q G cI cQ cL a na pa ta qa xa z o ma x4 (cells + 1) (slots + 6)) : W p l e room_1 s m #[Value.ref b] below meth c H locs cells slots Q (F0 m 746 ls []) := by
  obtain ⟨hx, hb, hml, hown, hts, hX, hbl, hN, hNX, hNC, hU, hZ⟩ := id C
  have F : CallFix p m c cL_law 9 s #[Value.ref b] wsL_law RL := ⟨hx, hb, hml, hown, hts⟩
  have hA : ∀ q : Nat, s.heap.size ≤ q → (fun q : Nat => s.heap.size ≤ q) q := fun _ h => h
  have hbA : ¬ (fun q : Nat => s.heap.size ≤ q) b := Nat.not_le.mpr hbl
  unfold tw_LW at hP hD
  refine lv_aload_n hx hb dL_law_746 rfl (lv_at hl 1 rfl) ?_
  refine lv_aload_n hx hb dL_law_747 rfl (lv_at hl 3 rfl) ?_
  obtain ⟨kc, r, Y2, rb, M2, o1, o2, hI2, o3, o4, o5, o6⟩ := sp_A_t (op_addAll hI )
  have hkc : kc = 0 ∨ kc = 1 ∨ kc = 2 := by
    rcases o3 with h | ⟨h, h9⟩ | ⟨h, h9⟩ | ⟨h, h9⟩
    · exact Or.inl h
    · exact Or.inr (Or.inl h)
    · exact Or.inr (Or.inr h)
    · exact absurd rfl h9
  refine lw_callH (w1' := tw_wW cI cQ a na pa ta qa xa z Y2 ++ ([(o, .inl (cL, 1, .inr (.inl (if kc = 0 then vp_updL f 0 (r).toInt64 else f))))] : va_W)) F hN hK hP hD hS hA hNX hNC hU hZ (hL_addAll l hst G cI cQ cL a na pa ta qa xa z o Y f H.size  o1 hkc) (vx_cwSW 2 hts gL_law_L_addAll rfl rfl rfl (by decide +kernel) ⟨Nat.le_of_ble_eq_true rfl, Nat.le_of_ble_eq_true rfl⟩) [0, 1, 2] rfl lw_fO (As := [.ref (a 0), .ref o]) (rest := []) rfl hl.1 rfl (Nat.le_of_ble_eq_true rfl) dL_law_748 hcs (fun H locs hP hD hS => ?_)
  refine lv_istore (lv' := [(5, .int (tw_hk 1 2 0 kc)), (0, .ref b), (1, .ref (a 0)), (2, .ref (ma 0)), (3, .ref o), (4, .int x4)]) hx hb dL_law_751 hl (by decide) rfl (fun ls hl => ?_)
  refine lv_aload_n hx hb dL_law_753 rfl (lv_at hl 3 rfl) ?_
  refine tw_callVi (ws' := (tw_wW cI cQ a na pa ta qa xa z Y2 ++ ([(o, .inl (cL, 1, .inr (.inl (if kc = 0 then vp_updL f 0 (r).toInt64 else f))))] : va_W)) ++ tw_wM cI ma M2) F hN hK hP hD hS hA (mX4_addAll l G cI ma M H.size o2) (cwV 0 hts gL_law_X4_addAll rfl rfl rfl (by decide +kernel) ⟨Nat.le_of_ble_eq_true rfl, Nat.le_of_ble_eq_true rfl⟩) [0] rfl ((List.range (tw_wM cI ma M).length).map (fun i => i + (tw_wW cI cQ a na pa ta qa xa z Y2 ++ ([(o, .inl (cL, 1, .inr (.inl (if kc = 0 then vp_updL f 0 (r).toInt64 else f))))] : va_W)).length)) tw_snd tw_sC lw_fM (tw_sM lw_nM) (ci := 4) (r0 := 0) rfl rfl rfl (As := []) (rest := []) rfl hl.1 rfl (Nat.le_of_ble_eq_true rfl) dL_law_754 hcs (fun H locs hP hD hS => ?_)
  refine lv_istore (lv' := [(6, .int rb), (5, .int (tw_hk 1 2 0 kc)), (0, .ref b), (1, .ref (a 0)), (2, .ref (ma 0)), (3, .ref o), (4, .int x4)]) hx hb dL_law_757 hl (by decide) rfl (fun ls hl => ?_)
  refine lv_aload_n hx hb dL_law_759 rfl (lv_at hl 4 rfl) ?_
  refine tw_callVi (rv := M2.2.2.2.2.2.2.1) (ws' := (tw_wW cI cQ a na pa ta qa xa z Y2 ++ ([(o, .inl (cL, 1, .inr (.inl (if kc = 0 then vp_updL f 0 (r).toInt64 else f))))] : va_W)) ++ (tw_wM cI ma M2)) F hN hK hP hD hS hA (mX4_thrown l G cI ma M2 H.size rfl) (cwV 0 hts gL_law_X4_thrown rfl rfl rfl (by decide +kernel) ⟨Nat.le_of_ble_eq_true rfl, Nat.le_of_ble_eq_true rfl⟩) [0] rfl ((List.range (tw_wM cI ma M2).length).map (fun i => i + (tw_wW cI cQ a na pa ta qa xa z Y2 ++ ([(o, .inl (cL, 1, .inr (.inl (if kc = 0 then vp_updL f 0 (r).toInt64 else f))))] : va_W)).length)) tw_snd tw_sC lw_fM (tw_sM lw_nM) (ci := 4) (r0 := 0) rfl rfl rfl (As := []) (rest := []) rfl hl.1 rfl (Nat.le_of_ble_eq_true rfl) dL_law_760 hcs (fun H locs hP hD hS => ?_)
  refine lv_iload hx hb dL_law_763 (lv_at hl 1 rfl) ?_
  refine lv_icmp_eq (tgt := 770) hx hb dL_law_765 (by decide) (fun _ => ?_) (fun c => absurd o4 c)
  refine lv_iload hx hb dL_law_770 (lv_at hl 1 rfl) ?_
  refine lv_if_ne (tgt := 787) hx hb dL_law_772 (by decide) (fun c5 => ?_) (fun c5 => ?_)
  · refine lv_goto (tgt := 1423) hx hb dL_law_787 (by decide) ?_
    exact kk Y2 (if kc = 0 then vp_updL f 0 (r).toInt64 else f) M2 H locs ls hI2 hP hD hS (lv_sub hl [2, 3, 4, 5, 6] rfl)
  · have hk0 : kc = 0 := Classical.byContradiction (fun q => o6 q c5)
    refine lv_aload_n hx hb dL_law_775 rfl (lv_at hl 5 rfl) ?_
    refine lv_iconst (v := (0 : Int32)) hx hb dL_law_776 (by decide) ?_
    refine va_lald (f := (if kc = 0 then vp_updL f 0 (r).toInt64 else f)) (n := 1) hx hb hK hP (tw_wW cI cQ a na pa ta qa xa z Y2).length 2 (by rw [List.getElem?_append_left (by rw [List.length_append]; exact Nat.lt_succ_self _)]; exact tw_get_l) rfl (i := (0 : Int32)) (tw_vin (by decide)) dL_law_777 ?_
    refine lv_iload hx hb dL_law_778 (lv_at hl 0 rfl) ?_
    refine lv_i2l hx hb dL_law_780 rfl ?_
    refine W.lcmp hx hb dL_law_781 ?_
    have he9 : lg_cmp ((if kc = 0 then vp_updL f 0 (r).toInt64 else f) (0 : Int32).toNatClampNeg) rb.toInt64 = 0 := by
      have : (if kc = 0 then vp_updL f 0 (r).toInt64 else f) (0 : Int32).toNatClampNeg = rb.toInt64 := by
        rw [if_pos hk0, ← o5 hk0]
        rfl
      rw [this]; exact lw_cmp_eq _
    refine lv_if_eq (tgt := 787) hx hb dL_law_782 (by decide) (fun _ => ?_) (fun c => absurd he9 c)
    refine lv_goto (tgt := 1423) hx hb dL_law_787 (by decide) ?_
    exact kk Y2 (if kc = 0 then vp_updL f 0 (r).toInt64 else f) M2 H locs ls hI2 hP hD hS (lv_sub hl [2, 3, 4, 5, 6] rfl)
set_option maxHeartbeats 4000000 in
set_option maxRecDepth 100000 in
theorem lc_undo {p : Program} {l : Launch} {e : Env} {s : State} {m : MethodId} {below : List Frame} {meth : Method} {c : Code} (hst : l.stackTraces = false) {b L : Nat} {xs : Nat → Int32} (C : lw_L p s m c b L xs) {Q : State → Prop} {G : va_G} {cI cQ cL : ClassId} {a na pa ta qa xa : Nat → Nat} {z : Nat → Nat → Nat} {o : Nat} {ma : Nat → Nat} {Y : tw_Wl} {f : Nat → Int64} {M : tw_Md} {H : Heap} {locs : List Loc} {cells slots : Nat} {ls : Array Slot} {x4 : Int32} (h1 : vp_in (x4 + (1 : Int32)) L) (h2 : vp_in (x4 + (2 : Int32)) L) (h3 : vp_in (x4 + (3 : Int32)) L) (hI : sp_I Y M) (hK : va_K G vwCl [(cI, .int), (cQ, .object RX1), (cL, .long)] s) (hP : va_P G vwCl (tw_LW cI cQ cL a na pa ta qa xa z o ma Y f M) H) (hD : va_D (fun q : Nat => s.heap.size ≤ q) (tw_LW cI cQ cL a na pa ta qa xa z o ma Y f M)) (hS : va_S (fun q : Nat => s.heap.size ≤ q) s.heap H locs) (hl : lv_has ls 9 [(0, .ref b), (1, .ref (a 0)), (2, .ref (ma 0)), (3, .ref o), (4, .int x4)]) (hcs : cells + 1 ≤ 601650 ∧ slots + 6 ≤ 7291155) (kk : lw_K p l e s m below meth c b Q G cI cQ cL a na pa ta qa xa z o ma x4 (cells + 1) (slots + 6)) : W p l e room_1 s m #[Value.ref b] below meth c H locs cells slots Q (F0 m 790 ls []) := by
  obtain ⟨hx, hb, hml, hown, hts, hX, hbl, hN, hNX, hNC, hU, hZ⟩ := id C
  have F : CallFix p m c cL_law 9 s #[Value.ref b] wsL_law RL := ⟨hx, hb, hml, hown, hts⟩
  have hA : ∀ q : Nat, s.heap.size ≤ q → (fun q : Nat => s.heap.size ≤ q) q := fun _ h => h
  have hbA : ¬ (fun q : Nat => s.heap.size ≤ q) b := Nat.not_le.mpr hbl
  unfold tw_LW at hP hD
  refine lv_aload_n hx hb dL_law_790 rfl (lv_at hl 1 rfl) ?_
  refine lv_aload_n hx hb dL_law_791 rfl (lv_at hl 3 rfl) ?_
  obtain ⟨kc, r, Y2, rb, M2, o1, o2, hI2, o3, o4, o5, o6⟩ := sp_A_t (op_undo hI )
  have hkc : kc = 0 ∨ kc = 2 := by
    rcases o3 with h | ⟨h, h9⟩ | ⟨h, h9⟩ | ⟨h, h9⟩
    · exact Or.inl h
    · exact absurd rfl h9
    · exact Or.inr h
    · exact absurd rfl h9
  refine lw_callH (w1' := tw_wW cI cQ a na pa ta qa xa z Y2 ++ ([(o, .inl (cL, 1, .inr (.inl (if kc = 0 then vp_updL f 0 (r).toInt64 else f))))] : va_W)) F hN hK hP hD hS hA hNX hNC hU hZ (hL_undo l hst G cI cQ cL a na pa ta qa xa z o Y f H.size  o1 hkc) (vx_cwSW 2 hts gL_law_L_undo rfl rfl rfl (by decide +kernel) ⟨Nat.le_of_ble_eq_true rfl, Nat.le_of_ble_eq_true rfl⟩) [0, 1, 2] rfl lw_fO (As := [.ref (a 0), .ref o]) (rest := []) rfl hl.1 rfl (Nat.le_of_ble_eq_true rfl) dL_law_792 hcs (fun H locs hP hD hS => ?_)
  refine lv_istore (lv' := [(5, .int (tw_hk 0 1 0 kc)), (0, .ref b), (1, .ref (a 0)), (2, .ref (ma 0)), (3, .ref o), (4, .int x4)]) hx hb dL_law_795 hl (by decide) rfl (fun ls hl => ?_)
  refine lv_aload_n hx hb dL_law_797 rfl (lv_at hl 3 rfl) ?_
  refine tw_callVi (ws' := (tw_wW cI cQ a na pa ta qa xa z Y2 ++ ([(o, .inl (cL, 1, .inr (.inl (if kc = 0 then vp_updL f 0 (r).toInt64 else f))))] : va_W)) ++ tw_wM cI ma M2) F hN hK hP hD hS hA (mX4_undo l G cI ma M H.size o2) (cwV 0 hts gL_law_X4_undo rfl rfl rfl (by decide +kernel) ⟨Nat.le_of_ble_eq_true rfl, Nat.le_of_ble_eq_true rfl⟩) [0] rfl ((List.range (tw_wM cI ma M).length).map (fun i => i + (tw_wW cI cQ a na pa ta qa xa z Y2 ++ ([(o, .inl (cL, 1, .inr (.inl (if kc = 0 then vp_updL f 0 (r).toInt64 else f))))] : va_W)).length)) tw_snd tw_sC lw_fM (tw_sM lw_nM) (ci := 4) (r0 := 0) rfl rfl rfl (As := []) (rest := []) rfl hl.1 rfl (Nat.le_of_ble_eq_true rfl) dL_law_798 hcs (fun H locs hP hD hS => ?_)
  refine lv_istore (lv' := [(6, .int rb), (5, .int (tw_hk 0 1 0 kc)), (0, .ref b), (1, .ref (a 0)), (2, .ref (ma 0)), (3, .ref o), (4, .int x4)]) hx hb dL_law_801 hl (by decide) rfl (fun ls hl => ?_)
  refine lv_aload_n hx hb dL_law_803 rfl (lv_at hl 4 rfl) ?_
  refine tw_callVi (rv := M2.2.2.2.2.2.2.1) (ws' := (tw_wW cI cQ a na pa ta qa xa z Y2 ++ ([(o, .inl (cL, 1, .inr (.inl (if kc = 0 then vp_updL f 0 (r).toInt64 else f))))] : va_W)) ++ (tw_wM cI ma M2)) F hN hK hP hD hS hA (mX4_thrown l G cI ma M2 H.size rfl) (cwV 0 hts gL_law_X4_thrown rfl rfl rfl (by decide +kernel) ⟨Nat.le_of_ble_eq_true rfl, Nat.le_of_ble_eq_true rfl⟩) [0] rfl ((List.range (tw_wM cI ma M2).length).map (fun i => i + (tw_wW cI cQ a na pa ta qa xa z Y2 ++ ([(o, .inl (cL, 1, .inr (.inl (if kc = 0 then vp_updL f 0 (r).toInt64 else f))))] : va_W)).length)) tw_snd tw_sC lw_fM (tw_sM lw_nM) (ci := 4) (r0 := 0) rfl rfl rfl (As := []) (rest := []) rfl hl.1 rfl (Nat.le_of_ble_eq_true rfl) dL_law_804 hcs (fun H locs hP hD hS => ?_)
  refine lv_iload hx hb dL_law_807 (lv_at hl 1 rfl) ?_
  refine lv_icmp_eq (tgt := 814) hx hb dL_law_809 (by decide) (fun _ => ?_) (fun c => absurd o4 c)
  refine lv_iload hx hb dL_law_814 (lv_at hl 1 rfl) ?_
  refine lv_if_ne (tgt := 831) hx hb dL_law_816 (by decide) (fun c5 => ?_) (fun c5 => ?_)
  · refine lv_goto (tgt := 1423) hx hb dL_law_831 (by decide) ?_
    exact kk Y2 (if kc = 0 then vp_updL f 0 (r).toInt64 else f) M2 H locs ls hI2 hP hD hS (lv_sub hl [2, 3, 4, 5, 6] rfl)
  · have hk0 : kc = 0 := Classical.byContradiction (fun q => o6 q c5)
    refine lv_aload_n hx hb dL_law_819 rfl (lv_at hl 5 rfl) ?_
    refine lv_iconst (v := (0 : Int32)) hx hb dL_law_820 (by decide) ?_
    refine va_lald (f := (if kc = 0 then vp_updL f 0 (r).toInt64 else f)) (n := 1) hx hb hK hP (tw_wW cI cQ a na pa ta qa xa z Y2).length 2 (by rw [List.getElem?_append_left (by rw [List.length_append]; exact Nat.lt_succ_self _)]; exact tw_get_l) rfl (i := (0 : Int32)) (tw_vin (by decide)) dL_law_821 ?_
    refine lv_iload hx hb dL_law_822 (lv_at hl 0 rfl) ?_
    refine lv_i2l hx hb dL_law_824 rfl ?_
    refine W.lcmp hx hb dL_law_825 ?_
    have he9 : lg_cmp ((if kc = 0 then vp_updL f 0 (r).toInt64 else f) (0 : Int32).toNatClampNeg) rb.toInt64 = 0 := by
      have : (if kc = 0 then vp_updL f 0 (r).toInt64 else f) (0 : Int32).toNatClampNeg = rb.toInt64 := by
        rw [if_pos hk0, ← o5 hk0]
        rfl
      rw [this]; exact lw_cmp_eq _
    refine lv_if_eq (tgt := 831) hx hb dL_law_826 (by decide) (fun _ => ?_) (fun c => absurd he9 c)
    refine lv_goto (tgt := 1423) hx hb dL_law_831 (by decide) ?_
    exact kk Y2 (if kc = 0 then vp_updL f 0 (r).toInt64 else f) M2 H locs ls hI2 hP hD hS (lv_sub hl [2, 3, 4, 5, 6] rfl)
