abbrev rmX4_ofTask : Room := { frames := 6, cells := 0, slots := 0, locals := 143 }
set_option maxRecDepth 20000 in
theorem qX4_ofTask_0 : (Cond.fieldLink RX4 7 "TheatreWallModel" "now" "[I") ∈ wsX4_ofTask := (List.mem_cons_of_mem _ (List.mem_append_left _ (List.mem_append_left _ (List.mem_of_getElem? (i := 0) rfl))))
set_option maxRecDepth 20000 in
theorem qX4_ofTask_1 : (Cond.fieldLink RX4 25 "TheatreWallModel" "plan" "[I") ∈ wsX4_ofTask := (List.mem_cons_of_mem _ (List.mem_append_left _ (List.mem_append_left _ (List.mem_of_getElem? (i := 1) rfl))))
set_option maxRecDepth 20000 in
theorem iX4_ofTask_X4 : ∀ w ∈ u_ws RX4 TX4 13, w ∈ wsX4_ofTask := fun w h => (List.mem_cons_of_mem _ (List.mem_append_right _ h))
set_option maxHeartbeats 4000000 in
set_option maxRecDepth 100000 in
theorem mX4_ofTask (l : Launch) (G : va_G) (cI : ClassId) (ma : Nat → Nat) (M : tw_Md) (sz : Nat) (p1 : Int32) (p2 : Int32) {rv : Int32 × tw_Md} (h : fX4_ofTask M p1 p2 = some rv) : tw_Mi l yX4_ofTask wsX4_ofTask rmX4_ofTask G [(cI, .int)] (tw_wM cI ma M) [.ref (ma 0), .int p1, .int p2] sz rv.1 (tw_wM cI ma rv.2) := by
  refine tw_ofi (ty := .int) (cc := cX4_ofTask) (maxL := 3) (own := RX4) (by decide) rfl rfl (Nat.le_of_ble_eq_true rfl) ?_
  intro p e s m args below meth c Q A ls H locs F hN hK hP hD hS hA hl hq
  obtain ⟨hx, hb, hml, hown, hts⟩ := id F
  have hl : lv_has ls 3 [(0, .ref (ma 0)), (1, .int p1), (2, .int p2)] := hl
  unfold fX4_ofTask at h
  refine lv_iload_n hx hb dX4_ofTask_0 rfl (lv_at hl 2 rfl) ?_
  refine lv_bipush (v := (6 : Int32)) hx hb dX4_ofTask_1 (by decide) ?_
  refine lv_icmp_ge (tgt := 32) hx hb dX4_ofTask_3 (by decide) (fun c3 => ?_) (fun c3 => ?_)
  · replace h := tw_t c3 h
    refine lv_aload_n hx hb dX4_ofTask_32 rfl (lv_at hl 0 rfl) ?_
    obtain ⟨r33, e33, h⟩ := tw_bs h
    refine tw_callVvF (ws' := (tw_wM cI ma r33)) (As := []) (rest := []) F hN hK hP hD hS hA (mX4_plans l G cI ma M H.size e33) (cwV 0 hts gX4_ofTask_X4_plans rfl rfl rfl (by decide +kernel) ⟨(Nat.le_of_ble_eq_true rfl), (Nat.le_of_ble_eq_true rfl)⟩) rfl (r0 := 0) (ci := 4) rfl rfl rfl rfl hl.1 rfl (Nat.le_of_ble_eq_true rfl) dX4_ofTask_33 ⟨Nat.zero_le _, Nat.zero_le _⟩ (fun H locs hP hD hS => ?_)
    refine lv_iload_n hx hb dX4_ofTask_36 rfl (lv_at hl 2 rfl) ?_
    refine lv_bipush (v := (6 : Int32)) hx hb dX4_ofTask_37 (by decide) ?_
    refine lv_icmp_ne (tgt := 51) hx hb dX4_ofTask_39 (by decide) (fun c39 => ?_) (fun c39 => ?_)
    · replace h := tw_t c39 h
      refine lv_iload_n hx hb dX4_ofTask_51 rfl (lv_at hl 2 rfl) ?_
      refine lv_bipush (v := (7 : Int32)) hx hb dX4_ofTask_52 (by decide) ?_
      refine lv_icmp_ne (tgt := 65) hx hb dX4_ofTask_54 (by decide) (fun c54 => ?_) (fun c54 => ?_)
      · replace h := tw_t c54 h
        refine lv_aload_n hx hb dX4_ofTask_65 rfl (lv_at hl 0 rfl) ?_
        refine va_get (D := G) (ci := 4) (v := .ref (ma 1)) (C := RX4) (T := TX4) (N := 13) hx hb hts iX4_ofTask_X4 hown hK hP 0 rfl rfl 0 (by decide) (hts _ qX4_ofTask_0) (fun _ h9 => h9) rfl dX4_ofTask_66 ?_
        refine lv_aload_n hx hb dX4_ofTask_69 rfl (lv_at hl 0 rfl) ?_
        refine va_get (D := G) (ci := 4) (v := .ref (ma 6)) (C := RX4) (T := TX4) (N := 13) hx hb hts iX4_ofTask_X4 hown hK hP 0 rfl rfl 11 (by decide) (hts _ qX4_ofTask_1) (fun _ h9 => h9) rfl dX4_ofTask_70 ?_
        refine lv_iload_n hx hb dX4_ofTask_73 rfl (lv_at hl 1 rfl) ?_
        obtain ⟨r74, e74, h⟩ := tw_bs h
        refine tw_callSi (ws' := (tw_wM cI ma r33)) (As := [.ref (ma 1), .ref (ma 6), .int p1]) (rest := []) F hN hK hP hD hS hA (mX4_waits l G cI (ma 1) (ma 6) r33.1 r33.2.2.2.2.2.2.2.2.2.2.2.1 H.size p1 e74) (va_cwS 3 hts gX4_ofTask_X4_waits rfl rfl rfl (by decide +kernel) ⟨(Nat.le_of_ble_eq_true rfl), (Nat.le_of_ble_eq_true rfl)⟩) [0] rfl [1, 6] (by decide) rfl rfl rfl rfl hl.1 rfl (Nat.le_of_ble_eq_true rfl) dX4_ofTask_74 ⟨Nat.zero_le _, Nat.zero_le _⟩ (fun H locs hP hD hS => ?_)
        exact hq H locs _ ls r74 (tw_rt (fun r => r.1 = r74) h rfl) rfl (tw_rt (fun r => va_P G vwCl (tw_wM cI ma r.2) H) h hP) hS dX4_ofTask_77
      · replace h := tw_fn c54 h
        refine lv_aload_n hx hb dX4_ofTask_57 rfl (lv_at hl 0 rfl) ?_
        refine lv_iload_n hx hb dX4_ofTask_58 rfl (lv_at hl 1 rfl) ?_
        obtain ⟨r59, e59, h⟩ := tw_bs h
        refine tw_callViF (ws' := (tw_wM cI ma r59.2)) (As := [.int p1]) (rest := []) F hN hK hP hD hS hA (mX4_slack l G cI ma r33 H.size p1 e59) (cwV 1 hts gX4_ofTask_X4_slack rfl rfl rfl (by decide +kernel) ⟨(Nat.le_of_ble_eq_true rfl), (Nat.le_of_ble_eq_true rfl)⟩) rfl (r0 := 0) (ci := 4) rfl rfl rfl rfl hl.1 rfl (Nat.le_of_ble_eq_true rfl) dX4_ofTask_59 ⟨Nat.zero_le _, Nat.zero_le _⟩ (fun H locs hP hD hS => ?_)
        refine lv_goto (tgt := 77) hx hb dX4_ofTask_62 (by decide) ?_
        exact hq H locs _ ls r59.1 (tw_rt (fun r => r.1 = r59.1) h rfl) rfl (tw_rt (fun r => va_P G vwCl (tw_wM cI ma r.2) H) h hP) hS dX4_ofTask_77
    · replace h := tw_fn c39 h
      refine lv_aload_n hx hb dX4_ofTask_42 rfl (lv_at hl 0 rfl) ?_
      refine va_get (D := G) (ci := 4) (v := .ref (ma 6)) (C := RX4) (T := TX4) (N := 13) hx hb hts iX4_ofTask_X4 hown hK hP 0 rfl rfl 11 (by decide) (hts _ qX4_ofTask_1) (fun _ h9 => h9) rfl dX4_ofTask_43 ?_
      refine lv_iload_n hx hb dX4_ofTask_46 rfl (lv_at hl 1 rfl) ?_
      obtain ⟨g47, h⟩ := tw_gs h
      refine va_iald (f := r33.2.2.2.2.2.2.2.2.2.2.2.1) (n := 12) hx hb hK hP 6 0 rfl rfl g47 dX4_ofTask_47 ?_
      refine lv_goto (tgt := 77) hx hb dX4_ofTask_48 (by decide) ?_
      exact hq H locs _ ls (r33.2.2.2.2.2.2.2.2.2.2.2.1 p1.toNatClampNeg) (tw_rt (fun r => r.1 = (r33.2.2.2.2.2.2.2.2.2.2.2.1 p1.toNatClampNeg)) h rfl) rfl (tw_rt (fun r => va_P G vwCl (tw_wM cI ma r.2) H) h hP) hS dX4_ofTask_77
  · replace h := tw_f c3 h
    refine lv_iload_n hx hb dX4_ofTask_6 rfl (lv_at hl 2 rfl) ?_
    refine lv_iconst (v := (5 : Int32)) hx hb dX4_ofTask_7 (by decide) ?_
    refine lv_icmp_ge (tgt := 23) hx hb dX4_ofTask_8 (by decide) (fun c8 => ?_) (fun c8 => ?_)
    · replace h := tw_t c8 h
      refine lv_aload_n hx hb dX4_ofTask_23 rfl (lv_at hl 0 rfl) ?_
      refine va_get (D := G) (ci := 4) (v := .ref (ma 1)) (C := RX4) (T := TX4) (N := 13) hx hb hts iX4_ofTask_X4 hown hK hP 0 rfl rfl 0 (by decide) (hts _ qX4_ofTask_0) (fun _ h9 => h9) rfl dX4_ofTask_24 ?_
      refine lv_iload_n hx hb dX4_ofTask_27 rfl (lv_at hl 1 rfl) ?_
      obtain ⟨r28, e28, h⟩ := tw_bs h
      refine tw_callSi (ws' := (tw_wM cI ma M)) (As := [.ref (ma 1), .int p1]) (rest := []) F hN hK hP hD hS hA (mX4_followers l G cI (ma 1) M.1 H.size p1 e28) (va_cwS 2 hts gX4_ofTask_X4_followers rfl rfl rfl (by decide +kernel) ⟨(Nat.le_of_ble_eq_true rfl), (Nat.le_of_ble_eq_true rfl)⟩) [0] rfl [1] (by decide) rfl rfl rfl rfl hl.1 rfl (Nat.le_of_ble_eq_true rfl) dX4_ofTask_28 ⟨Nat.zero_le _, Nat.zero_le _⟩ (fun H locs hP hD hS => ?_)
      exact hq H locs _ ls r28 (tw_rt (fun r => r.1 = r28) h rfl) rfl (tw_rt (fun r => va_P G vwCl (tw_wM cI ma r.2) H) h hP) hS dX4_ofTask_31
    · replace h := tw_f c8 h
      refine lv_aload_n hx hb dX4_ofTask_11 rfl (lv_at hl 0 rfl) ?_
      refine va_get (D := G) (ci := 4) (v := .ref (ma 1)) (C := RX4) (T := TX4) (N := 13) hx hb hts iX4_ofTask_X4 hown hK hP 0 rfl rfl 0 (by decide) (hts _ qX4_ofTask_0) (fun _ h9 => h9) rfl dX4_ofTask_12 ?_
      refine lv_iload_n hx hb dX4_ofTask_15 rfl (lv_at hl 1 rfl) ?_
      refine lv_iload_n hx hb dX4_ofTask_16 rfl (lv_at hl 2 rfl) ?_
      obtain ⟨r17, e17, h⟩ := tw_bs h
      refine tw_callSi (ws' := (tw_wM cI ma M)) (As := [.ref (ma 1), .int p1, .int p2]) (rest := []) F hN hK hP hD hS hA (mX4_of l G cI (ma 1) M.1 H.size p1 p2 e17) (va_cwS 3 hts gX4_ofTask_X4_of rfl rfl rfl (by decide +kernel) ⟨(Nat.le_of_ble_eq_true rfl), (Nat.le_of_ble_eq_true rfl)⟩) [0] rfl [1] (by decide) rfl rfl rfl rfl hl.1 rfl (Nat.le_of_ble_eq_true rfl) dX4_ofTask_17 ⟨Nat.zero_le _, Nat.zero_le _⟩ (fun H locs hP hD hS => ?_)
      refine lv_goto (tgt := 31) hx hb dX4_ofTask_20 (by decide) ?_
      exact hq H locs _ ls r17 (tw_rt (fun r => r.1 = r17) h rfl) rfl (tw_rt (fun r => va_P G vwCl (tw_wM cI ma r.2) H) h hP) hS dX4_ofTask_31
abbrev rmX4_task : Room := { frames := 7, cells := 0, slots := 0, locals := 165 }
set_option maxRecDepth 20000 in
theorem qX4_task_0 : (Cond.fieldLink RX4 31 "TheatreWallModel" "thrown" "I") ∈ wsX4_task := (List.mem_cons_of_mem _ (List.mem_append_left _ (List.mem_append_left _ (List.mem_of_getElem? (i := 0) rfl))))
set_option maxRecDepth 20000 in
theorem iX4_task_X4 : ∀ w ∈ u_ws RX4 TX4 13, w ∈ wsX4_task := fun w h => (List.mem_cons_of_mem _ (List.mem_append_right _ h))
set_option maxHeartbeats 4000000 in
set_option maxRecDepth 100000 in
theorem mX4_task (l : Launch) (G : va_G) (cI : ClassId) (ma : Nat → Nat) (M : tw_Md) (sz : Nat) (p1 : Int32) (p2 : Int32) {rv : Int32 × tw_Md} (h : fX4_task M p1 p2 = some rv) : tw_Mi l yX4_task wsX4_task rmX4_task G [(cI, .int)] (tw_wM cI ma M) [.ref (ma 0), .int p1, .int p2] sz rv.1 (tw_wM cI ma rv.2) := by
  refine tw_ofi (ty := .int) (cc := cX4_task) (maxL := 3) (own := RX4) (by decide) rfl rfl (Nat.le_of_ble_eq_true rfl) ?_
  intro p e s m args below meth c Q A ls H locs F hN hK hP hD hS hA hl hq
  obtain ⟨hx, hb, hml, hown, hts⟩ := id F
  have hl : lv_has ls 3 [(0, .ref (ma 0)), (1, .int p1), (2, .int p2)] := hl
  unfold fX4_task at h
  refine lv_aload_n hx hb dX4_task_0 rfl (lv_at hl 0 rfl) ?_
  refine lv_iconst (v := (0 : Int32)) hx hb dX4_task_1 (by decide) ?_
  refine tw_put (ws' := (tw_wM cI ma (M.1, M.2.1, M.2.2.1, M.2.2.2.1, M.2.2.2.2.1, M.2.2.2.2.2.1, (0 : Int32), M.2.2.2.2.2.2.2.1, M.2.2.2.2.2.2.2.2.1, M.2.2.2.2.2.2.2.2.2.1, M.2.2.2.2.2.2.2.2.2.2.1, M.2.2.2.2.2.2.2.2.2.2.2.1, M.2.2.2.2.2.2.2.2.2.2.2.2))) (D := G) (ci := 4) (v := .int (0 : Int32)) (ty := .int) (C := RX4) (T := TX4) (N := 13) hx hb hts iX4_task_X4 tyX4 tyX4_ok nmX4 hown hK hP hD hS 0 rfl rfl 6 (by decide) (hts _ qX4_task_0) (fun _ h9 => h9) rfl (by decide +kernel) rfl rfl (Nat.le_of_ble_eq_true rfl) dX4_task_2 rfl (fun H locs hP hD hS => ?_)
  refine lv_aload_n hx hb dX4_task_5 rfl (lv_at hl 0 rfl) ?_
  refine lv_iload_n hx hb dX4_task_6 rfl (lv_at hl 1 rfl) ?_
  obtain ⟨r7, e7, h⟩ := tw_bs h
  refine tw_callViF (ws' := (tw_wM cI ma (M.1, M.2.1, M.2.2.1, M.2.2.2.1, M.2.2.2.2.1, M.2.2.2.2.2.1, (0 : Int32), M.2.2.2.2.2.2.2.1, M.2.2.2.2.2.2.2.2.1, M.2.2.2.2.2.2.2.2.2.1, M.2.2.2.2.2.2.2.2.2.2.1, M.2.2.2.2.2.2.2.2.2.2.2.1, M.2.2.2.2.2.2.2.2.2.2.2.2))) (As := [.int p1]) (rest := []) F hN hK hP hD hS hA (mX4_isTask l G cI ma (M.1, M.2.1, M.2.2.1, M.2.2.2.1, M.2.2.2.2.1, M.2.2.2.2.2.1, (0 : Int32), M.2.2.2.2.2.2.2.1, M.2.2.2.2.2.2.2.2.1, M.2.2.2.2.2.2.2.2.2.1, M.2.2.2.2.2.2.2.2.2.2.1, M.2.2.2.2.2.2.2.2.2.2.2.1, M.2.2.2.2.2.2.2.2.2.2.2.2) H.size p1 e7) (cwV 1 hts gX4_task_X4_isTask rfl rfl rfl (by decide +kernel) ⟨(Nat.le_of_ble_eq_true rfl), (Nat.le_of_ble_eq_true rfl)⟩) rfl (r0 := 0) (ci := 4) rfl rfl rfl rfl hl.1 rfl (Nat.le_of_ble_eq_true rfl) dX4_task_7 ⟨Nat.zero_le _, Nat.zero_le _⟩ (fun H locs hP hD hS => ?_)
  refine lv_if_ne (tgt := 19) hx hb dX4_task_10 (by decide) (fun c10 => ?_) (fun c10 => ?_)
  · replace h := tw_t c10 h
    refine lv_iload_n hx hb dX4_task_19 rfl (lv_at hl 2 rfl) ?_
    refine lv_iconst (v := (0 : Int32)) hx hb dX4_task_20 (by decide) ?_
    refine lv_bipush (v := (8 : Int32)) hx hb dX4_task_21 (by decide) ?_
    obtain ⟨r23, e23, h⟩ := tw_bs h
    refine tw_callSi (ws' := (tw_wM cI ma (M.1, M.2.1, M.2.2.1, M.2.2.2.1, M.2.2.2.2.1, M.2.2.2.2.2.1, (0 : Int32), M.2.2.2.2.2.2.2.1, M.2.2.2.2.2.2.2.2.1, M.2.2.2.2.2.2.2.2.2.1, M.2.2.2.2.2.2.2.2.2.2.1, M.2.2.2.2.2.2.2.2.2.2.2.1, M.2.2.2.2.2.2.2.2.2.2.2.2))) (As := [.int p2, .int (0 : Int32), .int (8 : Int32)]) (rest := []) F hN hK hP hD hS hA (mX4_in l G cI H.size p2 (0 : Int32) (8 : Int32) e23) (va_cwS 3 hts gX4_task_X4_in rfl rfl rfl (by decide +kernel) ⟨(Nat.le_of_ble_eq_true rfl), (Nat.le_of_ble_eq_true rfl)⟩) [0] rfl [] (by decide) rfl rfl rfl rfl hl.1 rfl (Nat.le_of_ble_eq_true rfl) dX4_task_23 ⟨Nat.zero_le _, Nat.zero_le _⟩ (fun H locs hP hD hS => ?_)
    refine lv_if_eq (tgt := 38) hx hb dX4_task_26 (by decide) (fun c26 => ?_) (fun c26 => ?_)
    · replace h := tw_t c26 h
      refine lv_aload_n hx hb dX4_task_38 rfl (lv_at hl 0 rfl) ?_
      refine lv_iconst (v := (2 : Int32)) hx hb dX4_task_39 (by decide) ?_
      obtain ⟨r40, e40, h⟩ := tw_bs h
      refine tw_callViF (ws' := (tw_wM cI ma r40.2)) (As := [.int (2 : Int32)]) (rest := []) F hN hK hP hD hS hA (mX4_fails l G cI ma (M.1, M.2.1, M.2.2.1, M.2.2.2.1, M.2.2.2.2.1, M.2.2.2.2.2.1, (0 : Int32), M.2.2.2.2.2.2.2.1, M.2.2.2.2.2.2.2.2.1, M.2.2.2.2.2.2.2.2.2.1, M.2.2.2.2.2.2.2.2.2.2.1, M.2.2.2.2.2.2.2.2.2.2.2.1, M.2.2.2.2.2.2.2.2.2.2.2.2) H.size (2 : Int32) e40) (cwV 1 hts gX4_task_X4_fails rfl rfl rfl (by decide +kernel) ⟨(Nat.le_of_ble_eq_true rfl), (Nat.le_of_ble_eq_true rfl)⟩) rfl (r0 := 0) (ci := 4) rfl rfl rfl rfl hl.1 rfl (Nat.le_of_ble_eq_true rfl) dX4_task_40 ⟨Nat.zero_le _, Nat.zero_le _⟩ (fun H locs hP hD hS => ?_)
      exact hq H locs _ ls r40.1 (tw_rt (fun r => r.1 = r40.1) h rfl) rfl (tw_rt (fun r => va_P G vwCl (tw_wM cI ma r.2) H) h hP) hS dX4_task_43
    · replace h := tw_f c26 h
      refine lv_aload_n hx hb dX4_task_29 rfl (lv_at hl 0 rfl) ?_
      refine lv_iload_n hx hb dX4_task_30 rfl (lv_at hl 1 rfl) ?_
      refine lv_iload_n hx hb dX4_task_31 rfl (lv_at hl 2 rfl) ?_
      obtain ⟨r32, e32, h⟩ := tw_bs h
      refine tw_callViF (ws' := (tw_wM cI ma r32.2)) (As := [.int p1, .int p2]) (rest := []) F hN hK hP hD hS hA (mX4_ofTask l G cI ma (M.1, M.2.1, M.2.2.1, M.2.2.2.1, M.2.2.2.2.1, M.2.2.2.2.2.1, (0 : Int32), M.2.2.2.2.2.2.2.1, M.2.2.2.2.2.2.2.2.1, M.2.2.2.2.2.2.2.2.2.1, M.2.2.2.2.2.2.2.2.2.2.1, M.2.2.2.2.2.2.2.2.2.2.2.1, M.2.2.2.2.2.2.2.2.2.2.2.2) H.size p1 p2 e32) (cwV 2 hts gX4_task_X4_ofTask rfl rfl rfl (by decide +kernel) ⟨(Nat.le_of_ble_eq_true rfl), (Nat.le_of_ble_eq_true rfl)⟩) rfl (r0 := 0) (ci := 4) rfl rfl rfl rfl hl.1 rfl (Nat.le_of_ble_eq_true rfl) dX4_task_32 ⟨Nat.zero_le _, Nat.zero_le _⟩ (fun H locs hP hD hS => ?_)
      refine lv_goto (tgt := 43) hx hb dX4_task_35 (by decide) ?_
      exact hq H locs _ ls r32.1 (tw_rt (fun r => r.1 = r32.1) h rfl) rfl (tw_rt (fun r => va_P G vwCl (tw_wM cI ma r.2) H) h hP) hS dX4_task_43
  · replace h := tw_fn c10 h
    refine lv_aload_n hx hb dX4_task_13 rfl (lv_at hl 0 rfl) ?_
    refine lv_iconst (v := (1 : Int32)) hx hb dX4_task_14 (by decide) ?_
    obtain ⟨r15, e15, h⟩ := tw_bs h
    refine tw_callViF (ws' := (tw_wM cI ma r15.2)) (As := [.int (1 : Int32)]) (rest := []) F hN hK hP hD hS hA (mX4_fails l G cI ma (M.1, M.2.1, M.2.2.1, M.2.2.2.1, M.2.2.2.2.1, M.2.2.2.2.2.1, (0 : Int32), M.2.2.2.2.2.2.2.1, M.2.2.2.2.2.2.2.2.1, M.2.2.2.2.2.2.2.2.2.1, M.2.2.2.2.2.2.2.2.2.2.1, M.2.2.2.2.2.2.2.2.2.2.2.1, M.2.2.2.2.2.2.2.2.2.2.2.2) H.size (1 : Int32) e15) (cwV 1 hts gX4_task_X4_fails rfl rfl rfl (by decide +kernel) ⟨(Nat.le_of_ble_eq_true rfl), (Nat.le_of_ble_eq_true rfl)⟩) rfl (r0 := 0) (ci := 4) rfl rfl rfl rfl hl.1 rfl (Nat.le_of_ble_eq_true rfl) dX4_task_15 ⟨Nat.zero_le _, Nat.zero_le _⟩ (fun H locs hP hD hS => ?_)
    exact hq H locs _ ls r15.1 (tw_rt (fun r => r.1 = r15.1) h rfl) rfl (tw_rt (fun r => va_P G vwCl (tw_wM cI ma r.2) H) h hP) hS dX4_task_18
abbrev rmX4_on : Room := { frames := 2, cells := 0, slots := 0, locals := 44 }
set_option maxRecDepth 20000 in
theorem qX4_on_0 : (Cond.fieldLink RX4 7 "TheatreWallModel" "now" "[I") ∈ wsX4_on := (List.mem_cons_of_mem _ (List.mem_append_left _ (List.mem_of_getElem? (i := 0) rfl)))
set_option maxRecDepth 20000 in
theorem qX4_on_1 : (Cond.fieldLink RX4 25 "TheatreWallModel" "plan" "[I") ∈ wsX4_on := (List.mem_cons_of_mem _ (List.mem_append_left _ (List.mem_of_getElem? (i := 1) rfl)))
set_option maxRecDepth 20000 in
theorem iX4_on_X4 : ∀ w ∈ u_ws RX4 TX4 13, w ∈ wsX4_on := fun w h => (List.mem_cons_of_mem _ (List.mem_append_right _ h))
set_option maxHeartbeats 4000000 in
set_option maxRecDepth 100000 in
theorem mX4_on (l : Launch) (G : va_G) (cI : ClassId) (ma : Nat → Nat) (M : tw_Md) (sz : Nat) (p1 : Int32) (p2 : Int32) (p3 : Int32) {rv : Int32} (h : fX4_on M p1 p2 p3 = some rv) : tw_Mi l yX4_on wsX4_on rmX4_on G [(cI, .int)] (tw_wM cI ma M) [.ref (ma 0), .int p1, .int p2, .int p3] sz rv (tw_wM cI ma M) := by
  refine tw_ofi (ty := .int) (cc := cX4_on) (maxL := 5) (own := RX4) (by decide) rfl rfl (Nat.le_of_ble_eq_true rfl) ?_
  intro p e s m args below meth c Q A ls H locs F hN hK hP hD hS hA hl hq
  obtain ⟨hx, hb, hml, hown, hts⟩ := id F
  have hl : lv_has ls 5 [(0, .ref (ma 0)), (1, .int p1), (2, .int p2), (3, .int p3)] := hl
  unfold fX4_on at h
  have L3 : ∀ (n3 : Nat) (v4 : Int32) (H : Heap) (locs : List Loc) (ls : Array Slot), fX4_on_3 M p1 p2 p3 n3 v4 = some rv → lv_has ls 5 [(0, .ref (ma 0)), (1, .int p1), (2, .int p2), (3, .int p3), (4, .int v4)] → va_P G vwCl (tw_wM cI ma M) H → va_D A (tw_wM cI ma M) → va_S A s.heap H locs → W p l e rmX4_on s m args below meth c H locs 0 0 Q (F0 m 3 ls []) := by
    intro n3
    induction n3 with
    | zero =>
      intro v4 H locs ls h
      rw [fX4_on_3] at h
      cases h
    | succ n3 ih3 =>
      intro v4 H locs ls h hl hP hD hS
      rw [fX4_on_3] at h
      refine lv_iload hx hb dX4_on_3 (lv_at hl 4 rfl) ?_
      refine lv_aload_n hx hb dX4_on_5 rfl (lv_at hl 0 rfl) ?_
      refine va_get (D := G) (ci := 4) (v := .ref (ma 1)) (C := RX4) (T := TX4) (N := 13) hx hb hts iX4_on_X4 hown hK hP 0 rfl rfl 0 (by decide) (hts _ qX4_on_0) (fun _ h9 => h9) rfl dX4_on_6 ?_
      refine lv_iconst (v := (0 : Int32)) hx hb dX4_on_9 (by decide) ?_
      refine va_iald (f := M.1) (n := 70) hx hb hK hP 1 0 rfl rfl (tw_vin (by decide)) dX4_on_10 ?_
      refine lv_icmp_ge (tgt := 77) hx hb dX4_on_11 (by decide) (fun c11 => ?_) (fun c11 => ?_)
      · replace h := tw_t c11 h
        refine lv_iconst (v := (-1 : Int32)) hx hb dX4_on_77 (by decide) ?_
        exact hq H locs _ ls (-1 : Int32) (tw_rt (fun r => r = (-1 : Int32)) h rfl) rfl hP hS dX4_on_78
      · replace h := tw_f c11 h
        refine lv_aload_n hx hb dX4_on_14 rfl (lv_at hl 0 rfl) ?_
        refine va_get (D := G) (ci := 4) (v := .ref (ma 1)) (C := RX4) (T := TX4) (N := 13) hx hb hts iX4_on_X4 hown hK hP 0 rfl rfl 0 (by decide) (hts _ qX4_on_0) (fun _ h9 => h9) rfl dX4_on_15 ?_
        refine lv_iload hx hb dX4_on_18 (lv_at hl 4 rfl) ?_
        refine lv_iload_n hx hb dX4_on_20 rfl (lv_at hl 1 rfl) ?_
        obtain ⟨r21, e21, h⟩ := tw_bs h
        refine tw_callSi (ws' := (tw_wM cI ma M)) (As := [.ref (ma 1), .int v4, .int p1]) (rest := []) F hN hK hP hD hS hA (mX4_of l G cI (ma 1) M.1 H.size v4 p1 e21) (va_cwS 3 hts gX4_on_X4_of rfl rfl rfl (by decide +kernel) ⟨(Nat.le_of_ble_eq_true rfl), (Nat.le_of_ble_eq_true rfl)⟩) [0] rfl [1] (by decide) rfl rfl rfl rfl hl.1 rfl (Nat.le_of_ble_eq_true rfl) dX4_on_21 ⟨Nat.zero_le _, Nat.zero_le _⟩ (fun H locs hP hD hS => ?_)
        refine lv_iload_n hx hb dX4_on_24 rfl (lv_at hl 2 rfl) ?_
        refine lv_icmp_ne (tgt := 71) hx hb dX4_on_25 (by decide) (fun c25 => ?_) (fun c25 => ?_)
        · replace h := tw_t c25 h
          refine lv_iinc (v := (v4 + 1)) (lv' := [(4, .int (v4 + 1)), (0, .ref (ma 0)), (1, .int p1), (2, .int p2), (3, .int p3)]) hx hb dX4_on_71 hl (k := 4) rfl rfl (by decide) rfl (fun ls hl => ?_)
          refine lv_goto (tgt := 3) hx hb dX4_on_74 (by decide) ?_
          exact ih3 (v4 + 1) H locs ls h (lv_sub hl [1, 2, 3, 4, 0] rfl) hP hD hS
        · replace h := tw_fn c25 h
          refine lv_aload_n hx hb dX4_on_28 rfl (lv_at hl 0 rfl) ?_
          refine va_get (D := G) (ci := 4) (v := .ref (ma 6)) (C := RX4) (T := TX4) (N := 13) hx hb hts iX4_on_X4 hown hK hP 0 rfl rfl 11 (by decide) (hts _ qX4_on_1) (fun _ h9 => h9) rfl dX4_on_29 ?_
          refine lv_iload hx hb dX4_on_32 (lv_at hl 4 rfl) ?_
          obtain ⟨g34, h⟩ := tw_gs h
          refine va_iald (f := M.2.2.2.2.2.2.2.2.2.2.2.1) (n := 12) hx hb hK hP 6 0 rfl rfl g34 dX4_on_34 ?_
          refine lv_iconst (v := (-1 : Int32)) hx hb dX4_on_35 (by decide) ?_
          refine lv_icmp_eq (tgt := 71) hx hb dX4_on_36 (by decide) (fun c36 => ?_) (fun c36 => ?_)
          · replace h := tw_t c36 h
            refine lv_iinc (v := (v4 + 1)) (lv' := [(4, .int (v4 + 1)), (0, .ref (ma 0)), (1, .int p1), (2, .int p2), (3, .int p3)]) hx hb dX4_on_71 hl (k := 4) rfl rfl (by decide) rfl (fun ls hl => ?_)
            refine lv_goto (tgt := 3) hx hb dX4_on_74 (by decide) ?_
            exact ih3 (v4 + 1) H locs ls h (lv_sub hl [1, 2, 3, 4, 0] rfl) hP hD hS
          · replace h := tw_f c36 h
            refine lv_iload_n hx hb dX4_on_39 rfl (lv_at hl 3 rfl) ?_
            refine lv_aload_n hx hb dX4_on_40 rfl (lv_at hl 0 rfl) ?_
            refine va_get (D := G) (ci := 4) (v := .ref (ma 6)) (C := RX4) (T := TX4) (N := 13) hx hb hts iX4_on_X4 hown hK hP 0 rfl rfl 11 (by decide) (hts _ qX4_on_1) (fun _ h9 => h9) rfl dX4_on_41 ?_
            refine lv_iload hx hb dX4_on_44 (lv_at hl 4 rfl) ?_
            obtain ⟨g46, h⟩ := tw_gs h
            refine va_iald (f := M.2.2.2.2.2.2.2.2.2.2.2.1) (n := 12) hx hb hK hP 6 0 rfl rfl g46 dX4_on_46 ?_
            refine lv_aload_n hx hb dX4_on_47 rfl (lv_at hl 0 rfl) ?_
            refine va_get (D := G) (ci := 4) (v := .ref (ma 1)) (C := RX4) (T := TX4) (N := 13) hx hb hts iX4_on_X4 hown hK hP 0 rfl rfl 0 (by decide) (hts _ qX4_on_0) (fun _ h9 => h9) rfl dX4_on_48 ?_
            refine lv_aload_n hx hb dX4_on_51 rfl (lv_at hl 0 rfl) ?_
            refine va_get (D := G) (ci := 4) (v := .ref (ma 6)) (C := RX4) (T := TX4) (N := 13) hx hb hts iX4_on_X4 hown hK hP 0 rfl rfl 11 (by decide) (hts _ qX4_on_1) (fun _ h9 => h9) rfl dX4_on_52 ?_
            refine lv_iload hx hb dX4_on_55 (lv_at hl 4 rfl) ?_
            obtain ⟨r57, e57, h⟩ := tw_bs h
            refine tw_callSi (ws' := (tw_wM cI ma M)) (As := [.ref (ma 1), .ref (ma 6), .int v4]) (rest := [.int (M.2.2.2.2.2.2.2.2.2.2.2.1 v4.toNatClampNeg), .int p3]) F hN hK hP hD hS hA (mX4_behind l G cI (ma 1) (ma 6) M.1 M.2.2.2.2.2.2.2.2.2.2.2.1 H.size v4 e57) (va_cwS 3 hts gX4_on_X4_behind rfl rfl rfl (by decide +kernel) ⟨(Nat.le_of_ble_eq_true rfl), (Nat.le_of_ble_eq_true rfl)⟩) [0] rfl [1, 6] (by decide) rfl rfl rfl rfl hl.1 rfl (Nat.le_of_ble_eq_true rfl) dX4_on_57 ⟨Nat.zero_le _, Nat.zero_le _⟩ (fun H locs hP hD hS => ?_)
            refine lv_iconst (v := (1 : Int32)) hx hb dX4_on_60 (by decide) ?_
            refine lv_isub hx hb dX4_on_61 ?_
            obtain ⟨r62, e62, h⟩ := tw_bs h
            refine tw_callSi (ws' := (tw_wM cI ma M)) (As := [.int p3, .int (M.2.2.2.2.2.2.2.2.2.2.2.1 v4.toNatClampNeg), .int (r57 - (1 : Int32))]) (rest := []) F hN hK hP hD hS hA (mX4_in l G cI H.size p3 (M.2.2.2.2.2.2.2.2.2.2.2.1 v4.toNatClampNeg) (r57 - (1 : Int32)) e62) (va_cwS 3 hts gX4_on_X4_in rfl rfl rfl (by decide +kernel) ⟨(Nat.le_of_ble_eq_true rfl), (Nat.le_of_ble_eq_true rfl)⟩) [0] rfl [] (by decide) rfl rfl rfl rfl hl.1 rfl (Nat.le_of_ble_eq_true rfl) dX4_on_62 ⟨Nat.zero_le _, Nat.zero_le _⟩ (fun H locs hP hD hS => ?_)
            refine lv_if_eq (tgt := 71) hx hb dX4_on_65 (by decide) (fun c65 => ?_) (fun c65 => ?_)
            · replace h := tw_t c65 h
              refine lv_iinc (v := (v4 + 1)) (lv' := [(4, .int (v4 + 1)), (0, .ref (ma 0)), (1, .int p1), (2, .int p2), (3, .int p3)]) hx hb dX4_on_71 hl (k := 4) rfl rfl (by decide) rfl (fun ls hl => ?_)
              refine lv_goto (tgt := 3) hx hb dX4_on_74 (by decide) ?_
              exact ih3 (v4 + 1) H locs ls h (lv_sub hl [1, 2, 3, 4, 0] rfl) hP hD hS
            · replace h := tw_f c65 h
              refine lv_iload hx hb dX4_on_68 (lv_at hl 4 rfl) ?_
              exact hq H locs _ ls v4 (tw_rt (fun r => r = v4) h rfl) rfl hP hS dX4_on_70
  refine lv_iconst (v := (0 : Int32)) hx hb dX4_on_0 (by decide) ?_
  refine lv_istore (lv' := [(4, .int (0 : Int32)), (0, .ref (ma 0)), (1, .int p1), (2, .int p2), (3, .int p3)]) hx hb dX4_on_1 hl (by decide) rfl (fun ls hl => ?_)
  exact L3 512 (0 : Int32) H locs ls h (lv_sub hl [1, 2, 3, 4, 0] rfl) hP hD hS
abbrev rmX4_personOn : Room := { frames := 5, cells := 0, slots := 0, locals := 119 }
set_option maxRecDepth 20000 in
theorem qX4_personOn_0 : (Cond.fieldLink RX4 31 "TheatreWallModel" "thrown" "I") ∈ wsX4_personOn := (List.mem_cons_of_mem _ (List.mem_append_left _ (List.mem_append_left _ (List.mem_of_getElem? (i := 0) rfl))))
set_option maxRecDepth 20000 in
theorem iX4_personOn_X4 : ∀ w ∈ u_ws RX4 TX4 13, w ∈ wsX4_personOn := fun w h => (List.mem_cons_of_mem _ (List.mem_append_right _ h))
set_option maxHeartbeats 4000000 in
set_option maxRecDepth 100000 in
theorem mX4_personOn (l : Launch) (G : va_G) (cI : ClassId) (ma : Nat → Nat) (M : tw_Md) (sz : Nat) (p1 : Int32) (p2 : Int32) {rv : Int32 × tw_Md} (h : fX4_personOn M p1 p2 = some rv) : tw_Mi l yX4_personOn wsX4_personOn rmX4_personOn G [(cI, .int)] (tw_wM cI ma M) [.ref (ma 0), .int p1, .int p2] sz rv.1 (tw_wM cI ma rv.2) := by
  refine tw_ofi (ty := .int) (cc := cX4_personOn) (maxL := 3) (own := RX4) (by decide) rfl rfl (Nat.le_of_ble_eq_true rfl) ?_
  intro p e s m args below meth c Q A ls H locs F hN hK hP hD hS hA hl hq
  obtain ⟨hx, hb, hml, hown, hts⟩ := id F
  have hl : lv_has ls 3 [(0, .ref (ma 0)), (1, .int p1), (2, .int p2)] := hl
  unfold fX4_personOn at h
  refine lv_aload_n hx hb dX4_personOn_0 rfl (lv_at hl 0 rfl) ?_
  refine lv_iconst (v := (0 : Int32)) hx hb dX4_personOn_1 (by decide) ?_
  refine tw_put (ws' := (tw_wM cI ma (M.1, M.2.1, M.2.2.1, M.2.2.2.1, M.2.2.2.2.1, M.2.2.2.2.2.1, (0 : Int32), M.2.2.2.2.2.2.2.1, M.2.2.2.2.2.2.2.2.1, M.2.2.2.2.2.2.2.2.2.1, M.2.2.2.2.2.2.2.2.2.2.1, M.2.2.2.2.2.2.2.2.2.2.2.1, M.2.2.2.2.2.2.2.2.2.2.2.2))) (D := G) (ci := 4) (v := .int (0 : Int32)) (ty := .int) (C := RX4) (T := TX4) (N := 13) hx hb hts iX4_personOn_X4 tyX4 tyX4_ok nmX4 hown hK hP hD hS 0 rfl rfl 6 (by decide) (hts _ qX4_personOn_0) (fun _ h9 => h9) rfl (by decide +kernel) rfl rfl (Nat.le_of_ble_eq_true rfl) dX4_personOn_2 rfl (fun H locs hP hD hS => ?_)
  refine lv_aload_n hx hb dX4_personOn_5 rfl (lv_at hl 0 rfl) ?_
  obtain ⟨r6, e6, h⟩ := tw_bs h
  refine tw_callVvF (ws' := (tw_wM cI ma r6)) (As := []) (rest := []) F hN hK hP hD hS hA (mX4_plans l G cI ma (M.1, M.2.1, M.2.2.1, M.2.2.2.1, M.2.2.2.2.1, M.2.2.2.2.2.1, (0 : Int32), M.2.2.2.2.2.2.2.1, M.2.2.2.2.2.2.2.2.1, M.2.2.2.2.2.2.2.2.2.1, M.2.2.2.2.2.2.2.2.2.2.1, M.2.2.2.2.2.2.2.2.2.2.2.1, M.2.2.2.2.2.2.2.2.2.2.2.2) H.size e6) (cwV 0 hts gX4_personOn_X4_plans rfl rfl rfl (by decide +kernel) ⟨(Nat.le_of_ble_eq_true rfl), (Nat.le_of_ble_eq_true rfl)⟩) rfl (r0 := 0) (ci := 4) rfl rfl rfl rfl hl.1 rfl (Nat.le_of_ble_eq_true rfl) dX4_personOn_6 ⟨Nat.zero_le _, Nat.zero_le _⟩ (fun H locs hP hD hS => ?_)
  refine lv_iload_n hx hb dX4_personOn_9 rfl (lv_at hl 1 rfl) ?_
  obtain ⟨r10, e10, h⟩ := tw_bs h
  refine tw_callSi (ws' := (tw_wM cI ma r6)) (As := [.int p1]) (rest := []) F hN hK hP hD hS hA (mX4_isPerson l G cI H.size p1 e10) (va_cwS 1 hts gX4_personOn_X4_isPerson rfl rfl rfl (by decide +kernel) ⟨(Nat.le_of_ble_eq_true rfl), (Nat.le_of_ble_eq_true rfl)⟩) [0] rfl [] (by decide) rfl rfl rfl rfl hl.1 rfl (Nat.le_of_ble_eq_true rfl) dX4_personOn_10 ⟨Nat.zero_le _, Nat.zero_le _⟩ (fun H locs hP hD hS => ?_)
  refine lv_if_eq (tgt := 33) hx hb dX4_personOn_13 (by decide) (fun c13 => ?_) (fun c13 => ?_)
  · replace h := tw_t c13 h
    refine lv_aload_n hx hb dX4_personOn_33 rfl (lv_at hl 0 rfl) ?_
    refine lv_iconst (v := (1 : Int32)) hx hb dX4_personOn_34 (by decide) ?_
    obtain ⟨r35, e35, h⟩ := tw_bs h
    refine tw_callViF (ws' := (tw_wM cI ma r35.2)) (As := [.int (1 : Int32)]) (rest := []) F hN hK hP hD hS hA (mX4_fails l G cI ma r6 H.size (1 : Int32) e35) (cwV 1 hts gX4_personOn_X4_fails rfl rfl rfl (by decide +kernel) ⟨(Nat.le_of_ble_eq_true rfl), (Nat.le_of_ble_eq_true rfl)⟩) rfl (r0 := 0) (ci := 4) rfl rfl rfl rfl hl.1 rfl (Nat.le_of_ble_eq_true rfl) dX4_personOn_35 ⟨Nat.zero_le _, Nat.zero_le _⟩ (fun H locs hP hD hS => ?_)
    exact hq H locs _ ls r35.1 (tw_rt (fun r => r.1 = r35.1) h rfl) rfl (tw_rt (fun r => va_P G vwCl (tw_wM cI ma r.2) H) h hP) hS dX4_personOn_38
  · replace h := tw_f c13 h
    refine lv_iload_n hx hb dX4_personOn_16 rfl (lv_at hl 2 rfl) ?_
    obtain ⟨r17, e17, h⟩ := tw_bs h
    refine tw_callSi (ws' := (tw_wM cI ma r6)) (As := [.int p2]) (rest := []) F hN hK hP hD hS hA (mX4_isDay l G cI H.size p2 e17) (va_cwS 1 hts gX4_personOn_X4_isDay rfl rfl rfl (by decide +kernel) ⟨(Nat.le_of_ble_eq_true rfl), (Nat.le_of_ble_eq_true rfl)⟩) [0] rfl [] (by decide) rfl rfl rfl rfl hl.1 rfl (Nat.le_of_ble_eq_true rfl) dX4_personOn_17 ⟨Nat.zero_le _, Nat.zero_le _⟩ (fun H locs hP hD hS => ?_)
    refine lv_if_eq (tgt := 33) hx hb dX4_personOn_20 (by decide) (fun c20 => ?_) (fun c20 => ?_)
    · replace h := tw_t c20 h
      refine lv_aload_n hx hb dX4_personOn_33 rfl (lv_at hl 0 rfl) ?_
      refine lv_iconst (v := (1 : Int32)) hx hb dX4_personOn_34 (by decide) ?_
      obtain ⟨r35, e35, h⟩ := tw_bs h
      refine tw_callViF (ws' := (tw_wM cI ma r35.2)) (As := [.int (1 : Int32)]) (rest := []) F hN hK hP hD hS hA (mX4_fails l G cI ma r6 H.size (1 : Int32) e35) (cwV 1 hts gX4_personOn_X4_fails rfl rfl rfl (by decide +kernel) ⟨(Nat.le_of_ble_eq_true rfl), (Nat.le_of_ble_eq_true rfl)⟩) rfl (r0 := 0) (ci := 4) rfl rfl rfl rfl hl.1 rfl (Nat.le_of_ble_eq_true rfl) dX4_personOn_35 ⟨Nat.zero_le _, Nat.zero_le _⟩ (fun H locs hP hD hS => ?_)
      exact hq H locs _ ls r35.1 (tw_rt (fun r => r.1 = r35.1) h rfl) rfl (tw_rt (fun r => va_P G vwCl (tw_wM cI ma r.2) H) h hP) hS dX4_personOn_38
    · replace h := tw_f c20 h
      refine lv_aload_n hx hb dX4_personOn_23 rfl (lv_at hl 0 rfl) ?_
      refine lv_iconst (v := (1 : Int32)) hx hb dX4_personOn_24 (by decide) ?_
      refine lv_iload_n hx hb dX4_personOn_25 rfl (lv_at hl 1 rfl) ?_
      refine lv_iload_n hx hb dX4_personOn_26 rfl (lv_at hl 2 rfl) ?_
      obtain ⟨r27, e27, h⟩ := tw_bs h
      refine tw_callViF (ws' := (tw_wM cI ma r6)) (As := [.int (1 : Int32), .int p1, .int p2]) (rest := []) F hN hK hP hD hS hA (mX4_on l G cI ma r6 H.size (1 : Int32) p1 p2 e27) (cwV 3 hts gX4_personOn_X4_on rfl rfl rfl (by decide +kernel) ⟨(Nat.le_of_ble_eq_true rfl), (Nat.le_of_ble_eq_true rfl)⟩) rfl (r0 := 0) (ci := 4) rfl rfl rfl rfl hl.1 rfl (Nat.le_of_ble_eq_true rfl) dX4_personOn_27 ⟨Nat.zero_le _, Nat.zero_le _⟩ (fun H locs hP hD hS => ?_)
      refine lv_goto (tgt := 38) hx hb dX4_personOn_30 (by decide) ?_
      exact hq H locs _ ls r27 (tw_rt (fun r => r.1 = r27) h rfl) rfl (tw_rt (fun r => va_P G vwCl (tw_wM cI ma r.2) H) h hP) hS dX4_personOn_38
abbrev rmX4_hallOn : Room := { frames := 5, cells := 0, slots := 0, locals := 119 }
set_option maxRecDepth 20000 in
theorem qX4_hallOn_0 : (Cond.fieldLink RX4 31 "TheatreWallModel" "thrown" "I") ∈ wsX4_hallOn := (List.mem_cons_of_mem _ (List.mem_append_left _ (List.mem_append_left _ (List.mem_of_getElem? (i := 0) rfl))))
set_option maxRecDepth 20000 in
theorem iX4_hallOn_X4 : ∀ w ∈ u_ws RX4 TX4 13, w ∈ wsX4_hallOn := fun w h => (List.mem_cons_of_mem _ (List.mem_append_right _ h))
set_option maxHeartbeats 4000000 in
set_option maxRecDepth 100000 in
theorem mX4_hallOn (l : Launch) (G : va_G) (cI : ClassId) (ma : Nat → Nat) (M : tw_Md) (sz : Nat) (p1 : Int32) (p2 : Int32) {rv : Int32 × tw_Md} (h : fX4_hallOn M p1 p2 = some rv) : tw_Mi l yX4_hallOn wsX4_hallOn rmX4_hallOn G [(cI, .int)] (tw_wM cI ma M) [.ref (ma 0), .int p1, .int p2] sz rv.1 (tw_wM cI ma rv.2) := by
  refine tw_ofi (ty := .int) (cc := cX4_hallOn) (maxL := 3) (own := RX4) (by decide) rfl rfl (Nat.le_of_ble_eq_true rfl) ?_
  intro p e s m args below meth c Q A ls H locs F hN hK hP hD hS hA hl hq
  obtain ⟨hx, hb, hml, hown, hts⟩ := id F
  have hl : lv_has ls 3 [(0, .ref (ma 0)), (1, .int p1), (2, .int p2)] := hl
  unfold fX4_hallOn at h
  refine lv_aload_n hx hb dX4_hallOn_0 rfl (lv_at hl 0 rfl) ?_
  refine lv_iconst (v := (0 : Int32)) hx hb dX4_hallOn_1 (by decide) ?_
  refine tw_put (ws' := (tw_wM cI ma (M.1, M.2.1, M.2.2.1, M.2.2.2.1, M.2.2.2.2.1, M.2.2.2.2.2.1, (0 : Int32), M.2.2.2.2.2.2.2.1, M.2.2.2.2.2.2.2.2.1, M.2.2.2.2.2.2.2.2.2.1, M.2.2.2.2.2.2.2.2.2.2.1, M.2.2.2.2.2.2.2.2.2.2.2.1, M.2.2.2.2.2.2.2.2.2.2.2.2))) (D := G) (ci := 4) (v := .int (0 : Int32)) (ty := .int) (C := RX4) (T := TX4) (N := 13) hx hb hts iX4_hallOn_X4 tyX4 tyX4_ok nmX4 hown hK hP hD hS 0 rfl rfl 6 (by decide) (hts _ qX4_hallOn_0) (fun _ h9 => h9) rfl (by decide +kernel) rfl rfl (Nat.le_of_ble_eq_true rfl) dX4_hallOn_2 rfl (fun H locs hP hD hS => ?_)
  refine lv_aload_n hx hb dX4_hallOn_5 rfl (lv_at hl 0 rfl) ?_
  obtain ⟨r6, e6, h⟩ := tw_bs h
  refine tw_callVvF (ws' := (tw_wM cI ma r6)) (As := []) (rest := []) F hN hK hP hD hS hA (mX4_plans l G cI ma (M.1, M.2.1, M.2.2.1, M.2.2.2.1, M.2.2.2.2.1, M.2.2.2.2.2.1, (0 : Int32), M.2.2.2.2.2.2.2.1, M.2.2.2.2.2.2.2.2.1, M.2.2.2.2.2.2.2.2.2.1, M.2.2.2.2.2.2.2.2.2.2.1, M.2.2.2.2.2.2.2.2.2.2.2.1, M.2.2.2.2.2.2.2.2.2.2.2.2) H.size e6) (cwV 0 hts gX4_hallOn_X4_plans rfl rfl rfl (by decide +kernel) ⟨(Nat.le_of_ble_eq_true rfl), (Nat.le_of_ble_eq_true rfl)⟩) rfl (r0 := 0) (ci := 4) rfl rfl rfl rfl hl.1 rfl (Nat.le_of_ble_eq_true rfl) dX4_hallOn_6 ⟨Nat.zero_le _, Nat.zero_le _⟩ (fun H locs hP hD hS => ?_)
  refine lv_iload_n hx hb dX4_hallOn_9 rfl (lv_at hl 1 rfl) ?_
  obtain ⟨r10, e10, h⟩ := tw_bs h
  refine tw_callSi (ws' := (tw_wM cI ma r6)) (As := [.int p1]) (rest := []) F hN hK hP hD hS hA (mX4_isHall l G cI H.size p1 e10) (va_cwS 1 hts gX4_hallOn_X4_isHall rfl rfl rfl (by decide +kernel) ⟨(Nat.le_of_ble_eq_true rfl), (Nat.le_of_ble_eq_true rfl)⟩) [0] rfl [] (by decide) rfl rfl rfl rfl hl.1 rfl (Nat.le_of_ble_eq_true rfl) dX4_hallOn_10 ⟨Nat.zero_le _, Nat.zero_le _⟩ (fun H locs hP hD hS => ?_)
  refine lv_if_eq (tgt := 33) hx hb dX4_hallOn_13 (by decide) (fun c13 => ?_) (fun c13 => ?_)
  · replace h := tw_t c13 h
    refine lv_aload_n hx hb dX4_hallOn_33 rfl (lv_at hl 0 rfl) ?_
    refine lv_iconst (v := (1 : Int32)) hx hb dX4_hallOn_34 (by decide) ?_
    obtain ⟨r35, e35, h⟩ := tw_bs h
    refine tw_callViF (ws' := (tw_wM cI ma r35.2)) (As := [.int (1 : Int32)]) (rest := []) F hN hK hP hD hS hA (mX4_fails l G cI ma r6 H.size (1 : Int32) e35) (cwV 1 hts gX4_hallOn_X4_fails rfl rfl rfl (by decide +kernel) ⟨(Nat.le_of_ble_eq_true rfl), (Nat.le_of_ble_eq_true rfl)⟩) rfl (r0 := 0) (ci := 4) rfl rfl rfl rfl hl.1 rfl (Nat.le_of_ble_eq_true rfl) dX4_hallOn_35 ⟨Nat.zero_le _, Nat.zero_le _⟩ (fun H locs hP hD hS => ?_)
    exact hq H locs _ ls r35.1 (tw_rt (fun r => r.1 = r35.1) h rfl) rfl (tw_rt (fun r => va_P G vwCl (tw_wM cI ma r.2) H) h hP) hS dX4_hallOn_38
  · replace h := tw_f c13 h
    refine lv_iload_n hx hb dX4_hallOn_16 rfl (lv_at hl 2 rfl) ?_
    obtain ⟨r17, e17, h⟩ := tw_bs h
    refine tw_callSi (ws' := (tw_wM cI ma r6)) (As := [.int p2]) (rest := []) F hN hK hP hD hS hA (mX4_isDay l G cI H.size p2 e17) (va_cwS 1 hts gX4_hallOn_X4_isDay rfl rfl rfl (by decide +kernel) ⟨(Nat.le_of_ble_eq_true rfl), (Nat.le_of_ble_eq_true rfl)⟩) [0] rfl [] (by decide) rfl rfl rfl rfl hl.1 rfl (Nat.le_of_ble_eq_true rfl) dX4_hallOn_17 ⟨Nat.zero_le _, Nat.zero_le _⟩ (fun H locs hP hD hS => ?_)
    refine lv_if_eq (tgt := 33) hx hb dX4_hallOn_20 (by decide) (fun c20 => ?_) (fun c20 => ?_)
    · replace h := tw_t c20 h
      refine lv_aload_n hx hb dX4_hallOn_33 rfl (lv_at hl 0 rfl) ?_
      refine lv_iconst (v := (1 : Int32)) hx hb dX4_hallOn_34 (by decide) ?_
      obtain ⟨r35, e35, h⟩ := tw_bs h
      refine tw_callViF (ws' := (tw_wM cI ma r35.2)) (As := [.int (1 : Int32)]) (rest := []) F hN hK hP hD hS hA (mX4_fails l G cI ma r6 H.size (1 : Int32) e35) (cwV 1 hts gX4_hallOn_X4_fails rfl rfl rfl (by decide +kernel) ⟨(Nat.le_of_ble_eq_true rfl), (Nat.le_of_ble_eq_true rfl)⟩) rfl (r0 := 0) (ci := 4) rfl rfl rfl rfl hl.1 rfl (Nat.le_of_ble_eq_true rfl) dX4_hallOn_35 ⟨Nat.zero_le _, Nat.zero_le _⟩ (fun H locs hP hD hS => ?_)
      exact hq H locs _ ls r35.1 (tw_rt (fun r => r.1 = r35.1) h rfl) rfl (tw_rt (fun r => va_P G vwCl (tw_wM cI ma r.2) H) h hP) hS dX4_hallOn_38
    · replace h := tw_f c20 h
      refine lv_aload_n hx hb dX4_hallOn_23 rfl (lv_at hl 0 rfl) ?_
      refine lv_iconst (v := (2 : Int32)) hx hb dX4_hallOn_24 (by decide) ?_
      refine lv_iload_n hx hb dX4_hallOn_25 rfl (lv_at hl 1 rfl) ?_
      refine lv_iload_n hx hb dX4_hallOn_26 rfl (lv_at hl 2 rfl) ?_
      obtain ⟨r27, e27, h⟩ := tw_bs h
      refine tw_callViF (ws' := (tw_wM cI ma r6)) (As := [.int (2 : Int32), .int p1, .int p2]) (rest := []) F hN hK hP hD hS hA (mX4_on l G cI ma r6 H.size (2 : Int32) p1 p2 e27) (cwV 3 hts gX4_hallOn_X4_on rfl rfl rfl (by decide +kernel) ⟨(Nat.le_of_ble_eq_true rfl), (Nat.le_of_ble_eq_true rfl)⟩) rfl (r0 := 0) (ci := 4) rfl rfl rfl rfl hl.1 rfl (Nat.le_of_ble_eq_true rfl) dX4_hallOn_27 ⟨Nat.zero_le _, Nat.zero_le _⟩ (fun H locs hP hD hS => ?_)
      refine lv_goto (tgt := 38) hx hb dX4_hallOn_30 (by decide) ?_
      exact hq H locs _ ls r27 (tw_rt (fun r => r.1 = r27) h rfl) rfl (tw_rt (fun r => va_P G vwCl (tw_wM cI ma r.2) H) h hP) hS dX4_hallOn_38
abbrev rmX4_ofHall : Room := { frames := 5, cells := 0, slots := 0, locals := 119 }
set_option maxRecDepth 20000 in
theorem qX4_ofHall_0 : (Cond.fieldLink RX4 7 "TheatreWallModel" "now" "[I") ∈ wsX4_ofHall := (List.mem_cons_of_mem _ (List.mem_append_left _ (List.mem_append_left _ (List.mem_of_getElem? (i := 0) rfl))))
set_option maxRecDepth 20000 in
theorem qX4_ofHall_1 : (Cond.fieldLink RX4 25 "TheatreWallModel" "plan" "[I") ∈ wsX4_ofHall := (List.mem_cons_of_mem _ (List.mem_append_left _ (List.mem_append_left _ (List.mem_of_getElem? (i := 1) rfl))))
set_option maxRecDepth 20000 in
theorem iX4_ofHall_X4 : ∀ w ∈ u_ws RX4 TX4 13, w ∈ wsX4_ofHall := fun w h => (List.mem_cons_of_mem _ (List.mem_append_right _ h))
set_option maxHeartbeats 4000000 in
set_option maxRecDepth 100000 in
theorem mX4_ofHall (l : Launch) (G : va_G) (cI : ClassId) (ma : Nat → Nat) (M : tw_Md) (sz : Nat) (p1 : Int32) (p2 : Int32) {rv : Int32 × tw_Md} (h : fX4_ofHall M p1 p2 = some rv) : tw_Mi l yX4_ofHall wsX4_ofHall rmX4_ofHall G [(cI, .int)] (tw_wM cI ma M) [.ref (ma 0), .int p1, .int p2] sz rv.1 (tw_wM cI ma rv.2) := by
  refine tw_ofi (ty := .int) (cc := cX4_ofHall) (maxL := 6) (own := RX4) (by decide) rfl rfl (Nat.le_of_ble_eq_true rfl) ?_
  intro p e s m args below meth c Q A ls H locs F hN hK hP hD hS hA hl hq
  obtain ⟨hx, hb, hml, hown, hts⟩ := id F
  have hl : lv_has ls 6 [(0, .ref (ma 0)), (1, .int p1), (2, .int p2)] := hl
  unfold fX4_ofHall at h
  have L27 : ∀ (n27 : Nat) (v3 : Int32) (v4 : Int32) (M : tw_Md) (H : Heap) (locs : List Loc) (ls : Array Slot), fX4_ofHall_27 p1 p2 n27 v3 v4 M = some rv → lv_has ls 6 [(0, .ref (ma 0)), (1, .int p1), (2, .int p2), (3, .int v3), (4, .int v4)] → va_P G vwCl (tw_wM cI ma M) H → va_D A (tw_wM cI ma M) → va_S A s.heap H locs → W p l e rmX4_ofHall s m args below meth c H locs 0 0 Q (F0 m 27 ls []) := by
    intro n27
    induction n27 with
    | zero =>
      intro v3 v4 M H locs ls h
      rw [fX4_ofHall_27] at h
      cases h
    | succ n27 ih27 =>
      intro v3 v4 M H locs ls h hl hP hD hS
      rw [fX4_ofHall_27] at h
      have L68 : ∀ (t0 : Int32) (v3 : Int32) (v4 : Int32) (M : tw_Md) (H : Heap) (locs : List Loc) (ls : Array Slot), fX4_ofHall_68 p1 p2 (fX4_ofHall_27 p1 p2 n27) t0 v3 v4 M = some rv → lv_has ls 6 [(0, .ref (ma 0)), (1, .int p1), (2, .int p2), (3, .int v3), (4, .int v4)] → va_P G vwCl (tw_wM cI ma M) H → va_D A (tw_wM cI ma M) → va_S A s.heap H locs → W p l e rmX4_ofHall s m args below meth c H locs 0 0 Q (F0 m 68 ls [.int t0]) := by
        intro t0 v3 v4 M H locs ls h hl hP hD hS
        unfold fX4_ofHall_68 at h
        refine lv_istore (lv' := [(5, .int t0), (0, .ref (ma 0)), (1, .int p1), (2, .int p2), (3, .int v3), (4, .int v4)]) hx hb dX4_ofHall_68 hl (by decide) rfl (fun ls hl => ?_)
        refine lv_iload_n hx hb dX4_ofHall_70 rfl (lv_at hl 4 rfl) ?_
        refine lv_iload hx hb dX4_ofHall_71 (lv_at hl 0 rfl) ?_
        refine lv_if_eq (tgt := 98) hx hb dX4_ofHall_73 (by decide) (fun c73 => ?_) (fun c73 => ?_)
        · replace h := tw_t c73 h
          refine lv_iconst (v := (0 : Int32)) hx hb dX4_ofHall_98 (by decide) ?_
          refine lv_iadd hx hb dX4_ofHall_99 ?_
          refine lv_istore_n (lv' := [(3, .int (v3 + (0 : Int32))), (5, .int t0), (0, .ref (ma 0)), (1, .int p1), (2, .int p2), (4, .int v4)]) hx hb dX4_ofHall_100 rfl hl (by decide) rfl (fun ls hl => ?_)
          refine lv_iinc (v := (v4 + 1)) (lv' := [(4, .int (v4 + 1)), (3, .int (v3 + (0 : Int32))), (5, .int t0), (0, .ref (ma 0)), (1, .int p1), (2, .int p2)]) hx hb dX4_ofHall_101 hl (k := 5) rfl rfl (by decide) rfl (fun ls hl => ?_)
          refine lv_goto (tgt := 27) hx hb dX4_ofHall_104 (by decide) ?_
          exact ih27 (v3 + (0 : Int32)) (v4 + 1) M H locs ls h (lv_sub hl [3, 4, 5, 1, 0] rfl) hP hD hS
        · replace h := tw_f c73 h
          refine lv_iload_n hx hb dX4_ofHall_76 rfl (lv_at hl 3 rfl) ?_
          refine lv_iconst (v := (2 : Int32)) hx hb dX4_ofHall_77 (by decide) ?_
          refine lv_icmp_ne (tgt := 94) hx hb dX4_ofHall_78 (by decide) (fun c78 => ?_) (fun c78 => ?_)
          · replace h := tw_t c78 h
            refine lv_iconst (v := (1 : Int32)) hx hb dX4_ofHall_94 (by decide) ?_
            refine lv_goto (tgt := 99) hx hb dX4_ofHall_95 (by decide) ?_
            refine lv_iadd hx hb dX4_ofHall_99 ?_
            refine lv_istore_n (lv' := [(3, .int (v3 + (1 : Int32))), (5, .int t0), (0, .ref (ma 0)), (1, .int p1), (2, .int p2), (4, .int v4)]) hx hb dX4_ofHall_100 rfl hl (by decide) rfl (fun ls hl => ?_)
            refine lv_iinc (v := (v4 + 1)) (lv' := [(4, .int (v4 + 1)), (3, .int (v3 + (1 : Int32))), (5, .int t0), (0, .ref (ma 0)), (1, .int p1), (2, .int p2)]) hx hb dX4_ofHall_101 hl (k := 5) rfl rfl (by decide) rfl (fun ls hl => ?_)
            refine lv_goto (tgt := 27) hx hb dX4_ofHall_104 (by decide) ?_
            exact ih27 (v3 + (1 : Int32)) (v4 + 1) M H locs ls h (lv_sub hl [3, 4, 5, 1, 0] rfl) hP hD hS
          · replace h := tw_fn c78 h
            refine lv_aload_n hx hb dX4_ofHall_81 rfl (lv_at hl 1 rfl) ?_
            refine va_get (D := G) (ci := 4) (v := .ref (ma 1)) (C := RX4) (T := TX4) (N := 13) hx hb hts iX4_ofHall_X4 hown hK hP 0 rfl rfl 0 (by decide) (hts _ qX4_ofHall_0) (fun _ h9 => h9) rfl dX4_ofHall_82 ?_
            refine lv_iload hx hb dX4_ofHall_85 (lv_at hl 5 rfl) ?_
            refine lv_iconst (v := (0 : Int32)) hx hb dX4_ofHall_87 (by decide) ?_
            obtain ⟨r88, e88, h⟩ := tw_bs h
            refine tw_callSi (ws' := (tw_wM cI ma M)) (As := [.ref (ma 1), .int v4, .int (0 : Int32)]) (rest := [.int v3]) F hN hK hP hD hS hA (mX4_of l G cI (ma 1) M.1 H.size v4 (0 : Int32) e88) (va_cwS 3 hts gX4_ofHall_X4_of rfl rfl rfl (by decide +kernel) ⟨(Nat.le_of_ble_eq_true rfl), (Nat.le_of_ble_eq_true rfl)⟩) [0] rfl [1] (by decide) rfl rfl rfl rfl hl.1 rfl (Nat.le_of_ble_eq_true rfl) dX4_ofHall_88 ⟨Nat.zero_le _, Nat.zero_le _⟩ (fun H locs hP hD hS => ?_)
            refine lv_goto (tgt := 99) hx hb dX4_ofHall_91 (by decide) ?_
            refine lv_iadd hx hb dX4_ofHall_99 ?_
            refine lv_istore_n (lv' := [(3, .int (v3 + r88)), (5, .int t0), (0, .ref (ma 0)), (1, .int p1), (2, .int p2), (4, .int v4)]) hx hb dX4_ofHall_100 rfl hl (by decide) rfl (fun ls hl => ?_)
            refine lv_iinc (v := (v4 + 1)) (lv' := [(4, .int (v4 + 1)), (3, .int (v3 + r88)), (5, .int t0), (0, .ref (ma 0)), (1, .int p1), (2, .int p2)]) hx hb dX4_ofHall_101 hl (k := 5) rfl rfl (by decide) rfl (fun ls hl => ?_)
            refine lv_goto (tgt := 27) hx hb dX4_ofHall_104 (by decide) ?_
            exact ih27 (v3 + r88) (v4 + 1) M H locs ls h (lv_sub hl [3, 4, 5, 1, 0] rfl) hP hD hS
      refine lv_iload hx hb dX4_ofHall_27 (lv_at hl 4 rfl) ?_
      refine lv_aload_n hx hb dX4_ofHall_29 rfl (lv_at hl 0 rfl) ?_
      refine va_get (D := G) (ci := 4) (v := .ref (ma 1)) (C := RX4) (T := TX4) (N := 13) hx hb hts iX4_ofHall_X4 hown hK hP 0 rfl rfl 0 (by decide) (hts _ qX4_ofHall_0) (fun _ h9 => h9) rfl dX4_ofHall_30 ?_
      refine lv_iconst (v := (0 : Int32)) hx hb dX4_ofHall_33 (by decide) ?_
      refine va_iald (f := M.1) (n := 70) hx hb hK hP 1 0 rfl rfl (tw_vin (by decide)) dX4_ofHall_34 ?_
      refine lv_icmp_ge (tgt := 107) hx hb dX4_ofHall_35 (by decide) (fun c35 => ?_) (fun c35 => ?_)
      · replace h := tw_t c35 h
        refine lv_iload_n hx hb dX4_ofHall_107 rfl (lv_at hl 3 rfl) ?_
        exact hq H locs _ ls v3 (tw_rt (fun r => r.1 = v3) h rfl) rfl (tw_rt (fun r => va_P G vwCl (tw_wM cI ma r.2) H) h hP) hS dX4_ofHall_108
      · replace h := tw_f c35 h
        refine lv_aload_n hx hb dX4_ofHall_38 rfl (lv_at hl 0 rfl) ?_
        refine va_get (D := G) (ci := 4) (v := .ref (ma 1)) (C := RX4) (T := TX4) (N := 13) hx hb hts iX4_ofHall_X4 hown hK hP 0 rfl rfl 0 (by decide) (hts _ qX4_ofHall_0) (fun _ h9 => h9) rfl dX4_ofHall_39 ?_
        refine lv_iload hx hb dX4_ofHall_42 (lv_at hl 4 rfl) ?_
        refine lv_iconst (v := (2 : Int32)) hx hb dX4_ofHall_44 (by decide) ?_
        obtain ⟨r45, e45, h⟩ := tw_bs h
        refine tw_callSi (ws' := (tw_wM cI ma M)) (As := [.ref (ma 1), .int v4, .int (2 : Int32)]) (rest := []) F hN hK hP hD hS hA (mX4_of l G cI (ma 1) M.1 H.size v4 (2 : Int32) e45) (va_cwS 3 hts gX4_ofHall_X4_of rfl rfl rfl (by decide +kernel) ⟨(Nat.le_of_ble_eq_true rfl), (Nat.le_of_ble_eq_true rfl)⟩) [0] rfl [1] (by decide) rfl rfl rfl rfl hl.1 rfl (Nat.le_of_ble_eq_true rfl) dX4_ofHall_45 ⟨Nat.zero_le _, Nat.zero_le _⟩ (fun H locs hP hD hS => ?_)
        refine lv_iload_n hx hb dX4_ofHall_48 rfl (lv_at hl 1 rfl) ?_
        refine lv_icmp_ne (tgt := 67) hx hb dX4_ofHall_49 (by decide) (fun c49 => ?_) (fun c49 => ?_)
        · replace h := tw_t c49 h
          refine lv_iconst (v := (0 : Int32)) hx hb dX4_ofHall_67 (by decide) ?_
          exact L68 (0 : Int32) v3 v4 M H locs ls h (lv_sub hl [0, 1, 2, 3, 4] rfl) hP hD hS
        · replace h := tw_fn c49 h
          refine lv_aload_n hx hb dX4_ofHall_52 rfl (lv_at hl 0 rfl) ?_
          refine va_get (D := G) (ci := 4) (v := .ref (ma 6)) (C := RX4) (T := TX4) (N := 13) hx hb hts iX4_ofHall_X4 hown hK hP 0 rfl rfl 11 (by decide) (hts _ qX4_ofHall_1) (fun _ h9 => h9) rfl dX4_ofHall_53 ?_
          refine lv_iload hx hb dX4_ofHall_56 (lv_at hl 4 rfl) ?_
          obtain ⟨g58, h⟩ := tw_gs h
          refine va_iald (f := M.2.2.2.2.2.2.2.2.2.2.2.1) (n := 12) hx hb hK hP 6 0 rfl rfl g58 dX4_ofHall_58 ?_
          refine lv_iconst (v := (-1 : Int32)) hx hb dX4_ofHall_59 (by decide) ?_
          refine lv_icmp_eq (tgt := 67) hx hb dX4_ofHall_60 (by decide) (fun c60 => ?_) (fun c60 => ?_)
          · replace h := tw_t c60 h
            refine lv_iconst (v := (0 : Int32)) hx hb dX4_ofHall_67 (by decide) ?_
            exact L68 (0 : Int32) v3 v4 M H locs ls h (lv_sub hl [0, 1, 2, 3, 4] rfl) hP hD hS
          · replace h := tw_f c60 h
            refine lv_iconst (v := (1 : Int32)) hx hb dX4_ofHall_63 (by decide) ?_
            refine lv_goto (tgt := 68) hx hb dX4_ofHall_64 (by decide) ?_
            exact L68 (1 : Int32) v3 v4 M H locs ls h (lv_sub hl [0, 1, 2, 3, 4] rfl) hP hD hS
  refine lv_iload_n hx hb dX4_ofHall_0 rfl (lv_at hl 2 rfl) ?_
  refine lv_iconst (v := (2 : Int32)) hx hb dX4_ofHall_1 (by decide) ?_
  refine lv_icmp_ge (tgt := 18) hx hb dX4_ofHall_2 (by decide) (fun c2 => ?_) (fun c2 => ?_)
  · replace h := tw_t c2 h
    refine lv_aload_n hx hb dX4_ofHall_18 rfl (lv_at hl 0 rfl) ?_
    obtain ⟨r19, e19, h⟩ := tw_bs h
    refine tw_callVvF (ws' := (tw_wM cI ma r19)) (As := []) (rest := []) F hN hK hP hD hS hA (mX4_plans l G cI ma M H.size e19) (cwV 0 hts gX4_ofHall_X4_plans rfl rfl rfl (by decide +kernel) ⟨(Nat.le_of_ble_eq_true rfl), (Nat.le_of_ble_eq_true rfl)⟩) rfl (r0 := 0) (ci := 4) rfl rfl rfl rfl hl.1 rfl (Nat.le_of_ble_eq_true rfl) dX4_ofHall_19 ⟨Nat.zero_le _, Nat.zero_le _⟩ (fun H locs hP hD hS => ?_)
    refine lv_iconst (v := (0 : Int32)) hx hb dX4_ofHall_22 (by decide) ?_
    refine lv_istore_n (lv' := [(3, .int (0 : Int32)), (0, .ref (ma 0)), (1, .int p1), (2, .int p2)]) hx hb dX4_ofHall_23 rfl hl (by decide) rfl (fun ls hl => ?_)
    refine lv_iconst (v := (0 : Int32)) hx hb dX4_ofHall_24 (by decide) ?_
    refine lv_istore (lv' := [(4, .int (0 : Int32)), (3, .int (0 : Int32)), (0, .ref (ma 0)), (1, .int p1), (2, .int p2)]) hx hb dX4_ofHall_25 hl (by decide) rfl (fun ls hl => ?_)
    exact L27 512 (0 : Int32) (0 : Int32) r19 H locs ls h (lv_sub hl [2, 3, 4, 1, 0] rfl) hP hD hS
  · replace h := tw_f c2 h
    refine lv_aload_n hx hb dX4_ofHall_5 rfl (lv_at hl 0 rfl) ?_
    refine va_get (D := G) (ci := 4) (v := .ref (ma 1)) (C := RX4) (T := TX4) (N := 13) hx hb hts iX4_ofHall_X4 hown hK hP 0 rfl rfl 0 (by decide) (hts _ qX4_ofHall_0) (fun _ h9 => h9) rfl dX4_ofHall_6 ?_
    refine lv_iconst (v := (2 : Int32)) hx hb dX4_ofHall_9 (by decide) ?_
    refine lv_iconst (v := (2 : Int32)) hx hb dX4_ofHall_10 (by decide) ?_
    refine lv_iload_n hx hb dX4_ofHall_11 rfl (lv_at hl 1 rfl) ?_
    refine lv_imul hx hb dX4_ofHall_12 ?_
    refine lv_iadd hx hb dX4_ofHall_13 ?_
    refine lv_iload_n hx hb dX4_ofHall_14 rfl (lv_at hl 2 rfl) ?_
    refine lv_iadd hx hb dX4_ofHall_15 ?_
    obtain ⟨g16, h⟩ := tw_gs h
    refine va_iald (f := M.1) (n := 70) hx hb hK hP 1 0 rfl rfl g16 dX4_ofHall_16 ?_
    exact hq H locs _ ls (M.1 (((2 : Int32) + ((2 : Int32) * p1)) + p2).toNatClampNeg) (tw_rt (fun r => r.1 = (M.1 (((2 : Int32) + ((2 : Int32) * p1)) + p2).toNatClampNeg)) h rfl) rfl (tw_rt (fun r => va_P G vwCl (tw_wM cI ma r.2) H) h hP) hS dX4_ofHall_17
abbrev rmX4_hall : Room := { frames := 6, cells := 0, slots := 0, locals := 144 }
set_option maxRecDepth 20000 in
theorem qX4_hall_0 : (Cond.fieldLink RX4 31 "TheatreWallModel" "thrown" "I") ∈ wsX4_hall := (List.mem_cons_of_mem _ (List.mem_append_left _ (List.mem_append_left _ (List.mem_of_getElem? (i := 0) rfl))))
set_option maxRecDepth 20000 in
theorem iX4_hall_X4 : ∀ w ∈ u_ws RX4 TX4 13, w ∈ wsX4_hall := fun w h => (List.mem_cons_of_mem _ (List.mem_append_right _ h))
set_option maxHeartbeats 4000000 in
set_option maxRecDepth 100000 in
theorem mX4_hall (l : Launch) (G : va_G) (cI : ClassId) (ma : Nat → Nat) (M : tw_Md) (sz : Nat) (p1 : Int32) (p2 : Int32) {rv : Int32 × tw_Md} (h : fX4_hall M p1 p2 = some rv) : tw_Mi l yX4_hall wsX4_hall rmX4_hall G [(cI, .int)] (tw_wM cI ma M) [.ref (ma 0), .int p1, .int p2] sz rv.1 (tw_wM cI ma rv.2) := by
  refine tw_ofi (ty := .int) (cc := cX4_hall) (maxL := 3) (own := RX4) (by decide) rfl rfl (Nat.le_of_ble_eq_true rfl) ?_
  intro p e s m args below meth c Q A ls H locs F hN hK hP hD hS hA hl hq
  obtain ⟨hx, hb, hml, hown, hts⟩ := id F
  have hl : lv_has ls 3 [(0, .ref (ma 0)), (1, .int p1), (2, .int p2)] := hl
  unfold fX4_hall at h
  refine lv_aload_n hx hb dX4_hall_0 rfl (lv_at hl 0 rfl) ?_
  refine lv_iconst (v := (0 : Int32)) hx hb dX4_hall_1 (by decide) ?_
  refine tw_put (ws' := (tw_wM cI ma (M.1, M.2.1, M.2.2.1, M.2.2.2.1, M.2.2.2.2.1, M.2.2.2.2.2.1, (0 : Int32), M.2.2.2.2.2.2.2.1, M.2.2.2.2.2.2.2.2.1, M.2.2.2.2.2.2.2.2.2.1, M.2.2.2.2.2.2.2.2.2.2.1, M.2.2.2.2.2.2.2.2.2.2.2.1, M.2.2.2.2.2.2.2.2.2.2.2.2))) (D := G) (ci := 4) (v := .int (0 : Int32)) (ty := .int) (C := RX4) (T := TX4) (N := 13) hx hb hts iX4_hall_X4 tyX4 tyX4_ok nmX4 hown hK hP hD hS 0 rfl rfl 6 (by decide) (hts _ qX4_hall_0) (fun _ h9 => h9) rfl (by decide +kernel) rfl rfl (Nat.le_of_ble_eq_true rfl) dX4_hall_2 rfl (fun H locs hP hD hS => ?_)
  refine lv_iload_n hx hb dX4_hall_5 rfl (lv_at hl 1 rfl) ?_
  obtain ⟨r6, e6, h⟩ := tw_bs h
  refine tw_callSi (ws' := (tw_wM cI ma (M.1, M.2.1, M.2.2.1, M.2.2.2.1, M.2.2.2.2.1, M.2.2.2.2.2.1, (0 : Int32), M.2.2.2.2.2.2.2.1, M.2.2.2.2.2.2.2.2.1, M.2.2.2.2.2.2.2.2.2.1, M.2.2.2.2.2.2.2.2.2.2.1, M.2.2.2.2.2.2.2.2.2.2.2.1, M.2.2.2.2.2.2.2.2.2.2.2.2))) (As := [.int p1]) (rest := []) F hN hK hP hD hS hA (mX4_isHall l G cI H.size p1 e6) (va_cwS 1 hts gX4_hall_X4_isHall rfl rfl rfl (by decide +kernel) ⟨(Nat.le_of_ble_eq_true rfl), (Nat.le_of_ble_eq_true rfl)⟩) [0] rfl [] (by decide) rfl rfl rfl rfl hl.1 rfl (Nat.le_of_ble_eq_true rfl) dX4_hall_6 ⟨Nat.zero_le _, Nat.zero_le _⟩ (fun H locs hP hD hS => ?_)
  refine lv_if_ne (tgt := 18) hx hb dX4_hall_9 (by decide) (fun c9 => ?_) (fun c9 => ?_)
  · replace h := tw_t c9 h
    refine lv_iload_n hx hb dX4_hall_18 rfl (lv_at hl 2 rfl) ?_
    refine lv_iconst (v := (0 : Int32)) hx hb dX4_hall_19 (by decide) ?_
    refine lv_iconst (v := (3 : Int32)) hx hb dX4_hall_20 (by decide) ?_
    obtain ⟨r21, e21, h⟩ := tw_bs h
    refine tw_callSi (ws' := (tw_wM cI ma (M.1, M.2.1, M.2.2.1, M.2.2.2.1, M.2.2.2.2.1, M.2.2.2.2.2.1, (0 : Int32), M.2.2.2.2.2.2.2.1, M.2.2.2.2.2.2.2.2.1, M.2.2.2.2.2.2.2.2.2.1, M.2.2.2.2.2.2.2.2.2.2.1, M.2.2.2.2.2.2.2.2.2.2.2.1, M.2.2.2.2.2.2.2.2.2.2.2.2))) (As := [.int p2, .int (0 : Int32), .int (3 : Int32)]) (rest := []) F hN hK hP hD hS hA (mX4_in l G cI H.size p2 (0 : Int32) (3 : Int32) e21) (va_cwS 3 hts gX4_hall_X4_in rfl rfl rfl (by decide +kernel) ⟨(Nat.le_of_ble_eq_true rfl), (Nat.le_of_ble_eq_true rfl)⟩) [0] rfl [] (by decide) rfl rfl rfl rfl hl.1 rfl (Nat.le_of_ble_eq_true rfl) dX4_hall_21 ⟨Nat.zero_le _, Nat.zero_le _⟩ (fun H locs hP hD hS => ?_)
    refine lv_if_eq (tgt := 36) hx hb dX4_hall_24 (by decide) (fun c24 => ?_) (fun c24 => ?_)
    · replace h := tw_t c24 h
      refine lv_aload_n hx hb dX4_hall_36 rfl (lv_at hl 0 rfl) ?_
      refine lv_iconst (v := (2 : Int32)) hx hb dX4_hall_37 (by decide) ?_
      obtain ⟨r38, e38, h⟩ := tw_bs h
      refine tw_callViF (ws' := (tw_wM cI ma r38.2)) (As := [.int (2 : Int32)]) (rest := []) F hN hK hP hD hS hA (mX4_fails l G cI ma (M.1, M.2.1, M.2.2.1, M.2.2.2.1, M.2.2.2.2.1, M.2.2.2.2.2.1, (0 : Int32), M.2.2.2.2.2.2.2.1, M.2.2.2.2.2.2.2.2.1, M.2.2.2.2.2.2.2.2.2.1, M.2.2.2.2.2.2.2.2.2.2.1, M.2.2.2.2.2.2.2.2.2.2.2.1, M.2.2.2.2.2.2.2.2.2.2.2.2) H.size (2 : Int32) e38) (cwV 1 hts gX4_hall_X4_fails rfl rfl rfl (by decide +kernel) ⟨(Nat.le_of_ble_eq_true rfl), (Nat.le_of_ble_eq_true rfl)⟩) rfl (r0 := 0) (ci := 4) rfl rfl rfl rfl hl.1 rfl (Nat.le_of_ble_eq_true rfl) dX4_hall_38 ⟨Nat.zero_le _, Nat.zero_le _⟩ (fun H locs hP hD hS => ?_)
      exact hq H locs _ ls r38.1 (tw_rt (fun r => r.1 = r38.1) h rfl) rfl (tw_rt (fun r => va_P G vwCl (tw_wM cI ma r.2) H) h hP) hS dX4_hall_41
    · replace h := tw_f c24 h
      refine lv_aload_n hx hb dX4_hall_27 rfl (lv_at hl 0 rfl) ?_
      refine lv_iload_n hx hb dX4_hall_28 rfl (lv_at hl 1 rfl) ?_
      refine lv_iload_n hx hb dX4_hall_29 rfl (lv_at hl 2 rfl) ?_
      obtain ⟨r30, e30, h⟩ := tw_bs h
      refine tw_callViF (ws' := (tw_wM cI ma r30.2)) (As := [.int p1, .int p2]) (rest := []) F hN hK hP hD hS hA (mX4_ofHall l G cI ma (M.1, M.2.1, M.2.2.1, M.2.2.2.1, M.2.2.2.2.1, M.2.2.2.2.2.1, (0 : Int32), M.2.2.2.2.2.2.2.1, M.2.2.2.2.2.2.2.2.1, M.2.2.2.2.2.2.2.2.2.1, M.2.2.2.2.2.2.2.2.2.2.1, M.2.2.2.2.2.2.2.2.2.2.2.1, M.2.2.2.2.2.2.2.2.2.2.2.2) H.size p1 p2 e30) (cwV 2 hts gX4_hall_X4_ofHall rfl rfl rfl (by decide +kernel) ⟨(Nat.le_of_ble_eq_true rfl), (Nat.le_of_ble_eq_true rfl)⟩) rfl (r0 := 0) (ci := 4) rfl rfl rfl rfl hl.1 rfl (Nat.le_of_ble_eq_true rfl) dX4_hall_30 ⟨Nat.zero_le _, Nat.zero_le _⟩ (fun H locs hP hD hS => ?_)
      refine lv_goto (tgt := 41) hx hb dX4_hall_33 (by decide) ?_
      exact hq H locs _ ls r30.1 (tw_rt (fun r => r.1 = r30.1) h rfl) rfl (tw_rt (fun r => va_P G vwCl (tw_wM cI ma r.2) H) h hP) hS dX4_hall_41
  · replace h := tw_fn c9 h
    refine lv_aload_n hx hb dX4_hall_12 rfl (lv_at hl 0 rfl) ?_
    refine lv_iconst (v := (1 : Int32)) hx hb dX4_hall_13 (by decide) ?_
    obtain ⟨r14, e14, h⟩ := tw_bs h
    refine tw_callViF (ws' := (tw_wM cI ma r14.2)) (As := [.int (1 : Int32)]) (rest := []) F hN hK hP hD hS hA (mX4_fails l G cI ma (M.1, M.2.1, M.2.2.1, M.2.2.2.1, M.2.2.2.2.1, M.2.2.2.2.2.1, (0 : Int32), M.2.2.2.2.2.2.2.1, M.2.2.2.2.2.2.2.2.1, M.2.2.2.2.2.2.2.2.2.1, M.2.2.2.2.2.2.2.2.2.2.1, M.2.2.2.2.2.2.2.2.2.2.2.1, M.2.2.2.2.2.2.2.2.2.2.2.2) H.size (1 : Int32) e14) (cwV 1 hts gX4_hall_X4_fails rfl rfl rfl (by decide +kernel) ⟨(Nat.le_of_ble_eq_true rfl), (Nat.le_of_ble_eq_true rfl)⟩) rfl (r0 := 0) (ci := 4) rfl rfl rfl rfl hl.1 rfl (Nat.le_of_ble_eq_true rfl) dX4_hall_14 ⟨Nat.zero_le _, Nat.zero_le _⟩ (fun H locs hP hD hS => ?_)
    exact hq H locs _ ls r14.1 (tw_rt (fun r => r.1 = r14.1) h rfl) rfl (tw_rt (fun r => va_P G vwCl (tw_wM cI ma r.2) H) h hP) hS dX4_hall_17
abbrev rmX4_critical : Room := { frames := 6, cells := 0, slots := 0, locals := 143 }
set_option maxRecDepth 20000 in
theorem qX4_critical_0 : (Cond.fieldLink RX4 7 "TheatreWallModel" "now" "[I") ∈ wsX4_critical := (List.mem_cons_of_mem _ (List.mem_append_left _ (List.mem_append_left _ (List.mem_of_getElem? (i := 0) rfl))))
set_option maxRecDepth 20000 in
theorem iX4_critical_X4 : ∀ w ∈ u_ws RX4 TX4 13, w ∈ wsX4_critical := fun w h => (List.mem_cons_of_mem _ (List.mem_append_right _ h))
set_option maxHeartbeats 4000000 in
set_option maxRecDepth 100000 in
theorem mX4_critical (l : Launch) (G : va_G) (cI : ClassId) (ma : Nat → Nat) (M : tw_Md) (sz : Nat)  {rv : Int32 × tw_Md} (h : fX4_critical M = some rv) : tw_Mi l yX4_critical wsX4_critical rmX4_critical G [(cI, .int)] (tw_wM cI ma M) [.ref (ma 0)] sz rv.1 (tw_wM cI ma rv.2) := by
  refine tw_ofi (ty := .int) (cc := cX4_critical) (maxL := 3) (own := RX4) (by decide) rfl rfl (Nat.le_of_ble_eq_true rfl) ?_
  intro p e s m args below meth c Q A ls H locs F hN hK hP hD hS hA hl hq
  obtain ⟨hx, hb, hml, hown, hts⟩ := id F
  have hl : lv_has ls 3 [(0, .ref (ma 0))] := hl
  unfold fX4_critical at h
  have L4 : ∀ (n4 : Nat) (v1 : Int32) (v2 : Int32) (M : tw_Md) (H : Heap) (locs : List Loc) (ls : Array Slot), fX4_critical_4 n4 v1 v2 M = some rv → lv_has ls 3 [(0, .ref (ma 0)), (1, .int v1), (2, .int v2)] → va_P G vwCl (tw_wM cI ma M) H → va_D A (tw_wM cI ma M) → va_S A s.heap H locs → W p l e rmX4_critical s m args below meth c H locs 0 0 Q (F0 m 4 ls []) := by
    intro n4
    induction n4 with
    | zero =>
      intro v1 v2 M H locs ls h
      rw [fX4_critical_4] at h
      cases h
    | succ n4 ih4 =>
      intro v1 v2 M H locs ls h hl hP hD hS
      rw [fX4_critical_4] at h
      refine lv_iload_n hx hb dX4_critical_4 rfl (lv_at hl 2 rfl) ?_
      refine lv_aload_n hx hb dX4_critical_5 rfl (lv_at hl 0 rfl) ?_
      refine va_get (D := G) (ci := 4) (v := .ref (ma 1)) (C := RX4) (T := TX4) (N := 13) hx hb hts iX4_critical_X4 hown hK hP 0 rfl rfl 0 (by decide) (hts _ qX4_critical_0) (fun _ h9 => h9) rfl dX4_critical_6 ?_
      refine lv_iconst (v := (0 : Int32)) hx hb dX4_critical_9 (by decide) ?_
      refine va_iald (f := M.1) (n := 70) hx hb hK hP 1 0 rfl rfl (tw_vin (by decide)) dX4_critical_10 ?_
      refine lv_icmp_ge (tgt := 36) hx hb dX4_critical_11 (by decide) (fun c11 => ?_) (fun c11 => ?_)
      · replace h := tw_t c11 h
        refine lv_iload_n hx hb dX4_critical_36 rfl (lv_at hl 1 rfl) ?_
        exact hq H locs _ ls v1 (tw_rt (fun r => r.1 = v1) h rfl) rfl (tw_rt (fun r => va_P G vwCl (tw_wM cI ma r.2) H) h hP) hS dX4_critical_37
      · replace h := tw_f c11 h
        refine lv_iload_n hx hb dX4_critical_14 rfl (lv_at hl 1 rfl) ?_
        refine lv_aload_n hx hb dX4_critical_15 rfl (lv_at hl 0 rfl) ?_
        refine lv_iload_n hx hb dX4_critical_16 rfl (lv_at hl 2 rfl) ?_
        obtain ⟨r17, e17, h⟩ := tw_bs h
        refine tw_callViF (ws' := (tw_wM cI ma r17.2)) (As := [.int v2]) (rest := [.int v1]) F hN hK hP hD hS hA (mX4_slack l G cI ma M H.size v2 e17) (cwV 1 hts gX4_critical_X4_slack rfl rfl rfl (by decide +kernel) ⟨(Nat.le_of_ble_eq_true rfl), (Nat.le_of_ble_eq_true rfl)⟩) rfl (r0 := 0) (ci := 4) rfl rfl rfl rfl hl.1 rfl (Nat.le_of_ble_eq_true rfl) dX4_critical_17 ⟨Nat.zero_le _, Nat.zero_le _⟩ (fun H locs hP hD hS => ?_)
        refine lv_if_ne (tgt := 27) hx hb dX4_critical_20 (by decide) (fun c20 => ?_) (fun c20 => ?_)
        · replace h := tw_t c20 h
          refine lv_iconst (v := (0 : Int32)) hx hb dX4_critical_27 (by decide) ?_
          refine lv_iadd hx hb dX4_critical_28 ?_
          refine lv_istore_n (lv' := [(1, .int (v1 + (0 : Int32))), (0, .ref (ma 0)), (2, .int v2)]) hx hb dX4_critical_29 rfl hl (by decide) rfl (fun ls hl => ?_)
          refine lv_iinc (v := (v2 + 1)) (lv' := [(2, .int (v2 + 1)), (1, .int (v1 + (0 : Int32))), (0, .ref (ma 0))]) hx hb dX4_critical_30 hl (k := 2) rfl rfl (by decide) rfl (fun ls hl => ?_)
          refine lv_goto (tgt := 4) hx hb dX4_critical_33 (by decide) ?_
          exact ih4 (v1 + (0 : Int32)) (v2 + 1) r17.2 H locs ls h (lv_sub hl [2, 1, 0] rfl) hP hD hS
        · replace h := tw_fn c20 h
          refine lv_iconst (v := (1 : Int32)) hx hb dX4_critical_23 (by decide) ?_
          refine lv_goto (tgt := 28) hx hb dX4_critical_24 (by decide) ?_
          refine lv_iadd hx hb dX4_critical_28 ?_
          refine lv_istore_n (lv' := [(1, .int (v1 + (1 : Int32))), (0, .ref (ma 0)), (2, .int v2)]) hx hb dX4_critical_29 rfl hl (by decide) rfl (fun ls hl => ?_)
          refine lv_iinc (v := (v2 + 1)) (lv' := [(2, .int (v2 + 1)), (1, .int (v1 + (1 : Int32))), (0, .ref (ma 0))]) hx hb dX4_critical_30 hl (k := 2) rfl rfl (by decide) rfl (fun ls hl => ?_)
          refine lv_goto (tgt := 4) hx hb dX4_critical_33 (by decide) ?_
          exact ih4 (v1 + (1 : Int32)) (v2 + 1) r17.2 H locs ls h (lv_sub hl [2, 1, 0] rfl) hP hD hS
  refine lv_iconst (v := (0 : Int32)) hx hb dX4_critical_0 (by decide) ?_
  refine lv_istore_n (lv' := [(1, .int (0 : Int32)), (0, .ref (ma 0))]) hx hb dX4_critical_1 rfl hl (by decide) rfl (fun ls hl => ?_)
  refine lv_iconst (v := (0 : Int32)) hx hb dX4_critical_2 (by decide) ?_
  refine lv_istore_n (lv' := [(2, .int (0 : Int32)), (1, .int (0 : Int32)), (0, .ref (ma 0))]) hx hb dX4_critical_3 rfl hl (by decide) rfl (fun ls hl => ?_)
  exact L4 512 (0 : Int32) (0 : Int32) M H locs ls h (lv_sub hl [2, 1, 0] rfl) hP hD hS
abbrev rmX4_longest : Room := { frames := 1, cells := 0, slots := 0, locals := 22 }
set_option maxRecDepth 20000 in
theorem qX4_longest_0 : (Cond.fieldLink RX4 28 "TheatreWallModel" "tried" "[I") ∈ wsX4_longest := (List.mem_cons_of_mem _ (List.mem_append_left _ (List.mem_of_getElem? (i := 1) rfl)))
set_option maxRecDepth 20000 in
theorem qX4_longest_1 : (Cond.fieldLink RX4 7 "TheatreWallModel" "now" "[I") ∈ wsX4_longest := (List.mem_cons_of_mem _ (List.mem_append_left _ (List.mem_of_getElem? (i := 0) rfl)))
set_option maxRecDepth 20000 in
theorem iX4_longest_X4 : ∀ w ∈ u_ws RX4 TX4 13, w ∈ wsX4_longest := fun w h => (List.mem_cons_of_mem _ (List.mem_append_right _ h))
set_option maxHeartbeats 4000000 in
set_option maxRecDepth 100000 in
theorem mX4_longest (l : Launch) (G : va_G) (cI : ClassId) (ma : Nat → Nat) (M : tw_Md) (sz : Nat)  {rv : Int32 × tw_Md} (h : fX4_longest M = some rv) : tw_Mi l yX4_longest wsX4_longest rmX4_longest G [(cI, .int)] (tw_wM cI ma M) [.ref (ma 0)] sz rv.1 (tw_wM cI ma rv.2) := by
  refine tw_ofi (ty := .int) (cc := cX4_longest) (maxL := 5) (own := RX4) (by decide) rfl rfl (Nat.le_of_ble_eq_true rfl) ?_
  intro p e s m args below meth c Q A ls H locs F hN hK hP hD hS hA hl hq
  obtain ⟨hx, hb, hml, hown, hts⟩ := id F
  have hl : lv_has ls 5 [(0, .ref (ma 0))] := hl
  unfold fX4_longest at h
  have L4 : ∀ (n4 : Nat) (v1 : Int32) (v2 : Int32) (M : tw_Md) (H : Heap) (locs : List Loc) (ls : Array Slot), fX4_longest_4 n4 v1 v2 M = some rv → lv_has ls 5 [(0, .ref (ma 0)), (1, .int v1), (2, .int v2)] → va_P G vwCl (tw_wM cI ma M) H → va_D A (tw_wM cI ma M) → va_S A s.heap H locs → W p l e rmX4_longest s m args below meth c H locs 0 0 Q (F0 m 4 ls []) := by
    intro n4
    induction n4 with
    | zero =>
      intro v1 v2 M H locs ls h
      rw [fX4_longest_4] at h
      cases h
    | succ n4 ih4 =>
      intro v1 v2 M H locs ls h hl hP hD hS
      rw [fX4_longest_4] at h
      have L19 : ∀ (n19 : Nat) (v1 : Int32) (v2 : Int32) (v3 : Int32) (v4 : Int32) (M : tw_Md) (H : Heap) (locs : List Loc) (ls : Array Slot), fX4_longest_19 (fX4_longest_4 n4) n19 v1 v2 v3 v4 M = some rv → lv_has ls 5 [(0, .ref (ma 0)), (1, .int v1), (2, .int v2), (3, .int v3), (4, .int v4)] → va_P G vwCl (tw_wM cI ma M) H → va_D A (tw_wM cI ma M) → va_S A s.heap H locs → W p l e rmX4_longest s m args below meth c H locs 0 0 Q (F0 m 19 ls []) := by
        intro n19
        induction n19 with
        | zero =>
          intro v1 v2 v3 v4 M H locs ls h
          rw [fX4_longest_19] at h
          cases h
        | succ n19 ih19 =>
          intro v1 v2 v3 v4 M H locs ls h hl hP hD hS
          rw [fX4_longest_19] at h
          refine lv_iload hx hb dX4_longest_19 (lv_at hl 4 rfl) ?_
          refine lv_iload_n hx hb dX4_longest_21 rfl (lv_at hl 2 rfl) ?_
          refine lv_icmp_ge (tgt := 72) hx hb dX4_longest_22 (by decide) (fun c22 => ?_) (fun c22 => ?_)
          · replace h := tw_t c22 h
            refine lv_aload_n hx hb dX4_longest_72 rfl (lv_at hl 0 rfl) ?_
            refine va_get (D := G) (ci := 4) (v := .ref (ma 7)) (C := RX4) (T := TX4) (N := 13) hx hb hts iX4_longest_X4 hown hK hP 0 rfl rfl 12 (by decide) (hts _ qX4_longest_0) (fun _ h9 => h9) rfl dX4_longest_73 ?_
            refine lv_iload_n hx hb dX4_longest_76 rfl (lv_at hl 2 rfl) ?_
            refine lv_iload_n hx hb dX4_longest_77 rfl (lv_at hl 3 rfl) ?_
            refine lv_aload_n hx hb dX4_longest_78 rfl (lv_at hl 0 rfl) ?_
            refine va_get (D := G) (ci := 4) (v := .ref (ma 1)) (C := RX4) (T := TX4) (N := 13) hx hb hts iX4_longest_X4 hown hK hP 0 rfl rfl 0 (by decide) (hts _ qX4_longest_1) (fun _ h9 => h9) rfl dX4_longest_79 ?_
            refine lv_iload_n hx hb dX4_longest_82 rfl (lv_at hl 2 rfl) ?_
            refine lv_iconst (v := (0 : Int32)) hx hb dX4_longest_83 (by decide) ?_
            obtain ⟨r84, e84, h⟩ := tw_bs h
            refine tw_callSi (ws' := (tw_wM cI ma M)) (As := [.ref (ma 1), .int v2, .int (0 : Int32)]) (rest := [.int v3, .int v2, .ref (ma 7)]) F hN hK hP hD hS hA (mX4_of l G cI (ma 1) M.1 H.size v2 (0 : Int32) e84) (va_cwS 3 hts gX4_longest_X4_of rfl rfl rfl (by decide +kernel) ⟨(Nat.le_of_ble_eq_true rfl), (Nat.le_of_ble_eq_true rfl)⟩) [0] rfl [1] (by decide) rfl rfl rfl rfl hl.1 rfl (Nat.le_of_ble_eq_true rfl) dX4_longest_84 ⟨Nat.zero_le _, Nat.zero_le _⟩ (fun H locs hP hD hS => ?_)
            refine lv_iadd hx hb dX4_longest_87 ?_
            obtain ⟨g88, h⟩ := tw_gs h
            refine tw_iast (ws' := (tw_wM cI ma (M.1, M.2.1, M.2.2.1, M.2.2.2.1, M.2.2.2.2.1, M.2.2.2.2.2.1, M.2.2.2.2.2.2.1, M.2.2.2.2.2.2.2.1, M.2.2.2.2.2.2.2.2.1, M.2.2.2.2.2.2.2.2.2.1, M.2.2.2.2.2.2.2.2.2.2.1, M.2.2.2.2.2.2.2.2.2.2.2.1, (upd M.2.2.2.2.2.2.2.2.2.2.2.2 v2.toNatClampNeg (v3 + r84))))) (f := M.2.2.2.2.2.2.2.2.2.2.2.2) (n := 12) hx hb hK hP hD hS 7 0 rfl rfl g88 dX4_longest_88 rfl (fun H locs hP hD hS => ?_)
            refine lv_aload_n hx hb dX4_longest_89 rfl (lv_at hl 0 rfl) ?_
            refine va_get (D := G) (ci := 4) (v := .ref (ma 7)) (C := RX4) (T := TX4) (N := 13) hx hb hts iX4_longest_X4 hown hK hP 0 rfl rfl 12 (by decide) (hts _ qX4_longest_0) (fun _ h9 => h9) rfl dX4_longest_90 ?_
            refine lv_iload_n hx hb dX4_longest_93 rfl (lv_at hl 2 rfl) ?_
            obtain ⟨g94, h⟩ := tw_gs h
            refine va_iald (f := (upd M.2.2.2.2.2.2.2.2.2.2.2.2 v2.toNatClampNeg (v3 + r84))) (n := 12) hx hb hK hP 7 0 rfl rfl g94 dX4_longest_94 ?_
            refine lv_iload_n hx hb dX4_longest_95 rfl (lv_at hl 1 rfl) ?_
            refine lv_icmp_le (tgt := 108) hx hb dX4_longest_96 (by decide) (fun c96 => ?_) (fun c96 => ?_)
            · replace h := tw_t c96 h
              refine lv_iload_n hx hb dX4_longest_108 rfl (lv_at hl 1 rfl) ?_
              refine lv_istore_n (lv' := [(1, .int v1), (0, .ref (ma 0)), (2, .int v2), (3, .int v3), (4, .int v4)]) hx hb dX4_longest_109 rfl hl (by decide) rfl (fun ls hl => ?_)
              refine lv_iinc (v := (v2 + 1)) (lv' := [(2, .int (v2 + 1)), (1, .int v1), (0, .ref (ma 0)), (3, .int v3), (4, .int v4)]) hx hb dX4_longest_110 hl (k := 2) rfl rfl (by decide) rfl (fun ls hl => ?_)
              refine lv_goto (tgt := 4) hx hb dX4_longest_113 (by decide) ?_
              exact ih4 v1 (v2 + 1) (M.1, M.2.1, M.2.2.1, M.2.2.2.1, M.2.2.2.2.1, M.2.2.2.2.2.1, M.2.2.2.2.2.2.1, M.2.2.2.2.2.2.2.1, M.2.2.2.2.2.2.2.2.1, M.2.2.2.2.2.2.2.2.2.1, M.2.2.2.2.2.2.2.2.2.2.1, M.2.2.2.2.2.2.2.2.2.2.2.1, (upd M.2.2.2.2.2.2.2.2.2.2.2.2 v2.toNatClampNeg (v3 + r84))) H locs ls h (lv_sub hl [2, 1, 0] rfl) hP hD hS
            · replace h := tw_f c96 h
              refine lv_aload_n hx hb dX4_longest_99 rfl (lv_at hl 0 rfl) ?_
              refine va_get (D := G) (ci := 4) (v := .ref (ma 7)) (C := RX4) (T := TX4) (N := 13) hx hb hts iX4_longest_X4 hown hK hP 0 rfl rfl 12 (by decide) (hts _ qX4_longest_0) (fun _ h9 => h9) rfl dX4_longest_100 ?_
              refine lv_iload_n hx hb dX4_longest_103 rfl (lv_at hl 2 rfl) ?_
              obtain ⟨g104, h⟩ := tw_gs h
              refine va_iald (f := (upd M.2.2.2.2.2.2.2.2.2.2.2.2 v2.toNatClampNeg (v3 + r84))) (n := 12) hx hb hK hP 7 0 rfl rfl g104 dX4_longest_104 ?_
              refine lv_goto (tgt := 109) hx hb dX4_longest_105 (by decide) ?_
              refine lv_istore_n (lv' := [(1, .int ((upd M.2.2.2.2.2.2.2.2.2.2.2.2 v2.toNatClampNeg (v3 + r84)) v2.toNatClampNeg)), (0, .ref (ma 0)), (2, .int v2), (3, .int v3), (4, .int v4)]) hx hb dX4_longest_109 rfl hl (by decide) rfl (fun ls hl => ?_)
              refine lv_iinc (v := (v2 + 1)) (lv' := [(2, .int (v2 + 1)), (1, .int ((upd M.2.2.2.2.2.2.2.2.2.2.2.2 v2.toNatClampNeg (v3 + r84)) v2.toNatClampNeg)), (0, .ref (ma 0)), (3, .int v3), (4, .int v4)]) hx hb dX4_longest_110 hl (k := 2) rfl rfl (by decide) rfl (fun ls hl => ?_)
              refine lv_goto (tgt := 4) hx hb dX4_longest_113 (by decide) ?_
              exact ih4 ((upd M.2.2.2.2.2.2.2.2.2.2.2.2 v2.toNatClampNeg (v3 + r84)) v2.toNatClampNeg) (v2 + 1) (M.1, M.2.1, M.2.2.1, M.2.2.2.1, M.2.2.2.2.1, M.2.2.2.2.2.1, M.2.2.2.2.2.2.1, M.2.2.2.2.2.2.2.1, M.2.2.2.2.2.2.2.2.1, M.2.2.2.2.2.2.2.2.2.1, M.2.2.2.2.2.2.2.2.2.2.1, M.2.2.2.2.2.2.2.2.2.2.2.1, (upd M.2.2.2.2.2.2.2.2.2.2.2.2 v2.toNatClampNeg (v3 + r84))) H locs ls h (lv_sub hl [2, 1, 0] rfl) hP hD hS
          · replace h := tw_f c22 h
            refine lv_aload_n hx hb dX4_longest_25 rfl (lv_at hl 0 rfl) ?_
            refine va_get (D := G) (ci := 4) (v := .ref (ma 1)) (C := RX4) (T := TX4) (N := 13) hx hb hts iX4_longest_X4 hown hK hP 0 rfl rfl 0 (by decide) (hts _ qX4_longest_1) (fun _ h9 => h9) rfl dX4_longest_26 ?_
            refine lv_iload_n hx hb dX4_longest_29 rfl (lv_at hl 2 rfl) ?_
            refine lv_iconst (v := (4 : Int32)) hx hb dX4_longest_30 (by decide) ?_
            obtain ⟨r31, e31, h⟩ := tw_bs h
            refine tw_callSi (ws' := (tw_wM cI ma M)) (As := [.ref (ma 1), .int v2, .int (4 : Int32)]) (rest := []) F hN hK hP hD hS hA (mX4_of l G cI (ma 1) M.1 H.size v2 (4 : Int32) e31) (va_cwS 3 hts gX4_longest_X4_of rfl rfl rfl (by decide +kernel) ⟨(Nat.le_of_ble_eq_true rfl), (Nat.le_of_ble_eq_true rfl)⟩) [0] rfl [1] (by decide) rfl rfl rfl rfl hl.1 rfl (Nat.le_of_ble_eq_true rfl) dX4_longest_31 ⟨Nat.zero_le _, Nat.zero_le _⟩ (fun H locs hP hD hS => ?_)
            refine lv_iload hx hb dX4_longest_34 (lv_at hl 4 rfl) ?_
            refine lv_ishr hx hb dX4_longest_36 ?_
            refine lv_iconst (v := (1 : Int32)) hx hb dX4_longest_37 (by decide) ?_
            refine lv_iand hx hb dX4_longest_38 ?_
            refine lv_iconst (v := (1 : Int32)) hx hb dX4_longest_39 (by decide) ?_
            refine lv_icmp_ne (tgt := 64) hx hb dX4_longest_40 (by decide) (fun c40 => ?_) (fun c40 => ?_)
            · replace h := tw_t c40 h
              refine lv_iload_n hx hb dX4_longest_64 rfl (lv_at hl 3 rfl) ?_
              refine lv_istore_n (lv' := [(3, .int v3), (0, .ref (ma 0)), (1, .int v1), (2, .int v2), (4, .int v4)]) hx hb dX4_longest_65 rfl hl (by decide) rfl (fun ls hl => ?_)
              refine lv_iinc (v := (v4 + 1)) (lv' := [(4, .int (v4 + 1)), (3, .int v3), (0, .ref (ma 0)), (1, .int v1), (2, .int v2)]) hx hb dX4_longest_66 hl (k := 4) rfl rfl (by decide) rfl (fun ls hl => ?_)
              refine lv_goto (tgt := 19) hx hb dX4_longest_69 (by decide) ?_
              exact ih19 v1 v2 v3 (v4 + 1) M H locs ls h (lv_sub hl [2, 3, 4, 1, 0] rfl) hP hD hS
            · replace h := tw_fn c40 h
              refine lv_aload_n hx hb dX4_longest_43 rfl (lv_at hl 0 rfl) ?_
              refine va_get (D := G) (ci := 4) (v := .ref (ma 7)) (C := RX4) (T := TX4) (N := 13) hx hb hts iX4_longest_X4 hown hK hP 0 rfl rfl 12 (by decide) (hts _ qX4_longest_0) (fun _ h9 => h9) rfl dX4_longest_44 ?_
              refine lv_iload hx hb dX4_longest_47 (lv_at hl 4 rfl) ?_
              obtain ⟨g49, h⟩ := tw_gs h
              refine va_iald (f := M.2.2.2.2.2.2.2.2.2.2.2.2) (n := 12) hx hb hK hP 7 0 rfl rfl g49 dX4_longest_49 ?_
              refine lv_iload_n hx hb dX4_longest_50 rfl (lv_at hl 3 rfl) ?_
              refine lv_icmp_le (tgt := 64) hx hb dX4_longest_51 (by decide) (fun c51 => ?_) (fun c51 => ?_)
              · replace h := tw_t c51 h
                refine lv_iload_n hx hb dX4_longest_64 rfl (lv_at hl 3 rfl) ?_
                refine lv_istore_n (lv' := [(3, .int v3), (0, .ref (ma 0)), (1, .int v1), (2, .int v2), (4, .int v4)]) hx hb dX4_longest_65 rfl hl (by decide) rfl (fun ls hl => ?_)
                refine lv_iinc (v := (v4 + 1)) (lv' := [(4, .int (v4 + 1)), (3, .int v3), (0, .ref (ma 0)), (1, .int v1), (2, .int v2)]) hx hb dX4_longest_66 hl (k := 4) rfl rfl (by decide) rfl (fun ls hl => ?_)
                refine lv_goto (tgt := 19) hx hb dX4_longest_69 (by decide) ?_
                exact ih19 v1 v2 v3 (v4 + 1) M H locs ls h (lv_sub hl [2, 3, 4, 1, 0] rfl) hP hD hS
              · replace h := tw_f c51 h
                refine lv_aload_n hx hb dX4_longest_54 rfl (lv_at hl 0 rfl) ?_
                refine va_get (D := G) (ci := 4) (v := .ref (ma 7)) (C := RX4) (T := TX4) (N := 13) hx hb hts iX4_longest_X4 hown hK hP 0 rfl rfl 12 (by decide) (hts _ qX4_longest_0) (fun _ h9 => h9) rfl dX4_longest_55 ?_
                refine lv_iload hx hb dX4_longest_58 (lv_at hl 4 rfl) ?_
                obtain ⟨g60, h⟩ := tw_gs h
                refine va_iald (f := M.2.2.2.2.2.2.2.2.2.2.2.2) (n := 12) hx hb hK hP 7 0 rfl rfl g60 dX4_longest_60 ?_
                refine lv_goto (tgt := 65) hx hb dX4_longest_61 (by decide) ?_
                refine lv_istore_n (lv' := [(3, .int (M.2.2.2.2.2.2.2.2.2.2.2.2 v4.toNatClampNeg)), (0, .ref (ma 0)), (1, .int v1), (2, .int v2), (4, .int v4)]) hx hb dX4_longest_65 rfl hl (by decide) rfl (fun ls hl => ?_)
                refine lv_iinc (v := (v4 + 1)) (lv' := [(4, .int (v4 + 1)), (3, .int (M.2.2.2.2.2.2.2.2.2.2.2.2 v4.toNatClampNeg)), (0, .ref (ma 0)), (1, .int v1), (2, .int v2)]) hx hb dX4_longest_66 hl (k := 4) rfl rfl (by decide) rfl (fun ls hl => ?_)
                refine lv_goto (tgt := 19) hx hb dX4_longest_69 (by decide) ?_
                exact ih19 v1 v2 (M.2.2.2.2.2.2.2.2.2.2.2.2 v4.toNatClampNeg) (v4 + 1) M H locs ls h (lv_sub hl [2, 3, 4, 1, 0] rfl) hP hD hS
      refine lv_iload_n hx hb dX4_longest_4 rfl (lv_at hl 2 rfl) ?_
      refine lv_aload_n hx hb dX4_longest_5 rfl (lv_at hl 0 rfl) ?_
      refine va_get (D := G) (ci := 4) (v := .ref (ma 1)) (C := RX4) (T := TX4) (N := 13) hx hb hts iX4_longest_X4 hown hK hP 0 rfl rfl 0 (by decide) (hts _ qX4_longest_1) (fun _ h9 => h9) rfl dX4_longest_6 ?_
      refine lv_iconst (v := (0 : Int32)) hx hb dX4_longest_9 (by decide) ?_
      refine va_iald (f := M.1) (n := 70) hx hb hK hP 1 0 rfl rfl (tw_vin (by decide)) dX4_longest_10 ?_
      refine lv_icmp_ge (tgt := 116) hx hb dX4_longest_11 (by decide) (fun c11 => ?_) (fun c11 => ?_)
      · replace h := tw_t c11 h
        refine lv_iload_n hx hb dX4_longest_116 rfl (lv_at hl 1 rfl) ?_
        exact hq H locs _ ls v1 (tw_rt (fun r => r.1 = v1) h rfl) rfl (tw_rt (fun r => va_P G vwCl (tw_wM cI ma r.2) H) h hP) hS dX4_longest_117
      · replace h := tw_f c11 h
        refine lv_iconst (v := (0 : Int32)) hx hb dX4_longest_14 (by decide) ?_
        refine lv_istore_n (lv' := [(3, .int (0 : Int32)), (0, .ref (ma 0)), (1, .int v1), (2, .int v2)]) hx hb dX4_longest_15 rfl hl (by decide) rfl (fun ls hl => ?_)
        refine lv_iconst (v := (0 : Int32)) hx hb dX4_longest_16 (by decide) ?_
        refine lv_istore (lv' := [(4, .int (0 : Int32)), (3, .int (0 : Int32)), (0, .ref (ma 0)), (1, .int v1), (2, .int v2)]) hx hb dX4_longest_17 hl (by decide) rfl (fun ls hl => ?_)
        exact L19 512 v1 v2 (0 : Int32) (0 : Int32) M H locs ls h (lv_sub hl [2, 3, 4, 1, 0] rfl) hP hD hS
  refine lv_iconst (v := (0 : Int32)) hx hb dX4_longest_0 (by decide) ?_
  refine lv_istore_n (lv' := [(1, .int (0 : Int32)), (0, .ref (ma 0))]) hx hb dX4_longest_1 rfl hl (by decide) rfl (fun ls hl => ?_)
  refine lv_iconst (v := (0 : Int32)) hx hb dX4_longest_2 (by decide) ?_
  refine lv_istore_n (lv' := [(2, .int (0 : Int32)), (1, .int (0 : Int32)), (0, .ref (ma 0))]) hx hb dX4_longest_3 rfl hl (by decide) rfl (fun ls hl => ?_)
  exact L4 512 (0 : Int32) (0 : Int32) M H locs ls h (lv_sub hl [2, 1, 0] rfl) hP hD hS
abbrev rmX4_lengths : Room := { frames := 1, cells := 0, slots := 0, locals := 22 }
set_option maxRecDepth 20000 in
theorem qX4_lengths_0 : (Cond.fieldLink RX4 7 "TheatreWallModel" "now" "[I") ∈ wsX4_lengths := (List.mem_cons_of_mem _ (List.mem_append_left _ (List.mem_of_getElem? (i := 0) rfl)))
set_option maxRecDepth 20000 in
theorem qX4_lengths_1 : (Cond.fieldLink RX4 25 "TheatreWallModel" "plan" "[I") ∈ wsX4_lengths := (List.mem_cons_of_mem _ (List.mem_append_left _ (List.mem_of_getElem? (i := 1) rfl)))
set_option maxRecDepth 20000 in
theorem iX4_lengths_X4 : ∀ w ∈ u_ws RX4 TX4 13, w ∈ wsX4_lengths := fun w h => (List.mem_cons_of_mem _ (List.mem_append_right _ h))
set_option maxHeartbeats 4000000 in
set_option maxRecDepth 100000 in
theorem mX4_lengths (l : Launch) (G : va_G) (cI : ClassId) (ma : Nat → Nat) (M : tw_Md) (sz : Nat) (p1 : Int32) {rv : Int32} (h : fX4_lengths M p1 = some rv) : tw_Mi l yX4_lengths wsX4_lengths rmX4_lengths G [(cI, .int)] (tw_wM cI ma M) [.ref (ma 0), .int p1] sz rv (tw_wM cI ma M) := by
  refine tw_ofi (ty := .int) (cc := cX4_lengths) (maxL := 4) (own := RX4) (by decide) rfl rfl (Nat.le_of_ble_eq_true rfl) ?_
  intro p e s m args below meth c Q A ls H locs F hN hK hP hD hS hA hl hq
  obtain ⟨hx, hb, hml, hown, hts⟩ := id F
  have hl : lv_has ls 4 [(0, .ref (ma 0)), (1, .int p1)] := hl
  unfold fX4_lengths at h
  have L4 : ∀ (n4 : Nat) (v2 : Int32) (v3 : Int32) (H : Heap) (locs : List Loc) (ls : Array Slot), fX4_lengths_4 M p1 n4 v2 v3 = some rv → lv_has ls 4 [(0, .ref (ma 0)), (1, .int p1), (2, .int v2), (3, .int v3)] → va_P G vwCl (tw_wM cI ma M) H → va_D A (tw_wM cI ma M) → va_S A s.heap H locs → W p l e rmX4_lengths s m args below meth c H locs 0 0 Q (F0 m 4 ls []) := by
    intro n4
    induction n4 with
    | zero =>
      intro v2 v3 H locs ls h
      rw [fX4_lengths_4] at h
      cases h
    | succ n4 ih4 =>
      intro v2 v3 H locs ls h hl hP hD hS
      rw [fX4_lengths_4] at h
      have L29 : ∀ (t0 : Int32) (v3 : Int32) (H : Heap) (locs : List Loc) (ls : Array Slot), fX4_lengths_29 M p1 (fX4_lengths_4 M p1 n4) t0 v3 = some rv → lv_has ls 4 [(0, .ref (ma 0)), (1, .int p1), (3, .int v3)] → va_P G vwCl (tw_wM cI ma M) H → va_D A (tw_wM cI ma M) → va_S A s.heap H locs → W p l e rmX4_lengths s m args below meth c H locs 0 0 Q (F0 m 29 ls [.int t0]) := by
        intro t0 v3 H locs ls h hl hP hD hS
        unfold fX4_lengths_29 at h
        refine lv_aload_n hx hb dX4_lengths_29 rfl (lv_at hl 0 rfl) ?_
        refine va_get (D := G) (ci := 4) (v := .ref (ma 1)) (C := RX4) (T := TX4) (N := 13) hx hb hts iX4_lengths_X4 hown hK hP 0 rfl rfl 0 (by decide) (hts _ qX4_lengths_0) (fun _ h9 => h9) rfl dX4_lengths_30 ?_
        refine lv_iload_n hx hb dX4_lengths_33 rfl (lv_at hl 2 rfl) ?_
        refine lv_iconst (v := (0 : Int32)) hx hb dX4_lengths_34 (by decide) ?_
        obtain ⟨r35, e35, h⟩ := tw_bs h
        refine tw_callSi (ws' := (tw_wM cI ma M)) (As := [.ref (ma 1), .int v3, .int (0 : Int32)]) (rest := [.int t0]) F hN hK hP hD hS hA (mX4_of l G cI (ma 1) M.1 H.size v3 (0 : Int32) e35) (va_cwS 3 hts gX4_lengths_X4_of rfl rfl rfl (by decide +kernel) ⟨(Nat.le_of_ble_eq_true rfl), (Nat.le_of_ble_eq_true rfl)⟩) [0] rfl [1] (by decide) rfl rfl rfl rfl hl.1 rfl (Nat.le_of_ble_eq_true rfl) dX4_lengths_35 ⟨Nat.zero_le _, Nat.zero_le _⟩ (fun H locs hP hD hS => ?_)
        refine lv_goto (tgt := 42) hx hb dX4_lengths_38 (by decide) ?_
        refine lv_iadd hx hb dX4_lengths_42 ?_
        refine lv_istore_n (lv' := [(2, .int (t0 + r35)), (0, .ref (ma 0)), (1, .int p1), (3, .int v3)]) hx hb dX4_lengths_43 rfl hl (by decide) rfl (fun ls hl => ?_)
        refine lv_iinc (v := (v3 + 1)) (lv' := [(3, .int (v3 + 1)), (2, .int (t0 + r35)), (0, .ref (ma 0)), (1, .int p1)]) hx hb dX4_lengths_44 hl (k := 3) rfl rfl (by decide) rfl (fun ls hl => ?_)
        refine lv_goto (tgt := 4) hx hb dX4_lengths_47 (by decide) ?_
        exact ih4 (t0 + r35) (v3 + 1) H locs ls h (lv_sub hl [2, 3, 1, 0] rfl) hP hD hS
      refine lv_iload_n hx hb dX4_lengths_4 rfl (lv_at hl 3 rfl) ?_
      refine lv_aload_n hx hb dX4_lengths_5 rfl (lv_at hl 0 rfl) ?_
      refine va_get (D := G) (ci := 4) (v := .ref (ma 1)) (C := RX4) (T := TX4) (N := 13) hx hb hts iX4_lengths_X4 hown hK hP 0 rfl rfl 0 (by decide) (hts _ qX4_lengths_0) (fun _ h9 => h9) rfl dX4_lengths_6 ?_
      refine lv_iconst (v := (0 : Int32)) hx hb dX4_lengths_9 (by decide) ?_
      refine va_iald (f := M.1) (n := 70) hx hb hK hP 1 0 rfl rfl (tw_vin (by decide)) dX4_lengths_10 ?_
      refine lv_icmp_ge (tgt := 50) hx hb dX4_lengths_11 (by decide) (fun c11 => ?_) (fun c11 => ?_)
      · replace h := tw_t c11 h
        refine lv_iload_n hx hb dX4_lengths_50 rfl (lv_at hl 2 rfl) ?_
        exact hq H locs _ ls v2 (tw_rt (fun r => r = v2) h rfl) rfl hP hS dX4_lengths_51
      · replace h := tw_f c11 h
        refine lv_iload_n hx hb dX4_lengths_14 rfl (lv_at hl 2 rfl) ?_
        refine lv_iload_n hx hb dX4_lengths_15 rfl (lv_at hl 1 rfl) ?_
        refine lv_if_eq (tgt := 29) hx hb dX4_lengths_16 (by decide) (fun c16 => ?_) (fun c16 => ?_)
        · replace h := tw_t c16 h
          exact L29 v2 v3 H locs ls h (lv_sub hl [0, 1, 3] rfl) hP hD hS
        · replace h := tw_f c16 h
          refine lv_aload_n hx hb dX4_lengths_19 rfl (lv_at hl 0 rfl) ?_
          refine va_get (D := G) (ci := 4) (v := .ref (ma 6)) (C := RX4) (T := TX4) (N := 13) hx hb hts iX4_lengths_X4 hown hK hP 0 rfl rfl 11 (by decide) (hts _ qX4_lengths_1) (fun _ h9 => h9) rfl dX4_lengths_20 ?_
          refine lv_iload_n hx hb dX4_lengths_23 rfl (lv_at hl 3 rfl) ?_
          obtain ⟨g24, h⟩ := tw_gs h
          refine va_iald (f := M.2.2.2.2.2.2.2.2.2.2.2.1) (n := 12) hx hb hK hP 6 0 rfl rfl g24 dX4_lengths_24 ?_
          refine lv_iconst (v := (-1 : Int32)) hx hb dX4_lengths_25 (by decide) ?_
          refine lv_icmp_eq (tgt := 41) hx hb dX4_lengths_26 (by decide) (fun c26 => ?_) (fun c26 => ?_)
          · replace h := tw_t c26 h
            refine lv_iconst (v := (0 : Int32)) hx hb dX4_lengths_41 (by decide) ?_
            refine lv_iadd hx hb dX4_lengths_42 ?_
            refine lv_istore_n (lv' := [(2, .int (v2 + (0 : Int32))), (0, .ref (ma 0)), (1, .int p1), (3, .int v3)]) hx hb dX4_lengths_43 rfl hl (by decide) rfl (fun ls hl => ?_)
            refine lv_iinc (v := (v3 + 1)) (lv' := [(3, .int (v3 + 1)), (2, .int (v2 + (0 : Int32))), (0, .ref (ma 0)), (1, .int p1)]) hx hb dX4_lengths_44 hl (k := 3) rfl rfl (by decide) rfl (fun ls hl => ?_)
            refine lv_goto (tgt := 4) hx hb dX4_lengths_47 (by decide) ?_
            exact ih4 (v2 + (0 : Int32)) (v3 + 1) H locs ls h (lv_sub hl [2, 3, 1, 0] rfl) hP hD hS
          · replace h := tw_f c26 h
            exact L29 v2 v3 H locs ls h (lv_sub hl [0, 1, 3] rfl) hP hD hS
  refine lv_iconst (v := (0 : Int32)) hx hb dX4_lengths_0 (by decide) ?_
  refine lv_istore_n (lv' := [(2, .int (0 : Int32)), (0, .ref (ma 0)), (1, .int p1)]) hx hb dX4_lengths_1 rfl hl (by decide) rfl (fun ls hl => ?_)
  refine lv_iconst (v := (0 : Int32)) hx hb dX4_lengths_2 (by decide) ?_
  refine lv_istore_n (lv' := [(3, .int (0 : Int32)), (2, .int (0 : Int32)), (0, .ref (ma 0)), (1, .int p1)]) hx hb dX4_lengths_3 rfl hl (by decide) rfl (fun ls hl => ?_)
  exact L4 512 (0 : Int32) (0 : Int32) H locs ls h (lv_sub hl [2, 3, 1, 0] rfl) hP hD hS
abbrev rmX4_counted : Room := { frames := 7, cells := 0, slots := 0, locals := 165 }
set_option maxRecDepth 20000 in
theorem qX4_counted_0 : (Cond.fieldLink RX4 39 "TheatreWallModel" "kept" "I") ∈ wsX4_counted := (List.mem_cons_of_mem _ (List.mem_append_left _ (List.mem_append_left _ (List.mem_of_getElem? (i := 2) rfl))))
set_option maxRecDepth 20000 in
theorem qX4_counted_1 : (Cond.fieldLink RX4 7 "TheatreWallModel" "now" "[I") ∈ wsX4_counted := (List.mem_cons_of_mem _ (List.mem_append_left _ (List.mem_append_left _ (List.mem_of_getElem? (i := 0) rfl))))
set_option maxRecDepth 20000 in
theorem qX4_counted_2 : (Cond.fieldLink RX4 25 "TheatreWallModel" "plan" "[I") ∈ wsX4_counted := (List.mem_cons_of_mem _ (List.mem_append_left _ (List.mem_append_left _ (List.mem_of_getElem? (i := 1) rfl))))
set_option maxRecDepth 20000 in
theorem iX4_counted_X4 : ∀ w ∈ u_ws RX4 TX4 13, w ∈ wsX4_counted := fun w h => (List.mem_cons_of_mem _ (List.mem_append_right _ h))
set_option maxHeartbeats 4000000 in
set_option maxRecDepth 100000 in
theorem mX4_counted (l : Launch) (G : va_G) (cI : ClassId) (ma : Nat → Nat) (M : tw_Md) (sz : Nat) (p1 : Int32) {rv : Int32 × tw_Md} (h : fX4_counted M p1 = some rv) : tw_Mi l yX4_counted wsX4_counted rmX4_counted G [(cI, .int)] (tw_wM cI ma M) [.ref (ma 0), .int p1] sz rv.1 (tw_wM cI ma rv.2) := by
  refine tw_ofi (ty := .int) (cc := cX4_counted) (maxL := 3) (own := RX4) (by decide) rfl rfl (Nat.le_of_ble_eq_true rfl) ?_
  intro p e s m args below meth c Q A ls H locs F hN hK hP hD hS hA hl hq
  obtain ⟨hx, hb, hml, hown, hts⟩ := id F
  have hl : lv_has ls 3 [(0, .ref (ma 0)), (1, .int p1)] := hl
  unfold fX4_counted at h
  refine lv_aload_n hx hb dX4_counted_0 rfl (lv_at hl 0 rfl) ?_
  obtain ⟨r1, e1, h⟩ := tw_bs h
  refine tw_callVvF (ws' := (tw_wM cI ma r1)) (As := []) (rest := []) F hN hK hP hD hS hA (mX4_plans l G cI ma M H.size e1) (cwV 0 hts gX4_counted_X4_plans rfl rfl rfl (by decide +kernel) ⟨(Nat.le_of_ble_eq_true rfl), (Nat.le_of_ble_eq_true rfl)⟩) rfl (r0 := 0) (ci := 4) rfl rfl rfl rfl hl.1 rfl (Nat.le_of_ble_eq_true rfl) dX4_counted_1 ⟨Nat.zero_le _, Nat.zero_le _⟩ (fun H locs hP hD hS => ?_)
  refine lv_iload_n hx hb dX4_counted_4 rfl (lv_at hl 1 rfl) ?_
  refine lv_iconst (v := (4 : Int32)) hx hb dX4_counted_5 (by decide) ?_
  refine lv_icmp_ge (tgt := 71) hx hb dX4_counted_6 (by decide) (fun c6 => ?_) (fun c6 => ?_)
  · replace h := tw_t c6 h
    refine lv_iload_n hx hb dX4_counted_71 rfl (lv_at hl 1 rfl) ?_
    refine lv_bipush (v := (7 : Int32)) hx hb dX4_counted_72 (by decide) ?_
    refine lv_icmp_ge (tgt := 114) hx hb dX4_counted_74 (by decide) (fun c74 => ?_) (fun c74 => ?_)
    · replace h := tw_t c74 h
      refine lv_iload_n hx hb dX4_counted_114 rfl (lv_at hl 1 rfl) ?_
      refine lv_bipush (v := (7 : Int32)) hx hb dX4_counted_115 (by decide) ?_
      refine lv_icmp_ne (tgt := 127) hx hb dX4_counted_117 (by decide) (fun c117 => ?_) (fun c117 => ?_)
      · replace h := tw_t c117 h
        refine lv_aload_n hx hb dX4_counted_127 rfl (lv_at hl 0 rfl) ?_
        refine va_get (D := G) (ci := 4) (v := .int r1.2.2.2.1) (C := RX4) (T := TX4) (N := 13) hx hb hts iX4_counted_X4 hown hK hP 0 rfl rfl 3 (by decide) (hts _ qX4_counted_0) (fun _ h9 => h9) rfl dX4_counted_128 ?_
        exact hq H locs _ ls r1.2.2.2.1 (tw_rt (fun r => r.1 = r1.2.2.2.1) h rfl) rfl (tw_rt (fun r => va_P G vwCl (tw_wM cI ma r.2) H) h hP) hS dX4_counted_131
      · replace h := tw_fn c117 h
        refine lv_aload_n hx hb dX4_counted_120 rfl (lv_at hl 0 rfl) ?_
        obtain ⟨r121, e121, h⟩ := tw_bs h
        refine tw_callViF (ws' := (tw_wM cI ma r121.2)) (As := []) (rest := []) F hN hK hP hD hS hA (mX4_longest l G cI ma r1 H.size e121) (cwV 0 hts gX4_counted_X4_longest rfl rfl rfl (by decide +kernel) ⟨(Nat.le_of_ble_eq_true rfl), (Nat.le_of_ble_eq_true rfl)⟩) rfl (r0 := 0) (ci := 4) rfl rfl rfl rfl hl.1 rfl (Nat.le_of_ble_eq_true rfl) dX4_counted_121 ⟨Nat.zero_le _, Nat.zero_le _⟩ (fun H locs hP hD hS => ?_)
        refine lv_goto (tgt := 131) hx hb dX4_counted_124 (by decide) ?_
        exact hq H locs _ ls r121.1 (tw_rt (fun r => r.1 = r121.1) h rfl) rfl (tw_rt (fun r => va_P G vwCl (tw_wM cI ma r.2) H) h hP) hS dX4_counted_131
    · replace h := tw_f c74 h
      refine lv_iload_n hx hb dX4_counted_77 rfl (lv_at hl 1 rfl) ?_
      refine lv_iconst (v := (4 : Int32)) hx hb dX4_counted_78 (by decide) ?_
      refine lv_icmp_ne (tgt := 90) hx hb dX4_counted_79 (by decide) (fun c79 => ?_) (fun c79 => ?_)
      · replace h := tw_t c79 h
        refine lv_iload_n hx hb dX4_counted_90 rfl (lv_at hl 1 rfl) ?_
        refine lv_iconst (v := (5 : Int32)) hx hb dX4_counted_91 (by decide) ?_
        refine lv_icmp_ne (tgt := 102) hx hb dX4_counted_92 (by decide) (fun c92 => ?_) (fun c92 => ?_)
        · replace h := tw_t c92 h
          refine lv_aload_n hx hb dX4_counted_102 rfl (lv_at hl 0 rfl) ?_
          refine va_get (D := G) (ci := 4) (v := .ref (ma 1)) (C := RX4) (T := TX4) (N := 13) hx hb hts iX4_counted_X4 hown hK hP 0 rfl rfl 0 (by decide) (hts _ qX4_counted_1) (fun _ h9 => h9) rfl dX4_counted_103 ?_
          refine lv_aload_n hx hb dX4_counted_106 rfl (lv_at hl 0 rfl) ?_
          refine va_get (D := G) (ci := 4) (v := .ref (ma 6)) (C := RX4) (T := TX4) (N := 13) hx hb hts iX4_counted_X4 hown hK hP 0 rfl rfl 11 (by decide) (hts _ qX4_counted_2) (fun _ h9 => h9) rfl dX4_counted_107 ?_
          obtain ⟨r110, e110, h⟩ := tw_bs h
          refine tw_callSi (ws' := (tw_wM cI ma r1)) (As := [.ref (ma 1), .ref (ma 6)]) (rest := []) F hN hK hP hD hS hA (mX4_waiting l G cI (ma 1) (ma 6) r1.1 r1.2.2.2.2.2.2.2.2.2.2.2.1 H.size e110) (va_cwS 2 hts gX4_counted_X4_waiting rfl rfl rfl (by decide +kernel) ⟨(Nat.le_of_ble_eq_true rfl), (Nat.le_of_ble_eq_true rfl)⟩) [0] rfl [1, 6] (by decide) rfl rfl rfl rfl hl.1 rfl (Nat.le_of_ble_eq_true rfl) dX4_counted_110 ⟨Nat.zero_le _, Nat.zero_le _⟩ (fun H locs hP hD hS => ?_)
          exact hq H locs _ ls r110 (tw_rt (fun r => r.1 = r110) h rfl) rfl (tw_rt (fun r => va_P G vwCl (tw_wM cI ma r.2) H) h hP) hS dX4_counted_113
        · replace h := tw_fn c92 h
          refine lv_aload_n hx hb dX4_counted_95 rfl (lv_at hl 0 rfl) ?_
          obtain ⟨r96, e96, h⟩ := tw_bs h
          refine tw_callViF (ws' := (tw_wM cI ma r96.2)) (As := []) (rest := []) F hN hK hP hD hS hA (mX4_critical l G cI ma r1 H.size e96) (cwV 0 hts gX4_counted_X4_critical rfl rfl rfl (by decide +kernel) ⟨(Nat.le_of_ble_eq_true rfl), (Nat.le_of_ble_eq_true rfl)⟩) rfl (r0 := 0) (ci := 4) rfl rfl rfl rfl hl.1 rfl (Nat.le_of_ble_eq_true rfl) dX4_counted_96 ⟨Nat.zero_le _, Nat.zero_le _⟩ (fun H locs hP hD hS => ?_)
          refine lv_goto (tgt := 113) hx hb dX4_counted_99 (by decide) ?_
          exact hq H locs _ ls r96.1 (tw_rt (fun r => r.1 = r96.1) h rfl) rfl (tw_rt (fun r => va_P G vwCl (tw_wM cI ma r.2) H) h hP) hS dX4_counted_113
      · replace h := tw_fn c79 h
        refine lv_aload_n hx hb dX4_counted_82 rfl (lv_at hl 0 rfl) ?_
        refine lv_iconst (v := (0 : Int32)) hx hb dX4_counted_83 (by decide) ?_
        obtain ⟨r84, e84, h⟩ := tw_bs h
        refine tw_callViF (ws' := (tw_wM cI ma r1)) (As := [.int (0 : Int32)]) (rest := []) F hN hK hP hD hS hA (mX4_lengths l G cI ma r1 H.size (0 : Int32) e84) (cwV 1 hts gX4_counted_X4_lengths rfl rfl rfl (by decide +kernel) ⟨(Nat.le_of_ble_eq_true rfl), (Nat.le_of_ble_eq_true rfl)⟩) rfl (r0 := 0) (ci := 4) rfl rfl rfl rfl hl.1 rfl (Nat.le_of_ble_eq_true rfl) dX4_counted_84 ⟨Nat.zero_le _, Nat.zero_le _⟩ (fun H locs hP hD hS => ?_)
        refine lv_goto (tgt := 113) hx hb dX4_counted_87 (by decide) ?_
        exact hq H locs _ ls r84 (tw_rt (fun r => r.1 = r84) h rfl) rfl (tw_rt (fun r => va_P G vwCl (tw_wM cI ma r.2) H) h hP) hS dX4_counted_113
  · replace h := tw_f c6 h
    refine lv_aload_n hx hb dX4_counted_9 rfl (lv_at hl 0 rfl) ?_
    refine va_get (D := G) (ci := 4) (v := .ref (ma 1)) (C := RX4) (T := TX4) (N := 13) hx hb hts iX4_counted_X4 hown hK hP 0 rfl rfl 0 (by decide) (hts _ qX4_counted_1) (fun _ h9 => h9) rfl dX4_counted_10 ?_
    refine lv_aload_n hx hb dX4_counted_13 rfl (lv_at hl 0 rfl) ?_
    refine va_get (D := G) (ci := 4) (v := .ref (ma 6)) (C := RX4) (T := TX4) (N := 13) hx hb hts iX4_counted_X4 hown hK hP 0 rfl rfl 11 (by decide) (hts _ qX4_counted_2) (fun _ h9 => h9) rfl dX4_counted_14 ?_
    obtain ⟨r17, e17, h⟩ := tw_bs h
    refine tw_callSi (ws' := (tw_wM cI ma r1)) (As := [.ref (ma 1), .ref (ma 6)]) (rest := []) F hN hK hP hD hS hA (mX4_laid l G cI (ma 1) (ma 6) r1.1 r1.2.2.2.2.2.2.2.2.2.2.2.1 H.size e17) (va_cwS 2 hts gX4_counted_X4_laid rfl rfl rfl (by decide +kernel) ⟨(Nat.le_of_ble_eq_true rfl), (Nat.le_of_ble_eq_true rfl)⟩) [0] rfl [1, 6] (by decide) rfl rfl rfl rfl hl.1 rfl (Nat.le_of_ble_eq_true rfl) dX4_counted_17 ⟨Nat.zero_le _, Nat.zero_le _⟩ (fun H locs hP hD hS => ?_)
    refine lv_istore_n (lv' := [(2, .int r17), (0, .ref (ma 0)), (1, .int p1)]) hx hb dX4_counted_20 rfl hl (by decide) rfl (fun ls hl => ?_)
    refine lv_iload_n hx hb dX4_counted_21 rfl (lv_at hl 2 rfl) ?_
    refine lv_if_ne (tgt := 34) hx hb dX4_counted_22 (by decide) (fun c22 => ?_) (fun c22 => ?_)
    · replace h := tw_t c22 h
      refine lv_iload_n hx hb dX4_counted_34 rfl (lv_at hl 2 rfl) ?_
      refine lv_iconst (v := (1 : Int32)) hx hb dX4_counted_35 (by decide) ?_
      refine lv_icmp_ne (tgt := 43) hx hb dX4_counted_36 (by decide) (fun c36 => ?_) (fun c36 => ?_)
      · replace h := tw_t c36 h
        refine lv_iload_n hx hb dX4_counted_43 rfl (lv_at hl 2 rfl) ?_
        refine lv_iconst (v := (2 : Int32)) hx hb dX4_counted_44 (by decide) ?_
        refine lv_icmp_ne (tgt := 59) hx hb dX4_counted_45 (by decide) (fun c45 => ?_) (fun c45 => ?_)
        · replace h := tw_t c45 h
          refine lv_aload_n hx hb dX4_counted_59 rfl (lv_at hl 1 rfl) ?_
          refine va_get (D := G) (ci := 4) (v := .ref (ma 1)) (C := RX4) (T := TX4) (N := 13) hx hb hts iX4_counted_X4 hown hK hP 0 rfl rfl 0 (by decide) (hts _ qX4_counted_1) (fun _ h9 => h9) rfl dX4_counted_60 ?_
          refine lv_aload_n hx hb dX4_counted_63 rfl (lv_at hl 1 rfl) ?_
          refine va_get (D := G) (ci := 4) (v := .ref (ma 6)) (C := RX4) (T := TX4) (N := 13) hx hb hts iX4_counted_X4 hown hK hP 0 rfl rfl 11 (by decide) (hts _ qX4_counted_2) (fun _ h9 => h9) rfl dX4_counted_64 ?_
          obtain ⟨r67, e67, h⟩ := tw_bs h
          refine tw_callSi (ws' := (tw_wM cI ma r1)) (As := [.ref (ma 1), .ref (ma 6)]) (rest := []) F hN hK hP hD hS hA (mX4_end l G cI (ma 1) (ma 6) r1.1 r1.2.2.2.2.2.2.2.2.2.2.2.1 H.size e67) (va_cwS 2 hts gX4_counted_X4_end rfl rfl rfl (by decide +kernel) ⟨(Nat.le_of_ble_eq_true rfl), (Nat.le_of_ble_eq_true rfl)⟩) [0] rfl [1, 6] (by decide) rfl rfl rfl rfl hl.1 rfl (Nat.le_of_ble_eq_true rfl) dX4_counted_67 ⟨Nat.zero_le _, Nat.zero_le _⟩ (fun H locs hP hD hS => ?_)
          exact hq H locs _ ls r67 (tw_rt (fun r => r.1 = r67) h rfl) rfl (tw_rt (fun r => va_P G vwCl (tw_wM cI ma r.2) H) h hP) hS dX4_counted_70
        · replace h := tw_fn c45 h
          refine lv_aload_n hx hb dX4_counted_48 rfl (lv_at hl 1 rfl) ?_
          refine va_get (D := G) (ci := 4) (v := .ref (ma 1)) (C := RX4) (T := TX4) (N := 13) hx hb hts iX4_counted_X4 hown hK hP 0 rfl rfl 0 (by decide) (hts _ qX4_counted_1) (fun _ h9 => h9) rfl dX4_counted_49 ?_
          refine lv_iconst (v := (0 : Int32)) hx hb dX4_counted_52 (by decide) ?_
          refine va_iald (f := r1.1) (n := 70) hx hb hK hP 1 0 rfl rfl (tw_vin (by decide)) dX4_counted_53 ?_
          refine lv_iload_n hx hb dX4_counted_54 rfl (lv_at hl 0 rfl) ?_
          refine lv_isub hx hb dX4_counted_55 ?_
          refine lv_goto (tgt := 70) hx hb dX4_counted_56 (by decide) ?_
          exact hq H locs _ ls ((r1.1 (0 : Int32).toNatClampNeg) - r17) (tw_rt (fun r => r.1 = ((r1.1 (0 : Int32).toNatClampNeg) - r17)) h rfl) rfl (tw_rt (fun r => va_P G vwCl (tw_wM cI ma r.2) H) h hP) hS dX4_counted_70
      · replace h := tw_fn c36 h
        refine lv_iload_n hx hb dX4_counted_39 rfl (lv_at hl 0 rfl) ?_
        refine lv_goto (tgt := 70) hx hb dX4_counted_40 (by decide) ?_
        exact hq H locs _ ls r17 (tw_rt (fun r => r.1 = r17) h rfl) rfl (tw_rt (fun r => va_P G vwCl (tw_wM cI ma r.2) H) h hP) hS dX4_counted_70
    · replace h := tw_fn c22 h
      refine lv_aload_n hx hb dX4_counted_25 rfl (lv_at hl 1 rfl) ?_
      refine va_get (D := G) (ci := 4) (v := .ref (ma 1)) (C := RX4) (T := TX4) (N := 13) hx hb hts iX4_counted_X4 hown hK hP 0 rfl rfl 0 (by decide) (hts _ qX4_counted_1) (fun _ h9 => h9) rfl dX4_counted_26 ?_
      refine lv_iconst (v := (0 : Int32)) hx hb dX4_counted_29 (by decide) ?_
      refine va_iald (f := r1.1) (n := 70) hx hb hK hP 1 0 rfl rfl (tw_vin (by decide)) dX4_counted_30 ?_
      refine lv_goto (tgt := 70) hx hb dX4_counted_31 (by decide) ?_
      exact hq H locs _ ls (r1.1 (0 : Int32).toNatClampNeg) (tw_rt (fun r => r.1 = (r1.1 (0 : Int32).toNatClampNeg)) h rfl) rfl (tw_rt (fun r => va_P G vwCl (tw_wM cI ma r.2) H) h hP) hS dX4_counted_70
abbrev rmX4_count : Room := { frames := 8, cells := 0, slots := 0, locals := 187 }
set_option maxRecDepth 20000 in
theorem qX4_count_0 : (Cond.fieldLink RX4 31 "TheatreWallModel" "thrown" "I") ∈ wsX4_count := (List.mem_cons_of_mem _ (List.mem_append_left _ (List.mem_append_left _ (List.mem_of_getElem? (i := 0) rfl))))
set_option maxRecDepth 20000 in
theorem iX4_count_X4 : ∀ w ∈ u_ws RX4 TX4 13, w ∈ wsX4_count := fun w h => (List.mem_cons_of_mem _ (List.mem_append_right _ h))
set_option maxHeartbeats 4000000 in
set_option maxRecDepth 100000 in
theorem mX4_count (l : Launch) (G : va_G) (cI : ClassId) (ma : Nat → Nat) (M : tw_Md) (sz : Nat) (p1 : Int32) {rv : Int32 × tw_Md} (h : fX4_count M p1 = some rv) : tw_Mi l yX4_count wsX4_count rmX4_count G [(cI, .int)] (tw_wM cI ma M) [.ref (ma 0), .int p1] sz rv.1 (tw_wM cI ma rv.2) := by
  refine tw_ofi (ty := .int) (cc := cX4_count) (maxL := 2) (own := RX4) (by decide) rfl rfl (Nat.le_of_ble_eq_true rfl) ?_
  intro p e s m args below meth c Q A ls H locs F hN hK hP hD hS hA hl hq
  obtain ⟨hx, hb, hml, hown, hts⟩ := id F
  have hl : lv_has ls 2 [(0, .ref (ma 0)), (1, .int p1)] := hl
  unfold fX4_count at h
  refine lv_aload_n hx hb dX4_count_0 rfl (lv_at hl 0 rfl) ?_
  refine lv_iconst (v := (0 : Int32)) hx hb dX4_count_1 (by decide) ?_
  refine tw_put (ws' := (tw_wM cI ma (M.1, M.2.1, M.2.2.1, M.2.2.2.1, M.2.2.2.2.1, M.2.2.2.2.2.1, (0 : Int32), M.2.2.2.2.2.2.2.1, M.2.2.2.2.2.2.2.2.1, M.2.2.2.2.2.2.2.2.2.1, M.2.2.2.2.2.2.2.2.2.2.1, M.2.2.2.2.2.2.2.2.2.2.2.1, M.2.2.2.2.2.2.2.2.2.2.2.2))) (D := G) (ci := 4) (v := .int (0 : Int32)) (ty := .int) (C := RX4) (T := TX4) (N := 13) hx hb hts iX4_count_X4 tyX4 tyX4_ok nmX4 hown hK hP hD hS 0 rfl rfl 6 (by decide) (hts _ qX4_count_0) (fun _ h9 => h9) rfl (by decide +kernel) rfl rfl (Nat.le_of_ble_eq_true rfl) dX4_count_2 rfl (fun H locs hP hD hS => ?_)
  refine lv_iload_n hx hb dX4_count_5 rfl (lv_at hl 1 rfl) ?_
  refine lv_iconst (v := (0 : Int32)) hx hb dX4_count_6 (by decide) ?_
  refine lv_bipush (v := (8 : Int32)) hx hb dX4_count_7 (by decide) ?_
  obtain ⟨r9, e9, h⟩ := tw_bs h
  refine tw_callSi (ws' := (tw_wM cI ma (M.1, M.2.1, M.2.2.1, M.2.2.2.1, M.2.2.2.2.1, M.2.2.2.2.2.1, (0 : Int32), M.2.2.2.2.2.2.2.1, M.2.2.2.2.2.2.2.2.1, M.2.2.2.2.2.2.2.2.2.1, M.2.2.2.2.2.2.2.2.2.2.1, M.2.2.2.2.2.2.2.2.2.2.2.1, M.2.2.2.2.2.2.2.2.2.2.2.2))) (As := [.int p1, .int (0 : Int32), .int (8 : Int32)]) (rest := []) F hN hK hP hD hS hA (mX4_in l G cI H.size p1 (0 : Int32) (8 : Int32) e9) (va_cwS 3 hts gX4_count_X4_in rfl rfl rfl (by decide +kernel) ⟨(Nat.le_of_ble_eq_true rfl), (Nat.le_of_ble_eq_true rfl)⟩) [0] rfl [] (by decide) rfl rfl rfl rfl hl.1 rfl (Nat.le_of_ble_eq_true rfl) dX4_count_9 ⟨Nat.zero_le _, Nat.zero_le _⟩ (fun H locs hP hD hS => ?_)
  refine lv_if_eq (tgt := 23) hx hb dX4_count_12 (by decide) (fun c12 => ?_) (fun c12 => ?_)
  · replace h := tw_t c12 h
    refine lv_aload_n hx hb dX4_count_23 rfl (lv_at hl 0 rfl) ?_
    refine lv_iconst (v := (1 : Int32)) hx hb dX4_count_24 (by decide) ?_
    obtain ⟨r25, e25, h⟩ := tw_bs h
    refine tw_callViF (ws' := (tw_wM cI ma r25.2)) (As := [.int (1 : Int32)]) (rest := []) F hN hK hP hD hS hA (mX4_fails l G cI ma (M.1, M.2.1, M.2.2.1, M.2.2.2.1, M.2.2.2.2.1, M.2.2.2.2.2.1, (0 : Int32), M.2.2.2.2.2.2.2.1, M.2.2.2.2.2.2.2.2.1, M.2.2.2.2.2.2.2.2.2.1, M.2.2.2.2.2.2.2.2.2.2.1, M.2.2.2.2.2.2.2.2.2.2.2.1, M.2.2.2.2.2.2.2.2.2.2.2.2) H.size (1 : Int32) e25) (cwV 1 hts gX4_count_X4_fails rfl rfl rfl (by decide +kernel) ⟨(Nat.le_of_ble_eq_true rfl), (Nat.le_of_ble_eq_true rfl)⟩) rfl (r0 := 0) (ci := 4) rfl rfl rfl rfl hl.1 rfl (Nat.le_of_ble_eq_true rfl) dX4_count_25 ⟨Nat.zero_le _, Nat.zero_le _⟩ (fun H locs hP hD hS => ?_)
    exact hq H locs _ ls r25.1 (tw_rt (fun r => r.1 = r25.1) h rfl) rfl (tw_rt (fun r => va_P G vwCl (tw_wM cI ma r.2) H) h hP) hS dX4_count_28
  · replace h := tw_f c12 h
    refine lv_aload_n hx hb dX4_count_15 rfl (lv_at hl 0 rfl) ?_
    refine lv_iload_n hx hb dX4_count_16 rfl (lv_at hl 1 rfl) ?_
    obtain ⟨r17, e17, h⟩ := tw_bs h
    refine tw_callViF (ws' := (tw_wM cI ma r17.2)) (As := [.int p1]) (rest := []) F hN hK hP hD hS hA (mX4_counted l G cI ma (M.1, M.2.1, M.2.2.1, M.2.2.2.1, M.2.2.2.2.1, M.2.2.2.2.2.1, (0 : Int32), M.2.2.2.2.2.2.2.1, M.2.2.2.2.2.2.2.2.1, M.2.2.2.2.2.2.2.2.2.1, M.2.2.2.2.2.2.2.2.2.2.1, M.2.2.2.2.2.2.2.2.2.2.2.1, M.2.2.2.2.2.2.2.2.2.2.2.2) H.size p1 e17) (cwV 1 hts gX4_count_X4_counted rfl rfl rfl (by decide +kernel) ⟨(Nat.le_of_ble_eq_true rfl), (Nat.le_of_ble_eq_true rfl)⟩) rfl (r0 := 0) (ci := 4) rfl rfl rfl rfl hl.1 rfl (Nat.le_of_ble_eq_true rfl) dX4_count_17 ⟨Nat.zero_le _, Nat.zero_le _⟩ (fun H locs hP hD hS => ?_)
    refine lv_goto (tgt := 28) hx hb dX4_count_20 (by decide) ?_
    exact hq H locs _ ls r17.1 (tw_rt (fun r => r.1 = r17.1) h rfl) rfl (tw_rt (fun r => va_P G vwCl (tw_wM cI ma r.2) H) h hP) hS dX4_count_28
abbrev rmX4_setting : Room := { frames := 0, cells := 0, slots := 0, locals := 0 }
set_option maxRecDepth 20000 in
theorem qX4_setting_0 : (Cond.fieldLink RX4 31 "TheatreWallModel" "thrown" "I") ∈ wsX4_setting := (List.mem_cons_of_mem _ (List.mem_append_left _ (List.mem_of_getElem? (i := 0) rfl)))
set_option maxRecDepth 20000 in
theorem qX4_setting_1 : (Cond.fieldLink RX4 7 "TheatreWallModel" "now" "[I") ∈ wsX4_setting := (List.mem_cons_of_mem _ (List.mem_append_left _ (List.mem_of_getElem? (i := 1) rfl)))
set_option maxRecDepth 20000 in
theorem iX4_setting_X4 : ∀ w ∈ u_ws RX4 TX4 13, w ∈ wsX4_setting := fun w h => (List.mem_cons_of_mem _ (List.mem_append_right _ h))
set_option maxHeartbeats 4000000 in
set_option maxRecDepth 100000 in
theorem mX4_setting (l : Launch) (G : va_G) (cI : ClassId) (ma : Nat → Nat) (M : tw_Md) (sz : Nat)  {rv : Int32 × tw_Md} (h : fX4_setting M = some rv) : tw_Mi l yX4_setting wsX4_setting rmX4_setting G [(cI, .int)] (tw_wM cI ma M) [.ref (ma 0)] sz rv.1 (tw_wM cI ma rv.2) := by
  refine tw_ofi (ty := .int) (cc := cX4_setting) (maxL := 1) (own := RX4) (by decide) rfl rfl (Nat.le_of_ble_eq_true rfl) ?_
  intro p e s m args below meth c Q A ls H locs F hN hK hP hD hS hA hl hq
  obtain ⟨hx, hb, hml, hown, hts⟩ := id F
  have hl : lv_has ls 1 [(0, .ref (ma 0))] := hl
  unfold fX4_setting at h
  refine lv_aload_n hx hb dX4_setting_0 rfl (lv_at hl 0 rfl) ?_
  refine lv_iconst (v := (0 : Int32)) hx hb dX4_setting_1 (by decide) ?_
  refine tw_put (ws' := (tw_wM cI ma (M.1, M.2.1, M.2.2.1, M.2.2.2.1, M.2.2.2.2.1, M.2.2.2.2.2.1, (0 : Int32), M.2.2.2.2.2.2.2.1, M.2.2.2.2.2.2.2.2.1, M.2.2.2.2.2.2.2.2.2.1, M.2.2.2.2.2.2.2.2.2.2.1, M.2.2.2.2.2.2.2.2.2.2.2.1, M.2.2.2.2.2.2.2.2.2.2.2.2))) (D := G) (ci := 4) (v := .int (0 : Int32)) (ty := .int) (C := RX4) (T := TX4) (N := 13) hx hb hts iX4_setting_X4 tyX4 tyX4_ok nmX4 hown hK hP hD hS 0 rfl rfl 6 (by decide) (hts _ qX4_setting_0) (fun _ h9 => h9) rfl (by decide +kernel) rfl rfl (Nat.le_of_ble_eq_true rfl) dX4_setting_2 rfl (fun H locs hP hD hS => ?_)
  refine lv_aload_n hx hb dX4_setting_5 rfl (lv_at hl 0 rfl) ?_
  refine va_get (D := G) (ci := 4) (v := .ref (ma 1)) (C := RX4) (T := TX4) (N := 13) hx hb hts iX4_setting_X4 hown hK hP 0 rfl rfl 0 (by decide) (hts _ qX4_setting_1) (fun _ h9 => h9) rfl dX4_setting_6 ?_
  refine lv_iconst (v := (1 : Int32)) hx hb dX4_setting_9 (by decide) ?_
  refine va_iald (f := M.1) (n := 70) hx hb hK hP 1 0 rfl rfl (tw_vin (by decide)) dX4_setting_10 ?_
  exact hq H locs _ ls (M.1 (1 : Int32).toNatClampNeg) (tw_rt (fun r => r.1 = (M.1 (1 : Int32).toNatClampNeg)) h rfl) rfl (tw_rt (fun r => va_P G vwCl (tw_wM cI ma r.2) H) h hP) hS dX4_setting_11
abbrev rmX4_byRule : Room := { frames := 5, cells := 0, slots := 0, locals := 113 }
set_option maxRecDepth 20000 in
theorem qX4_byRule_0 : (Cond.fieldLink RX4 13 "TheatreWallModel" "then" "[I") ∈ wsX4_byRule := (List.mem_cons_of_mem _ (List.mem_append_left _ (List.mem_append_left _ (List.mem_of_getElem? (i := 0) rfl))))
set_option maxRecDepth 20000 in
theorem qX4_byRule_1 : (Cond.fieldLink RX4 28 "TheatreWallModel" "tried" "[I") ∈ wsX4_byRule := (List.mem_cons_of_mem _ (List.mem_append_left _ (List.mem_append_left _ (List.mem_of_getElem? (i := 1) rfl))))
set_option maxRecDepth 20000 in
theorem iX4_byRule_X4 : ∀ w ∈ u_ws RX4 TX4 13, w ∈ wsX4_byRule := fun w h => (List.mem_cons_of_mem _ (List.mem_append_right _ h))
set_option maxHeartbeats 4000000 in
set_option maxRecDepth 100000 in
theorem mX4_byRule (l : Launch) (G : va_G) (cI : ClassId) (ma : Nat → Nat) (M : tw_Md) (sz : Nat) (p1 : Int32) (p2 : Int32) {rv : Int32 × tw_Md} (h : fX4_byRule M p1 p2 = some rv) : tw_Mi l yX4_byRule wsX4_byRule rmX4_byRule G [(cI, .int)] (tw_wM cI ma M) [.ref (ma 0), .int p1, .int p2] sz rv.1 (tw_wM cI ma rv.2) := by
  refine tw_ofi (ty := .int) (cc := cX4_byRule) (maxL := 3) (own := RX4) (by decide) rfl rfl (Nat.le_of_ble_eq_true rfl) ?_
  intro p e s m args below meth c Q A ls H locs F hN hK hP hD hS hA hl hq
  obtain ⟨hx, hb, hml, hown, hts⟩ := id F
  have hl : lv_has ls 3 [(0, .ref (ma 0)), (1, .int p1), (2, .int p2)] := hl
  unfold fX4_byRule at h
  refine lv_aload_n hx hb dX4_byRule_0 rfl (lv_at hl 0 rfl) ?_
  obtain ⟨r1, e1, h⟩ := tw_bs h
  refine tw_callVvF (ws' := (tw_wM cI ma r1)) (As := []) (rest := []) F hN hK hP hD hS hA (mX4_tries l G cI ma M H.size e1) (cwV 0 hts gX4_byRule_X4_tries rfl rfl rfl (by decide +kernel) ⟨(Nat.le_of_ble_eq_true rfl), (Nat.le_of_ble_eq_true rfl)⟩) rfl (r0 := 0) (ci := 4) rfl rfl rfl rfl hl.1 rfl (Nat.le_of_ble_eq_true rfl) dX4_byRule_1 ⟨Nat.zero_le _, Nat.zero_le _⟩ (fun H locs hP hD hS => ?_)
  refine lv_aload_n hx hb dX4_byRule_4 rfl (lv_at hl 0 rfl) ?_
  refine va_get (D := G) (ci := 4) (v := .ref (ma 2)) (C := RX4) (T := TX4) (N := 13) hx hb hts iX4_byRule_X4 hown hK hP 0 rfl rfl 1 (by decide) (hts _ qX4_byRule_0) (fun _ h9 => h9) rfl dX4_byRule_5 ?_
  refine lv_iconst (v := (1 : Int32)) hx hb dX4_byRule_8 (by decide) ?_
  refine lv_iload_n hx hb dX4_byRule_9 rfl (lv_at hl 1 rfl) ?_
  refine tw_iast (ws' := (tw_wM cI ma (r1.1, (upd r1.2.1 (1 : Int32).toNatClampNeg p1), r1.2.2.1, r1.2.2.2.1, r1.2.2.2.2.1, r1.2.2.2.2.2.1, r1.2.2.2.2.2.2.1, r1.2.2.2.2.2.2.2.1, r1.2.2.2.2.2.2.2.2.1, r1.2.2.2.2.2.2.2.2.2.1, r1.2.2.2.2.2.2.2.2.2.2.1, r1.2.2.2.2.2.2.2.2.2.2.2.1, r1.2.2.2.2.2.2.2.2.2.2.2.2))) (f := r1.2.1) (n := 70) hx hb hK hP hD hS 2 0 rfl rfl (tw_vin (by decide)) dX4_byRule_10 rfl (fun H locs hP hD hS => ?_)
  refine lv_aload_n hx hb dX4_byRule_11 rfl (lv_at hl 0 rfl) ?_
  refine va_get (D := G) (ci := 4) (v := .ref (ma 2)) (C := RX4) (T := TX4) (N := 13) hx hb hts iX4_byRule_X4 hown hK hP 0 rfl rfl 1 (by decide) (hts _ qX4_byRule_0) (fun _ h9 => h9) rfl dX4_byRule_12 ?_
  refine lv_aload_n hx hb dX4_byRule_15 rfl (lv_at hl 0 rfl) ?_
  refine va_get (D := G) (ci := 4) (v := .ref (ma 7)) (C := RX4) (T := TX4) (N := 13) hx hb hts iX4_byRule_X4 hown hK hP 0 rfl rfl 12 (by decide) (hts _ qX4_byRule_1) (fun _ h9 => h9) rfl dX4_byRule_16 ?_
  obtain ⟨r19, e19, h⟩ := tw_bs h
  refine tw_callSv (ws' := (tw_wM cI ma (r1.1, (upd r1.2.1 (1 : Int32).toNatClampNeg p1), r1.2.2.1, r1.2.2.2.1, r1.2.2.2.2.1, r1.2.2.2.2.2.1, r1.2.2.2.2.2.2.1, r1.2.2.2.2.2.2.2.1, r1.2.2.2.2.2.2.2.2.1, r1.2.2.2.2.2.2.2.2.2.1, r1.2.2.2.2.2.2.2.2.2.2.1, r1.2.2.2.2.2.2.2.2.2.2.2.1, r19))) (As := [.ref (ma 2), .ref (ma 7)]) (rest := []) F hN hK hP hD hS hA (mX4_lays l G cI (ma 2) (ma 7) (upd r1.2.1 (1 : Int32).toNatClampNeg p1) r1.2.2.2.2.2.2.2.2.2.2.2.2 H.size e19) (va_cwS 2 hts gX4_byRule_X4_lays rfl rfl rfl (by decide +kernel) ⟨(Nat.le_of_ble_eq_true rfl), (Nat.le_of_ble_eq_true rfl)⟩) [0] rfl [2, 7] (by decide) rfl rfl rfl rfl hl.1 rfl (Nat.le_of_ble_eq_true rfl) dX4_byRule_19 ⟨Nat.zero_le _, Nat.zero_le _⟩ (fun H locs hP hD hS => ?_)
  refine lv_iload_n hx hb dX4_byRule_22 rfl (lv_at hl 2 rfl) ?_
  refine lv_if_ne (tgt := 40) hx hb dX4_byRule_23 (by decide) (fun c23 => ?_) (fun c23 => ?_)
  · replace h := tw_t c23 h
    refine lv_iload_n hx hb dX4_byRule_40 rfl (lv_at hl 2 rfl) ?_
    refine lv_iconst (v := (1 : Int32)) hx hb dX4_byRule_41 (by decide) ?_
    refine lv_icmp_ne (tgt := 59) hx hb dX4_byRule_42 (by decide) (fun c42 => ?_) (fun c42 => ?_)
    · replace h := tw_t c42 h
      refine lv_aload_n hx hb dX4_byRule_59 rfl (lv_at hl 0 rfl) ?_
      refine va_get (D := G) (ci := 4) (v := .ref (ma 2)) (C := RX4) (T := TX4) (N := 13) hx hb hts iX4_byRule_X4 hown hK hP 0 rfl rfl 1 (by decide) (hts _ qX4_byRule_0) (fun _ h9 => h9) rfl dX4_byRule_60 ?_
      refine lv_aload_n hx hb dX4_byRule_63 rfl (lv_at hl 0 rfl) ?_
      refine va_get (D := G) (ci := 4) (v := .ref (ma 7)) (C := RX4) (T := TX4) (N := 13) hx hb hts iX4_byRule_X4 hown hK hP 0 rfl rfl 12 (by decide) (hts _ qX4_byRule_1) (fun _ h9 => h9) rfl dX4_byRule_64 ?_
      obtain ⟨r67, e67, h⟩ := tw_bs h
      refine tw_callSi (ws' := (tw_wM cI ma (r1.1, (upd r1.2.1 (1 : Int32).toNatClampNeg p1), r1.2.2.1, r1.2.2.2.1, r1.2.2.2.2.1, r1.2.2.2.2.2.1, r1.2.2.2.2.2.2.1, r1.2.2.2.2.2.2.2.1, r1.2.2.2.2.2.2.2.2.1, r1.2.2.2.2.2.2.2.2.2.1, r1.2.2.2.2.2.2.2.2.2.2.1, r1.2.2.2.2.2.2.2.2.2.2.2.1, r19))) (As := [.ref (ma 2), .ref (ma 7)]) (rest := []) F hN hK hP hD hS hA (mX4_waiting l G cI (ma 2) (ma 7) (upd r1.2.1 (1 : Int32).toNatClampNeg p1) r19 H.size e67) (va_cwS 2 hts gX4_byRule_X4_waiting rfl rfl rfl (by decide +kernel) ⟨(Nat.le_of_ble_eq_true rfl), (Nat.le_of_ble_eq_true rfl)⟩) [0] rfl [2, 7] (by decide) rfl rfl rfl rfl hl.1 rfl (Nat.le_of_ble_eq_true rfl) dX4_byRule_67 ⟨Nat.zero_le _, Nat.zero_le _⟩ (fun H locs hP hD hS => ?_)
      exact hq H locs _ ls r67 (tw_rt (fun r => r.1 = r67) h rfl) rfl (tw_rt (fun r => va_P G vwCl (tw_wM cI ma r.2) H) h hP) hS dX4_byRule_70
    · replace h := tw_fn c42 h
      refine lv_aload_n hx hb dX4_byRule_45 rfl (lv_at hl 0 rfl) ?_
      refine va_get (D := G) (ci := 4) (v := .ref (ma 2)) (C := RX4) (T := TX4) (N := 13) hx hb hts iX4_byRule_X4 hown hK hP 0 rfl rfl 1 (by decide) (hts _ qX4_byRule_0) (fun _ h9 => h9) rfl dX4_byRule_46 ?_
      refine lv_aload_n hx hb dX4_byRule_49 rfl (lv_at hl 0 rfl) ?_
      refine va_get (D := G) (ci := 4) (v := .ref (ma 7)) (C := RX4) (T := TX4) (N := 13) hx hb hts iX4_byRule_X4 hown hK hP 0 rfl rfl 12 (by decide) (hts _ qX4_byRule_1) (fun _ h9 => h9) rfl dX4_byRule_50 ?_
      obtain ⟨r53, e53, h⟩ := tw_bs h
      refine tw_callSi (ws' := (tw_wM cI ma (r1.1, (upd r1.2.1 (1 : Int32).toNatClampNeg p1), r1.2.2.1, r1.2.2.2.1, r1.2.2.2.2.1, r1.2.2.2.2.2.1, r1.2.2.2.2.2.2.1, r1.2.2.2.2.2.2.2.1, r1.2.2.2.2.2.2.2.2.1, r1.2.2.2.2.2.2.2.2.2.1, r1.2.2.2.2.2.2.2.2.2.2.1, r1.2.2.2.2.2.2.2.2.2.2.2.1, r19))) (As := [.ref (ma 2), .ref (ma 7)]) (rest := []) F hN hK hP hD hS hA (mX4_laid l G cI (ma 2) (ma 7) (upd r1.2.1 (1 : Int32).toNatClampNeg p1) r19 H.size e53) (va_cwS 2 hts gX4_byRule_X4_laid rfl rfl rfl (by decide +kernel) ⟨(Nat.le_of_ble_eq_true rfl), (Nat.le_of_ble_eq_true rfl)⟩) [0] rfl [2, 7] (by decide) rfl rfl rfl rfl hl.1 rfl (Nat.le_of_ble_eq_true rfl) dX4_byRule_53 ⟨Nat.zero_le _, Nat.zero_le _⟩ (fun H locs hP hD hS => ?_)
      refine lv_goto (tgt := 70) hx hb dX4_byRule_56 (by decide) ?_
      exact hq H locs _ ls r53 (tw_rt (fun r => r.1 = r53) h rfl) rfl (tw_rt (fun r => va_P G vwCl (tw_wM cI ma r.2) H) h hP) hS dX4_byRule_70
  · replace h := tw_fn c23 h
    refine lv_aload_n hx hb dX4_byRule_26 rfl (lv_at hl 0 rfl) ?_
    refine va_get (D := G) (ci := 4) (v := .ref (ma 2)) (C := RX4) (T := TX4) (N := 13) hx hb hts iX4_byRule_X4 hown hK hP 0 rfl rfl 1 (by decide) (hts _ qX4_byRule_0) (fun _ h9 => h9) rfl dX4_byRule_27 ?_
    refine lv_aload_n hx hb dX4_byRule_30 rfl (lv_at hl 0 rfl) ?_
    refine va_get (D := G) (ci := 4) (v := .ref (ma 7)) (C := RX4) (T := TX4) (N := 13) hx hb hts iX4_byRule_X4 hown hK hP 0 rfl rfl 12 (by decide) (hts _ qX4_byRule_1) (fun _ h9 => h9) rfl dX4_byRule_31 ?_
    obtain ⟨r34, e34, h⟩ := tw_bs h
    refine tw_callSi (ws' := (tw_wM cI ma (r1.1, (upd r1.2.1 (1 : Int32).toNatClampNeg p1), r1.2.2.1, r1.2.2.2.1, r1.2.2.2.2.1, r1.2.2.2.2.2.1, r1.2.2.2.2.2.2.1, r1.2.2.2.2.2.2.2.1, r1.2.2.2.2.2.2.2.2.1, r1.2.2.2.2.2.2.2.2.2.1, r1.2.2.2.2.2.2.2.2.2.2.1, r1.2.2.2.2.2.2.2.2.2.2.2.1, r19))) (As := [.ref (ma 2), .ref (ma 7)]) (rest := []) F hN hK hP hD hS hA (mX4_end l G cI (ma 2) (ma 7) (upd r1.2.1 (1 : Int32).toNatClampNeg p1) r19 H.size e34) (va_cwS 2 hts gX4_byRule_X4_end rfl rfl rfl (by decide +kernel) ⟨(Nat.le_of_ble_eq_true rfl), (Nat.le_of_ble_eq_true rfl)⟩) [0] rfl [2, 7] (by decide) rfl rfl rfl rfl hl.1 rfl (Nat.le_of_ble_eq_true rfl) dX4_byRule_34 ⟨Nat.zero_le _, Nat.zero_le _⟩ (fun H locs hP hD hS => ?_)
    refine lv_goto (tgt := 70) hx hb dX4_byRule_37 (by decide) ?_
    exact hq H locs _ ls r34 (tw_rt (fun r => r.1 = r34) h rfl) rfl (tw_rt (fun r => va_P G vwCl (tw_wM cI ma r.2) H) h hP) hS dX4_byRule_70
abbrev rmX4_ifRule : Room := { frames := 6, cells := 0, slots := 0, locals := 135 }
set_option maxRecDepth 20000 in
theorem qX4_ifRule_0 : (Cond.fieldLink RX4 31 "TheatreWallModel" "thrown" "I") ∈ wsX4_ifRule := (List.mem_cons_of_mem _ (List.mem_append_left _ (List.mem_append_left _ (List.mem_of_getElem? (i := 0) rfl))))
set_option maxRecDepth 20000 in
theorem iX4_ifRule_X4 : ∀ w ∈ u_ws RX4 TX4 13, w ∈ wsX4_ifRule := fun w h => (List.mem_cons_of_mem _ (List.mem_append_right _ h))
set_option maxHeartbeats 4000000 in
set_option maxRecDepth 100000 in
theorem mX4_ifRule (l : Launch) (G : va_G) (cI : ClassId) (ma : Nat → Nat) (M : tw_Md) (sz : Nat) (p1 : Int32) (p2 : Int32) {rv : Int32 × tw_Md} (h : fX4_ifRule M p1 p2 = some rv) : tw_Mi l yX4_ifRule wsX4_ifRule rmX4_ifRule G [(cI, .int)] (tw_wM cI ma M) [.ref (ma 0), .int p1, .int p2] sz rv.1 (tw_wM cI ma rv.2) := by
  refine tw_ofi (ty := .int) (cc := cX4_ifRule) (maxL := 3) (own := RX4) (by decide) rfl rfl (Nat.le_of_ble_eq_true rfl) ?_
  intro p e s m args below meth c Q A ls H locs F hN hK hP hD hS hA hl hq
  obtain ⟨hx, hb, hml, hown, hts⟩ := id F
  have hl : lv_has ls 3 [(0, .ref (ma 0)), (1, .int p1), (2, .int p2)] := hl
  unfold fX4_ifRule at h
  refine lv_aload_n hx hb dX4_ifRule_0 rfl (lv_at hl 0 rfl) ?_
  refine lv_iconst (v := (0 : Int32)) hx hb dX4_ifRule_1 (by decide) ?_
  refine tw_put (ws' := (tw_wM cI ma (M.1, M.2.1, M.2.2.1, M.2.2.2.1, M.2.2.2.2.1, M.2.2.2.2.2.1, (0 : Int32), M.2.2.2.2.2.2.2.1, M.2.2.2.2.2.2.2.2.1, M.2.2.2.2.2.2.2.2.2.1, M.2.2.2.2.2.2.2.2.2.2.1, M.2.2.2.2.2.2.2.2.2.2.2.1, M.2.2.2.2.2.2.2.2.2.2.2.2))) (D := G) (ci := 4) (v := .int (0 : Int32)) (ty := .int) (C := RX4) (T := TX4) (N := 13) hx hb hts iX4_ifRule_X4 tyX4 tyX4_ok nmX4 hown hK hP hD hS 0 rfl rfl 6 (by decide) (hts _ qX4_ifRule_0) (fun _ h9 => h9) rfl (by decide +kernel) rfl rfl (Nat.le_of_ble_eq_true rfl) dX4_ifRule_2 rfl (fun H locs hP hD hS => ?_)
  refine lv_iload_n hx hb dX4_ifRule_5 rfl (lv_at hl 1 rfl) ?_
  refine lv_iconst (v := (0 : Int32)) hx hb dX4_ifRule_6 (by decide) ?_
  refine lv_iconst (v := (3 : Int32)) hx hb dX4_ifRule_7 (by decide) ?_
  obtain ⟨r8, e8, h⟩ := tw_bs h
  refine tw_callSi (ws' := (tw_wM cI ma (M.1, M.2.1, M.2.2.1, M.2.2.2.1, M.2.2.2.2.1, M.2.2.2.2.2.1, (0 : Int32), M.2.2.2.2.2.2.2.1, M.2.2.2.2.2.2.2.2.1, M.2.2.2.2.2.2.2.2.2.1, M.2.2.2.2.2.2.2.2.2.2.1, M.2.2.2.2.2.2.2.2.2.2.2.1, M.2.2.2.2.2.2.2.2.2.2.2.2))) (As := [.int p1, .int (0 : Int32), .int (3 : Int32)]) (rest := []) F hN hK hP hD hS hA (mX4_in l G cI H.size p1 (0 : Int32) (3 : Int32) e8) (va_cwS 3 hts gX4_ifRule_X4_in rfl rfl rfl (by decide +kernel) ⟨(Nat.le_of_ble_eq_true rfl), (Nat.le_of_ble_eq_true rfl)⟩) [0] rfl [] (by decide) rfl rfl rfl rfl hl.1 rfl (Nat.le_of_ble_eq_true rfl) dX4_ifRule_8 ⟨Nat.zero_le _, Nat.zero_le _⟩ (fun H locs hP hD hS => ?_)
  refine lv_if_eq (tgt := 32) hx hb dX4_ifRule_11 (by decide) (fun c11 => ?_) (fun c11 => ?_)
  · replace h := tw_t c11 h
    refine lv_aload_n hx hb dX4_ifRule_32 rfl (lv_at hl 0 rfl) ?_
    refine lv_iconst (v := (1 : Int32)) hx hb dX4_ifRule_33 (by decide) ?_
    obtain ⟨r34, e34, h⟩ := tw_bs h
    refine tw_callViF (ws' := (tw_wM cI ma r34.2)) (As := [.int (1 : Int32)]) (rest := []) F hN hK hP hD hS hA (mX4_fails l G cI ma (M.1, M.2.1, M.2.2.1, M.2.2.2.1, M.2.2.2.2.1, M.2.2.2.2.2.1, (0 : Int32), M.2.2.2.2.2.2.2.1, M.2.2.2.2.2.2.2.2.1, M.2.2.2.2.2.2.2.2.2.1, M.2.2.2.2.2.2.2.2.2.2.1, M.2.2.2.2.2.2.2.2.2.2.2.1, M.2.2.2.2.2.2.2.2.2.2.2.2) H.size (1 : Int32) e34) (cwV 1 hts gX4_ifRule_X4_fails rfl rfl rfl (by decide +kernel) ⟨(Nat.le_of_ble_eq_true rfl), (Nat.le_of_ble_eq_true rfl)⟩) rfl (r0 := 0) (ci := 4) rfl rfl rfl rfl hl.1 rfl (Nat.le_of_ble_eq_true rfl) dX4_ifRule_34 ⟨Nat.zero_le _, Nat.zero_le _⟩ (fun H locs hP hD hS => ?_)
    exact hq H locs _ ls r34.1 (tw_rt (fun r => r.1 = r34.1) h rfl) rfl (tw_rt (fun r => va_P G vwCl (tw_wM cI ma r.2) H) h hP) hS dX4_ifRule_37
  · replace h := tw_f c11 h
    refine lv_iload_n hx hb dX4_ifRule_14 rfl (lv_at hl 2 rfl) ?_
    refine lv_iconst (v := (0 : Int32)) hx hb dX4_ifRule_15 (by decide) ?_
    refine lv_iconst (v := (2 : Int32)) hx hb dX4_ifRule_16 (by decide) ?_
    obtain ⟨r17, e17, h⟩ := tw_bs h
    refine tw_callSi (ws' := (tw_wM cI ma (M.1, M.2.1, M.2.2.1, M.2.2.2.1, M.2.2.2.2.1, M.2.2.2.2.2.1, (0 : Int32), M.2.2.2.2.2.2.2.1, M.2.2.2.2.2.2.2.2.1, M.2.2.2.2.2.2.2.2.2.1, M.2.2.2.2.2.2.2.2.2.2.1, M.2.2.2.2.2.2.2.2.2.2.2.1, M.2.2.2.2.2.2.2.2.2.2.2.2))) (As := [.int p2, .int (0 : Int32), .int (2 : Int32)]) (rest := []) F hN hK hP hD hS hA (mX4_in l G cI H.size p2 (0 : Int32) (2 : Int32) e17) (va_cwS 3 hts gX4_ifRule_X4_in rfl rfl rfl (by decide +kernel) ⟨(Nat.le_of_ble_eq_true rfl), (Nat.le_of_ble_eq_true rfl)⟩) [0] rfl [] (by decide) rfl rfl rfl rfl hl.1 rfl (Nat.le_of_ble_eq_true rfl) dX4_ifRule_17 ⟨Nat.zero_le _, Nat.zero_le _⟩ (fun H locs hP hD hS => ?_)
    refine lv_if_eq (tgt := 32) hx hb dX4_ifRule_20 (by decide) (fun c20 => ?_) (fun c20 => ?_)
    · replace h := tw_t c20 h
      refine lv_aload_n hx hb dX4_ifRule_32 rfl (lv_at hl 0 rfl) ?_
      refine lv_iconst (v := (1 : Int32)) hx hb dX4_ifRule_33 (by decide) ?_
      obtain ⟨r34, e34, h⟩ := tw_bs h
      refine tw_callViF (ws' := (tw_wM cI ma r34.2)) (As := [.int (1 : Int32)]) (rest := []) F hN hK hP hD hS hA (mX4_fails l G cI ma (M.1, M.2.1, M.2.2.1, M.2.2.2.1, M.2.2.2.2.1, M.2.2.2.2.2.1, (0 : Int32), M.2.2.2.2.2.2.2.1, M.2.2.2.2.2.2.2.2.1, M.2.2.2.2.2.2.2.2.2.1, M.2.2.2.2.2.2.2.2.2.2.1, M.2.2.2.2.2.2.2.2.2.2.2.1, M.2.2.2.2.2.2.2.2.2.2.2.2) H.size (1 : Int32) e34) (cwV 1 hts gX4_ifRule_X4_fails rfl rfl rfl (by decide +kernel) ⟨(Nat.le_of_ble_eq_true rfl), (Nat.le_of_ble_eq_true rfl)⟩) rfl (r0 := 0) (ci := 4) rfl rfl rfl rfl hl.1 rfl (Nat.le_of_ble_eq_true rfl) dX4_ifRule_34 ⟨Nat.zero_le _, Nat.zero_le _⟩ (fun H locs hP hD hS => ?_)
      exact hq H locs _ ls r34.1 (tw_rt (fun r => r.1 = r34.1) h rfl) rfl (tw_rt (fun r => va_P G vwCl (tw_wM cI ma r.2) H) h hP) hS dX4_ifRule_37
    · replace h := tw_f c20 h
      refine lv_aload_n hx hb dX4_ifRule_23 rfl (lv_at hl 0 rfl) ?_
      refine lv_iload_n hx hb dX4_ifRule_24 rfl (lv_at hl 1 rfl) ?_
      refine lv_iload_n hx hb dX4_ifRule_25 rfl (lv_at hl 2 rfl) ?_
      obtain ⟨r26, e26, h⟩ := tw_bs h
      refine tw_callViF (ws' := (tw_wM cI ma r26.2)) (As := [.int p1, .int p2]) (rest := []) F hN hK hP hD hS hA (mX4_byRule l G cI ma (M.1, M.2.1, M.2.2.1, M.2.2.2.1, M.2.2.2.2.1, M.2.2.2.2.2.1, (0 : Int32), M.2.2.2.2.2.2.2.1, M.2.2.2.2.2.2.2.2.1, M.2.2.2.2.2.2.2.2.2.1, M.2.2.2.2.2.2.2.2.2.2.1, M.2.2.2.2.2.2.2.2.2.2.2.1, M.2.2.2.2.2.2.2.2.2.2.2.2) H.size p1 p2 e26) (cwV 2 hts gX4_ifRule_X4_byRule rfl rfl rfl (by decide +kernel) ⟨(Nat.le_of_ble_eq_true rfl), (Nat.le_of_ble_eq_true rfl)⟩) rfl (r0 := 0) (ci := 4) rfl rfl rfl rfl hl.1 rfl (Nat.le_of_ble_eq_true rfl) dX4_ifRule_26 ⟨Nat.zero_le _, Nat.zero_le _⟩ (fun H locs hP hD hS => ?_)
      refine lv_goto (tgt := 37) hx hb dX4_ifRule_29 (by decide) ?_
      exact hq H locs _ ls r26.1 (tw_rt (fun r => r.1 = r26.1) h rfl) rfl (tw_rt (fun r => va_P G vwCl (tw_wM cI ma r.2) H) h hP) hS dX4_ifRule_37
abbrev rmX4_best : Room := { frames := 6, cells := 0, slots := 0, locals := 135 }
set_option maxHeartbeats 4000000 in
set_option maxRecDepth 100000 in
theorem mX4_best (l : Launch) (G : va_G) (cI : ClassId) (ma : Nat → Nat) (M : tw_Md) (sz : Nat)  {rv : Int32 × tw_Md} (h : fX4_best M = some rv) : tw_Mi l yX4_best wsX4_best rmX4_best G [(cI, .int)] (tw_wM cI ma M) [.ref (ma 0)] sz rv.1 (tw_wM cI ma rv.2) := by
  refine tw_ofi (ty := .int) (cc := cX4_best) (maxL := 4) (own := RX4) (by decide) rfl rfl (Nat.le_of_ble_eq_true rfl) ?_
  intro p e s m args below meth c Q A ls H locs F hN hK hP hD hS hA hl hq
  obtain ⟨hx, hb, hml, hown, hts⟩ := id F
  have hl : lv_has ls 4 [(0, .ref (ma 0))] := hl
  unfold fX4_best at h
  have L4 : ∀ (n4 : Nat) (v1 : Int32) (v2 : Int32) (M : tw_Md) (H : Heap) (locs : List Loc) (ls : Array Slot), fX4_best_4 n4 v1 v2 M = some rv → lv_has ls 4 [(0, .ref (ma 0)), (1, .int v1), (2, .int v2)] → va_P G vwCl (tw_wM cI ma M) H → va_D A (tw_wM cI ma M) → va_S A s.heap H locs → W p l e rmX4_best s m args below meth c H locs 0 0 Q (F0 m 4 ls []) := by
    intro n4
    induction n4 with
    | zero =>
      intro v1 v2 M H locs ls h
      rw [fX4_best_4] at h
      cases h
    | succ n4 ih4 =>
      intro v1 v2 M H locs ls h hl hP hD hS
      rw [fX4_best_4] at h
      refine lv_iload_n hx hb dX4_best_4 rfl (lv_at hl 2 rfl) ?_
      refine lv_iconst (v := (4 : Int32)) hx hb dX4_best_5 (by decide) ?_
      refine lv_icmp_ge (tgt := 58) hx hb dX4_best_6 (by decide) (fun c6 => ?_) (fun c6 => ?_)
      · replace h := tw_t c6 h
        refine lv_iload_n hx hb dX4_best_58 rfl (lv_at hl 1 rfl) ?_
        exact hq H locs _ ls v1 (tw_rt (fun r => r.1 = v1) h rfl) rfl (tw_rt (fun r => va_P G vwCl (tw_wM cI ma r.2) H) h hP) hS dX4_best_59
      · replace h := tw_f c6 h
        refine lv_aload_n hx hb dX4_best_9 rfl (lv_at hl 0 rfl) ?_
        refine lv_iload_n hx hb dX4_best_10 rfl (lv_at hl 2 rfl) ?_
        refine lv_iconst (v := (1 : Int32)) hx hb dX4_best_11 (by decide) ?_
        obtain ⟨r12, e12, h⟩ := tw_bs h
        refine tw_callViF (ws' := (tw_wM cI ma r12.2)) (As := [.int v2, .int (1 : Int32)]) (rest := []) F hN hK hP hD hS hA (mX4_byRule l G cI ma M H.size v2 (1 : Int32) e12) (cwV 2 hts gX4_best_X4_byRule rfl rfl rfl (by decide +kernel) ⟨(Nat.le_of_ble_eq_true rfl), (Nat.le_of_ble_eq_true rfl)⟩) rfl (r0 := 0) (ci := 4) rfl rfl rfl rfl hl.1 rfl (Nat.le_of_ble_eq_true rfl) dX4_best_12 ⟨Nat.zero_le _, Nat.zero_le _⟩ (fun H locs hP hD hS => ?_)
        refine lv_aload_n hx hb dX4_best_15 rfl (lv_at hl 0 rfl) ?_
        refine lv_iload_n hx hb dX4_best_16 rfl (lv_at hl 1 rfl) ?_
        refine lv_iconst (v := (1 : Int32)) hx hb dX4_best_17 (by decide) ?_
        obtain ⟨r18, e18, h⟩ := tw_bs h
        refine tw_callViF (ws' := (tw_wM cI ma r18.2)) (As := [.int v1, .int (1 : Int32)]) (rest := [.int r12.1]) F hN hK hP hD hS hA (mX4_byRule l G cI ma r12.2 H.size v1 (1 : Int32) e18) (cwV 2 hts gX4_best_X4_byRule rfl rfl rfl (by decide +kernel) ⟨(Nat.le_of_ble_eq_true rfl), (Nat.le_of_ble_eq_true rfl)⟩) rfl (r0 := 0) (ci := 4) rfl rfl rfl rfl hl.1 rfl (Nat.le_of_ble_eq_true rfl) dX4_best_18 ⟨Nat.zero_le _, Nat.zero_le _⟩ (fun H locs hP hD hS => ?_)
        refine lv_isub hx hb dX4_best_21 ?_
        refine lv_istore_n (lv' := [(3, .int (r12.1 - r18.1)), (0, .ref (ma 0)), (1, .int v1), (2, .int v2)]) hx hb dX4_best_22 rfl hl (by decide) rfl (fun ls hl => ?_)
        refine lv_iload_n hx hb dX4_best_23 rfl (lv_at hl 0 rfl) ?_
        refine lv_if_gt (tgt := 46) hx hb dX4_best_24 (by decide) (fun c24 => ?_) (fun c24 => ?_)
        · replace h := tw_t c24 h
          refine lv_iload_n hx hb dX4_best_46 rfl (lv_at hl 3 rfl) ?_
          refine lv_goto (tgt := 51) hx hb dX4_best_47 (by decide) ?_
          refine lv_istore_n (lv' := [(1, .int v2), (3, .int (r12.1 - r18.1)), (0, .ref (ma 0)), (2, .int v2)]) hx hb dX4_best_51 rfl hl (by decide) rfl (fun ls hl => ?_)
          refine lv_iinc (v := (v2 + 1)) (lv' := [(2, .int (v2 + 1)), (1, .int v2), (3, .int (r12.1 - r18.1)), (0, .ref (ma 0))]) hx hb dX4_best_52 hl (k := 3) rfl rfl (by decide) rfl (fun ls hl => ?_)
          refine lv_goto (tgt := 4) hx hb dX4_best_55 (by decide) ?_
          exact ih4 v2 (v2 + 1) r18.2 H locs ls h (lv_sub hl [3, 1, 0] rfl) hP hD hS
        · replace h := tw_f c24 h
          refine lv_iload_n hx hb dX4_best_27 rfl (lv_at hl 0 rfl) ?_
          refine lv_if_ne (tgt := 50) hx hb dX4_best_28 (by decide) (fun c28 => ?_) (fun c28 => ?_)
          · replace h := tw_t c28 h
            refine lv_iload_n hx hb dX4_best_50 rfl (lv_at hl 2 rfl) ?_
            refine lv_istore_n (lv' := [(1, .int v1), (3, .int (r12.1 - r18.1)), (0, .ref (ma 0)), (2, .int v2)]) hx hb dX4_best_51 rfl hl (by decide) rfl (fun ls hl => ?_)
            refine lv_iinc (v := (v2 + 1)) (lv' := [(2, .int (v2 + 1)), (1, .int v1), (3, .int (r12.1 - r18.1)), (0, .ref (ma 0))]) hx hb dX4_best_52 hl (k := 3) rfl rfl (by decide) rfl (fun ls hl => ?_)
            refine lv_goto (tgt := 4) hx hb dX4_best_55 (by decide) ?_
            exact ih4 v1 (v2 + 1) r18.2 H locs ls h (lv_sub hl [3, 1, 0] rfl) hP hD hS
          · replace h := tw_fn c28 h
            refine lv_aload_n hx hb dX4_best_31 rfl (lv_at hl 1 rfl) ?_
            refine lv_iload_n hx hb dX4_best_32 rfl (lv_at hl 3 rfl) ?_
            refine lv_iconst (v := (0 : Int32)) hx hb dX4_best_33 (by decide) ?_
            obtain ⟨r34, e34, h⟩ := tw_bs h
            refine tw_callViF (ws' := (tw_wM cI ma r34.2)) (As := [.int v2, .int (0 : Int32)]) (rest := []) F hN hK hP hD hS hA (mX4_byRule l G cI ma r18.2 H.size v2 (0 : Int32) e34) (cwV 2 hts gX4_best_X4_byRule rfl rfl rfl (by decide +kernel) ⟨(Nat.le_of_ble_eq_true rfl), (Nat.le_of_ble_eq_true rfl)⟩) rfl (r0 := 0) (ci := 4) rfl rfl rfl rfl hl.1 rfl (Nat.le_of_ble_eq_true rfl) dX4_best_34 ⟨Nat.zero_le _, Nat.zero_le _⟩ (fun H locs hP hD hS => ?_)
            refine lv_aload_n hx hb dX4_best_37 rfl (lv_at hl 1 rfl) ?_
            refine lv_iload_n hx hb dX4_best_38 rfl (lv_at hl 2 rfl) ?_
            refine lv_iconst (v := (0 : Int32)) hx hb dX4_best_39 (by decide) ?_
            obtain ⟨r40, e40, h⟩ := tw_bs h
            refine tw_callViF (ws' := (tw_wM cI ma r40.2)) (As := [.int v1, .int (0 : Int32)]) (rest := [.int r34.1]) F hN hK hP hD hS hA (mX4_byRule l G cI ma r34.2 H.size v1 (0 : Int32) e40) (cwV 2 hts gX4_best_X4_byRule rfl rfl rfl (by decide +kernel) ⟨(Nat.le_of_ble_eq_true rfl), (Nat.le_of_ble_eq_true rfl)⟩) rfl (r0 := 0) (ci := 4) rfl rfl rfl rfl hl.1 rfl (Nat.le_of_ble_eq_true rfl) dX4_best_40 ⟨Nat.zero_le _, Nat.zero_le _⟩ (fun H locs hP hD hS => ?_)
            refine lv_icmp_ge (tgt := 50) hx hb dX4_best_43 (by decide) (fun c43 => ?_) (fun c43 => ?_)
            · replace h := tw_t c43 h
              refine lv_iload_n hx hb dX4_best_50 rfl (lv_at hl 2 rfl) ?_
              refine lv_istore_n (lv' := [(1, .int v1), (3, .int (r12.1 - r18.1)), (0, .ref (ma 0)), (2, .int v2)]) hx hb dX4_best_51 rfl hl (by decide) rfl (fun ls hl => ?_)
              refine lv_iinc (v := (v2 + 1)) (lv' := [(2, .int (v2 + 1)), (1, .int v1), (3, .int (r12.1 - r18.1)), (0, .ref (ma 0))]) hx hb dX4_best_52 hl (k := 3) rfl rfl (by decide) rfl (fun ls hl => ?_)
              refine lv_goto (tgt := 4) hx hb dX4_best_55 (by decide) ?_
              exact ih4 v1 (v2 + 1) r40.2 H locs ls h (lv_sub hl [3, 1, 0] rfl) hP hD hS
            · replace h := tw_f c43 h
              refine lv_iload_n hx hb dX4_best_46 rfl (lv_at hl 3 rfl) ?_
              refine lv_goto (tgt := 51) hx hb dX4_best_47 (by decide) ?_
              refine lv_istore_n (lv' := [(1, .int v2), (3, .int (r12.1 - r18.1)), (0, .ref (ma 0)), (2, .int v2)]) hx hb dX4_best_51 rfl hl (by decide) rfl (fun ls hl => ?_)
              refine lv_iinc (v := (v2 + 1)) (lv' := [(2, .int (v2 + 1)), (1, .int v2), (3, .int (r12.1 - r18.1)), (0, .ref (ma 0))]) hx hb dX4_best_52 hl (k := 3) rfl rfl (by decide) rfl (fun ls hl => ?_)
              refine lv_goto (tgt := 4) hx hb dX4_best_55 (by decide) ?_
              exact ih4 v2 (v2 + 1) r40.2 H locs ls h (lv_sub hl [3, 1, 0] rfl) hP hD hS
  refine lv_iconst (v := (0 : Int32)) hx hb dX4_best_0 (by decide) ?_
  refine lv_istore_n (lv' := [(1, .int (0 : Int32)), (0, .ref (ma 0))]) hx hb dX4_best_1 rfl hl (by decide) rfl (fun ls hl => ?_)
  refine lv_iconst (v := (1 : Int32)) hx hb dX4_best_2 (by decide) ?_
  refine lv_istore_n (lv' := [(2, .int (1 : Int32)), (1, .int (0 : Int32)), (0, .ref (ma 0))]) hx hb dX4_best_3 rfl hl (by decide) rfl (fun ls hl => ?_)
  exact L4 512 (0 : Int32) (1 : Int32) M H locs ls h (lv_sub hl [2, 1, 0] rfl) hP hD hS
abbrev rmX4_bestRule : Room := { frames := 7, cells := 0, slots := 0, locals := 158 }
set_option maxRecDepth 20000 in
theorem qX4_bestRule_0 : (Cond.fieldLink RX4 31 "TheatreWallModel" "thrown" "I") ∈ wsX4_bestRule := (List.mem_cons_of_mem _ (List.mem_append_left _ (List.mem_append_left _ (List.mem_of_getElem? (i := 0) rfl))))
set_option maxRecDepth 20000 in
theorem iX4_bestRule_X4 : ∀ w ∈ u_ws RX4 TX4 13, w ∈ wsX4_bestRule := fun w h => (List.mem_cons_of_mem _ (List.mem_append_right _ h))
set_option maxHeartbeats 4000000 in
set_option maxRecDepth 100000 in
theorem mX4_bestRule (l : Launch) (G : va_G) (cI : ClassId) (ma : Nat → Nat) (M : tw_Md) (sz : Nat)  {rv : Int32 × tw_Md} (h : fX4_bestRule M = some rv) : tw_Mi l yX4_bestRule wsX4_bestRule rmX4_bestRule G [(cI, .int)] (tw_wM cI ma M) [.ref (ma 0)] sz rv.1 (tw_wM cI ma rv.2) := by
  refine tw_ofi (ty := .int) (cc := cX4_bestRule) (maxL := 1) (own := RX4) (by decide) rfl rfl (Nat.le_of_ble_eq_true rfl) ?_
  intro p e s m args below meth c Q A ls H locs F hN hK hP hD hS hA hl hq
  obtain ⟨hx, hb, hml, hown, hts⟩ := id F
  have hl : lv_has ls 1 [(0, .ref (ma 0))] := hl
  unfold fX4_bestRule at h
  refine lv_aload_n hx hb dX4_bestRule_0 rfl (lv_at hl 0 rfl) ?_
  refine lv_iconst (v := (0 : Int32)) hx hb dX4_bestRule_1 (by decide) ?_
  refine tw_put (ws' := (tw_wM cI ma (M.1, M.2.1, M.2.2.1, M.2.2.2.1, M.2.2.2.2.1, M.2.2.2.2.2.1, (0 : Int32), M.2.2.2.2.2.2.2.1, M.2.2.2.2.2.2.2.2.1, M.2.2.2.2.2.2.2.2.2.1, M.2.2.2.2.2.2.2.2.2.2.1, M.2.2.2.2.2.2.2.2.2.2.2.1, M.2.2.2.2.2.2.2.2.2.2.2.2))) (D := G) (ci := 4) (v := .int (0 : Int32)) (ty := .int) (C := RX4) (T := TX4) (N := 13) hx hb hts iX4_bestRule_X4 tyX4 tyX4_ok nmX4 hown hK hP hD hS 0 rfl rfl 6 (by decide) (hts _ qX4_bestRule_0) (fun _ h9 => h9) rfl (by decide +kernel) rfl rfl (Nat.le_of_ble_eq_true rfl) dX4_bestRule_2 rfl (fun H locs hP hD hS => ?_)
  refine lv_aload_n hx hb dX4_bestRule_5 rfl (lv_at hl 0 rfl) ?_
  obtain ⟨r6, e6, h⟩ := tw_bs h
  refine tw_callViF (ws' := (tw_wM cI ma r6.2)) (As := []) (rest := []) F hN hK hP hD hS hA (mX4_best l G cI ma (M.1, M.2.1, M.2.2.1, M.2.2.2.1, M.2.2.2.2.1, M.2.2.2.2.2.1, (0 : Int32), M.2.2.2.2.2.2.2.1, M.2.2.2.2.2.2.2.2.1, M.2.2.2.2.2.2.2.2.2.1, M.2.2.2.2.2.2.2.2.2.2.1, M.2.2.2.2.2.2.2.2.2.2.2.1, M.2.2.2.2.2.2.2.2.2.2.2.2) H.size e6) (cwV 0 hts gX4_bestRule_X4_best rfl rfl rfl (by decide +kernel) ⟨(Nat.le_of_ble_eq_true rfl), (Nat.le_of_ble_eq_true rfl)⟩) rfl (r0 := 0) (ci := 4) rfl rfl rfl rfl hl.1 rfl (Nat.le_of_ble_eq_true rfl) dX4_bestRule_6 ⟨Nat.zero_le _, Nat.zero_le _⟩ (fun H locs hP hD hS => ?_)
  exact hq H locs _ ls r6.1 (tw_rt (fun r => r.1 = r6.1) h rfl) rfl (tw_rt (fun r => va_P G vwCl (tw_wM cI ma r.2) H) h hP) hS dX4_bestRule_9
abbrev rmX4_freed : Room := { frames := 4, cells := 0, slots := 0, locals := 99 }
set_option maxRecDepth 20000 in
theorem qX4_freed_0 : (Cond.fieldLink RX4 7 "TheatreWallModel" "now" "[I") ∈ wsX4_freed := (List.mem_cons_of_mem _ (List.mem_append_left _ (List.mem_append_left _ (List.mem_of_getElem? (i := 0) rfl))))
set_option maxRecDepth 20000 in
theorem qX4_freed_1 : (Cond.fieldLink RX4 13 "TheatreWallModel" "then" "[I") ∈ wsX4_freed := (List.mem_cons_of_mem _ (List.mem_append_left _ (List.mem_append_left _ (List.mem_of_getElem? (i := 1) rfl))))
set_option maxRecDepth 20000 in
theorem qX4_freed_2 : (Cond.fieldLink RX4 28 "TheatreWallModel" "tried" "[I") ∈ wsX4_freed := (List.mem_cons_of_mem _ (List.mem_append_left _ (List.mem_append_left _ (List.mem_of_getElem? (i := 2) rfl))))
set_option maxRecDepth 20000 in
theorem iX4_freed_X4 : ∀ w ∈ u_ws RX4 TX4 13, w ∈ wsX4_freed := fun w h => (List.mem_cons_of_mem _ (List.mem_append_right _ h))
set_option maxHeartbeats 4000000 in
set_option maxRecDepth 100000 in
theorem mX4_freed (l : Launch) (G : va_G) (cI : ClassId) (ma : Nat → Nat) (M : tw_Md) (sz : Nat) (p1 : Int32) {rv : Int32 × tw_Md} (h : fX4_freed M p1 = some rv) : tw_Mi l yX4_freed wsX4_freed rmX4_freed G [(cI, .int)] (tw_wM cI ma M) [.ref (ma 0), .int p1] sz rv.1 (tw_wM cI ma rv.2) := by
  refine tw_ofi (ty := .int) (cc := cX4_freed) (maxL := 4) (own := RX4) (by decide) rfl rfl (Nat.le_of_ble_eq_true rfl) ?_
  intro p e s m args below meth c Q A ls H locs F hN hK hP hD hS hA hl hq
  obtain ⟨hx, hb, hml, hown, hts⟩ := id F
  have hl : lv_has ls 4 [(0, .ref (ma 0)), (1, .int p1)] := hl
  unfold fX4_freed at h
  have L6 : ∀ (n6 : Nat) (v2 : Int32) (M : tw_Md) (H : Heap) (locs : List Loc) (ls : Array Slot), fX4_freed_6 p1 n6 v2 M = some rv → lv_has ls 4 [(0, .ref (ma 0)), (1, .int p1), (2, .int v2)] → va_P G vwCl (tw_wM cI ma M) H → va_D A (tw_wM cI ma M) → va_S A s.heap H locs → W p l e rmX4_freed s m args below meth c H locs 0 0 Q (F0 m 6 ls []) := by
    intro n6
    induction n6 with
    | zero =>
      intro v2 M H locs ls h
      rw [fX4_freed_6] at h
      cases h
    | succ n6 ih6 =>
      intro v2 M H locs ls h hl hP hD hS
      rw [fX4_freed_6] at h
      refine lv_iload_n hx hb dX4_freed_6 rfl (lv_at hl 2 rfl) ?_
      refine lv_aload_n hx hb dX4_freed_7 rfl (lv_at hl 0 rfl) ?_
      refine va_get (D := G) (ci := 4) (v := .ref (ma 1)) (C := RX4) (T := TX4) (N := 13) hx hb hts iX4_freed_X4 hown hK hP 0 rfl rfl 0 (by decide) (hts _ qX4_freed_0) (fun _ h9 => h9) rfl dX4_freed_8 ?_
      refine lv_iconst (v := (0 : Int32)) hx hb dX4_freed_11 (by decide) ?_
      refine va_iald (f := M.1) (n := 70) hx hb hK hP 1 0 rfl rfl (tw_vin (by decide)) dX4_freed_12 ?_
      refine lv_icmp_ge (tgt := 57) hx hb dX4_freed_13 (by decide) (fun c13 => ?_) (fun c13 => ?_)
      · replace h := tw_t c13 h
        refine lv_aload_n hx hb dX4_freed_57 rfl (lv_at hl 0 rfl) ?_
        refine va_get (D := G) (ci := 4) (v := .ref (ma 2)) (C := RX4) (T := TX4) (N := 13) hx hb hts iX4_freed_X4 hown hK hP 0 rfl rfl 1 (by decide) (hts _ qX4_freed_1) (fun _ h9 => h9) rfl dX4_freed_58 ?_
        refine lv_aload_n hx hb dX4_freed_61 rfl (lv_at hl 0 rfl) ?_
        refine va_get (D := G) (ci := 4) (v := .ref (ma 7)) (C := RX4) (T := TX4) (N := 13) hx hb hts iX4_freed_X4 hown hK hP 0 rfl rfl 12 (by decide) (hts _ qX4_freed_2) (fun _ h9 => h9) rfl dX4_freed_62 ?_
        obtain ⟨r65, e65, h⟩ := tw_bs h
        refine tw_callSv (ws' := (tw_wM cI ma (M.1, M.2.1, M.2.2.1, M.2.2.2.1, M.2.2.2.2.1, M.2.2.2.2.2.1, M.2.2.2.2.2.2.1, M.2.2.2.2.2.2.2.1, M.2.2.2.2.2.2.2.2.1, M.2.2.2.2.2.2.2.2.2.1, M.2.2.2.2.2.2.2.2.2.2.1, M.2.2.2.2.2.2.2.2.2.2.2.1, r65))) (As := [.ref (ma 2), .ref (ma 7)]) (rest := []) F hN hK hP hD hS hA (mX4_lays l G cI (ma 2) (ma 7) M.2.1 M.2.2.2.2.2.2.2.2.2.2.2.2 H.size e65) (va_cwS 2 hts gX4_freed_X4_lays rfl rfl rfl (by decide +kernel) ⟨(Nat.le_of_ble_eq_true rfl), (Nat.le_of_ble_eq_true rfl)⟩) [0] rfl [2, 7] (by decide) rfl rfl rfl rfl hl.1 rfl (Nat.le_of_ble_eq_true rfl) dX4_freed_65 ⟨Nat.zero_le _, Nat.zero_le _⟩ (fun H locs hP hD hS => ?_)
        refine lv_aload_n hx hb dX4_freed_68 rfl (lv_at hl 0 rfl) ?_
        refine va_get (D := G) (ci := 4) (v := .ref (ma 2)) (C := RX4) (T := TX4) (N := 13) hx hb hts iX4_freed_X4 hown hK hP 0 rfl rfl 1 (by decide) (hts _ qX4_freed_1) (fun _ h9 => h9) rfl dX4_freed_69 ?_
        refine lv_aload_n hx hb dX4_freed_72 rfl (lv_at hl 0 rfl) ?_
        refine va_get (D := G) (ci := 4) (v := .ref (ma 7)) (C := RX4) (T := TX4) (N := 13) hx hb hts iX4_freed_X4 hown hK hP 0 rfl rfl 12 (by decide) (hts _ qX4_freed_2) (fun _ h9 => h9) rfl dX4_freed_73 ?_
        obtain ⟨r76, e76, h⟩ := tw_bs h
        refine tw_callSi (ws' := (tw_wM cI ma (M.1, M.2.1, M.2.2.1, M.2.2.2.1, M.2.2.2.2.1, M.2.2.2.2.2.1, M.2.2.2.2.2.2.1, M.2.2.2.2.2.2.2.1, M.2.2.2.2.2.2.2.2.1, M.2.2.2.2.2.2.2.2.2.1, M.2.2.2.2.2.2.2.2.2.2.1, M.2.2.2.2.2.2.2.2.2.2.2.1, r65))) (As := [.ref (ma 2), .ref (ma 7)]) (rest := []) F hN hK hP hD hS hA (mX4_end l G cI (ma 2) (ma 7) M.2.1 r65 H.size e76) (va_cwS 2 hts gX4_freed_X4_end rfl rfl rfl (by decide +kernel) ⟨(Nat.le_of_ble_eq_true rfl), (Nat.le_of_ble_eq_true rfl)⟩) [0] rfl [2, 7] (by decide) rfl rfl rfl rfl hl.1 rfl (Nat.le_of_ble_eq_true rfl) dX4_freed_76 ⟨Nat.zero_le _, Nat.zero_le _⟩ (fun H locs hP hD hS => ?_)
        exact hq H locs _ ls r76 (tw_rt (fun r => r.1 = r76) h rfl) rfl (tw_rt (fun r => va_P G vwCl (tw_wM cI ma r.2) H) h hP) hS dX4_freed_79
      · replace h := tw_f c13 h
        refine lv_bipush (v := (10 : Int32)) hx hb dX4_freed_16 (by decide) ?_
        refine lv_iconst (v := (5 : Int32)) hx hb dX4_freed_18 (by decide) ?_
        refine lv_iload_n hx hb dX4_freed_19 rfl (lv_at hl 2 rfl) ?_
        refine lv_imul hx hb dX4_freed_20 ?_
        refine lv_iadd hx hb dX4_freed_21 ?_
        refine lv_iconst (v := (1 : Int32)) hx hb dX4_freed_22 (by decide) ?_
        refine lv_iadd hx hb dX4_freed_23 ?_
        refine lv_istore_n (lv' := [(3, .int (((10 : Int32) + ((5 : Int32) * v2)) + (1 : Int32))), (0, .ref (ma 0)), (1, .int p1), (2, .int v2)]) hx hb dX4_freed_24 rfl hl (by decide) rfl (fun ls hl => ?_)
        refine lv_aload_n hx hb dX4_freed_25 rfl (lv_at hl 1 rfl) ?_
        refine va_get (D := G) (ci := 4) (v := .ref (ma 2)) (C := RX4) (T := TX4) (N := 13) hx hb hts iX4_freed_X4 hown hK hP 0 rfl rfl 1 (by decide) (hts _ qX4_freed_1) (fun _ h9 => h9) rfl dX4_freed_26 ?_
        refine lv_iload_n hx hb dX4_freed_29 rfl (lv_at hl 0 rfl) ?_
        refine lv_aload_n hx hb dX4_freed_30 rfl (lv_at hl 1 rfl) ?_
        refine va_get (D := G) (ci := 4) (v := .ref (ma 2)) (C := RX4) (T := TX4) (N := 13) hx hb hts iX4_freed_X4 hown hK hP 0 rfl rfl 1 (by decide) (hts _ qX4_freed_1) (fun _ h9 => h9) rfl dX4_freed_31 ?_
        refine lv_iload_n hx hb dX4_freed_34 rfl (lv_at hl 0 rfl) ?_
        obtain ⟨g35, h⟩ := tw_gs h
        refine va_iald (f := M.2.1) (n := 70) hx hb hK hP 2 0 rfl rfl g35 dX4_freed_35 ?_
        refine lv_iload_n hx hb dX4_freed_36 rfl (lv_at hl 2 rfl) ?_
        refine lv_icmp_ne (tgt := 44) hx hb dX4_freed_37 (by decide) (fun c37 => ?_) (fun c37 => ?_)
        · replace h := tw_t c37 h
          refine lv_aload_n hx hb dX4_freed_44 rfl (lv_at hl 1 rfl) ?_
          refine va_get (D := G) (ci := 4) (v := .ref (ma 2)) (C := RX4) (T := TX4) (N := 13) hx hb hts iX4_freed_X4 hown hK hP 0 rfl rfl 1 (by decide) (hts _ qX4_freed_1) (fun _ h9 => h9) rfl dX4_freed_45 ?_
          refine lv_iload_n hx hb dX4_freed_48 rfl (lv_at hl 0 rfl) ?_
          obtain ⟨g49, h⟩ := tw_gs h
          refine va_iald (f := M.2.1) (n := 70) hx hb hK hP 2 0 rfl rfl g49 dX4_freed_49 ?_
          obtain ⟨g50, h⟩ := tw_gs h
          refine tw_iast (ws' := (tw_wM cI ma (M.1, (upd M.2.1 (((10 : Int32) + ((5 : Int32) * v2)) + (1 : Int32)).toNatClampNeg (M.2.1 (((10 : Int32) + ((5 : Int32) * v2)) + (1 : Int32)).toNatClampNeg)), M.2.2.1, M.2.2.2.1, M.2.2.2.2.1, M.2.2.2.2.2.1, M.2.2.2.2.2.2.1, M.2.2.2.2.2.2.2.1, M.2.2.2.2.2.2.2.2.1, M.2.2.2.2.2.2.2.2.2.1, M.2.2.2.2.2.2.2.2.2.2.1, M.2.2.2.2.2.2.2.2.2.2.2.1, M.2.2.2.2.2.2.2.2.2.2.2.2))) (f := M.2.1) (n := 70) hx hb hK hP hD hS 2 0 rfl rfl g50 dX4_freed_50 rfl (fun H locs hP hD hS => ?_)
          refine lv_iinc (v := (v2 + 1)) (lv' := [(2, .int (v2 + 1)), (3, .int (((10 : Int32) + ((5 : Int32) * v2)) + (1 : Int32))), (0, .ref (ma 0)), (1, .int p1)]) hx hb dX4_freed_51 hl (k := 3) rfl rfl (by decide) rfl (fun ls hl => ?_)
          refine lv_goto (tgt := 6) hx hb dX4_freed_54 (by decide) ?_
          exact ih6 (v2 + 1) (M.1, (upd M.2.1 (((10 : Int32) + ((5 : Int32) * v2)) + (1 : Int32)).toNatClampNeg (M.2.1 (((10 : Int32) + ((5 : Int32) * v2)) + (1 : Int32)).toNatClampNeg)), M.2.2.1, M.2.2.2.1, M.2.2.2.2.1, M.2.2.2.2.2.1, M.2.2.2.2.2.2.1, M.2.2.2.2.2.2.2.1, M.2.2.2.2.2.2.2.2.1, M.2.2.2.2.2.2.2.2.2.1, M.2.2.2.2.2.2.2.2.2.2.1, M.2.2.2.2.2.2.2.2.2.2.2.1, M.2.2.2.2.2.2.2.2.2.2.2.2) H locs ls h (lv_sub hl [2, 3, 0] rfl) hP hD hS
        · replace h := tw_fn c37 h
          refine lv_iconst (v := (-1 : Int32)) hx hb dX4_freed_40 (by decide) ?_
          refine lv_goto (tgt := 50) hx hb dX4_freed_41 (by decide) ?_
          obtain ⟨g50, h⟩ := tw_gs h
          refine tw_iast (ws' := (tw_wM cI ma (M.1, (upd M.2.1 (((10 : Int32) + ((5 : Int32) * v2)) + (1 : Int32)).toNatClampNeg (-1 : Int32)), M.2.2.1, M.2.2.2.1, M.2.2.2.2.1, M.2.2.2.2.2.1, M.2.2.2.2.2.2.1, M.2.2.2.2.2.2.2.1, M.2.2.2.2.2.2.2.2.1, M.2.2.2.2.2.2.2.2.2.1, M.2.2.2.2.2.2.2.2.2.2.1, M.2.2.2.2.2.2.2.2.2.2.2.1, M.2.2.2.2.2.2.2.2.2.2.2.2))) (f := M.2.1) (n := 70) hx hb hK hP hD hS 2 0 rfl rfl g50 dX4_freed_50 rfl (fun H locs hP hD hS => ?_)
          refine lv_iinc (v := (v2 + 1)) (lv' := [(2, .int (v2 + 1)), (3, .int (((10 : Int32) + ((5 : Int32) * v2)) + (1 : Int32))), (0, .ref (ma 0)), (1, .int p1)]) hx hb dX4_freed_51 hl (k := 3) rfl rfl (by decide) rfl (fun ls hl => ?_)
          refine lv_goto (tgt := 6) hx hb dX4_freed_54 (by decide) ?_
          exact ih6 (v2 + 1) (M.1, (upd M.2.1 (((10 : Int32) + ((5 : Int32) * v2)) + (1 : Int32)).toNatClampNeg (-1 : Int32)), M.2.2.1, M.2.2.2.1, M.2.2.2.2.1, M.2.2.2.2.2.1, M.2.2.2.2.2.2.1, M.2.2.2.2.2.2.2.1, M.2.2.2.2.2.2.2.2.1, M.2.2.2.2.2.2.2.2.2.1, M.2.2.2.2.2.2.2.2.2.2.1, M.2.2.2.2.2.2.2.2.2.2.2.1, M.2.2.2.2.2.2.2.2.2.2.2.2) H locs ls h (lv_sub hl [2, 3, 0] rfl) hP hD hS
  refine lv_aload_n hx hb dX4_freed_0 rfl (lv_at hl 0 rfl) ?_
  obtain ⟨r1, e1, h⟩ := tw_bs h
  refine tw_callVvF (ws' := (tw_wM cI ma r1)) (As := []) (rest := []) F hN hK hP hD hS hA (mX4_tries l G cI ma M H.size e1) (cwV 0 hts gX4_freed_X4_tries rfl rfl rfl (by decide +kernel) ⟨(Nat.le_of_ble_eq_true rfl), (Nat.le_of_ble_eq_true rfl)⟩) rfl (r0 := 0) (ci := 4) rfl rfl rfl rfl hl.1 rfl (Nat.le_of_ble_eq_true rfl) dX4_freed_1 ⟨Nat.zero_le _, Nat.zero_le _⟩ (fun H locs hP hD hS => ?_)
  refine lv_iconst (v := (0 : Int32)) hx hb dX4_freed_4 (by decide) ?_
  refine lv_istore_n (lv' := [(2, .int (0 : Int32)), (0, .ref (ma 0)), (1, .int p1)]) hx hb dX4_freed_5 rfl hl (by decide) rfl (fun ls hl => ?_)
  exact L6 512 (0 : Int32) r1 H locs ls h (lv_sub hl [1, 2, 0] rfl) hP hD hS
abbrev rmX4_ifFreed : Room := { frames := 5, cells := 0, slots := 0, locals := 122 }
set_option maxRecDepth 20000 in
theorem qX4_ifFreed_0 : (Cond.fieldLink RX4 31 "TheatreWallModel" "thrown" "I") ∈ wsX4_ifFreed := (List.mem_cons_of_mem _ (List.mem_append_left _ (List.mem_append_left _ (List.mem_of_getElem? (i := 0) rfl))))
set_option maxRecDepth 20000 in
theorem iX4_ifFreed_X4 : ∀ w ∈ u_ws RX4 TX4 13, w ∈ wsX4_ifFreed := fun w h => (List.mem_cons_of_mem _ (List.mem_append_right _ h))
set_option maxHeartbeats 4000000 in
set_option maxRecDepth 100000 in
theorem mX4_ifFreed (l : Launch) (G : va_G) (cI : ClassId) (ma : Nat → Nat) (M : tw_Md) (sz : Nat) (p1 : Int32) {rv : Int32 × tw_Md} (h : fX4_ifFreed M p1 = some rv) : tw_Mi l yX4_ifFreed wsX4_ifFreed rmX4_ifFreed G [(cI, .int)] (tw_wM cI ma M) [.ref (ma 0), .int p1] sz rv.1 (tw_wM cI ma rv.2) := by
  refine tw_ofi (ty := .int) (cc := cX4_ifFreed) (maxL := 2) (own := RX4) (by decide) rfl rfl (Nat.le_of_ble_eq_true rfl) ?_
  intro p e s m args below meth c Q A ls H locs F hN hK hP hD hS hA hl hq
  obtain ⟨hx, hb, hml, hown, hts⟩ := id F
  have hl : lv_has ls 2 [(0, .ref (ma 0)), (1, .int p1)] := hl
  unfold fX4_ifFreed at h
  refine lv_aload_n hx hb dX4_ifFreed_0 rfl (lv_at hl 0 rfl) ?_
  refine lv_iconst (v := (0 : Int32)) hx hb dX4_ifFreed_1 (by decide) ?_
  refine tw_put (ws' := (tw_wM cI ma (M.1, M.2.1, M.2.2.1, M.2.2.2.1, M.2.2.2.2.1, M.2.2.2.2.2.1, (0 : Int32), M.2.2.2.2.2.2.2.1, M.2.2.2.2.2.2.2.2.1, M.2.2.2.2.2.2.2.2.2.1, M.2.2.2.2.2.2.2.2.2.2.1, M.2.2.2.2.2.2.2.2.2.2.2.1, M.2.2.2.2.2.2.2.2.2.2.2.2))) (D := G) (ci := 4) (v := .int (0 : Int32)) (ty := .int) (C := RX4) (T := TX4) (N := 13) hx hb hts iX4_ifFreed_X4 tyX4 tyX4_ok nmX4 hown hK hP hD hS 0 rfl rfl 6 (by decide) (hts _ qX4_ifFreed_0) (fun _ h9 => h9) rfl (by decide +kernel) rfl rfl (Nat.le_of_ble_eq_true rfl) dX4_ifFreed_2 rfl (fun H locs hP hD hS => ?_)
  refine lv_iload_n hx hb dX4_ifFreed_5 rfl (lv_at hl 1 rfl) ?_
  obtain ⟨r6, e6, h⟩ := tw_bs h
  refine tw_callSi (ws' := (tw_wM cI ma (M.1, M.2.1, M.2.2.1, M.2.2.2.1, M.2.2.2.2.1, M.2.2.2.2.2.1, (0 : Int32), M.2.2.2.2.2.2.2.1, M.2.2.2.2.2.2.2.2.1, M.2.2.2.2.2.2.2.2.2.1, M.2.2.2.2.2.2.2.2.2.2.1, M.2.2.2.2.2.2.2.2.2.2.2.1, M.2.2.2.2.2.2.2.2.2.2.2.2))) (As := [.int p1]) (rest := []) F hN hK hP hD hS hA (mX4_isPerson l G cI H.size p1 e6) (va_cwS 1 hts gX4_ifFreed_X4_isPerson rfl rfl rfl (by decide +kernel) ⟨(Nat.le_of_ble_eq_true rfl), (Nat.le_of_ble_eq_true rfl)⟩) [0] rfl [] (by decide) rfl rfl rfl rfl hl.1 rfl (Nat.le_of_ble_eq_true rfl) dX4_ifFreed_6 ⟨Nat.zero_le _, Nat.zero_le _⟩ (fun H locs hP hD hS => ?_)
  refine lv_if_eq (tgt := 20) hx hb dX4_ifFreed_9 (by decide) (fun c9 => ?_) (fun c9 => ?_)
  · replace h := tw_t c9 h
    refine lv_aload_n hx hb dX4_ifFreed_20 rfl (lv_at hl 0 rfl) ?_
    refine lv_iconst (v := (1 : Int32)) hx hb dX4_ifFreed_21 (by decide) ?_
    obtain ⟨r22, e22, h⟩ := tw_bs h
    refine tw_callViF (ws' := (tw_wM cI ma r22.2)) (As := [.int (1 : Int32)]) (rest := []) F hN hK hP hD hS hA (mX4_fails l G cI ma (M.1, M.2.1, M.2.2.1, M.2.2.2.1, M.2.2.2.2.1, M.2.2.2.2.2.1, (0 : Int32), M.2.2.2.2.2.2.2.1, M.2.2.2.2.2.2.2.2.1, M.2.2.2.2.2.2.2.2.2.1, M.2.2.2.2.2.2.2.2.2.2.1, M.2.2.2.2.2.2.2.2.2.2.2.1, M.2.2.2.2.2.2.2.2.2.2.2.2) H.size (1 : Int32) e22) (cwV 1 hts gX4_ifFreed_X4_fails rfl rfl rfl (by decide +kernel) ⟨(Nat.le_of_ble_eq_true rfl), (Nat.le_of_ble_eq_true rfl)⟩) rfl (r0 := 0) (ci := 4) rfl rfl rfl rfl hl.1 rfl (Nat.le_of_ble_eq_true rfl) dX4_ifFreed_22 ⟨Nat.zero_le _, Nat.zero_le _⟩ (fun H locs hP hD hS => ?_)
    exact hq H locs _ ls r22.1 (tw_rt (fun r => r.1 = r22.1) h rfl) rfl (tw_rt (fun r => va_P G vwCl (tw_wM cI ma r.2) H) h hP) hS dX4_ifFreed_25
  · replace h := tw_f c9 h
    refine lv_aload_n hx hb dX4_ifFreed_12 rfl (lv_at hl 0 rfl) ?_
    refine lv_iload_n hx hb dX4_ifFreed_13 rfl (lv_at hl 1 rfl) ?_
    obtain ⟨r14, e14, h⟩ := tw_bs h
    refine tw_callViF (ws' := (tw_wM cI ma r14.2)) (As := [.int p1]) (rest := []) F hN hK hP hD hS hA (mX4_freed l G cI ma (M.1, M.2.1, M.2.2.1, M.2.2.2.1, M.2.2.2.2.1, M.2.2.2.2.2.1, (0 : Int32), M.2.2.2.2.2.2.2.1, M.2.2.2.2.2.2.2.2.1, M.2.2.2.2.2.2.2.2.2.1, M.2.2.2.2.2.2.2.2.2.2.1, M.2.2.2.2.2.2.2.2.2.2.2.1, M.2.2.2.2.2.2.2.2.2.2.2.2) H.size p1 e14) (cwV 1 hts gX4_ifFreed_X4_freed rfl rfl rfl (by decide +kernel) ⟨(Nat.le_of_ble_eq_true rfl), (Nat.le_of_ble_eq_true rfl)⟩) rfl (r0 := 0) (ci := 4) rfl rfl rfl rfl hl.1 rfl (Nat.le_of_ble_eq_true rfl) dX4_ifFreed_14 ⟨Nat.zero_le _, Nat.zero_le _⟩ (fun H locs hP hD hS => ?_)
    refine lv_goto (tgt := 25) hx hb dX4_ifFreed_17 (by decide) ?_
    exact hq H locs _ ls r14.1 (tw_rt (fun r => r.1 = r14.1) h rfl) rfl (tw_rt (fun r => va_P G vwCl (tw_wM cI ma r.2) H) h hP) hS dX4_ifFreed_25
abbrev rmX4_worst : Room := { frames := 5, cells := 0, slots := 0, locals := 121 }
set_option maxRecDepth 20000 in
theorem qX4_worst_0 : (Cond.fieldLink RX4 7 "TheatreWallModel" "now" "[I") ∈ wsX4_worst := (List.mem_cons_of_mem _ (List.mem_append_left _ (List.mem_append_left _ (List.mem_of_getElem? (i := 0) rfl))))
set_option maxRecDepth 20000 in
theorem qX4_worst_1 : (Cond.fieldLink RX4 25 "TheatreWallModel" "plan" "[I") ∈ wsX4_worst := (List.mem_cons_of_mem _ (List.mem_append_left _ (List.mem_append_left _ (List.mem_of_getElem? (i := 1) rfl))))
set_option maxRecDepth 20000 in
theorem qX4_worst_2 : (Cond.fieldLink RX4 13 "TheatreWallModel" "then" "[I") ∈ wsX4_worst := (List.mem_cons_of_mem _ (List.mem_append_left _ (List.mem_append_left _ (List.mem_of_getElem? (i := 2) rfl))))
set_option maxRecDepth 20000 in
theorem qX4_worst_3 : (Cond.fieldLink RX4 28 "TheatreWallModel" "tried" "[I") ∈ wsX4_worst := (List.mem_cons_of_mem _ (List.mem_append_left _ (List.mem_append_left _ (List.mem_of_getElem? (i := 3) rfl))))
set_option maxRecDepth 20000 in
theorem iX4_worst_X4 : ∀ w ∈ u_ws RX4 TX4 13, w ∈ wsX4_worst := fun w h => (List.mem_cons_of_mem _ (List.mem_append_right _ h))
set_option maxHeartbeats 4000000 in
set_option maxRecDepth 100000 in
theorem mX4_worst (l : Launch) (G : va_G) (cI : ClassId) (ma : Nat → Nat) (M : tw_Md) (sz : Nat) (p1 : Int32) {rv : Int32 × tw_Md} (h : fX4_worst M p1 = some rv) : tw_Mi l yX4_worst wsX4_worst rmX4_worst G [(cI, .int)] (tw_wM cI ma M) [.ref (ma 0), .int p1] sz rv.1 (tw_wM cI ma rv.2) := by
  refine tw_ofi (ty := .int) (cc := cX4_worst) (maxL := 6) (own := RX4) (by decide) rfl rfl (Nat.le_of_ble_eq_true rfl) ?_
  intro p e s m args below meth c Q A ls H locs F hN hK hP hD hS hA hl hq
  obtain ⟨hx, hb, hml, hown, hts⟩ := id F
  have hl : lv_has ls 6 [(0, .ref (ma 0)), (1, .int p1)] := hl
  unfold fX4_worst at h
  have L11 : ∀ (n11 : Nat) (v2 : Int32) (v3 : Int32) (v4 : Int32) (M : tw_Md) (H : Heap) (locs : List Loc) (ls : Array Slot), fX4_worst_11 p1 n11 v2 v3 v4 M = some rv → lv_has ls 6 [(0, .ref (ma 0)), (1, .int p1), (2, .int v2), (3, .int v3), (4, .int v4)] → va_P G vwCl (tw_wM cI ma M) H → va_D A (tw_wM cI ma M) → va_S A s.heap H locs → W p l e rmX4_worst s m args below meth c H locs 0 0 Q (F0 m 11 ls []) := by
    intro n11
    induction n11 with
    | zero =>
      intro v2 v3 v4 M H locs ls h
      rw [fX4_worst_11] at h
      cases h
    | succ n11 ih11 =>
      intro v2 v3 v4 M H locs ls h hl hP hD hS
      rw [fX4_worst_11] at h
      have L87 : ∀ (t0 : Int32) (v3 : Int32) (v4 : Int32) (v5 : Int32) (M : tw_Md) (H : Heap) (locs : List Loc) (ls : Array Slot), fX4_worst_87 p1 (fX4_worst_11 p1 n11) t0 v3 v4 v5 M = some rv → lv_has ls 6 [(0, .ref (ma 0)), (1, .int p1), (3, .int v3), (4, .int v4), (5, .int v5)] → va_P G vwCl (tw_wM cI ma M) H → va_D A (tw_wM cI ma M) → va_S A s.heap H locs → W p l e rmX4_worst s m args below meth c H locs 0 0 Q (F0 m 87 ls [.int t0]) := by
        intro t0 v3 v4 v5 M H locs ls h hl hP hD hS
        unfold fX4_worst_87 at h
        refine lv_istore_n (lv' := [(2, .int t0), (0, .ref (ma 0)), (1, .int p1), (3, .int v3), (4, .int v4), (5, .int v5)]) hx hb dX4_worst_87 rfl hl (by decide) rfl (fun ls hl => ?_)
        refine lv_iload hx hb dX4_worst_88 (lv_at hl 5 rfl) ?_
        refine lv_iload_n hx hb dX4_worst_90 rfl (lv_at hl 3 rfl) ?_
        refine lv_icmp_le (tgt := 99) hx hb dX4_worst_91 (by decide) (fun c91 => ?_) (fun c91 => ?_)
        · replace h := tw_t c91 h
          refine lv_iload_n hx hb dX4_worst_99 rfl (lv_at hl 3 rfl) ?_
          refine lv_istore_n (lv' := [(3, .int v3), (2, .int t0), (0, .ref (ma 0)), (1, .int p1), (4, .int v4), (5, .int v5)]) hx hb dX4_worst_100 rfl hl (by decide) rfl (fun ls hl => ?_)
          refine lv_iinc (v := (v4 + 1)) (lv' := [(4, .int (v4 + 1)), (3, .int v3), (2, .int t0), (0, .ref (ma 0)), (1, .int p1), (5, .int v5)]) hx hb dX4_worst_101 hl (k := 4) rfl rfl (by decide) rfl (fun ls hl => ?_)
          refine lv_goto (tgt := 11) hx hb dX4_worst_104 (by decide) ?_
          exact ih11 t0 v3 (v4 + 1) M H locs ls h (lv_sub hl [3, 4, 2, 1, 0] rfl) hP hD hS
        · replace h := tw_f c91 h
          refine lv_iload hx hb dX4_worst_94 (lv_at hl 5 rfl) ?_
          refine lv_goto (tgt := 100) hx hb dX4_worst_96 (by decide) ?_
          refine lv_istore_n (lv' := [(3, .int v5), (2, .int t0), (0, .ref (ma 0)), (1, .int p1), (4, .int v4), (5, .int v5)]) hx hb dX4_worst_100 rfl hl (by decide) rfl (fun ls hl => ?_)
          refine lv_iinc (v := (v4 + 1)) (lv' := [(4, .int (v4 + 1)), (3, .int v5), (2, .int t0), (0, .ref (ma 0)), (1, .int p1), (5, .int v5)]) hx hb dX4_worst_101 hl (k := 4) rfl rfl (by decide) rfl (fun ls hl => ?_)
          refine lv_goto (tgt := 11) hx hb dX4_worst_104 (by decide) ?_
          exact ih11 t0 v5 (v4 + 1) M H locs ls h (lv_sub hl [3, 4, 2, 1, 0] rfl) hP hD hS
      refine lv_iload hx hb dX4_worst_11 (lv_at hl 4 rfl) ?_
      refine lv_aload_n hx hb dX4_worst_13 rfl (lv_at hl 0 rfl) ?_
      refine va_get (D := G) (ci := 4) (v := .ref (ma 1)) (C := RX4) (T := TX4) (N := 13) hx hb hts iX4_worst_X4 hown hK hP 0 rfl rfl 0 (by decide) (hts _ qX4_worst_0) (fun _ h9 => h9) rfl dX4_worst_14 ?_
      refine lv_iconst (v := (0 : Int32)) hx hb dX4_worst_17 (by decide) ?_
      refine va_iald (f := M.1) (n := 70) hx hb hK hP 1 0 rfl rfl (tw_vin (by decide)) dX4_worst_18 ?_
      refine lv_icmp_ge (tgt := 107) hx hb dX4_worst_19 (by decide) (fun c19 => ?_) (fun c19 => ?_)
      · replace h := tw_t c19 h
        refine lv_iload_n hx hb dX4_worst_107 rfl (lv_at hl 2 rfl) ?_
        exact hq H locs _ ls v2 (tw_rt (fun r => r.1 = v2) h rfl) rfl (tw_rt (fun r => va_P G vwCl (tw_wM cI ma r.2) H) h hP) hS dX4_worst_108
      · replace h := tw_f c19 h
        refine lv_aload_n hx hb dX4_worst_22 rfl (lv_at hl 0 rfl) ?_
        refine va_get (D := G) (ci := 4) (v := .ref (ma 6)) (C := RX4) (T := TX4) (N := 13) hx hb hts iX4_worst_X4 hown hK hP 0 rfl rfl 11 (by decide) (hts _ qX4_worst_1) (fun _ h9 => h9) rfl dX4_worst_23 ?_
        refine lv_iload hx hb dX4_worst_26 (lv_at hl 4 rfl) ?_
        obtain ⟨g28, h⟩ := tw_gs h
        refine va_iald (f := M.2.2.2.2.2.2.2.2.2.2.2.1) (n := 12) hx hb hK hP 6 0 rfl rfl g28 dX4_worst_28 ?_
        refine lv_iconst (v := (-1 : Int32)) hx hb dX4_worst_29 (by decide) ?_
        refine lv_icmp_eq (tgt := 101) hx hb dX4_worst_30 (by decide) (fun c30 => ?_) (fun c30 => ?_)
        · replace h := tw_t c30 h
          refine lv_iinc (v := (v4 + 1)) (lv' := [(4, .int (v4 + 1)), (0, .ref (ma 0)), (1, .int p1), (2, .int v2), (3, .int v3)]) hx hb dX4_worst_101 hl (k := 4) rfl rfl (by decide) rfl (fun ls hl => ?_)
          refine lv_goto (tgt := 11) hx hb dX4_worst_104 (by decide) ?_
          exact ih11 v2 v3 (v4 + 1) M H locs ls h (lv_sub hl [1, 2, 3, 4, 0] rfl) hP hD hS
        · replace h := tw_f c30 h
          refine lv_aload_n hx hb dX4_worst_33 rfl (lv_at hl 0 rfl) ?_
          refine va_get (D := G) (ci := 4) (v := .ref (ma 6)) (C := RX4) (T := TX4) (N := 13) hx hb hts iX4_worst_X4 hown hK hP 0 rfl rfl 11 (by decide) (hts _ qX4_worst_1) (fun _ h9 => h9) rfl dX4_worst_34 ?_
          refine lv_iload hx hb dX4_worst_37 (lv_at hl 4 rfl) ?_
          obtain ⟨g39, h⟩ := tw_gs h
          refine va_iald (f := M.2.2.2.2.2.2.2.2.2.2.2.1) (n := 12) hx hb hK hP 6 0 rfl rfl g39 dX4_worst_39 ?_
          refine lv_iload_n hx hb dX4_worst_40 rfl (lv_at hl 1 rfl) ?_
          refine lv_iadd hx hb dX4_worst_41 ?_
          refine lv_bipush (v := (60 : Int32)) hx hb dX4_worst_42 (by decide) ?_
          refine lv_icmp_gt (tgt := 101) hx hb dX4_worst_44 (by decide) (fun c44 => ?_) (fun c44 => ?_)
          · replace h := tw_t c44 h
            refine lv_iinc (v := (v4 + 1)) (lv' := [(4, .int (v4 + 1)), (0, .ref (ma 0)), (1, .int p1), (2, .int v2), (3, .int v3)]) hx hb dX4_worst_101 hl (k := 4) rfl rfl (by decide) rfl (fun ls hl => ?_)
            refine lv_goto (tgt := 11) hx hb dX4_worst_104 (by decide) ?_
            exact ih11 v2 v3 (v4 + 1) M H locs ls h (lv_sub hl [1, 2, 3, 4, 0] rfl) hP hD hS
          · replace h := tw_f c44 h
            refine lv_aload_n hx hb dX4_worst_47 rfl (lv_at hl 0 rfl) ?_
            refine lv_iload hx hb dX4_worst_48 (lv_at hl 4 rfl) ?_
            refine lv_aload_n hx hb dX4_worst_50 rfl (lv_at hl 0 rfl) ?_
            refine va_get (D := G) (ci := 4) (v := .ref (ma 6)) (C := RX4) (T := TX4) (N := 13) hx hb hts iX4_worst_X4 hown hK hP 0 rfl rfl 11 (by decide) (hts _ qX4_worst_1) (fun _ h9 => h9) rfl dX4_worst_51 ?_
            refine lv_iload hx hb dX4_worst_54 (lv_at hl 4 rfl) ?_
            obtain ⟨g56, h⟩ := tw_gs h
            refine va_iald (f := M.2.2.2.2.2.2.2.2.2.2.2.1) (n := 12) hx hb hK hP 6 0 rfl rfl g56 dX4_worst_56 ?_
            refine lv_iload_n hx hb dX4_worst_57 rfl (lv_at hl 1 rfl) ?_
            refine lv_iadd hx hb dX4_worst_58 ?_
            obtain ⟨r59, e59, h⟩ := tw_bs h
            refine tw_callVvF (ws' := (tw_wM cI ma r59)) (As := [.int v4, .int ((M.2.2.2.2.2.2.2.2.2.2.2.1 v4.toNatClampNeg) + p1)]) (rest := []) F hN hK hP hD hS hA (mX4_triesFrom l G cI ma M H.size v4 ((M.2.2.2.2.2.2.2.2.2.2.2.1 v4.toNatClampNeg) + p1) e59) (cwV 2 hts gX4_worst_X4_triesFrom rfl rfl rfl (by decide +kernel) ⟨(Nat.le_of_ble_eq_true rfl), (Nat.le_of_ble_eq_true rfl)⟩) rfl (r0 := 0) (ci := 4) rfl rfl rfl rfl hl.1 rfl (Nat.le_of_ble_eq_true rfl) dX4_worst_59 ⟨Nat.zero_le _, Nat.zero_le _⟩ (fun H locs hP hD hS => ?_)
            refine lv_aload_n hx hb dX4_worst_62 rfl (lv_at hl 0 rfl) ?_
            refine va_get (D := G) (ci := 4) (v := .ref (ma 2)) (C := RX4) (T := TX4) (N := 13) hx hb hts iX4_worst_X4 hown hK hP 0 rfl rfl 1 (by decide) (hts _ qX4_worst_2) (fun _ h9 => h9) rfl dX4_worst_63 ?_
            refine lv_aload_n hx hb dX4_worst_66 rfl (lv_at hl 0 rfl) ?_
            refine va_get (D := G) (ci := 4) (v := .ref (ma 7)) (C := RX4) (T := TX4) (N := 13) hx hb hts iX4_worst_X4 hown hK hP 0 rfl rfl 12 (by decide) (hts _ qX4_worst_3) (fun _ h9 => h9) rfl dX4_worst_67 ?_
            obtain ⟨r70, e70, h⟩ := tw_bs h
            refine tw_callSi (ws' := (tw_wM cI ma r59)) (As := [.ref (ma 2), .ref (ma 7)]) (rest := []) F hN hK hP hD hS hA (mX4_end l G cI (ma 2) (ma 7) r59.2.1 r59.2.2.2.2.2.2.2.2.2.2.2.2 H.size e70) (va_cwS 2 hts gX4_worst_X4_end rfl rfl rfl (by decide +kernel) ⟨(Nat.le_of_ble_eq_true rfl), (Nat.le_of_ble_eq_true rfl)⟩) [0] rfl [2, 7] (by decide) rfl rfl rfl rfl hl.1 rfl (Nat.le_of_ble_eq_true rfl) dX4_worst_70 ⟨Nat.zero_le _, Nat.zero_le _⟩ (fun H locs hP hD hS => ?_)
            refine lv_istore (lv' := [(5, .int r70), (0, .ref (ma 0)), (1, .int p1), (2, .int v2), (3, .int v3), (4, .int v4)]) hx hb dX4_worst_73 hl (by decide) rfl (fun ls hl => ?_)
            refine lv_iload hx hb dX4_worst_75 (lv_at hl 0 rfl) ?_
            refine lv_iload_n hx hb dX4_worst_77 rfl (lv_at hl 4 rfl) ?_
            refine lv_icmp_le (tgt := 86) hx hb dX4_worst_78 (by decide) (fun c78 => ?_) (fun c78 => ?_)
            · replace h := tw_t c78 h
              refine lv_iload_n hx hb dX4_worst_86 rfl (lv_at hl 3 rfl) ?_
              exact L87 v2 v3 v4 r70 r59 H locs ls h (lv_sub hl [1, 2, 4, 5, 0] rfl) hP hD hS
            · replace h := tw_f c78 h
              refine lv_iload hx hb dX4_worst_81 (lv_at hl 5 rfl) ?_
              refine lv_goto (tgt := 87) hx hb dX4_worst_83 (by decide) ?_
              exact L87 v4 v3 v4 r70 r59 H locs ls h (lv_sub hl [1, 2, 4, 5, 0] rfl) hP hD hS
  refine lv_aload_n hx hb dX4_worst_0 rfl (lv_at hl 0 rfl) ?_
  obtain ⟨r1, e1, h⟩ := tw_bs h
  refine tw_callVvF (ws' := (tw_wM cI ma r1)) (As := []) (rest := []) F hN hK hP hD hS hA (mX4_plans l G cI ma M H.size e1) (cwV 0 hts gX4_worst_X4_plans rfl rfl rfl (by decide +kernel) ⟨(Nat.le_of_ble_eq_true rfl), (Nat.le_of_ble_eq_true rfl)⟩) rfl (r0 := 0) (ci := 4) rfl rfl rfl rfl hl.1 rfl (Nat.le_of_ble_eq_true rfl) dX4_worst_1 ⟨Nat.zero_le _, Nat.zero_le _⟩ (fun H locs hP hD hS => ?_)
  refine lv_iconst (v := (-1 : Int32)) hx hb dX4_worst_4 (by decide) ?_
  refine lv_istore_n (lv' := [(2, .int (-1 : Int32)), (0, .ref (ma 0)), (1, .int p1)]) hx hb dX4_worst_5 rfl hl (by decide) rfl (fun ls hl => ?_)
  refine lv_iconst (v := (-1 : Int32)) hx hb dX4_worst_6 (by decide) ?_
  refine lv_istore_n (lv' := [(3, .int (-1 : Int32)), (2, .int (-1 : Int32)), (0, .ref (ma 0)), (1, .int p1)]) hx hb dX4_worst_7 rfl hl (by decide) rfl (fun ls hl => ?_)
  refine lv_iconst (v := (0 : Int32)) hx hb dX4_worst_8 (by decide) ?_
  refine lv_istore (lv' := [(4, .int (0 : Int32)), (3, .int (-1 : Int32)), (2, .int (-1 : Int32)), (0, .ref (ma 0)), (1, .int p1)]) hx hb dX4_worst_9 hl (by decide) rfl (fun ls hl => ?_)
  exact L11 512 (-1 : Int32) (-1 : Int32) (0 : Int32) r1 H locs ls h (lv_sub hl [3, 4, 2, 1, 0] rfl) hP hD hS
abbrev rmX4_worstSlip : Room := { frames := 6, cells := 0, slots := 0, locals := 146 }
set_option maxRecDepth 20000 in
theorem qX4_worstSlip_0 : (Cond.fieldLink RX4 31 "TheatreWallModel" "thrown" "I") ∈ wsX4_worstSlip := (List.mem_cons_of_mem _ (List.mem_append_left _ (List.mem_append_left _ (List.mem_of_getElem? (i := 0) rfl))))
set_option maxRecDepth 20000 in
theorem iX4_worstSlip_X4 : ∀ w ∈ u_ws RX4 TX4 13, w ∈ wsX4_worstSlip := fun w h => (List.mem_cons_of_mem _ (List.mem_append_right _ h))
set_option maxHeartbeats 4000000 in
set_option maxRecDepth 100000 in
theorem mX4_worstSlip (l : Launch) (G : va_G) (cI : ClassId) (ma : Nat → Nat) (M : tw_Md) (sz : Nat) (p1 : Int32) {rv : Int32 × tw_Md} (h : fX4_worstSlip M p1 = some rv) : tw_Mi l yX4_worstSlip wsX4_worstSlip rmX4_worstSlip G [(cI, .int)] (tw_wM cI ma M) [.ref (ma 0), .int p1] sz rv.1 (tw_wM cI ma rv.2) := by
  refine tw_ofi (ty := .int) (cc := cX4_worstSlip) (maxL := 2) (own := RX4) (by decide) rfl rfl (Nat.le_of_ble_eq_true rfl) ?_
  intro p e s m args below meth c Q A ls H locs F hN hK hP hD hS hA hl hq
  obtain ⟨hx, hb, hml, hown, hts⟩ := id F
  have hl : lv_has ls 2 [(0, .ref (ma 0)), (1, .int p1)] := hl
  unfold fX4_worstSlip at h
  refine lv_aload_n hx hb dX4_worstSlip_0 rfl (lv_at hl 0 rfl) ?_
  refine lv_iconst (v := (0 : Int32)) hx hb dX4_worstSlip_1 (by decide) ?_
  refine tw_put (ws' := (tw_wM cI ma (M.1, M.2.1, M.2.2.1, M.2.2.2.1, M.2.2.2.2.1, M.2.2.2.2.2.1, (0 : Int32), M.2.2.2.2.2.2.2.1, M.2.2.2.2.2.2.2.2.1, M.2.2.2.2.2.2.2.2.2.1, M.2.2.2.2.2.2.2.2.2.2.1, M.2.2.2.2.2.2.2.2.2.2.2.1, M.2.2.2.2.2.2.2.2.2.2.2.2))) (D := G) (ci := 4) (v := .int (0 : Int32)) (ty := .int) (C := RX4) (T := TX4) (N := 13) hx hb hts iX4_worstSlip_X4 tyX4 tyX4_ok nmX4 hown hK hP hD hS 0 rfl rfl 6 (by decide) (hts _ qX4_worstSlip_0) (fun _ h9 => h9) rfl (by decide +kernel) rfl rfl (Nat.le_of_ble_eq_true rfl) dX4_worstSlip_2 rfl (fun H locs hP hD hS => ?_)
  refine lv_iload_n hx hb dX4_worstSlip_5 rfl (lv_at hl 1 rfl) ?_
  refine lv_iconst (v := (1 : Int32)) hx hb dX4_worstSlip_6 (by decide) ?_
  refine lv_bipush (v := (20 : Int32)) hx hb dX4_worstSlip_7 (by decide) ?_
  obtain ⟨r9, e9, h⟩ := tw_bs h
  refine tw_callSi (ws' := (tw_wM cI ma (M.1, M.2.1, M.2.2.1, M.2.2.2.1, M.2.2.2.2.1, M.2.2.2.2.2.1, (0 : Int32), M.2.2.2.2.2.2.2.1, M.2.2.2.2.2.2.2.2.1, M.2.2.2.2.2.2.2.2.2.1, M.2.2.2.2.2.2.2.2.2.2.1, M.2.2.2.2.2.2.2.2.2.2.2.1, M.2.2.2.2.2.2.2.2.2.2.2.2))) (As := [.int p1, .int (1 : Int32), .int (20 : Int32)]) (rest := []) F hN hK hP hD hS hA (mX4_in l G cI H.size p1 (1 : Int32) (20 : Int32) e9) (va_cwS 3 hts gX4_worstSlip_X4_in rfl rfl rfl (by decide +kernel) ⟨(Nat.le_of_ble_eq_true rfl), (Nat.le_of_ble_eq_true rfl)⟩) [0] rfl [] (by decide) rfl rfl rfl rfl hl.1 rfl (Nat.le_of_ble_eq_true rfl) dX4_worstSlip_9 ⟨Nat.zero_le _, Nat.zero_le _⟩ (fun H locs hP hD hS => ?_)
  refine lv_if_eq (tgt := 23) hx hb dX4_worstSlip_12 (by decide) (fun c12 => ?_) (fun c12 => ?_)
  · replace h := tw_t c12 h
    refine lv_aload_n hx hb dX4_worstSlip_23 rfl (lv_at hl 0 rfl) ?_
    refine lv_iconst (v := (1 : Int32)) hx hb dX4_worstSlip_24 (by decide) ?_
    obtain ⟨r25, e25, h⟩ := tw_bs h
    refine tw_callViF (ws' := (tw_wM cI ma r25.2)) (As := [.int (1 : Int32)]) (rest := []) F hN hK hP hD hS hA (mX4_fails l G cI ma (M.1, M.2.1, M.2.2.1, M.2.2.2.1, M.2.2.2.2.1, M.2.2.2.2.2.1, (0 : Int32), M.2.2.2.2.2.2.2.1, M.2.2.2.2.2.2.2.2.1, M.2.2.2.2.2.2.2.2.2.1, M.2.2.2.2.2.2.2.2.2.2.1, M.2.2.2.2.2.2.2.2.2.2.2.1, M.2.2.2.2.2.2.2.2.2.2.2.2) H.size (1 : Int32) e25) (cwV 1 hts gX4_worstSlip_X4_fails rfl rfl rfl (by decide +kernel) ⟨(Nat.le_of_ble_eq_true rfl), (Nat.le_of_ble_eq_true rfl)⟩) rfl (r0 := 0) (ci := 4) rfl rfl rfl rfl hl.1 rfl (Nat.le_of_ble_eq_true rfl) dX4_worstSlip_25 ⟨Nat.zero_le _, Nat.zero_le _⟩ (fun H locs hP hD hS => ?_)
    exact hq H locs _ ls r25.1 (tw_rt (fun r => r.1 = r25.1) h rfl) rfl (tw_rt (fun r => va_P G vwCl (tw_wM cI ma r.2) H) h hP) hS dX4_worstSlip_28
  · replace h := tw_f c12 h
    refine lv_aload_n hx hb dX4_worstSlip_15 rfl (lv_at hl 0 rfl) ?_
    refine lv_iload_n hx hb dX4_worstSlip_16 rfl (lv_at hl 1 rfl) ?_
    obtain ⟨r17, e17, h⟩ := tw_bs h
    refine tw_callViF (ws' := (tw_wM cI ma r17.2)) (As := [.int p1]) (rest := []) F hN hK hP hD hS hA (mX4_worst l G cI ma (M.1, M.2.1, M.2.2.1, M.2.2.2.1, M.2.2.2.2.1, M.2.2.2.2.2.1, (0 : Int32), M.2.2.2.2.2.2.2.1, M.2.2.2.2.2.2.2.2.1, M.2.2.2.2.2.2.2.2.2.1, M.2.2.2.2.2.2.2.2.2.2.1, M.2.2.2.2.2.2.2.2.2.2.2.1, M.2.2.2.2.2.2.2.2.2.2.2.2) H.size p1 e17) (cwV 1 hts gX4_worstSlip_X4_worst rfl rfl rfl (by decide +kernel) ⟨(Nat.le_of_ble_eq_true rfl), (Nat.le_of_ble_eq_true rfl)⟩) rfl (r0 := 0) (ci := 4) rfl rfl rfl rfl hl.1 rfl (Nat.le_of_ble_eq_true rfl) dX4_worstSlip_17 ⟨Nat.zero_le _, Nat.zero_le _⟩ (fun H locs hP hD hS => ?_)
    refine lv_goto (tgt := 28) hx hb dX4_worstSlip_20 (by decide) ?_
    exact hq H locs _ ls r17.1 (tw_rt (fun r => r.1 = r17.1) h rfl) rfl (tw_rt (fun r => va_P G vwCl (tw_wM cI ma r.2) H) h hP) hS dX4_worstSlip_28
abbrev rmX4_busy : Room := { frames := 5, cells := 0, slots := 0, locals := 119 }
set_option maxRecDepth 20000 in
theorem qX4_busy_0 : (Cond.fieldLink RX4 7 "TheatreWallModel" "now" "[I") ∈ wsX4_busy := (List.mem_cons_of_mem _ (List.mem_append_left _ (List.mem_append_left _ (List.mem_of_getElem? (i := 0) rfl))))
set_option maxRecDepth 20000 in
theorem qX4_busy_1 : (Cond.fieldLink RX4 25 "TheatreWallModel" "plan" "[I") ∈ wsX4_busy := (List.mem_cons_of_mem _ (List.mem_append_left _ (List.mem_append_left _ (List.mem_of_getElem? (i := 1) rfl))))
set_option maxRecDepth 20000 in
theorem iX4_busy_X4 : ∀ w ∈ u_ws RX4 TX4 13, w ∈ wsX4_busy := fun w h => (List.mem_cons_of_mem _ (List.mem_append_right _ h))
set_option maxHeartbeats 4000000 in
set_option maxRecDepth 100000 in
theorem mX4_busy (l : Launch) (G : va_G) (cI : ClassId) (ma : Nat → Nat) (M : tw_Md) (sz : Nat)  {rv : UInt64 × tw_Md} (h : fX4_busy M = some rv) : tw_Mu l yX4_busy wsX4_busy rmX4_busy G [(cI, .int)] (tw_wM cI ma M) [.ref (ma 0)] sz rv.1 (tw_wM cI ma rv.2) := by
  refine tw_ofd (cc := cX4_busy) (maxL := 2) (own := RX4) (by decide) rfl rfl (Nat.le_of_ble_eq_true rfl) ?_
  intro p e s m args below meth c Q A ls H locs F hN hK hP hD hS hA hl hq
  obtain ⟨hx, hb, hml, hown, hts⟩ := id F
  have hl : lv_has ls 2 [(0, .ref (ma 0))] := hl
  unfold fX4_busy at h
  refine lv_aload_n hx hb dX4_busy_0 rfl (lv_at hl 0 rfl) ?_
  obtain ⟨r1, e1, h⟩ := tw_bs h
  refine tw_callVvF (ws' := (tw_wM cI ma r1)) (As := []) (rest := []) F hN hK hP hD hS hA (mX4_plans l G cI ma M H.size e1) (cwV 0 hts gX4_busy_X4_plans rfl rfl rfl (by decide +kernel) ⟨(Nat.le_of_ble_eq_true rfl), (Nat.le_of_ble_eq_true rfl)⟩) rfl (r0 := 0) (ci := 4) rfl rfl rfl rfl hl.1 rfl (Nat.le_of_ble_eq_true rfl) dX4_busy_1 ⟨Nat.zero_le _, Nat.zero_le _⟩ (fun H locs hP hD hS => ?_)
  refine lv_aload_n hx hb dX4_busy_4 rfl (lv_at hl 0 rfl) ?_
  refine va_get (D := G) (ci := 4) (v := .ref (ma 1)) (C := RX4) (T := TX4) (N := 13) hx hb hts iX4_busy_X4 hown hK hP 0 rfl rfl 0 (by decide) (hts _ qX4_busy_0) (fun _ h9 => h9) rfl dX4_busy_5 ?_
  refine lv_aload_n hx hb dX4_busy_8 rfl (lv_at hl 0 rfl) ?_
  refine va_get (D := G) (ci := 4) (v := .ref (ma 6)) (C := RX4) (T := TX4) (N := 13) hx hb hts iX4_busy_X4 hown hK hP 0 rfl rfl 11 (by decide) (hts _ qX4_busy_1) (fun _ h9 => h9) rfl dX4_busy_9 ?_
  obtain ⟨r12, e12, h⟩ := tw_bs h
  refine tw_callSi (ws' := (tw_wM cI ma r1)) (As := [.ref (ma 1), .ref (ma 6)]) (rest := []) F hN hK hP hD hS hA (mX4_end l G cI (ma 1) (ma 6) r1.1 r1.2.2.2.2.2.2.2.2.2.2.2.1 H.size e12) (va_cwS 2 hts gX4_busy_X4_end rfl rfl rfl (by decide +kernel) ⟨(Nat.le_of_ble_eq_true rfl), (Nat.le_of_ble_eq_true rfl)⟩) [0] rfl [1, 6] (by decide) rfl rfl rfl rfl hl.1 rfl (Nat.le_of_ble_eq_true rfl) dX4_busy_12 ⟨Nat.zero_le _, Nat.zero_le _⟩ (fun H locs hP hD hS => ?_)
  refine lv_istore_n (lv' := [(1, .int r12), (0, .ref (ma 0))]) hx hb dX4_busy_15 rfl hl (by decide) rfl (fun ls hl => ?_)
  refine lv_iload_n hx hb dX4_busy_16 rfl (lv_at hl 0 rfl) ?_
  refine lv_if_ne (tgt := 24) hx hb dX4_busy_17 (by decide) (fun c17 => ?_) (fun c17 => ?_)
  · replace h := tw_t c17 h
    refine lv_aload_n hx hb dX4_busy_24 rfl (lv_at hl 1 rfl) ?_
    refine lv_iconst (v := (1 : Int32)) hx hb dX4_busy_25 (by decide) ?_
    obtain ⟨r26, e26, h⟩ := tw_bs h
    refine tw_callViF (ws' := (tw_wM cI ma r1)) (As := [.int (1 : Int32)]) (rest := []) F hN hK hP hD hS hA (mX4_lengths l G cI ma r1 H.size (1 : Int32) e26) (cwV 1 hts gX4_busy_X4_lengths rfl rfl rfl (by decide +kernel) ⟨(Nat.le_of_ble_eq_true rfl), (Nat.le_of_ble_eq_true rfl)⟩) rfl (r0 := 0) (ci := 4) rfl rfl rfl rfl hl.1 rfl (Nat.le_of_ble_eq_true rfl) dX4_busy_26 ⟨Nat.zero_le _, Nat.zero_le _⟩ (fun H locs hP hD hS => ?_)
    refine lv_i2d hx hb dX4_busy_29 ?_
    refine lv_iload_n hx hb dX4_busy_30 rfl (lv_at hl 0 rfl) ?_
    refine lv_i2d hx hb dX4_busy_31 ?_
    obtain ⟨g32, h⟩ := tw_qs h
    refine lv_ddiv hx hb dX4_busy_32 g32 ?_
    exact hq H locs _ ls (FP.ddiv (FP.i2d r26) (FP.i2d r12)) (tw_rt (fun r => r.1 = (FP.ddiv (FP.i2d r26) (FP.i2d r12))) h rfl) (tw_rt (fun r => va_P G vwCl (tw_wM cI ma r.2) H) h hP) hS dX4_busy_33
  · replace h := tw_fn c17 h
    refine lv_dconst0 hx hb dX4_busy_20 ?_
    refine lv_goto (tgt := 33) hx hb dX4_busy_21 (by decide) ?_
    exact hq H locs _ ls FP.dconst0 (tw_rt (fun r => r.1 = FP.dconst0) h rfl) (tw_rt (fun r => va_P G vwCl (tw_wM cI ma r.2) H) h hP) hS dX4_busy_33
abbrev rmX4_busyness : Room := { frames := 6, cells := 0, slots := 0, locals := 140 }
set_option maxRecDepth 20000 in
theorem qX4_busyness_0 : (Cond.fieldLink RX4 31 "TheatreWallModel" "thrown" "I") ∈ wsX4_busyness := (List.mem_cons_of_mem _ (List.mem_append_left _ (List.mem_append_left _ (List.mem_of_getElem? (i := 0) rfl))))
set_option maxRecDepth 20000 in
theorem iX4_busyness_X4 : ∀ w ∈ u_ws RX4 TX4 13, w ∈ wsX4_busyness := fun w h => (List.mem_cons_of_mem _ (List.mem_append_right _ h))
set_option maxHeartbeats 4000000 in
set_option maxRecDepth 100000 in
theorem mX4_busyness (l : Launch) (G : va_G) (cI : ClassId) (ma : Nat → Nat) (M : tw_Md) (sz : Nat)  {rv : UInt64 × tw_Md} (h : fX4_busyness M = some rv) : tw_Mu l yX4_busyness wsX4_busyness rmX4_busyness G [(cI, .int)] (tw_wM cI ma M) [.ref (ma 0)] sz rv.1 (tw_wM cI ma rv.2) := by
  refine tw_ofd (cc := cX4_busyness) (maxL := 1) (own := RX4) (by decide) rfl rfl (Nat.le_of_ble_eq_true rfl) ?_
  intro p e s m args below meth c Q A ls H locs F hN hK hP hD hS hA hl hq
  obtain ⟨hx, hb, hml, hown, hts⟩ := id F
  have hl : lv_has ls 1 [(0, .ref (ma 0))] := hl
  unfold fX4_busyness at h
  refine lv_aload_n hx hb dX4_busyness_0 rfl (lv_at hl 0 rfl) ?_
  refine lv_iconst (v := (0 : Int32)) hx hb dX4_busyness_1 (by decide) ?_
  refine tw_put (ws' := (tw_wM cI ma (M.1, M.2.1, M.2.2.1, M.2.2.2.1, M.2.2.2.2.1, M.2.2.2.2.2.1, (0 : Int32), M.2.2.2.2.2.2.2.1, M.2.2.2.2.2.2.2.2.1, M.2.2.2.2.2.2.2.2.2.1, M.2.2.2.2.2.2.2.2.2.2.1, M.2.2.2.2.2.2.2.2.2.2.2.1, M.2.2.2.2.2.2.2.2.2.2.2.2))) (D := G) (ci := 4) (v := .int (0 : Int32)) (ty := .int) (C := RX4) (T := TX4) (N := 13) hx hb hts iX4_busyness_X4 tyX4 tyX4_ok nmX4 hown hK hP hD hS 0 rfl rfl 6 (by decide) (hts _ qX4_busyness_0) (fun _ h9 => h9) rfl (by decide +kernel) rfl rfl (Nat.le_of_ble_eq_true rfl) dX4_busyness_2 rfl (fun H locs hP hD hS => ?_)
  refine lv_aload_n hx hb dX4_busyness_5 rfl (lv_at hl 0 rfl) ?_
  obtain ⟨r6, e6, h⟩ := tw_bs h
  refine tw_callVdF (ws' := (tw_wM cI ma r6.2)) (As := []) (rest := []) F hN hK hP hD hS hA (mX4_busy l G cI ma (M.1, M.2.1, M.2.2.1, M.2.2.2.1, M.2.2.2.2.1, M.2.2.2.2.2.1, (0 : Int32), M.2.2.2.2.2.2.2.1, M.2.2.2.2.2.2.2.2.1, M.2.2.2.2.2.2.2.2.2.1, M.2.2.2.2.2.2.2.2.2.2.1, M.2.2.2.2.2.2.2.2.2.2.2.1, M.2.2.2.2.2.2.2.2.2.2.2.2) H.size e6) (cwV 0 hts gX4_busyness_X4_busy rfl rfl rfl (by decide +kernel) ⟨(Nat.le_of_ble_eq_true rfl), (Nat.le_of_ble_eq_true rfl)⟩) rfl (r0 := 0) (ci := 4) rfl rfl rfl rfl hl.1 rfl (Nat.le_of_ble_eq_true rfl) dX4_busyness_6 ⟨Nat.zero_le _, Nat.zero_le _⟩ (fun H locs hP hD hS => ?_)
  exact hq H locs _ ls r6.1 (tw_rt (fun r => r.1 = r6.1) h rfl) (tw_rt (fun r => va_P G vwCl (tw_wM cI ma r.2) H) h hP) hS dX4_busyness_9
abbrev rmX4_digest : Room := { frames := 8, cells := 0, slots := 0, locals := 187 }
set_option maxRecDepth 20000 in
theorem qX4_digest_0 : (Cond.fieldLink RX4 113 "TheatreWallModel" "typed" "I") ∈ wsX4_digest := (List.mem_cons_of_mem _ (List.mem_append_left _ (List.mem_append_left _ (List.mem_of_getElem? (i := 4) rfl))))
set_option maxRecDepth 20000 in
theorem qX4_digest_1 : (Cond.constantLong RX4 203 31) ∈ wsX4_digest := (List.mem_cons_of_mem _ (List.mem_append_left _ (List.mem_append_left _ (List.mem_of_getElem? (i := 2) rfl))))
set_option maxRecDepth 20000 in
theorem qX4_digest_2 : (Cond.fieldLink RX4 19 "TheatreWallModel" "text" "[I") ∈ wsX4_digest := (List.mem_cons_of_mem _ (List.mem_append_left _ (List.mem_append_left _ (List.mem_of_getElem? (i := 5) rfl))))
set_option maxRecDepth 20000 in
theorem qX4_digest_3 : (Cond.fieldLink RX4 7 "TheatreWallModel" "now" "[I") ∈ wsX4_digest := (List.mem_cons_of_mem _ (List.mem_append_left _ (List.mem_append_left _ (List.mem_of_getElem? (i := 3) rfl))))
set_option maxRecDepth 20000 in
theorem qX4_digest_4 : (Cond.fieldLink RX4 31 "TheatreWallModel" "thrown" "I") ∈ wsX4_digest := (List.mem_cons_of_mem _ (List.mem_append_left _ (List.mem_append_left _ (List.mem_of_getElem? (i := 0) rfl))))
set_option maxRecDepth 20000 in
theorem qX4_digest_5 : (Cond.constantLong RX4 201 2791) ∈ wsX4_digest := (List.mem_cons_of_mem _ (List.mem_append_left _ (List.mem_append_left _ (List.mem_of_getElem? (i := 1) rfl))))
set_option maxRecDepth 20000 in
theorem iX4_digest_X4 : ∀ w ∈ u_ws RX4 TX4 13, w ∈ wsX4_digest := fun w h => (List.mem_cons_of_mem _ (List.mem_append_right _ h))
set_option maxHeartbeats 4000000 in
set_option maxRecDepth 100000 in
theorem mX4_digest (l : Launch) (G : va_G) (cI : ClassId) (ma : Nat → Nat) (M : tw_Md) (sz : Nat)  {rv : Int64 × tw_Md} (h : fX4_digest M = some rv) : tw_Ml l yX4_digest wsX4_digest rmX4_digest G [(cI, .int)] (tw_wM cI ma M) [.ref (ma 0)] sz rv.1 (tw_wM cI ma rv.2) := by
  refine tw_ofl (cc := cX4_digest) (maxL := 5) (own := RX4) (by decide) rfl rfl (Nat.le_of_ble_eq_true rfl) ?_
  intro p e s m args below meth c Q A ls H locs F hN hK hP hD hS hA hl hq
  obtain ⟨hx, hb, hml, hown, hts⟩ := id F
  have hl : lv_has ls 5 [(0, .ref (ma 0))] := hl
  unfold fX4_digest at h
  have L297 : ∀ (n297 : Nat) (v1 : Int64) (v3 : Int32) (M : tw_Md) (H : Heap) (locs : List Loc) (ls : Array Slot), fX4_digest_297 n297 v1 v3 M = some rv → lv_has ls 5 [(0, .ref (ma 0)), (1, .long v1), (3, .int v3)] → va_P G vwCl (tw_wM cI ma M) H → va_D A (tw_wM cI ma M) → va_S A s.heap H locs → W p l e rmX4_digest s m args below meth c H locs 0 0 Q (F0 m 297 ls []) := by
    intro n297
    induction n297 with
    | zero =>
      intro v1 v3 M H locs ls h
      rw [fX4_digest_297] at h
      cases h
    | succ n297 ih297 =>
      intro v1 v3 M H locs ls h hl hP hD hS
      rw [fX4_digest_297] at h
      refine lv_iload_n hx hb dX4_digest_297 rfl (lv_at hl 2 rfl) ?_
      refine lv_aload_n hx hb dX4_digest_298 rfl (lv_at hl 0 rfl) ?_
      refine va_get (D := G) (ci := 4) (v := .int M.2.2.2.2.2.1) (C := RX4) (T := TX4) (N := 13) hx hb hts iX4_digest_X4 hown hK hP 0 rfl rfl 5 (by decide) (hts _ qX4_digest_0) (fun _ h9 => h9) rfl dX4_digest_299 ?_
      refine lv_icmp_ge (tgt := 325) hx hb dX4_digest_302 (by decide) (fun c302 => ?_) (fun c302 => ?_)
      · replace h := tw_t c302 h
        refine lv_lload_n hx hb dX4_digest_325 rfl (lv_at hl 1 rfl) ?_
        exact hq H locs _ ls v1 (tw_rt (fun r => r.1 = v1) h rfl) (tw_rt (fun r => va_P G vwCl (tw_wM cI ma r.2) H) h hP) hS dX4_digest_326
      · replace h := tw_f c302 h
        refine lv_ldc2 hx hb hown (hts _ qX4_digest_1) dX4_digest_305 ?_
        refine lv_lload_n hx hb dX4_digest_308 rfl (lv_at hl 1 rfl) ?_
        refine lv_lmul hx hb dX4_digest_309 ?_
        refine lv_aload_n hx hb dX4_digest_310 rfl (lv_at hl 0 rfl) ?_
        refine va_get (D := G) (ci := 4) (v := .ref (ma 4)) (C := RX4) (T := TX4) (N := 13) hx hb hts iX4_digest_X4 hown hK hP 0 rfl rfl 4 (by decide) (hts _ qX4_digest_2) (fun _ h9 => h9) rfl dX4_digest_311 ?_
        refine lv_iload_n hx hb dX4_digest_314 rfl (lv_at hl 2 rfl) ?_
        obtain ⟨g315, h⟩ := tw_gs h
        refine va_iald (f := M.2.2.2.2.1) (n := 60) hx hb hK hP 4 0 rfl rfl g315 dX4_digest_315 ?_
        refine lv_i2l hx hb dX4_digest_316 rfl ?_
        refine lv_ladd hx hb dX4_digest_317 ?_
        refine lv_lstore_n (lv' := [(1, .long (((31 : Int64) * v1) + ((M.2.2.2.2.1 v3.toNatClampNeg).toInt64))), (0, .ref (ma 0)), (3, .int v3)]) hx hb dX4_digest_318 rfl hl (by decide) rfl (fun ls hl => ?_)
        refine lv_iinc (v := (v3 + 1)) (lv' := [(3, .int (v3 + 1)), (1, .long (((31 : Int64) * v1) + ((M.2.2.2.2.1 v3.toNatClampNeg).toInt64))), (0, .ref (ma 0))]) hx hb dX4_digest_319 hl (k := 2) rfl rfl (by decide) rfl (fun ls hl => ?_)
        refine lv_goto (tgt := 297) hx hb dX4_digest_322 (by decide) ?_
        exact ih297 (((31 : Int64) * v1) + ((M.2.2.2.2.1 v3.toNatClampNeg).toInt64)) (v3 + 1) M H locs ls h (lv_sub hl [2, 1, 0] rfl) hP hD hS
  have L207 : ∀ (n207 : Nat) (v1 : Int64) (v3 : Int32) (M : tw_Md) (H : Heap) (locs : List Loc) (ls : Array Slot), fX4_digest_207 n207 v1 v3 M = some rv → lv_has ls 5 [(0, .ref (ma 0)), (1, .long v1), (3, .int v3)] → va_P G vwCl (tw_wM cI ma M) H → va_D A (tw_wM cI ma M) → va_S A s.heap H locs → W p l e rmX4_digest s m args below meth c H locs 0 0 Q (F0 m 207 ls []) := by
    intro n207
    induction n207 with
    | zero =>
      intro v1 v3 M H locs ls h
      rw [fX4_digest_207] at h
      cases h
    | succ n207 ih207 =>
      intro v1 v3 M H locs ls h hl hP hD hS
      rw [fX4_digest_207] at h
      have L215 : ∀ (n215 : Nat) (v1 : Int64) (v3 : Int32) (v4 : Int32) (M : tw_Md) (H : Heap) (locs : List Loc) (ls : Array Slot), fX4_digest_215 (fX4_digest_207 n207) n215 v1 v3 v4 M = some rv → lv_has ls 5 [(0, .ref (ma 0)), (1, .long v1), (3, .int v3), (4, .int v4)] → va_P G vwCl (tw_wM cI ma M) H → va_D A (tw_wM cI ma M) → va_S A s.heap H locs → W p l e rmX4_digest s m args below meth c H locs 0 0 Q (F0 m 215 ls []) := by
        intro n215
        induction n215 with
        | zero =>
          intro v1 v3 v4 M H locs ls h
          rw [fX4_digest_215] at h
          cases h
        | succ n215 ih215 =>
          intro v1 v3 v4 M H locs ls h hl hP hD hS
          rw [fX4_digest_215] at h
          refine lv_iload hx hb dX4_digest_215 (lv_at hl 3 rfl) ?_
          refine lv_iconst (v := (3 : Int32)) hx hb dX4_digest_217 (by decide) ?_
          refine lv_icmp_ge (tgt := 242) hx hb dX4_digest_218 (by decide) (fun c218 => ?_) (fun c218 => ?_)
          · replace h := tw_t c218 h
            refine lv_iinc (v := (v3 + 1)) (lv' := [(3, .int (v3 + 1)), (0, .ref (ma 0)), (1, .long v1), (4, .int v4)]) hx hb dX4_digest_242 hl (k := 2) rfl rfl (by decide) rfl (fun ls hl => ?_)
            refine lv_goto (tgt := 207) hx hb dX4_digest_245 (by decide) ?_
            exact ih207 v1 (v3 + 1) M H locs ls h (lv_sub hl [1, 2, 0] rfl) hP hD hS
          · replace h := tw_f c218 h
            refine lv_ldc2 hx hb hown (hts _ qX4_digest_1) dX4_digest_221 ?_
            refine lv_lload_n hx hb dX4_digest_224 rfl (lv_at hl 1 rfl) ?_
            refine lv_lmul hx hb dX4_digest_225 ?_
            refine lv_aload_n hx hb dX4_digest_226 rfl (lv_at hl 0 rfl) ?_
            refine lv_iload_n hx hb dX4_digest_227 rfl (lv_at hl 2 rfl) ?_
            refine lv_iload hx hb dX4_digest_228 (lv_at hl 3 rfl) ?_
            obtain ⟨r230, e230, h⟩ := tw_bs h
            refine tw_callViF (ws' := (tw_wM cI ma r230.2)) (As := [.int v3, .int v4]) (rest := [.long ((31 : Int64) * v1)]) F hN hK hP hD hS hA (mX4_byRule l G cI ma M H.size v3 v4 e230) (cwV 2 hts gX4_digest_X4_byRule rfl rfl rfl (by decide +kernel) ⟨(Nat.le_of_ble_eq_true rfl), (Nat.le_of_ble_eq_true rfl)⟩) rfl (r0 := 0) (ci := 4) rfl rfl rfl rfl hl.1 rfl (Nat.le_of_ble_eq_true rfl) dX4_digest_230 ⟨Nat.zero_le _, Nat.zero_le _⟩ (fun H locs hP hD hS => ?_)
            refine lv_i2l hx hb dX4_digest_233 rfl ?_
            refine lv_ladd hx hb dX4_digest_234 ?_
            refine lv_lstore_n (lv' := [(1, .long (((31 : Int64) * v1) + r230.1.toInt64)), (0, .ref (ma 0)), (3, .int v3), (4, .int v4)]) hx hb dX4_digest_235 rfl hl (by decide) rfl (fun ls hl => ?_)
            refine lv_iinc (v := (v4 + 1)) (lv' := [(4, .int (v4 + 1)), (1, .long (((31 : Int64) * v1) + r230.1.toInt64)), (0, .ref (ma 0)), (3, .int v3)]) hx hb dX4_digest_236 hl (k := 3) rfl rfl (by decide) rfl (fun ls hl => ?_)
            refine lv_goto (tgt := 215) hx hb dX4_digest_239 (by decide) ?_
            exact ih215 (((31 : Int64) * v1) + r230.1.toInt64) v3 (v4 + 1) r230.2 H locs ls h (lv_sub hl [2, 1, 3, 0] rfl) hP hD hS
      refine lv_iload_n hx hb dX4_digest_207 rfl (lv_at hl 2 rfl) ?_
      refine lv_iconst (v := (4 : Int32)) hx hb dX4_digest_208 (by decide) ?_
      refine lv_icmp_ge (tgt := 248) hx hb dX4_digest_209 (by decide) (fun c209 => ?_) (fun c209 => ?_)
      · replace h := tw_t c209 h
        refine lv_ldc2 hx hb hown (hts _ qX4_digest_1) dX4_digest_248 ?_
        refine lv_ldc2 hx hb hown (hts _ qX4_digest_1) dX4_digest_251 ?_
        refine lv_lload_n hx hb dX4_digest_254 rfl (lv_at hl 1 rfl) ?_
        refine lv_lmul hx hb dX4_digest_255 ?_
        refine lv_aload_n hx hb dX4_digest_256 rfl (lv_at hl 0 rfl) ?_
        obtain ⟨r257, e257, h⟩ := tw_bs h
        refine tw_callViF (ws' := (tw_wM cI ma r257.2)) (As := []) (rest := [.long ((31 : Int64) * v1), .long (31 : Int64)]) F hN hK hP hD hS hA (mX4_best l G cI ma M H.size e257) (cwV 0 hts gX4_digest_X4_best rfl rfl rfl (by decide +kernel) ⟨(Nat.le_of_ble_eq_true rfl), (Nat.le_of_ble_eq_true rfl)⟩) rfl (r0 := 0) (ci := 4) rfl rfl rfl rfl hl.1 rfl (Nat.le_of_ble_eq_true rfl) dX4_digest_257 ⟨Nat.zero_le _, Nat.zero_le _⟩ (fun H locs hP hD hS => ?_)
        refine lv_i2l hx hb dX4_digest_260 rfl ?_
        refine lv_ladd hx hb dX4_digest_261 ?_
        refine lv_lmul hx hb dX4_digest_262 ?_
        refine lv_aload_n hx hb dX4_digest_263 rfl (lv_at hl 0 rfl) ?_
        refine lv_iconst (v := (3 : Int32)) hx hb dX4_digest_264 (by decide) ?_
        obtain ⟨r265, e265, h⟩ := tw_bs h
        refine tw_callViF (ws' := (tw_wM cI ma r265.2)) (As := [.int (3 : Int32)]) (rest := [.long ((31 : Int64) * (((31 : Int64) * v1) + r257.1.toInt64))]) F hN hK hP hD hS hA (mX4_worst l G cI ma r257.2 H.size (3 : Int32) e265) (cwV 1 hts gX4_digest_X4_worst rfl rfl rfl (by decide +kernel) ⟨(Nat.le_of_ble_eq_true rfl), (Nat.le_of_ble_eq_true rfl)⟩) rfl (r0 := 0) (ci := 4) rfl rfl rfl rfl hl.1 rfl (Nat.le_of_ble_eq_true rfl) dX4_digest_265 ⟨Nat.zero_le _, Nat.zero_le _⟩ (fun H locs hP hD hS => ?_)
        refine lv_i2l hx hb dX4_digest_268 rfl ?_
        refine lv_ladd hx hb dX4_digest_269 ?_
        refine lv_lstore_n (lv' := [(1, .long (((31 : Int64) * (((31 : Int64) * v1) + r257.1.toInt64)) + r265.1.toInt64)), (0, .ref (ma 0)), (3, .int v3)]) hx hb dX4_digest_270 rfl hl (by decide) rfl (fun ls hl => ?_)
        refine lv_ldc2 hx hb hown (hts _ qX4_digest_1) dX4_digest_271 ?_
        refine lv_ldc2 hx hb hown (hts _ qX4_digest_1) dX4_digest_274 ?_
        refine lv_lload_n hx hb dX4_digest_277 rfl (lv_at hl 0 rfl) ?_
        refine lv_lmul hx hb dX4_digest_278 ?_
        refine lv_aload_n hx hb dX4_digest_279 rfl (lv_at hl 1 rfl) ?_
        obtain ⟨r280, e280, h⟩ := tw_bs h
        refine tw_callVdF (ws' := (tw_wM cI ma r280.2)) (As := []) (rest := [.long ((31 : Int64) * (((31 : Int64) * (((31 : Int64) * v1) + r257.1.toInt64)) + r265.1.toInt64)), .long (31 : Int64)]) F hN hK hP hD hS hA (mX4_busy l G cI ma r265.2 H.size e280) (cwV 0 hts gX4_digest_X4_busy rfl rfl rfl (by decide +kernel) ⟨(Nat.le_of_ble_eq_true rfl), (Nat.le_of_ble_eq_true rfl)⟩) rfl (r0 := 0) (ci := 4) rfl rfl rfl rfl hl.1 rfl (Nat.le_of_ble_eq_true rfl) dX4_digest_280 ⟨Nat.zero_le _, Nat.zero_le _⟩ (fun H locs hP hD hS => ?_)
        obtain ⟨r283, e283, h⟩ := tw_bs h
        refine tw_callSl (ws' := (tw_wM cI ma r280.2)) (As := [.double r280.1]) (rest := [.long ((31 : Int64) * (((31 : Int64) * (((31 : Int64) * v1) + r257.1.toInt64)) + r265.1.toInt64)), .long (31 : Int64)]) F hN hK hP hD hS hA (mJxe99ae_doubleToLongBits_ccdee l G cI H.size r280.1 e283) (va_cwS 1 hts gX4_digest_Jxe99ae_doubleToLongBits_ccdee rfl rfl rfl (by decide +kernel) ⟨(Nat.le_of_ble_eq_true rfl), (Nat.le_of_ble_eq_true rfl)⟩) [0] rfl [] (by decide) rfl rfl rfl rfl hl.1 rfl (Nat.le_of_ble_eq_true rfl) dX4_digest_283 ⟨Nat.zero_le _, Nat.zero_le _⟩ (fun H locs hP hD hS => ?_)
        refine lv_ladd hx hb dX4_digest_286 ?_
        refine lv_lmul hx hb dX4_digest_287 ?_
        refine lv_aload_n hx hb dX4_digest_288 rfl (lv_at hl 1 rfl) ?_
        refine va_get (D := G) (ci := 4) (v := .int r280.2.2.2.2.2.2.1) (C := RX4) (T := TX4) (N := 13) hx hb hts iX4_digest_X4 hown hK hP 0 rfl rfl 5 (by decide) (hts _ qX4_digest_0) (fun _ h9 => h9) rfl dX4_digest_289 ?_
        refine lv_i2l hx hb dX4_digest_292 rfl ?_
        refine lv_ladd hx hb dX4_digest_293 ?_
        refine lv_lstore_n (lv' := [(1, .long (((31 : Int64) * (((31 : Int64) * (((31 : Int64) * (((31 : Int64) * v1) + r257.1.toInt64)) + r265.1.toInt64)) + r283)) + r280.2.2.2.2.2.2.1.toInt64)), (0, .ref (ma 0)), (3, .int v3)]) hx hb dX4_digest_294 rfl hl (by decide) rfl (fun ls hl => ?_)
        refine lv_iconst (v := (0 : Int32)) hx hb dX4_digest_295 (by decide) ?_
        refine lv_istore_n (lv' := [(3, .int (0 : Int32)), (1, .long (((31 : Int64) * (((31 : Int64) * (((31 : Int64) * (((31 : Int64) * v1) + r257.1.toInt64)) + r265.1.toInt64)) + r283)) + r280.2.2.2.2.2.2.1.toInt64)), (0, .ref (ma 0))]) hx hb dX4_digest_296 rfl hl (by decide) rfl (fun ls hl => ?_)
        exact L297 512 (((31 : Int64) * (((31 : Int64) * (((31 : Int64) * (((31 : Int64) * v1) + r257.1.toInt64)) + r265.1.toInt64)) + r283)) + r280.2.2.2.2.2.2.1.toInt64) (0 : Int32) r280.2 H locs ls h (lv_sub hl [2, 1, 0] rfl) hP hD hS
      · replace h := tw_f c209 h
        refine lv_iconst (v := (0 : Int32)) hx hb dX4_digest_212 (by decide) ?_
        refine lv_istore (lv' := [(4, .int (0 : Int32)), (0, .ref (ma 0)), (1, .long v1), (3, .int v3)]) hx hb dX4_digest_213 hl (by decide) rfl (fun ls hl => ?_)
        exact L215 512 v1 v3 (0 : Int32) M H locs ls h (lv_sub hl [1, 2, 3, 0] rfl) hP hD hS
  have L148 : ∀ (n148 : Nat) (v1 : Int64) (v3 : Int32) (M : tw_Md) (H : Heap) (locs : List Loc) (ls : Array Slot), fX4_digest_148 n148 v1 v3 M = some rv → lv_has ls 5 [(0, .ref (ma 0)), (1, .long v1), (3, .int v3)] → va_P G vwCl (tw_wM cI ma M) H → va_D A (tw_wM cI ma M) → va_S A s.heap H locs → W p l e rmX4_digest s m args below meth c H locs 0 0 Q (F0 m 148 ls []) := by
    intro n148
    induction n148 with
    | zero =>
      intro v1 v3 M H locs ls h
      rw [fX4_digest_148] at h
      cases h
    | succ n148 ih148 =>
      intro v1 v3 M H locs ls h hl hP hD hS
      rw [fX4_digest_148] at h
      have L157 : ∀ (n157 : Nat) (v1 : Int64) (v3 : Int32) (v4 : Int32) (M : tw_Md) (H : Heap) (locs : List Loc) (ls : Array Slot), fX4_digest_157 (fX4_digest_148 n148) n157 v1 v3 v4 M = some rv → lv_has ls 5 [(0, .ref (ma 0)), (1, .long v1), (3, .int v3), (4, .int v4)] → va_P G vwCl (tw_wM cI ma M) H → va_D A (tw_wM cI ma M) → va_S A s.heap H locs → W p l e rmX4_digest s m args below meth c H locs 0 0 Q (F0 m 157 ls []) := by
        intro n157
        induction n157 with
        | zero =>
          intro v1 v3 v4 M H locs ls h
          rw [fX4_digest_157] at h
          cases h
        | succ n157 ih157 =>
          intro v1 v3 v4 M H locs ls h hl hP hD hS
          rw [fX4_digest_157] at h
          refine lv_iload hx hb dX4_digest_157 (lv_at hl 3 rfl) ?_
          refine lv_bipush (v := (10 : Int32)) hx hb dX4_digest_159 (by decide) ?_
          refine lv_icmp_ge (tgt := 186) hx hb dX4_digest_161 (by decide) (fun c161 => ?_) (fun c161 => ?_)
          · replace h := tw_t c161 h
            refine lv_ldc2 hx hb hown (hts _ qX4_digest_1) dX4_digest_186 ?_
            refine lv_lload_n hx hb dX4_digest_189 rfl (lv_at hl 1 rfl) ?_
            refine lv_lmul hx hb dX4_digest_190 ?_
            refine lv_aload_n hx hb dX4_digest_191 rfl (lv_at hl 0 rfl) ?_
            refine lv_iload_n hx hb dX4_digest_192 rfl (lv_at hl 2 rfl) ?_
            obtain ⟨r193, e193, h⟩ := tw_bs h
            refine tw_callViF (ws' := (tw_wM cI ma r193.2)) (As := [.int v3]) (rest := [.long ((31 : Int64) * v1)]) F hN hK hP hD hS hA (mX4_freed l G cI ma M H.size v3 e193) (cwV 1 hts gX4_digest_X4_freed rfl rfl rfl (by decide +kernel) ⟨(Nat.le_of_ble_eq_true rfl), (Nat.le_of_ble_eq_true rfl)⟩) rfl (r0 := 0) (ci := 4) rfl rfl rfl rfl hl.1 rfl (Nat.le_of_ble_eq_true rfl) dX4_digest_193 ⟨Nat.zero_le _, Nat.zero_le _⟩ (fun H locs hP hD hS => ?_)
            refine lv_i2l hx hb dX4_digest_196 rfl ?_
            refine lv_ladd hx hb dX4_digest_197 ?_
            refine lv_lstore_n (lv' := [(1, .long (((31 : Int64) * v1) + r193.1.toInt64)), (0, .ref (ma 0)), (3, .int v3), (4, .int v4)]) hx hb dX4_digest_198 rfl hl (by decide) rfl (fun ls hl => ?_)
            refine lv_iinc (v := (v3 + 1)) (lv' := [(3, .int (v3 + 1)), (1, .long (((31 : Int64) * v1) + r193.1.toInt64)), (0, .ref (ma 0)), (4, .int v4)]) hx hb dX4_digest_199 hl (k := 2) rfl rfl (by decide) rfl (fun ls hl => ?_)
            refine lv_goto (tgt := 148) hx hb dX4_digest_202 (by decide) ?_
            exact ih148 (((31 : Int64) * v1) + r193.1.toInt64) (v3 + 1) r193.2 H locs ls h (lv_sub hl [2, 1, 0] rfl) hP hD hS
          · replace h := tw_f c161 h
            refine lv_ldc2 hx hb hown (hts _ qX4_digest_1) dX4_digest_164 ?_
            refine lv_lload_n hx hb dX4_digest_167 rfl (lv_at hl 1 rfl) ?_
            refine lv_lmul hx hb dX4_digest_168 ?_
            refine lv_aload_n hx hb dX4_digest_169 rfl (lv_at hl 0 rfl) ?_
            refine lv_iconst (v := (1 : Int32)) hx hb dX4_digest_170 (by decide) ?_
            refine lv_iload_n hx hb dX4_digest_171 rfl (lv_at hl 2 rfl) ?_
            refine lv_iload hx hb dX4_digest_172 (lv_at hl 3 rfl) ?_
            obtain ⟨r174, e174, h⟩ := tw_bs h
            refine tw_callViF (ws' := (tw_wM cI ma M)) (As := [.int (1 : Int32), .int v3, .int v4]) (rest := [.long ((31 : Int64) * v1)]) F hN hK hP hD hS hA (mX4_on l G cI ma M H.size (1 : Int32) v3 v4 e174) (cwV 3 hts gX4_digest_X4_on rfl rfl rfl (by decide +kernel) ⟨(Nat.le_of_ble_eq_true rfl), (Nat.le_of_ble_eq_true rfl)⟩) rfl (r0 := 0) (ci := 4) rfl rfl rfl rfl hl.1 rfl (Nat.le_of_ble_eq_true rfl) dX4_digest_174 ⟨Nat.zero_le _, Nat.zero_le _⟩ (fun H locs hP hD hS => ?_)
            refine lv_i2l hx hb dX4_digest_177 rfl ?_
            refine lv_ladd hx hb dX4_digest_178 ?_
            refine lv_lstore_n (lv' := [(1, .long (((31 : Int64) * v1) + r174.toInt64)), (0, .ref (ma 0)), (3, .int v3), (4, .int v4)]) hx hb dX4_digest_179 rfl hl (by decide) rfl (fun ls hl => ?_)
            refine lv_iinc (v := (v4 + 1)) (lv' := [(4, .int (v4 + 1)), (1, .long (((31 : Int64) * v1) + r174.toInt64)), (0, .ref (ma 0)), (3, .int v3)]) hx hb dX4_digest_180 hl (k := 3) rfl rfl (by decide) rfl (fun ls hl => ?_)
            refine lv_goto (tgt := 157) hx hb dX4_digest_183 (by decide) ?_
            exact ih157 (((31 : Int64) * v1) + r174.toInt64) v3 (v4 + 1) M H locs ls h (lv_sub hl [2, 1, 3, 0] rfl) hP hD hS
      refine lv_iload_n hx hb dX4_digest_148 rfl (lv_at hl 2 rfl) ?_
      refine lv_bipush (v := (6 : Int32)) hx hb dX4_digest_149 (by decide) ?_
      refine lv_icmp_ge (tgt := 205) hx hb dX4_digest_151 (by decide) (fun c151 => ?_) (fun c151 => ?_)
      · replace h := tw_t c151 h
        refine lv_iconst (v := (0 : Int32)) hx hb dX4_digest_205 (by decide) ?_
        refine lv_istore_n (lv' := [(3, .int (0 : Int32)), (0, .ref (ma 0)), (1, .long v1)]) hx hb dX4_digest_206 rfl hl (by decide) rfl (fun ls hl => ?_)
        exact L207 512 v1 (0 : Int32) M H locs ls h (lv_sub hl [1, 2, 0] rfl) hP hD hS
      · replace h := tw_f c151 h
        refine lv_iconst (v := (0 : Int32)) hx hb dX4_digest_154 (by decide) ?_
        refine lv_istore (lv' := [(4, .int (0 : Int32)), (0, .ref (ma 0)), (1, .long v1), (3, .int v3)]) hx hb dX4_digest_155 hl (by decide) rfl (fun ls hl => ?_)
        exact L157 512 v1 v3 (0 : Int32) M H locs ls h (lv_sub hl [1, 2, 3, 0] rfl) hP hD hS
  have L101 : ∀ (n101 : Nat) (v1 : Int64) (v3 : Int32) (M : tw_Md) (H : Heap) (locs : List Loc) (ls : Array Slot), fX4_digest_101 n101 v1 v3 M = some rv → lv_has ls 5 [(0, .ref (ma 0)), (1, .long v1), (3, .int v3)] → va_P G vwCl (tw_wM cI ma M) H → va_D A (tw_wM cI ma M) → va_S A s.heap H locs → W p l e rmX4_digest s m args below meth c H locs 0 0 Q (F0 m 101 ls []) := by
    intro n101
    induction n101 with
    | zero =>
      intro v1 v3 M H locs ls h
      rw [fX4_digest_101] at h
      cases h
    | succ n101 ih101 =>
      intro v1 v3 M H locs ls h hl hP hD hS
      rw [fX4_digest_101] at h
      have L109 : ∀ (n109 : Nat) (v1 : Int64) (v3 : Int32) (v4 : Int32) (M : tw_Md) (H : Heap) (locs : List Loc) (ls : Array Slot), fX4_digest_109 (fX4_digest_101 n101) n109 v1 v3 v4 M = some rv → lv_has ls 5 [(0, .ref (ma 0)), (1, .long v1), (3, .int v3), (4, .int v4)] → va_P G vwCl (tw_wM cI ma M) H → va_D A (tw_wM cI ma M) → va_S A s.heap H locs → W p l e rmX4_digest s m args below meth c H locs 0 0 Q (F0 m 109 ls []) := by
        intro n109
        induction n109 with
        | zero =>
          intro v1 v3 v4 M H locs ls h
          rw [fX4_digest_109] at h
          cases h
        | succ n109 ih109 =>
          intro v1 v3 v4 M H locs ls h hl hP hD hS
          rw [fX4_digest_109] at h
          refine lv_iload hx hb dX4_digest_109 (lv_at hl 3 rfl) ?_
          refine lv_iconst (v := (4 : Int32)) hx hb dX4_digest_111 (by decide) ?_
          refine lv_icmp_ge (tgt := 136) hx hb dX4_digest_112 (by decide) (fun c112 => ?_) (fun c112 => ?_)
          · replace h := tw_t c112 h
            refine lv_iinc (v := (v3 + 1)) (lv' := [(3, .int (v3 + 1)), (0, .ref (ma 0)), (1, .long v1), (4, .int v4)]) hx hb dX4_digest_136 hl (k := 2) rfl rfl (by decide) rfl (fun ls hl => ?_)
            refine lv_goto (tgt := 101) hx hb dX4_digest_139 (by decide) ?_
            exact ih101 v1 (v3 + 1) M H locs ls h (lv_sub hl [1, 2, 0] rfl) hP hD hS
          · replace h := tw_f c112 h
            refine lv_ldc2 hx hb hown (hts _ qX4_digest_1) dX4_digest_115 ?_
            refine lv_lload_n hx hb dX4_digest_118 rfl (lv_at hl 1 rfl) ?_
            refine lv_lmul hx hb dX4_digest_119 ?_
            refine lv_aload_n hx hb dX4_digest_120 rfl (lv_at hl 0 rfl) ?_
            refine lv_iload_n hx hb dX4_digest_121 rfl (lv_at hl 2 rfl) ?_
            refine lv_iload hx hb dX4_digest_122 (lv_at hl 3 rfl) ?_
            obtain ⟨r124, e124, h⟩ := tw_bs h
            refine tw_callViF (ws' := (tw_wM cI ma r124.2)) (As := [.int v3, .int v4]) (rest := [.long ((31 : Int64) * v1)]) F hN hK hP hD hS hA (mX4_ofHall l G cI ma M H.size v3 v4 e124) (cwV 2 hts gX4_digest_X4_ofHall rfl rfl rfl (by decide +kernel) ⟨(Nat.le_of_ble_eq_true rfl), (Nat.le_of_ble_eq_true rfl)⟩) rfl (r0 := 0) (ci := 4) rfl rfl rfl rfl hl.1 rfl (Nat.le_of_ble_eq_true rfl) dX4_digest_124 ⟨Nat.zero_le _, Nat.zero_le _⟩ (fun H locs hP hD hS => ?_)
            refine lv_i2l hx hb dX4_digest_127 rfl ?_
            refine lv_ladd hx hb dX4_digest_128 ?_
            refine lv_lstore_n (lv' := [(1, .long (((31 : Int64) * v1) + r124.1.toInt64)), (0, .ref (ma 0)), (3, .int v3), (4, .int v4)]) hx hb dX4_digest_129 rfl hl (by decide) rfl (fun ls hl => ?_)
            refine lv_iinc (v := (v4 + 1)) (lv' := [(4, .int (v4 + 1)), (1, .long (((31 : Int64) * v1) + r124.1.toInt64)), (0, .ref (ma 0)), (3, .int v3)]) hx hb dX4_digest_130 hl (k := 3) rfl rfl (by decide) rfl (fun ls hl => ?_)
            refine lv_goto (tgt := 109) hx hb dX4_digest_133 (by decide) ?_
            exact ih109 (((31 : Int64) * v1) + r124.1.toInt64) v3 (v4 + 1) r124.2 H locs ls h (lv_sub hl [2, 1, 3, 0] rfl) hP hD hS
      refine lv_iload_n hx hb dX4_digest_101 rfl (lv_at hl 2 rfl) ?_
      refine lv_iconst (v := (4 : Int32)) hx hb dX4_digest_102 (by decide) ?_
      refine lv_icmp_ge (tgt := 142) hx hb dX4_digest_103 (by decide) (fun c103 => ?_) (fun c103 => ?_)
      · replace h := tw_t c103 h
        refine lv_aload_n hx hb dX4_digest_142 rfl (lv_at hl 0 rfl) ?_
        obtain ⟨r143, e143, h⟩ := tw_bs h
        refine tw_callVvF (ws' := (tw_wM cI ma r143)) (As := []) (rest := []) F hN hK hP hD hS hA (mX4_plans l G cI ma M H.size e143) (cwV 0 hts gX4_digest_X4_plans rfl rfl rfl (by decide +kernel) ⟨(Nat.le_of_ble_eq_true rfl), (Nat.le_of_ble_eq_true rfl)⟩) rfl (r0 := 0) (ci := 4) rfl rfl rfl rfl hl.1 rfl (Nat.le_of_ble_eq_true rfl) dX4_digest_143 ⟨Nat.zero_le _, Nat.zero_le _⟩ (fun H locs hP hD hS => ?_)
        refine lv_iconst (v := (0 : Int32)) hx hb dX4_digest_146 (by decide) ?_
        refine lv_istore_n (lv' := [(3, .int (0 : Int32)), (0, .ref (ma 0)), (1, .long v1)]) hx hb dX4_digest_147 rfl hl (by decide) rfl (fun ls hl => ?_)
        exact L148 512 v1 (0 : Int32) r143 H locs ls h (lv_sub hl [1, 2, 0] rfl) hP hD hS
      · replace h := tw_f c103 h
        refine lv_iconst (v := (0 : Int32)) hx hb dX4_digest_106 (by decide) ?_
        refine lv_istore (lv' := [(4, .int (0 : Int32)), (0, .ref (ma 0)), (1, .long v1), (3, .int v3)]) hx hb dX4_digest_107 hl (by decide) rfl (fun ls hl => ?_)
        exact L109 512 v1 v3 (0 : Int32) M H locs ls h (lv_sub hl [1, 2, 3, 0] rfl) hP hD hS
  have L52 : ∀ (n52 : Nat) (v1 : Int64) (v3 : Int32) (M : tw_Md) (H : Heap) (locs : List Loc) (ls : Array Slot), fX4_digest_52 n52 v1 v3 M = some rv → lv_has ls 5 [(0, .ref (ma 0)), (1, .long v1), (3, .int v3)] → va_P G vwCl (tw_wM cI ma M) H → va_D A (tw_wM cI ma M) → va_S A s.heap H locs → W p l e rmX4_digest s m args below meth c H locs 0 0 Q (F0 m 52 ls []) := by
    intro n52
    induction n52 with
    | zero =>
      intro v1 v3 M H locs ls h
      rw [fX4_digest_52] at h
      cases h
    | succ n52 ih52 =>
      intro v1 v3 M H locs ls h hl hP hD hS
      rw [fX4_digest_52] at h
      have L65 : ∀ (n65 : Nat) (v1 : Int64) (v3 : Int32) (v4 : Int32) (M : tw_Md) (H : Heap) (locs : List Loc) (ls : Array Slot), fX4_digest_65 (fX4_digest_52 n52) n65 v1 v3 v4 M = some rv → lv_has ls 5 [(0, .ref (ma 0)), (1, .long v1), (3, .int v3), (4, .int v4)] → va_P G vwCl (tw_wM cI ma M) H → va_D A (tw_wM cI ma M) → va_S A s.heap H locs → W p l e rmX4_digest s m args below meth c H locs 0 0 Q (F0 m 65 ls []) := by
        intro n65
        induction n65 with
        | zero =>
          intro v1 v3 v4 M H locs ls h
          rw [fX4_digest_65] at h
          cases h
        | succ n65 ih65 =>
          intro v1 v3 v4 M H locs ls h hl hP hD hS
          rw [fX4_digest_65] at h
          refine lv_iload hx hb dX4_digest_65 (lv_at hl 3 rfl) ?_
          refine lv_bipush (v := (9 : Int32)) hx hb dX4_digest_67 (by decide) ?_
          refine lv_icmp_ge (tgt := 93) hx hb dX4_digest_69 (by decide) (fun c69 => ?_) (fun c69 => ?_)
          · replace h := tw_t c69 h
            refine lv_iinc (v := (v3 + 1)) (lv' := [(3, .int (v3 + 1)), (0, .ref (ma 0)), (1, .long v1), (4, .int v4)]) hx hb dX4_digest_93 hl (k := 2) rfl rfl (by decide) rfl (fun ls hl => ?_)
            refine lv_goto (tgt := 52) hx hb dX4_digest_96 (by decide) ?_
            exact ih52 v1 (v3 + 1) M H locs ls h (lv_sub hl [1, 2, 0] rfl) hP hD hS
          · replace h := tw_f c69 h
            refine lv_ldc2 hx hb hown (hts _ qX4_digest_1) dX4_digest_72 ?_
            refine lv_lload_n hx hb dX4_digest_75 rfl (lv_at hl 1 rfl) ?_
            refine lv_lmul hx hb dX4_digest_76 ?_
            refine lv_aload_n hx hb dX4_digest_77 rfl (lv_at hl 0 rfl) ?_
            refine lv_iload_n hx hb dX4_digest_78 rfl (lv_at hl 2 rfl) ?_
            refine lv_iload hx hb dX4_digest_79 (lv_at hl 3 rfl) ?_
            obtain ⟨r81, e81, h⟩ := tw_bs h
            refine tw_callViF (ws' := (tw_wM cI ma r81.2)) (As := [.int v3, .int v4]) (rest := [.long ((31 : Int64) * v1)]) F hN hK hP hD hS hA (mX4_ofTask l G cI ma M H.size v3 v4 e81) (cwV 2 hts gX4_digest_X4_ofTask rfl rfl rfl (by decide +kernel) ⟨(Nat.le_of_ble_eq_true rfl), (Nat.le_of_ble_eq_true rfl)⟩) rfl (r0 := 0) (ci := 4) rfl rfl rfl rfl hl.1 rfl (Nat.le_of_ble_eq_true rfl) dX4_digest_81 ⟨Nat.zero_le _, Nat.zero_le _⟩ (fun H locs hP hD hS => ?_)
            refine lv_i2l hx hb dX4_digest_84 rfl ?_
            refine lv_ladd hx hb dX4_digest_85 ?_
            refine lv_lstore_n (lv' := [(1, .long (((31 : Int64) * v1) + r81.1.toInt64)), (0, .ref (ma 0)), (3, .int v3), (4, .int v4)]) hx hb dX4_digest_86 rfl hl (by decide) rfl (fun ls hl => ?_)
            refine lv_iinc (v := (v4 + 1)) (lv' := [(4, .int (v4 + 1)), (1, .long (((31 : Int64) * v1) + r81.1.toInt64)), (0, .ref (ma 0)), (3, .int v3)]) hx hb dX4_digest_87 hl (k := 3) rfl rfl (by decide) rfl (fun ls hl => ?_)
            refine lv_goto (tgt := 65) hx hb dX4_digest_90 (by decide) ?_
            exact ih65 (((31 : Int64) * v1) + r81.1.toInt64) v3 (v4 + 1) r81.2 H locs ls h (lv_sub hl [2, 1, 3, 0] rfl) hP hD hS
      refine lv_iload_n hx hb dX4_digest_52 rfl (lv_at hl 2 rfl) ?_
      refine lv_aload_n hx hb dX4_digest_53 rfl (lv_at hl 0 rfl) ?_
      refine va_get (D := G) (ci := 4) (v := .ref (ma 1)) (C := RX4) (T := TX4) (N := 13) hx hb hts iX4_digest_X4 hown hK hP 0 rfl rfl 0 (by decide) (hts _ qX4_digest_3) (fun _ h9 => h9) rfl dX4_digest_54 ?_
      refine lv_iconst (v := (0 : Int32)) hx hb dX4_digest_57 (by decide) ?_
      refine va_iald (f := M.1) (n := 70) hx hb hK hP 1 0 rfl rfl (tw_vin (by decide)) dX4_digest_58 ?_
      refine lv_icmp_ge (tgt := 99) hx hb dX4_digest_59 (by decide) (fun c59 => ?_) (fun c59 => ?_)
      · replace h := tw_t c59 h
        refine lv_iconst (v := (0 : Int32)) hx hb dX4_digest_99 (by decide) ?_
        refine lv_istore_n (lv' := [(3, .int (0 : Int32)), (0, .ref (ma 0)), (1, .long v1)]) hx hb dX4_digest_100 rfl hl (by decide) rfl (fun ls hl => ?_)
        exact L101 512 v1 (0 : Int32) M H locs ls h (lv_sub hl [1, 2, 0] rfl) hP hD hS
      · replace h := tw_f c59 h
        refine lv_iconst (v := (0 : Int32)) hx hb dX4_digest_62 (by decide) ?_
        refine lv_istore (lv' := [(4, .int (0 : Int32)), (0, .ref (ma 0)), (1, .long v1), (3, .int v3)]) hx hb dX4_digest_63 hl (by decide) rfl (fun ls hl => ?_)
        exact L65 512 v1 v3 (0 : Int32) M H locs ls h (lv_sub hl [1, 2, 3, 0] rfl) hP hD hS
  have L11 : ∀ (n11 : Nat) (v1 : Int64) (v3 : Int32) (M : tw_Md) (H : Heap) (locs : List Loc) (ls : Array Slot), fX4_digest_11 n11 v1 v3 M = some rv → lv_has ls 5 [(0, .ref (ma 0)), (1, .long v1), (3, .int v3)] → va_P G vwCl (tw_wM cI ma M) H → va_D A (tw_wM cI ma M) → va_S A s.heap H locs → W p l e rmX4_digest s m args below meth c H locs 0 0 Q (F0 m 11 ls []) := by
    intro n11
    induction n11 with
    | zero =>
      intro v1 v3 M H locs ls h
      rw [fX4_digest_11] at h
      cases h
    | succ n11 ih11 =>
      intro v1 v3 M H locs ls h hl hP hD hS
      rw [fX4_digest_11] at h
      refine lv_iload_n hx hb dX4_digest_11 rfl (lv_at hl 2 rfl) ?_
      refine lv_bipush (v := (9 : Int32)) hx hb dX4_digest_12 (by decide) ?_
      refine lv_icmp_ge (tgt := 36) hx hb dX4_digest_14 (by decide) (fun c14 => ?_) (fun c14 => ?_)
      · replace h := tw_t c14 h
        refine lv_ldc2 hx hb hown (hts _ qX4_digest_1) dX4_digest_36 ?_
        refine lv_lload_n hx hb dX4_digest_39 rfl (lv_at hl 1 rfl) ?_
        refine lv_lmul hx hb dX4_digest_40 ?_
        refine lv_aload_n hx hb dX4_digest_41 rfl (lv_at hl 0 rfl) ?_
        refine va_get (D := G) (ci := 4) (v := .ref (ma 1)) (C := RX4) (T := TX4) (N := 13) hx hb hts iX4_digest_X4 hown hK hP 0 rfl rfl 0 (by decide) (hts _ qX4_digest_3) (fun _ h9 => h9) rfl dX4_digest_42 ?_
        refine lv_iconst (v := (1 : Int32)) hx hb dX4_digest_45 (by decide) ?_
        refine va_iald (f := M.1) (n := 70) hx hb hK hP 1 0 rfl rfl (tw_vin (by decide)) dX4_digest_46 ?_
        refine lv_i2l hx hb dX4_digest_47 rfl ?_
        refine lv_ladd hx hb dX4_digest_48 ?_
        refine lv_lstore_n (lv' := [(1, .long (((31 : Int64) * v1) + ((M.1 (1 : Int32).toNatClampNeg).toInt64))), (0, .ref (ma 0)), (3, .int v3)]) hx hb dX4_digest_49 rfl hl (by decide) rfl (fun ls hl => ?_)
        refine lv_iconst (v := (0 : Int32)) hx hb dX4_digest_50 (by decide) ?_
        refine lv_istore_n (lv' := [(3, .int (0 : Int32)), (1, .long (((31 : Int64) * v1) + ((M.1 (1 : Int32).toNatClampNeg).toInt64))), (0, .ref (ma 0))]) hx hb dX4_digest_51 rfl hl (by decide) rfl (fun ls hl => ?_)
        exact L52 512 (((31 : Int64) * v1) + ((M.1 (1 : Int32).toNatClampNeg).toInt64)) (0 : Int32) M H locs ls h (lv_sub hl [2, 1, 0] rfl) hP hD hS
      · replace h := tw_f c14 h
        refine lv_ldc2 hx hb hown (hts _ qX4_digest_1) dX4_digest_17 ?_
        refine lv_lload_n hx hb dX4_digest_20 rfl (lv_at hl 1 rfl) ?_
        refine lv_lmul hx hb dX4_digest_21 ?_
        refine lv_aload_n hx hb dX4_digest_22 rfl (lv_at hl 0 rfl) ?_
        refine lv_iload_n hx hb dX4_digest_23 rfl (lv_at hl 2 rfl) ?_
        obtain ⟨r24, e24, h⟩ := tw_bs h
        refine tw_callViF (ws' := (tw_wM cI ma r24.2)) (As := [.int v3]) (rest := [.long ((31 : Int64) * v1)]) F hN hK hP hD hS hA (mX4_counted l G cI ma M H.size v3 e24) (cwV 1 hts gX4_digest_X4_counted rfl rfl rfl (by decide +kernel) ⟨(Nat.le_of_ble_eq_true rfl), (Nat.le_of_ble_eq_true rfl)⟩) rfl (r0 := 0) (ci := 4) rfl rfl rfl rfl hl.1 rfl (Nat.le_of_ble_eq_true rfl) dX4_digest_24 ⟨Nat.zero_le _, Nat.zero_le _⟩ (fun H locs hP hD hS => ?_)
        refine lv_i2l hx hb dX4_digest_27 rfl ?_
        refine lv_ladd hx hb dX4_digest_28 ?_
        refine lv_lstore_n (lv' := [(1, .long (((31 : Int64) * v1) + r24.1.toInt64)), (0, .ref (ma 0)), (3, .int v3)]) hx hb dX4_digest_29 rfl hl (by decide) rfl (fun ls hl => ?_)
        refine lv_iinc (v := (v3 + 1)) (lv' := [(3, .int (v3 + 1)), (1, .long (((31 : Int64) * v1) + r24.1.toInt64)), (0, .ref (ma 0))]) hx hb dX4_digest_30 hl (k := 2) rfl rfl (by decide) rfl (fun ls hl => ?_)
        refine lv_goto (tgt := 11) hx hb dX4_digest_33 (by decide) ?_
        exact ih11 (((31 : Int64) * v1) + r24.1.toInt64) (v3 + 1) r24.2 H locs ls h (lv_sub hl [2, 1, 0] rfl) hP hD hS
  refine lv_aload_n hx hb dX4_digest_0 rfl (lv_at hl 0 rfl) ?_
  refine lv_iconst (v := (0 : Int32)) hx hb dX4_digest_1 (by decide) ?_
  refine tw_put (ws' := (tw_wM cI ma (M.1, M.2.1, M.2.2.1, M.2.2.2.1, M.2.2.2.2.1, M.2.2.2.2.2.1, (0 : Int32), M.2.2.2.2.2.2.2.1, M.2.2.2.2.2.2.2.2.1, M.2.2.2.2.2.2.2.2.2.1, M.2.2.2.2.2.2.2.2.2.2.1, M.2.2.2.2.2.2.2.2.2.2.2.1, M.2.2.2.2.2.2.2.2.2.2.2.2))) (D := G) (ci := 4) (v := .int (0 : Int32)) (ty := .int) (C := RX4) (T := TX4) (N := 13) hx hb hts iX4_digest_X4 tyX4 tyX4_ok nmX4 hown hK hP hD hS 0 rfl rfl 6 (by decide) (hts _ qX4_digest_4) (fun _ h9 => h9) rfl (by decide +kernel) rfl rfl (Nat.le_of_ble_eq_true rfl) dX4_digest_2 rfl (fun H locs hP hD hS => ?_)
  refine lv_ldc2 hx hb hown (hts _ qX4_digest_5) dX4_digest_5 ?_
  refine lv_lstore_n (lv' := [(1, .long (2791 : Int64)), (0, .ref (ma 0))]) hx hb dX4_digest_8 rfl hl (by decide) rfl (fun ls hl => ?_)
  refine lv_iconst (v := (0 : Int32)) hx hb dX4_digest_9 (by decide) ?_
  refine lv_istore_n (lv' := [(3, .int (0 : Int32)), (1, .long (2791 : Int64)), (0, .ref (ma 0))]) hx hb dX4_digest_10 rfl hl (by decide) rfl (fun ls hl => ?_)
  exact L11 512 (2791 : Int64) (0 : Int32) (M.1, M.2.1, M.2.2.1, M.2.2.2.1, M.2.2.2.2.1, M.2.2.2.2.2.1, (0 : Int32), M.2.2.2.2.2.2.2.1, M.2.2.2.2.2.2.2.2.1, M.2.2.2.2.2.2.2.2.2.1, M.2.2.2.2.2.2.2.2.2.2.1, M.2.2.2.2.2.2.2.2.2.2.2.1, M.2.2.2.2.2.2.2.2.2.2.2.2) H locs ls h (lv_sub hl [2, 1, 0] rfl) hP hD hS
