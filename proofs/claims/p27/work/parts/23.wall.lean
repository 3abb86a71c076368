abbrev rmX3_isTask : Room := { frames := 0, cells := 0, slots := 0, locals := 0 }
set_option maxRecDepth 20000 in
theorem qX3_isTask_0 : (Cond.fieldLink RX3 10 "TheatreWall" "now" "LTheatreWall$State;") ∈ wsX3_isTask := (List.mem_cons_of_mem _ (List.mem_append_left _ (List.mem_append_left _ (List.mem_of_getElem? (i := 0) rfl))))
set_option maxRecDepth 20000 in
theorem qX3_isTask_1 : (Cond.fieldLink RX3 61 "TheatreWall$State" "size" "I") ∈ wsX3_isTask := (List.mem_cons_of_mem _ (List.mem_append_left _ (List.mem_append_left _ (List.mem_of_getElem? (i := 1) rfl))))
set_option maxRecDepth 20000 in
theorem iX3_isTask_X3 : ∀ w ∈ u_ws RX3 TX3 8, w ∈ wsX3_isTask := fun w h => (List.mem_cons_of_mem _ (List.mem_append_left _ (List.mem_append_right _ h)))
set_option maxRecDepth 20000 in
theorem iX3_isTask_X1 : ∀ w ∈ u_ws RX1 TX1 9, w ∈ wsX3_isTask := fun w h => (List.mem_cons_of_mem _ (List.mem_append_right _ h))
set_option maxHeartbeats 4000000 in
set_option maxRecDepth 100000 in
theorem mX3_isTask (l : Launch) (G : va_G) (cI : ClassId) (cQ : ClassId) (a na pa ta qa xa : Nat → Nat) (z : Nat → Nat → Nat) (Y : tw_Wl) (sz : Nat) (p1 : Int32) {rv : Int32} (h : fX3_isTask Y p1 = some rv) : tw_Mi l yX3_isTask wsX3_isTask rmX3_isTask G [(cI, .int), (cQ, .object RX1)] (tw_wW cI cQ a na pa ta qa xa z Y) [.ref (a 0), .int p1] sz rv (tw_wW cI cQ a na pa ta qa xa z Y) := by
  refine tw_ofi (ty := .boolean) (cc := cX3_isTask) (maxL := 2) (own := RX3) (by decide) rfl rfl (Nat.le_of_ble_eq_true rfl) ?_
  intro p e s m args below meth c Q A ls H locs F hN hK hP hD hS hA hl hq
  obtain ⟨hx, hb, hml, hown, hts⟩ := id F
  have hl : lv_has ls 2 [(0, .ref (a 0)), (1, .int p1)] := hl
  unfold fX3_isTask at h
  refine lv_iload_n hx hb dX3_isTask_0 rfl (lv_at hl 1 rfl) ?_
  refine lv_if_lt (tgt := 19) hx hb dX3_isTask_1 (by decide) (fun c1 => ?_) (fun c1 => ?_)
  · replace h := tw_t c1 h
    refine lv_iconst (v := (0 : Int32)) hx hb dX3_isTask_19 (by decide) ?_
    exact hq H locs _ ls (0 : Int32) (tw_rt (fun r => r = (0 : Int32)) h rfl) rfl hP hS dX3_isTask_20
  · replace h := tw_f c1 h
    refine lv_iload_n hx hb dX3_isTask_4 rfl (lv_at hl 1 rfl) ?_
    refine lv_aload_n hx hb dX3_isTask_5 rfl (lv_at hl 0 rfl) ?_
    refine va_get (D := G) (ci := 3) (v := .ref (na 0)) (C := RX3) (T := TX3) (N := 8) hx hb hts iX3_isTask_X3 hown hK hP 0 rfl rfl 0 (by decide) (hts _ qX3_isTask_0) (fun _ h9 => h9) rfl dX3_isTask_6 ?_
    refine va_get (D := G) (ci := 1) (v := .int Y.1.2.2.2.2.2.2.2.1) (C := RX1) (T := TX1) (N := 9) hx hb hts iX3_isTask_X1 hown hK hP 3 rfl rfl 7 (by decide) (hts _ qX3_isTask_1) (fun _ h9 => h9) rfl dX3_isTask_9 ?_
    refine lv_icmp_ge (tgt := 19) hx hb dX3_isTask_12 (by decide) (fun c12 => ?_) (fun c12 => ?_)
    · replace h := tw_t c12 h
      refine lv_iconst (v := (0 : Int32)) hx hb dX3_isTask_19 (by decide) ?_
      exact hq H locs _ ls (0 : Int32) (tw_rt (fun r => r = (0 : Int32)) h rfl) rfl hP hS dX3_isTask_20
    · replace h := tw_f c12 h
      refine lv_iconst (v := (1 : Int32)) hx hb dX3_isTask_15 (by decide) ?_
      refine lv_goto (tgt := 20) hx hb dX3_isTask_16 (by decide) ?_
      exact hq H locs _ ls (1 : Int32) (tw_rt (fun r => r = (1 : Int32)) h rfl) rfl hP hS dX3_isTask_20
abbrev rmX3_couldSlip : Room := { frames := 0, cells := 0, slots := 0, locals := 0 }
set_option maxRecDepth 20000 in
theorem qX3_couldSlip_0 : (Cond.fieldLink RX3 19 "TheatreWall" "plan" "LTheatreWall$Plan;") ∈ wsX3_couldSlip := (List.mem_cons_of_mem _ (List.mem_append_left _ (List.mem_append_left _ (List.mem_of_getElem? (i := 0) rfl))))
set_option maxRecDepth 20000 in
theorem qX3_couldSlip_1 : (Cond.fieldLink RX3 118 "TheatreWall$Plan" "begins" "[I") ∈ wsX3_couldSlip := (List.mem_cons_of_mem _ (List.mem_append_left _ (List.mem_append_left _ (List.mem_of_getElem? (i := 1) rfl))))
set_option maxRecDepth 20000 in
theorem iX3_couldSlip_X3 : ∀ w ∈ u_ws RX3 TX3 8, w ∈ wsX3_couldSlip := fun w h => (List.mem_cons_of_mem _ (List.mem_append_left _ (List.mem_append_right _ h)))
set_option maxRecDepth 20000 in
theorem iX3_couldSlip_X0 : ∀ w ∈ u_ws RX0 TX0 5, w ∈ wsX3_couldSlip := fun w h => (List.mem_cons_of_mem _ (List.mem_append_right _ h))
set_option maxHeartbeats 4000000 in
set_option maxRecDepth 100000 in
theorem mX3_couldSlip (l : Launch) (G : va_G) (cI : ClassId) (cQ : ClassId) (a na pa ta qa xa : Nat → Nat) (z : Nat → Nat → Nat) (Y : tw_Wl) (sz : Nat) (p1 : Int32) (p2 : Int32) {rv : Int32} (h : fX3_couldSlip Y p1 p2 = some rv) : tw_Mi l yX3_couldSlip wsX3_couldSlip rmX3_couldSlip G [(cI, .int), (cQ, .object RX1)] (tw_wW cI cQ a na pa ta qa xa z Y) [.ref (a 0), .int p1, .int p2] sz rv (tw_wW cI cQ a na pa ta qa xa z Y) := by
  refine tw_ofi (ty := .boolean) (cc := cX3_couldSlip) (maxL := 4) (own := RX3) (by decide) rfl rfl (Nat.le_of_ble_eq_true rfl) ?_
  intro p e s m args below meth c Q A ls H locs F hN hK hP hD hS hA hl hq
  obtain ⟨hx, hb, hml, hown, hts⟩ := id F
  have hl : lv_has ls 4 [(0, .ref (a 0)), (1, .int p1), (2, .int p2)] := hl
  unfold fX3_couldSlip at h
  refine lv_aload_n hx hb dX3_couldSlip_0 rfl (lv_at hl 0 rfl) ?_
  refine va_get (D := G) (ci := 3) (v := .ref (pa 0)) (C := RX3) (T := TX3) (N := 8) hx hb hts iX3_couldSlip_X3 hown hK hP 0 rfl rfl 1 (by decide) (hts _ qX3_couldSlip_0) (fun _ h9 => h9) rfl dX3_couldSlip_1 ?_
  refine va_get (D := G) (ci := 0) (v := .ref (pa 1)) (C := RX0) (T := TX0) (N := 5) hx hb hts iX3_couldSlip_X0 hown hK hP 11 rfl rfl 0 (by decide) (hts _ qX3_couldSlip_1) (fun _ h9 => h9) rfl dX3_couldSlip_4 ?_
  refine lv_iload_n hx hb dX3_couldSlip_7 rfl (lv_at hl 1 rfl) ?_
  obtain ⟨g8, h⟩ := tw_gs h
  refine va_iald (f := Y.2.1.1) (n := 12) hx hb hK hP 12 0 rfl rfl g8 dX3_couldSlip_8 ?_
  refine lv_istore_n (lv' := [(3, .int (Y.2.1.1 p1.toNatClampNeg)), (0, .ref (a 0)), (1, .int p1), (2, .int p2)]) hx hb dX3_couldSlip_9 rfl hl (by decide) rfl (fun ls hl => ?_)
  refine lv_iload_n hx hb dX3_couldSlip_10 rfl (lv_at hl 0 rfl) ?_
  refine lv_iconst (v := (-1 : Int32)) hx hb dX3_couldSlip_11 (by decide) ?_
  refine lv_icmp_eq (tgt := 27) hx hb dX3_couldSlip_12 (by decide) (fun c12 => ?_) (fun c12 => ?_)
  · replace h := tw_t c12 h
    refine lv_iconst (v := (0 : Int32)) hx hb dX3_couldSlip_27 (by decide) ?_
    exact hq H locs _ ls (0 : Int32) (tw_rt (fun r => r = (0 : Int32)) h rfl) rfl hP hS dX3_couldSlip_28
  · replace h := tw_f c12 h
    refine lv_iload_n hx hb dX3_couldSlip_15 rfl (lv_at hl 0 rfl) ?_
    refine lv_iload_n hx hb dX3_couldSlip_16 rfl (lv_at hl 3 rfl) ?_
    refine lv_iadd hx hb dX3_couldSlip_17 ?_
    refine lv_bipush (v := (60 : Int32)) hx hb dX3_couldSlip_18 (by decide) ?_
    refine lv_icmp_gt (tgt := 27) hx hb dX3_couldSlip_20 (by decide) (fun c20 => ?_) (fun c20 => ?_)
    · replace h := tw_t c20 h
      refine lv_iconst (v := (0 : Int32)) hx hb dX3_couldSlip_27 (by decide) ?_
      exact hq H locs _ ls (0 : Int32) (tw_rt (fun r => r = (0 : Int32)) h rfl) rfl hP hS dX3_couldSlip_28
    · replace h := tw_f c20 h
      refine lv_iconst (v := (1 : Int32)) hx hb dX3_couldSlip_23 (by decide) ?_
      refine lv_goto (tgt := 28) hx hb dX3_couldSlip_24 (by decide) ?_
      exact hq H locs _ ls (1 : Int32) (tw_rt (fun r => r = (1 : Int32)) h rfl) rfl hP hS dX3_couldSlip_28
abbrev rmX3_tryRule : Room := { frames := 4, cells := 0, slots := 0, locals := 103 }
set_option maxRecDepth 20000 in
theorem qX3_tryRule_0 : (Cond.fieldLink RX3 23 "TheatreWall" "trial" "LTheatreWall$State;") ∈ wsX3_tryRule := (List.mem_cons_of_mem _ (List.mem_append_left _ (List.mem_append_left _ (List.mem_append_left _ (List.mem_append_left _ (List.mem_of_getElem? (i := 0) rfl))))))
set_option maxRecDepth 20000 in
theorem qX3_tryRule_1 : (Cond.fieldLink RX3 10 "TheatreWall" "now" "LTheatreWall$State;") ∈ wsX3_tryRule := (List.mem_cons_of_mem _ (List.mem_append_left _ (List.mem_append_left _ (List.mem_append_left _ (List.mem_append_left _ (List.mem_of_getElem? (i := 1) rfl))))))
set_option maxRecDepth 20000 in
theorem qX3_tryRule_2 : (Cond.fieldLink RX3 139 "TheatreWall$State" "order" "I") ∈ wsX3_tryRule := (List.mem_cons_of_mem _ (List.mem_append_left _ (List.mem_append_left _ (List.mem_append_left _ (List.mem_append_left _ (List.mem_of_getElem? (i := 2) rfl))))))
set_option maxRecDepth 20000 in
theorem qX3_tryRule_3 : (Cond.fieldLink RX3 26 "TheatreWall" "trialPlan" "LTheatreWall$Plan;") ∈ wsX3_tryRule := (List.mem_cons_of_mem _ (List.mem_append_left _ (List.mem_append_left _ (List.mem_append_left _ (List.mem_append_left _ (List.mem_of_getElem? (i := 3) rfl))))))
set_option maxRecDepth 20000 in
theorem iX3_tryRule_X3 : ∀ w ∈ u_ws RX3 TX3 8, w ∈ wsX3_tryRule := fun w h => (List.mem_cons_of_mem _ (List.mem_append_left _ (List.mem_append_left _ (List.mem_append_right _ h))))
set_option maxRecDepth 20000 in
theorem iX3_tryRule_X1 : ∀ w ∈ u_ws RX1 TX1 9, w ∈ wsX3_tryRule := fun w h => (List.mem_cons_of_mem _ (List.mem_append_left _ (List.mem_append_right _ h)))
set_option maxHeartbeats 4000000 in
set_option maxRecDepth 100000 in
theorem mX3_tryRule (l : Launch) (G : va_G) (cI : ClassId) (cQ : ClassId) (a na pa ta qa xa : Nat → Nat) (z : Nat → Nat → Nat) (Y : tw_Wl) (sz : Nat) (p1 : Int32) {rv : tw_Wl} (h : fX3_tryRule Y p1 = some rv) : tw_Mv l yX3_tryRule wsX3_tryRule rmX3_tryRule G [(cI, .int), (cQ, .object RX1)] (tw_wW cI cQ a na pa ta qa xa z Y) [.ref (a 0), .int p1] sz (tw_wW cI cQ a na pa ta qa xa z rv) := by
  refine tw_ofv (cc := cX3_tryRule) (maxL := 2) (own := RX3) (by decide) rfl rfl (Nat.le_of_ble_eq_true rfl) ?_
  intro p e s m args below meth c Q A ls H locs F hN hK hP hD hS hA hl hq
  obtain ⟨hx, hb, hml, hown, hts⟩ := id F
  have hl : lv_has ls 2 [(0, .ref (a 0)), (1, .int p1)] := hl
  unfold fX3_tryRule at h
  refine lv_aload_n hx hb dX3_tryRule_0 rfl (lv_at hl 0 rfl) ?_
  refine va_get (D := G) (ci := 3) (v := .ref (ta 0)) (C := RX3) (T := TX3) (N := 8) hx hb hts iX3_tryRule_X3 hown hK hP 0 rfl rfl 2 (by decide) (hts _ qX3_tryRule_0) (fun _ h9 => h9) rfl dX3_tryRule_1 ?_
  refine lv_aload_n hx hb dX3_tryRule_4 rfl (lv_at hl 0 rfl) ?_
  refine va_get (D := G) (ci := 3) (v := .ref (na 0)) (C := RX3) (T := TX3) (N := 8) hx hb hts iX3_tryRule_X3 hown hK hP 0 rfl rfl 0 (by decide) (hts _ qX3_tryRule_1) (fun _ h9 => h9) rfl dX3_tryRule_5 ?_
  obtain ⟨r8, e8, h⟩ := tw_bs h
  refine tw_callVv (ws' := (tw_wW cI cQ a na pa ta qa xa z (Y.1, Y.2.1, r8, Y.2.2.2.1, Y.2.2.2.2.1, Y.2.2.2.2.2.1, Y.2.2.2.2.2.2.1, Y.2.2.2.2.2.2.2.1, Y.2.2.2.2.2.2.2.2))) (As := [.ref (na 0)]) (rest := []) F hN hK hP hD hS hA (mX1_copyFrom l G cI ta na Y.2.2.1 Y.1 H.size e8) (cwV 1 hts gX3_tryRule_X1_copyFrom rfl rfl rfl (by decide +kernel) ⟨(Nat.le_of_ble_eq_true rfl), (Nat.le_of_ble_eq_true rfl)⟩) [0] rfl [14, 15, 16, 17, 18, 19, 20, 21, 3, 4, 5, 6, 7, 8, 9, 10] tw_cTN_nd tw_cTN_C rfl tw_cTN_M (r0 := 0) (ci := 1) rfl rfl rfl rfl hl.1 rfl (Nat.le_of_ble_eq_true rfl) dX3_tryRule_8 ⟨Nat.zero_le _, Nat.zero_le _⟩ (fun H locs hP hD hS => ?_)
  refine lv_aload_n hx hb dX3_tryRule_11 rfl (lv_at hl 0 rfl) ?_
  refine va_get (D := G) (ci := 3) (v := .ref (ta 0)) (C := RX3) (T := TX3) (N := 8) hx hb hts iX3_tryRule_X3 hown hK hP 0 rfl rfl 2 (by decide) (hts _ qX3_tryRule_0) (fun _ h9 => h9) rfl dX3_tryRule_12 ?_
  refine lv_iload_n hx hb dX3_tryRule_15 rfl (lv_at hl 1 rfl) ?_
  refine tw_put (ws' := (tw_wW cI cQ a na pa ta qa xa z (Y.1, Y.2.1, (r8.1, r8.2.1, r8.2.2.1, r8.2.2.2.1, r8.2.2.2.2.1, r8.2.2.2.2.2.1, r8.2.2.2.2.2.2.1, r8.2.2.2.2.2.2.2.1, p1), Y.2.2.2.1, Y.2.2.2.2.1, Y.2.2.2.2.2.1, Y.2.2.2.2.2.2.1, Y.2.2.2.2.2.2.2.1, Y.2.2.2.2.2.2.2.2))) (D := G) (ci := 1) (v := .int p1) (ty := .int) (C := RX1) (T := TX1) (N := 9) hx hb hts iX3_tryRule_X1 tyX1 tyX1_ok nmX1 hown hK hP hD hS 14 rfl rfl 8 (by decide) (hts _ qX3_tryRule_2) (fun _ h9 => h9) rfl (by decide +kernel) rfl rfl (Nat.le_of_ble_eq_true rfl) dX3_tryRule_16 rfl (fun H locs hP hD hS => ?_)
  refine lv_aload_n hx hb dX3_tryRule_19 rfl (lv_at hl 0 rfl) ?_
  refine va_get (D := G) (ci := 3) (v := .ref (qa 0)) (C := RX3) (T := TX3) (N := 8) hx hb hts iX3_tryRule_X3 hown hK hP 0 rfl rfl 3 (by decide) (hts _ qX3_tryRule_3) (fun _ h9 => h9) rfl dX3_tryRule_20 ?_
  refine lv_aload_n hx hb dX3_tryRule_23 rfl (lv_at hl 0 rfl) ?_
  refine va_get (D := G) (ci := 3) (v := .ref (ta 0)) (C := RX3) (T := TX3) (N := 8) hx hb hts iX3_tryRule_X3 hown hK hP 0 rfl rfl 2 (by decide) (hts _ qX3_tryRule_0) (fun _ h9 => h9) rfl dX3_tryRule_24 ?_
  obtain ⟨r27, e27, h⟩ := tw_bs h
  refine tw_callVv (ws' := (tw_wW cI cQ a na pa ta qa xa z (Y.1, Y.2.1, (r8.1, r8.2.1, r8.2.2.1, r8.2.2.2.1, r8.2.2.2.2.1, r8.2.2.2.2.2.1, r8.2.2.2.2.2.2.1, r8.2.2.2.2.2.2.2.1, p1), r27, Y.2.2.2.2.1, Y.2.2.2.2.2.1, Y.2.2.2.2.2.2.1, Y.2.2.2.2.2.2.2.1, Y.2.2.2.2.2.2.2.2))) (As := [.ref (ta 0)]) (rest := []) F hN hK hP hD hS hA (mX0_lay l G cI qa ta Y.2.2.2.1 (r8.1, r8.2.1, r8.2.2.1, r8.2.2.2.1, r8.2.2.2.2.1, r8.2.2.2.2.2.1, r8.2.2.2.2.2.2.1, r8.2.2.2.2.2.2.2.1, p1) H.size e27) (cwV 1 hts gX3_tryRule_X0_lay rfl rfl rfl (by decide +kernel) ⟨(Nat.le_of_ble_eq_true rfl), (Nat.le_of_ble_eq_true rfl)⟩) [0] rfl [22, 23, 24, 14, 15, 16, 17, 18, 19, 20, 21] tw_cQT_nd tw_cQT_C rfl tw_cQT_M (r0 := 0) (ci := 0) rfl rfl rfl rfl hl.1 rfl (Nat.le_of_ble_eq_true rfl) dX3_tryRule_27 ⟨Nat.zero_le _, Nat.zero_le _⟩ (fun H locs hP hD hS => ?_)
  exact hq H locs _ ls (tw_rt (fun r => va_P G vwCl (tw_wW cI cQ a na pa ta qa xa z r) H) h hP) hS dX3_tryRule_30
abbrev rmX3_slackOf : Room := { frames := 4, cells := 0, slots := 0, locals := 103 }
set_option maxRecDepth 20000 in
theorem qX3_slackOf_0 : (Cond.fieldLink RX3 23 "TheatreWall" "trial" "LTheatreWall$State;") ∈ wsX3_slackOf := (List.mem_cons_of_mem _ (List.mem_append_left _ (List.mem_append_left _ (List.mem_append_left _ (List.mem_append_left _ (List.mem_of_getElem? (i := 2) rfl))))))
set_option maxRecDepth 20000 in
theorem qX3_slackOf_1 : (Cond.fieldLink RX3 115 "TheatreWall$State" "earliest" "[I") ∈ wsX3_slackOf := (List.mem_cons_of_mem _ (List.mem_append_left _ (List.mem_append_left _ (List.mem_append_left _ (List.mem_append_left _ (List.mem_of_getElem? (i := 4) rfl))))))
set_option maxRecDepth 20000 in
theorem qX3_slackOf_2 : (Cond.fieldLink RX3 26 "TheatreWall" "trialPlan" "LTheatreWall$Plan;") ∈ wsX3_slackOf := (List.mem_cons_of_mem _ (List.mem_append_left _ (List.mem_append_left _ (List.mem_append_left _ (List.mem_append_left _ (List.mem_of_getElem? (i := 5) rfl))))))
set_option maxRecDepth 20000 in
theorem qX3_slackOf_3 : (Cond.fieldLink RX3 133 "TheatreWall$Plan" "laidCount" "I") ∈ wsX3_slackOf := (List.mem_cons_of_mem _ (List.mem_append_left _ (List.mem_append_left _ (List.mem_append_left _ (List.mem_append_left _ (List.mem_of_getElem? (i := 6) rfl))))))
set_option maxRecDepth 20000 in
theorem qX3_slackOf_4 : (Cond.fieldLink RX3 19 "TheatreWall" "plan" "LTheatreWall$Plan;") ∈ wsX3_slackOf := (List.mem_cons_of_mem _ (List.mem_append_left _ (List.mem_append_left _ (List.mem_append_left _ (List.mem_append_left _ (List.mem_of_getElem? (i := 0) rfl))))))
set_option maxRecDepth 20000 in
theorem qX3_slackOf_5 : (Cond.fieldLink RX3 112 "TheatreWall$Plan" "end" "I") ∈ wsX3_slackOf := (List.mem_cons_of_mem _ (List.mem_append_left _ (List.mem_append_left _ (List.mem_append_left _ (List.mem_append_left _ (List.mem_of_getElem? (i := 7) rfl))))))
set_option maxRecDepth 20000 in
theorem qX3_slackOf_6 : (Cond.fieldLink RX3 118 "TheatreWall$Plan" "begins" "[I") ∈ wsX3_slackOf := (List.mem_cons_of_mem _ (List.mem_append_left _ (List.mem_append_left _ (List.mem_append_left _ (List.mem_append_left _ (List.mem_of_getElem? (i := 1) rfl))))))
set_option maxRecDepth 20000 in
theorem qX3_slackOf_7 : (Cond.fieldLink RX3 10 "TheatreWall" "now" "LTheatreWall$State;") ∈ wsX3_slackOf := (List.mem_cons_of_mem _ (List.mem_append_left _ (List.mem_append_left _ (List.mem_append_left _ (List.mem_append_left _ (List.mem_of_getElem? (i := 3) rfl))))))
set_option maxRecDepth 20000 in
theorem iX3_slackOf_X3 : ∀ w ∈ u_ws RX3 TX3 8, w ∈ wsX3_slackOf := fun w h => (List.mem_cons_of_mem _ (List.mem_append_left _ (List.mem_append_left _ (List.mem_append_right _ h))))
set_option maxRecDepth 20000 in
theorem iX3_slackOf_X1 : ∀ w ∈ u_ws RX1 TX1 9, w ∈ wsX3_slackOf := fun w h => (List.mem_cons_of_mem _ (List.mem_append_right _ h))
set_option maxRecDepth 20000 in
theorem iX3_slackOf_X0 : ∀ w ∈ u_ws RX0 TX0 5, w ∈ wsX3_slackOf := fun w h => (List.mem_cons_of_mem _ (List.mem_append_left _ (List.mem_append_right _ h)))
set_option maxHeartbeats 4000000 in
set_option maxRecDepth 100000 in
theorem mX3_slackOf (l : Launch) (G : va_G) (cI : ClassId) (cQ : ClassId) (a na pa ta qa xa : Nat → Nat) (z : Nat → Nat → Nat) (Y : tw_Wl) (sz : Nat) (p1 : Int32) {rv : Int32 × tw_Wl} (h : fX3_slackOf Y p1 = some rv) : tw_Mi l yX3_slackOf wsX3_slackOf rmX3_slackOf G [(cI, .int), (cQ, .object RX1)] (tw_wW cI cQ a na pa ta qa xa z Y) [.ref (a 0), .int p1] sz rv.1 (tw_wW cI cQ a na pa ta qa xa z rv.2) := by
  refine tw_ofi (ty := .int) (cc := cX3_slackOf) (maxL := 4) (own := RX3) (by decide) rfl rfl (Nat.le_of_ble_eq_true rfl) ?_
  intro p e s m args below meth c Q A ls H locs F hN hK hP hD hS hA hl hq
  obtain ⟨hx, hb, hml, hown, hts⟩ := id F
  have hl : lv_has ls 4 [(0, .ref (a 0)), (1, .int p1)] := hl
  unfold fX3_slackOf at h
  have L31 : ∀ (n31 : Nat) (v2 : Int32) (v3 : Int32) (Y : tw_Wl) (H : Heap) (locs : List Loc) (ls : Array Slot), fX3_slackOf_31 p1 n31 v2 v3 Y = some rv → lv_has ls 4 [(0, .ref (a 0)), (1, .int p1), (2, .int v2), (3, .int v3)] → va_P G vwCl (tw_wW cI cQ a na pa ta qa xa z Y) H → va_D A (tw_wW cI cQ a na pa ta qa xa z Y) → va_S A s.heap H locs → W p l e rmX3_slackOf s m args below meth c H locs 0 0 Q (F0 m 31 ls []) := by
    intro n31
    induction n31 with
    | zero =>
      intro v2 v3 Y H locs ls h
      rw [fX3_slackOf_31] at h
      cases h
    | succ n31 ih31 =>
      intro v2 v3 Y H locs ls h hl hP hD hS
      rw [fX3_slackOf_31] at h
      refine lv_iload_n hx hb dX3_slackOf_31 rfl (lv_at hl 3 rfl) ?_
      refine lv_if_le (tgt := 100) hx hb dX3_slackOf_32 (by decide) (fun c32 => ?_) (fun c32 => ?_)
      · replace h := tw_t c32 h
        refine lv_iconst (v := (0 : Int32)) hx hb dX3_slackOf_100 (by decide) ?_
        exact hq H locs _ ls (0 : Int32) (tw_rt (fun r => r.1 = (0 : Int32)) h rfl) rfl (tw_rt (fun r => va_P G vwCl (tw_wW cI cQ a na pa ta qa xa z r.2) H) h hP) hS dX3_slackOf_101
      · replace h := tw_f c32 h
        refine lv_aload_n hx hb dX3_slackOf_35 rfl (lv_at hl 0 rfl) ?_
        refine va_get (D := G) (ci := 3) (v := .ref (ta 0)) (C := RX3) (T := TX3) (N := 8) hx hb hts iX3_slackOf_X3 hown hK hP 0 rfl rfl 2 (by decide) (hts _ qX3_slackOf_0) (fun _ h9 => h9) rfl dX3_slackOf_36 ?_
        refine va_get (D := G) (ci := 1) (v := .ref (ta 4)) (C := RX1) (T := TX1) (N := 9) hx hb hts iX3_slackOf_X1 hown hK hP 14 rfl rfl 3 (by decide) (hts _ qX3_slackOf_1) (fun _ h9 => h9) rfl dX3_slackOf_39 ?_
        refine lv_iload_n hx hb dX3_slackOf_42 rfl (lv_at hl 1 rfl) ?_
        refine lv_iload_n hx hb dX3_slackOf_43 rfl (lv_at hl 2 rfl) ?_
        refine lv_iload_n hx hb dX3_slackOf_44 rfl (lv_at hl 3 rfl) ?_
        refine lv_iadd hx hb dX3_slackOf_45 ?_
        obtain ⟨g46, h⟩ := tw_gs h
        refine tw_iast (ws' := (tw_wW cI cQ a na pa ta qa xa z (Y.1, Y.2.1, (Y.2.2.1.1, Y.2.2.1.2.1, Y.2.2.1.2.2.1, (upd Y.2.2.1.2.2.2.1 p1.toNatClampNeg (v2 + v3)), Y.2.2.1.2.2.2.2.1, Y.2.2.1.2.2.2.2.2.1, Y.2.2.1.2.2.2.2.2.2.1, Y.2.2.1.2.2.2.2.2.2.2.1, Y.2.2.1.2.2.2.2.2.2.2.2), Y.2.2.2.1, Y.2.2.2.2.1, Y.2.2.2.2.2.1, Y.2.2.2.2.2.2.1, Y.2.2.2.2.2.2.2.1, Y.2.2.2.2.2.2.2.2))) (f := Y.2.2.1.2.2.2.1) (n := 12) hx hb hK hP hD hS 18 0 rfl rfl g46 dX3_slackOf_46 rfl (fun H locs hP hD hS => ?_)
        refine lv_aload_n hx hb dX3_slackOf_47 rfl (lv_at hl 0 rfl) ?_
        refine va_get (D := G) (ci := 3) (v := .ref (qa 0)) (C := RX3) (T := TX3) (N := 8) hx hb hts iX3_slackOf_X3 hown hK hP 0 rfl rfl 3 (by decide) (hts _ qX3_slackOf_2) (fun _ h9 => h9) rfl dX3_slackOf_48 ?_
        refine lv_aload_n hx hb dX3_slackOf_51 rfl (lv_at hl 0 rfl) ?_
        refine va_get (D := G) (ci := 3) (v := .ref (ta 0)) (C := RX3) (T := TX3) (N := 8) hx hb hts iX3_slackOf_X3 hown hK hP 0 rfl rfl 2 (by decide) (hts _ qX3_slackOf_0) (fun _ h9 => h9) rfl dX3_slackOf_52 ?_
        obtain ⟨r55, e55, h⟩ := tw_bs h
        refine tw_callVv (ws' := (tw_wW cI cQ a na pa ta qa xa z (Y.1, Y.2.1, (Y.2.2.1.1, Y.2.2.1.2.1, Y.2.2.1.2.2.1, (upd Y.2.2.1.2.2.2.1 p1.toNatClampNeg (v2 + v3)), Y.2.2.1.2.2.2.2.1, Y.2.2.1.2.2.2.2.2.1, Y.2.2.1.2.2.2.2.2.2.1, Y.2.2.1.2.2.2.2.2.2.2.1, Y.2.2.1.2.2.2.2.2.2.2.2), r55, Y.2.2.2.2.1, Y.2.2.2.2.2.1, Y.2.2.2.2.2.2.1, Y.2.2.2.2.2.2.2.1, Y.2.2.2.2.2.2.2.2))) (As := [.ref (ta 0)]) (rest := []) F hN hK hP hD hS hA (mX0_lay l G cI qa ta Y.2.2.2.1 (Y.2.2.1.1, Y.2.2.1.2.1, Y.2.2.1.2.2.1, (upd Y.2.2.1.2.2.2.1 p1.toNatClampNeg (v2 + v3)), Y.2.2.1.2.2.2.2.1, Y.2.2.1.2.2.2.2.2.1, Y.2.2.1.2.2.2.2.2.2.1, Y.2.2.1.2.2.2.2.2.2.2.1, Y.2.2.1.2.2.2.2.2.2.2.2) H.size e55) (cwV 1 hts gX3_slackOf_X0_lay rfl rfl rfl (by decide +kernel) ⟨(Nat.le_of_ble_eq_true rfl), (Nat.le_of_ble_eq_true rfl)⟩) [0] rfl [22, 23, 24, 14, 15, 16, 17, 18, 19, 20, 21] tw_cQT_nd tw_cQT_C rfl tw_cQT_M (r0 := 0) (ci := 0) rfl rfl rfl rfl hl.1 rfl (Nat.le_of_ble_eq_true rfl) dX3_slackOf_55 ⟨Nat.zero_le _, Nat.zero_le _⟩ (fun H locs hP hD hS => ?_)
        refine lv_aload_n hx hb dX3_slackOf_58 rfl (lv_at hl 0 rfl) ?_
        refine va_get (D := G) (ci := 3) (v := .ref (qa 0)) (C := RX3) (T := TX3) (N := 8) hx hb hts iX3_slackOf_X3 hown hK hP 0 rfl rfl 3 (by decide) (hts _ qX3_slackOf_2) (fun _ h9 => h9) rfl dX3_slackOf_59 ?_
        refine va_get (D := G) (ci := 0) (v := .int r55.2.2.2.1) (C := RX0) (T := TX0) (N := 5) hx hb hts iX3_slackOf_X0 hown hK hP 22 rfl rfl 3 (by decide) (hts _ qX3_slackOf_3) (fun _ h9 => h9) rfl dX3_slackOf_62 ?_
        refine lv_aload_n hx hb dX3_slackOf_65 rfl (lv_at hl 0 rfl) ?_
        refine va_get (D := G) (ci := 3) (v := .ref (pa 0)) (C := RX3) (T := TX3) (N := 8) hx hb hts iX3_slackOf_X3 hown hK hP 0 rfl rfl 1 (by decide) (hts _ qX3_slackOf_4) (fun _ h9 => h9) rfl dX3_slackOf_66 ?_
        refine va_get (D := G) (ci := 0) (v := .int Y.2.1.2.2.2.1) (C := RX0) (T := TX0) (N := 5) hx hb hts iX3_slackOf_X0 hown hK hP 11 rfl rfl 3 (by decide) (hts _ qX3_slackOf_3) (fun _ h9 => h9) rfl dX3_slackOf_69 ?_
        refine lv_icmp_lt (tgt := 94) hx hb dX3_slackOf_72 (by decide) (fun c72 => ?_) (fun c72 => ?_)
        · replace h := tw_t c72 h
          refine lv_iinc (v := (v3 + (-1))) (lv' := [(3, .int (v3 + (-1))), (0, .ref (a 0)), (1, .int p1), (2, .int v2)]) hx hb dX3_slackOf_94 hl (k := 3) rfl rfl (by decide) rfl (fun ls hl => ?_)
          refine lv_goto (tgt := 31) hx hb dX3_slackOf_97 (by decide) ?_
          exact ih31 v2 (v3 + (-1)) (Y.1, Y.2.1, (Y.2.2.1.1, Y.2.2.1.2.1, Y.2.2.1.2.2.1, (upd Y.2.2.1.2.2.2.1 p1.toNatClampNeg (v2 + v3)), Y.2.2.1.2.2.2.2.1, Y.2.2.1.2.2.2.2.2.1, Y.2.2.1.2.2.2.2.2.2.1, Y.2.2.1.2.2.2.2.2.2.2.1, Y.2.2.1.2.2.2.2.2.2.2.2), r55, Y.2.2.2.2.1, Y.2.2.2.2.2.1, Y.2.2.2.2.2.2.1, Y.2.2.2.2.2.2.2.1, Y.2.2.2.2.2.2.2.2) H locs ls h (lv_sub hl [1, 2, 3, 0] rfl) hP hD hS
        · replace h := tw_f c72 h
          refine lv_aload_n hx hb dX3_slackOf_75 rfl (lv_at hl 0 rfl) ?_
          refine va_get (D := G) (ci := 3) (v := .ref (qa 0)) (C := RX3) (T := TX3) (N := 8) hx hb hts iX3_slackOf_X3 hown hK hP 0 rfl rfl 3 (by decide) (hts _ qX3_slackOf_2) (fun _ h9 => h9) rfl dX3_slackOf_76 ?_
          refine va_get (D := G) (ci := 0) (v := .int r55.2.2.2.2) (C := RX0) (T := TX0) (N := 5) hx hb hts iX3_slackOf_X0 hown hK hP 22 rfl rfl 4 (by decide) (hts _ qX3_slackOf_5) (fun _ h9 => h9) rfl dX3_slackOf_79 ?_
          refine lv_aload_n hx hb dX3_slackOf_82 rfl (lv_at hl 0 rfl) ?_
          refine va_get (D := G) (ci := 3) (v := .ref (pa 0)) (C := RX3) (T := TX3) (N := 8) hx hb hts iX3_slackOf_X3 hown hK hP 0 rfl rfl 1 (by decide) (hts _ qX3_slackOf_4) (fun _ h9 => h9) rfl dX3_slackOf_83 ?_
          refine va_get (D := G) (ci := 0) (v := .int Y.2.1.2.2.2.2) (C := RX0) (T := TX0) (N := 5) hx hb hts iX3_slackOf_X0 hown hK hP 11 rfl rfl 4 (by decide) (hts _ qX3_slackOf_5) (fun _ h9 => h9) rfl dX3_slackOf_86 ?_
          refine lv_icmp_gt (tgt := 94) hx hb dX3_slackOf_89 (by decide) (fun c89 => ?_) (fun c89 => ?_)
          · replace h := tw_t c89 h
            refine lv_iinc (v := (v3 + (-1))) (lv' := [(3, .int (v3 + (-1))), (0, .ref (a 0)), (1, .int p1), (2, .int v2)]) hx hb dX3_slackOf_94 hl (k := 3) rfl rfl (by decide) rfl (fun ls hl => ?_)
            refine lv_goto (tgt := 31) hx hb dX3_slackOf_97 (by decide) ?_
            exact ih31 v2 (v3 + (-1)) (Y.1, Y.2.1, (Y.2.2.1.1, Y.2.2.1.2.1, Y.2.2.1.2.2.1, (upd Y.2.2.1.2.2.2.1 p1.toNatClampNeg (v2 + v3)), Y.2.2.1.2.2.2.2.1, Y.2.2.1.2.2.2.2.2.1, Y.2.2.1.2.2.2.2.2.2.1, Y.2.2.1.2.2.2.2.2.2.2.1, Y.2.2.1.2.2.2.2.2.2.2.2), r55, Y.2.2.2.2.1, Y.2.2.2.2.2.1, Y.2.2.2.2.2.2.1, Y.2.2.2.2.2.2.2.1, Y.2.2.2.2.2.2.2.2) H locs ls h (lv_sub hl [1, 2, 3, 0] rfl) hP hD hS
          · replace h := tw_f c89 h
            refine lv_iload_n hx hb dX3_slackOf_92 rfl (lv_at hl 3 rfl) ?_
            exact hq H locs _ ls v3 (tw_rt (fun r => r.1 = v3) h rfl) rfl (tw_rt (fun r => va_P G vwCl (tw_wW cI cQ a na pa ta qa xa z r.2) H) h hP) hS dX3_slackOf_93
  refine lv_aload_n hx hb dX3_slackOf_0 rfl (lv_at hl 0 rfl) ?_
  refine va_get (D := G) (ci := 3) (v := .ref (pa 0)) (C := RX3) (T := TX3) (N := 8) hx hb hts iX3_slackOf_X3 hown hK hP 0 rfl rfl 1 (by decide) (hts _ qX3_slackOf_4) (fun _ h9 => h9) rfl dX3_slackOf_1 ?_
  refine va_get (D := G) (ci := 0) (v := .ref (pa 1)) (C := RX0) (T := TX0) (N := 5) hx hb hts iX3_slackOf_X0 hown hK hP 11 rfl rfl 0 (by decide) (hts _ qX3_slackOf_6) (fun _ h9 => h9) rfl dX3_slackOf_4 ?_
  refine lv_iload_n hx hb dX3_slackOf_7 rfl (lv_at hl 1 rfl) ?_
  obtain ⟨g8, h⟩ := tw_gs h
  refine va_iald (f := Y.2.1.1) (n := 12) hx hb hK hP 12 0 rfl rfl g8 dX3_slackOf_8 ?_
  refine lv_istore_n (lv' := [(2, .int (Y.2.1.1 p1.toNatClampNeg)), (0, .ref (a 0)), (1, .int p1)]) hx hb dX3_slackOf_9 rfl hl (by decide) rfl (fun ls hl => ?_)
  refine lv_iload_n hx hb dX3_slackOf_10 rfl (lv_at hl 0 rfl) ?_
  refine lv_iconst (v := (-1 : Int32)) hx hb dX3_slackOf_11 (by decide) ?_
  refine lv_icmp_ne (tgt := 17) hx hb dX3_slackOf_12 (by decide) (fun c12 => ?_) (fun c12 => ?_)
  · replace h := tw_t c12 h
    refine lv_aload_n hx hb dX3_slackOf_17 rfl (lv_at hl 1 rfl) ?_
    refine va_get (D := G) (ci := 3) (v := .ref (ta 0)) (C := RX3) (T := TX3) (N := 8) hx hb hts iX3_slackOf_X3 hown hK hP 0 rfl rfl 2 (by decide) (hts _ qX3_slackOf_0) (fun _ h9 => h9) rfl dX3_slackOf_18 ?_
    refine lv_aload_n hx hb dX3_slackOf_21 rfl (lv_at hl 1 rfl) ?_
    refine va_get (D := G) (ci := 3) (v := .ref (na 0)) (C := RX3) (T := TX3) (N := 8) hx hb hts iX3_slackOf_X3 hown hK hP 0 rfl rfl 0 (by decide) (hts _ qX3_slackOf_7) (fun _ h9 => h9) rfl dX3_slackOf_22 ?_
    obtain ⟨r25, e25, h⟩ := tw_bs h
    refine tw_callVv (ws' := (tw_wW cI cQ a na pa ta qa xa z (Y.1, Y.2.1, r25, Y.2.2.2.1, Y.2.2.2.2.1, Y.2.2.2.2.2.1, Y.2.2.2.2.2.2.1, Y.2.2.2.2.2.2.2.1, Y.2.2.2.2.2.2.2.2))) (As := [.ref (na 0)]) (rest := []) F hN hK hP hD hS hA (mX1_copyFrom l G cI ta na Y.2.2.1 Y.1 H.size e25) (cwV 1 hts gX3_slackOf_X1_copyFrom rfl rfl rfl (by decide +kernel) ⟨(Nat.le_of_ble_eq_true rfl), (Nat.le_of_ble_eq_true rfl)⟩) [0] rfl [14, 15, 16, 17, 18, 19, 20, 21, 3, 4, 5, 6, 7, 8, 9, 10] tw_cTN_nd tw_cTN_C rfl tw_cTN_M (r0 := 0) (ci := 1) rfl rfl rfl rfl hl.1 rfl (Nat.le_of_ble_eq_true rfl) dX3_slackOf_25 ⟨Nat.zero_le _, Nat.zero_le _⟩ (fun H locs hP hD hS => ?_)
    refine lv_bipush (v := (30 : Int32)) hx hb dX3_slackOf_28 (by decide) ?_
    refine lv_istore_n (lv' := [(3, .int (30 : Int32)), (2, .int (Y.2.1.1 p1.toNatClampNeg)), (0, .ref (a 0)), (1, .int p1)]) hx hb dX3_slackOf_30 rfl hl (by decide) rfl (fun ls hl => ?_)
    exact L31 512 (Y.2.1.1 p1.toNatClampNeg) (30 : Int32) (Y.1, Y.2.1, r25, Y.2.2.2.1, Y.2.2.2.2.1, Y.2.2.2.2.2.1, Y.2.2.2.2.2.2.1, Y.2.2.2.2.2.2.2.1, Y.2.2.2.2.2.2.2.2) H locs ls h (lv_sub hl [2, 3, 1, 0] rfl) hP hD hS
  · replace h := tw_fn c12 h
    refine lv_iconst (v := (-1 : Int32)) hx hb dX3_slackOf_15 (by decide) ?_
    exact hq H locs _ ls (-1 : Int32) (tw_rt (fun r => r.1 = (-1 : Int32)) h rfl) rfl (tw_rt (fun r => va_P G vwCl (tw_wW cI cQ a na pa ta qa xa z r.2) H) h hP) hS dX3_slackOf_16
abbrev rmX3_criticalTasks : Room := { frames := 5, cells := 0, slots := 0, locals := 126 }
set_option maxRecDepth 20000 in
theorem qX3_criticalTasks_0 : (Cond.fieldLink RX3 10 "TheatreWall" "now" "LTheatreWall$State;") ∈ wsX3_criticalTasks := (List.mem_cons_of_mem _ (List.mem_append_left _ (List.mem_append_left _ (List.mem_append_left _ (List.mem_append_left _ (List.mem_of_getElem? (i := 0) rfl))))))
set_option maxRecDepth 20000 in
theorem qX3_criticalTasks_1 : (Cond.fieldLink RX3 61 "TheatreWall$State" "size" "I") ∈ wsX3_criticalTasks := (List.mem_cons_of_mem _ (List.mem_append_left _ (List.mem_append_left _ (List.mem_append_left _ (List.mem_append_left _ (List.mem_of_getElem? (i := 1) rfl))))))
set_option maxRecDepth 20000 in
theorem iX3_criticalTasks_X3 : ∀ w ∈ u_ws RX3 TX3 8, w ∈ wsX3_criticalTasks := fun w h => (List.mem_cons_of_mem _ (List.mem_append_left _ (List.mem_append_left _ (List.mem_append_right _ h))))
set_option maxRecDepth 20000 in
theorem iX3_criticalTasks_X1 : ∀ w ∈ u_ws RX1 TX1 9, w ∈ wsX3_criticalTasks := fun w h => (List.mem_cons_of_mem _ (List.mem_append_left _ (List.mem_append_right _ h)))
set_option maxHeartbeats 4000000 in
set_option maxRecDepth 100000 in
theorem mX3_criticalTasks (l : Launch) (G : va_G) (cI : ClassId) (cQ : ClassId) (a na pa ta qa xa : Nat → Nat) (z : Nat → Nat → Nat) (Y : tw_Wl) (sz : Nat)  {rv : Int32 × tw_Wl} (h : fX3_criticalTasks Y = some rv) : tw_Mi l yX3_criticalTasks wsX3_criticalTasks rmX3_criticalTasks G [(cI, .int), (cQ, .object RX1)] (tw_wW cI cQ a na pa ta qa xa z Y) [.ref (a 0)] sz rv.1 (tw_wW cI cQ a na pa ta qa xa z rv.2) := by
  refine tw_ofi (ty := .int) (cc := cX3_criticalTasks) (maxL := 3) (own := RX3) (by decide) rfl rfl (Nat.le_of_ble_eq_true rfl) ?_
  intro p e s m args below meth c Q A ls H locs F hN hK hP hD hS hA hl hq
  obtain ⟨hx, hb, hml, hown, hts⟩ := id F
  have hl : lv_has ls 3 [(0, .ref (a 0))] := hl
  unfold fX3_criticalTasks at h
  have L4 : ∀ (n4 : Nat) (v1 : Int32) (v2 : Int32) (Y : tw_Wl) (H : Heap) (locs : List Loc) (ls : Array Slot), fX3_criticalTasks_4 n4 v1 v2 Y = some rv → lv_has ls 3 [(0, .ref (a 0)), (1, .int v1), (2, .int v2)] → va_P G vwCl (tw_wW cI cQ a na pa ta qa xa z Y) H → va_D A (tw_wW cI cQ a na pa ta qa xa z Y) → va_S A s.heap H locs → W p l e rmX3_criticalTasks s m args below meth c H locs 0 0 Q (F0 m 4 ls []) := by
    intro n4
    induction n4 with
    | zero =>
      intro v1 v2 Y H locs ls h
      rw [fX3_criticalTasks_4] at h
      cases h
    | succ n4 ih4 =>
      intro v1 v2 Y H locs ls h hl hP hD hS
      rw [fX3_criticalTasks_4] at h
      refine lv_iload_n hx hb dX3_criticalTasks_4 rfl (lv_at hl 2 rfl) ?_
      refine lv_aload_n hx hb dX3_criticalTasks_5 rfl (lv_at hl 0 rfl) ?_
      refine va_get (D := G) (ci := 3) (v := .ref (na 0)) (C := RX3) (T := TX3) (N := 8) hx hb hts iX3_criticalTasks_X3 hown hK hP 0 rfl rfl 0 (by decide) (hts _ qX3_criticalTasks_0) (fun _ h9 => h9) rfl dX3_criticalTasks_6 ?_
      refine va_get (D := G) (ci := 1) (v := .int Y.1.2.2.2.2.2.2.2.1) (C := RX1) (T := TX1) (N := 9) hx hb hts iX3_criticalTasks_X1 hown hK hP 3 rfl rfl 7 (by decide) (hts _ qX3_criticalTasks_1) (fun _ h9 => h9) rfl dX3_criticalTasks_9 ?_
      refine lv_icmp_ge (tgt := 32) hx hb dX3_criticalTasks_12 (by decide) (fun c12 => ?_) (fun c12 => ?_)
      · replace h := tw_t c12 h
        refine lv_iload_n hx hb dX3_criticalTasks_32 rfl (lv_at hl 1 rfl) ?_
        exact hq H locs _ ls v1 (tw_rt (fun r => r.1 = v1) h rfl) rfl (tw_rt (fun r => va_P G vwCl (tw_wW cI cQ a na pa ta qa xa z r.2) H) h hP) hS dX3_criticalTasks_33
      · replace h := tw_f c12 h
        refine lv_aload_n hx hb dX3_criticalTasks_15 rfl (lv_at hl 0 rfl) ?_
        refine lv_iload_n hx hb dX3_criticalTasks_16 rfl (lv_at hl 2 rfl) ?_
        obtain ⟨r17, e17, h⟩ := tw_bs h
        refine tw_callViF (ws' := (tw_wW cI cQ a na pa ta qa xa z r17.2)) (As := [.int v2]) (rest := []) F hN hK hP hD hS hA (mX3_slackOf l G cI cQ a na pa ta qa xa z Y H.size v2 e17) (cwV 1 hts gX3_criticalTasks_X3_slackOf rfl rfl rfl (by decide +kernel) ⟨(Nat.le_of_ble_eq_true rfl), (Nat.le_of_ble_eq_true rfl)⟩) rfl (r0 := 0) (ci := 3) rfl rfl rfl rfl hl.1 rfl (Nat.le_of_ble_eq_true rfl) dX3_criticalTasks_17 ⟨Nat.zero_le _, Nat.zero_le _⟩ (fun H locs hP hD hS => ?_)
        refine lv_if_ne (tgt := 26) hx hb dX3_criticalTasks_20 (by decide) (fun c20 => ?_) (fun c20 => ?_)
        · replace h := tw_t c20 h
          refine lv_iinc (v := (v2 + 1)) (lv' := [(2, .int (v2 + 1)), (0, .ref (a 0)), (1, .int v1)]) hx hb dX3_criticalTasks_26 hl (k := 2) rfl rfl (by decide) rfl (fun ls hl => ?_)
          refine lv_goto (tgt := 4) hx hb dX3_criticalTasks_29 (by decide) ?_
          exact ih4 v1 (v2 + 1) r17.2 H locs ls h (lv_sub hl [1, 2, 0] rfl) hP hD hS
        · replace h := tw_fn c20 h
          refine lv_iinc (v := (v1 + 1)) (lv' := [(1, .int (v1 + 1)), (0, .ref (a 0)), (2, .int v2)]) hx hb dX3_criticalTasks_23 hl (k := 1) rfl rfl (by decide) rfl (fun ls hl => ?_)
          refine lv_iinc (v := (v2 + 1)) (lv' := [(2, .int (v2 + 1)), (1, .int (v1 + 1)), (0, .ref (a 0))]) hx hb dX3_criticalTasks_26 hl (k := 2) rfl rfl (by decide) rfl (fun ls hl => ?_)
          refine lv_goto (tgt := 4) hx hb dX3_criticalTasks_29 (by decide) ?_
          exact ih4 (v1 + 1) (v2 + 1) r17.2 H locs ls h (lv_sub hl [2, 1, 0] rfl) hP hD hS
  refine lv_iconst (v := (0 : Int32)) hx hb dX3_criticalTasks_0 (by decide) ?_
  refine lv_istore_n (lv' := [(1, .int (0 : Int32)), (0, .ref (a 0))]) hx hb dX3_criticalTasks_1 rfl hl (by decide) rfl (fun ls hl => ?_)
  refine lv_iconst (v := (0 : Int32)) hx hb dX3_criticalTasks_2 (by decide) ?_
  refine lv_istore_n (lv' := [(2, .int (0 : Int32)), (1, .int (0 : Int32)), (0, .ref (a 0))]) hx hb dX3_criticalTasks_3 rfl hl (by decide) rfl (fun ls hl => ?_)
  exact L4 512 (0 : Int32) (0 : Int32) Y H locs ls h (lv_sub hl [2, 1, 0] rfl) hP hD hS
abbrev rmX3_longestRow : Room := { frames := 1, cells := 0, slots := 0, locals := 22 }
set_option maxRecDepth 20000 in
theorem qX3_longestRow_0 : (Cond.fieldLink RX3 40 "TheatreWall" "rowSums" "[I") ∈ wsX3_longestRow := (List.mem_cons_of_mem _ (List.mem_append_left _ (List.mem_append_left _ (List.mem_of_getElem? (i := 2) rfl))))
set_option maxRecDepth 20000 in
theorem qX3_longestRow_1 : (Cond.fieldLink RX3 10 "TheatreWall" "now" "LTheatreWall$State;") ∈ wsX3_longestRow := (List.mem_cons_of_mem _ (List.mem_append_left _ (List.mem_append_left _ (List.mem_of_getElem? (i := 0) rfl))))
set_option maxRecDepth 20000 in
theorem qX3_longestRow_2 : (Cond.fieldLink RX3 271 "TheatreWall$State" "lengths" "[I") ∈ wsX3_longestRow := (List.mem_cons_of_mem _ (List.mem_append_left _ (List.mem_append_left _ (List.mem_of_getElem? (i := 7) rfl))))
set_option maxRecDepth 20000 in
theorem qX3_longestRow_3 : (Cond.methodLink RX3 266 yJ9_max_7cf53) ∈ wsX3_longestRow := (List.mem_cons_of_mem _ (List.mem_append_left _ (List.mem_append_left _ (List.mem_of_getElem? (i := 3) rfl))))
set_option maxRecDepth 20000 in
theorem qX3_longestRow_4 : (Cond.static yJ9_max_7cf53) ∈ wsX3_longestRow := (List.mem_cons_of_mem _ (List.mem_append_left _ (List.mem_append_left _ (List.mem_of_getElem? (i := 4) rfl))))
set_option maxRecDepth 20000 in
theorem qX3_longestRow_5 : (Cond.initialized RJ9) ∈ wsX3_longestRow := (List.mem_cons_of_mem _ (List.mem_append_left _ (List.mem_append_left _ (List.mem_of_getElem? (i := 5) rfl))))
set_option maxRecDepth 20000 in
theorem qX3_longestRow_6 : (Cond.code Lib.Math.max.name Lib.Math.max.code 2 (some .int)) ∈ wsX3_longestRow := (List.mem_cons_of_mem _ (List.mem_append_left _ (List.mem_append_left _ (List.mem_of_getElem? (i := 6) rfl))))
set_option maxRecDepth 20000 in
theorem qX3_longestRow_7 : (Cond.fieldLink RX3 61 "TheatreWall$State" "size" "I") ∈ wsX3_longestRow := (List.mem_cons_of_mem _ (List.mem_append_left _ (List.mem_append_left _ (List.mem_of_getElem? (i := 1) rfl))))
set_option maxRecDepth 20000 in
theorem iX3_longestRow_X3 : ∀ w ∈ u_ws RX3 TX3 8, w ∈ wsX3_longestRow := fun w h => (List.mem_cons_of_mem _ (List.mem_append_left _ (List.mem_append_right _ h)))
set_option maxRecDepth 20000 in
theorem iX3_longestRow_X1 : ∀ w ∈ u_ws RX1 TX1 9, w ∈ wsX3_longestRow := fun w h => (List.mem_cons_of_mem _ (List.mem_append_right _ h))
set_option maxHeartbeats 4000000 in
set_option maxRecDepth 100000 in
theorem mX3_longestRow (l : Launch) (G : va_G) (cI : ClassId) (cQ : ClassId) (a na pa ta qa xa : Nat → Nat) (z : Nat → Nat → Nat) (Y : tw_Wl) (sz : Nat)  {rv : Int32 × tw_Wl} (h : fX3_longestRow Y = some rv) : tw_Mi l yX3_longestRow wsX3_longestRow rmX3_longestRow G [(cI, .int), (cQ, .object RX1)] (tw_wW cI cQ a na pa ta qa xa z Y) [.ref (a 0)] sz rv.1 (tw_wW cI cQ a na pa ta qa xa z rv.2) := by
  refine tw_ofi (ty := .int) (cc := cX3_longestRow) (maxL := 5) (own := RX3) (by decide) rfl rfl (Nat.le_of_ble_eq_true rfl) ?_
  intro p e s m args below meth c Q A ls H locs F hN hK hP hD hS hA hl hq
  obtain ⟨hx, hb, hml, hown, hts⟩ := id F
  have hl : lv_has ls 5 [(0, .ref (a 0))] := hl
  unfold fX3_longestRow at h
  have L4 : ∀ (n4 : Nat) (v1 : Int32) (v2 : Int32) (Y : tw_Wl) (H : Heap) (locs : List Loc) (ls : Array Slot), fX3_longestRow_4 n4 v1 v2 Y = some rv → lv_has ls 5 [(0, .ref (a 0)), (1, .int v1), (2, .int v2)] → va_P G vwCl (tw_wW cI cQ a na pa ta qa xa z Y) H → va_D A (tw_wW cI cQ a na pa ta qa xa z Y) → va_S A s.heap H locs → W p l e rmX3_longestRow s m args below meth c H locs 0 0 Q (F0 m 4 ls []) := by
    intro n4
    induction n4 with
    | zero =>
      intro v1 v2 Y H locs ls h
      rw [fX3_longestRow_4] at h
      cases h
    | succ n4 ih4 =>
      intro v1 v2 Y H locs ls h hl hP hD hS
      rw [fX3_longestRow_4] at h
      have L20 : ∀ (n20 : Nat) (v1 : Int32) (v2 : Int32) (v3 : Int32) (v4 : Int32) (Y : tw_Wl) (H : Heap) (locs : List Loc) (ls : Array Slot), fX3_longestRow_20 (fX3_longestRow_4 n4) n20 v1 v2 v3 v4 Y = some rv → lv_has ls 5 [(0, .ref (a 0)), (1, .int v1), (2, .int v2), (3, .int v3), (4, .int v4)] → va_P G vwCl (tw_wW cI cQ a na pa ta qa xa z Y) H → va_D A (tw_wW cI cQ a na pa ta qa xa z Y) → va_S A s.heap H locs → W p l e rmX3_longestRow s m args below meth c H locs 0 0 Q (F0 m 20 ls []) := by
        intro n20
        induction n20 with
        | zero =>
          intro v1 v2 v3 v4 Y H locs ls h
          rw [fX3_longestRow_20] at h
          cases h
        | succ n20 ih20 =>
          intro v1 v2 v3 v4 Y H locs ls h hl hP hD hS
          rw [fX3_longestRow_20] at h
          refine lv_iload hx hb dX3_longestRow_20 (lv_at hl 4 rfl) ?_
          refine lv_iload_n hx hb dX3_longestRow_22 rfl (lv_at hl 2 rfl) ?_
          refine lv_icmp_ge (tgt := 57) hx hb dX3_longestRow_23 (by decide) (fun c23 => ?_) (fun c23 => ?_)
          · replace h := tw_t c23 h
            refine lv_aload_n hx hb dX3_longestRow_57 rfl (lv_at hl 0 rfl) ?_
            refine va_get (D := G) (ci := 3) (v := .ref (a 2)) (C := RX3) (T := TX3) (N := 8) hx hb hts iX3_longestRow_X3 hown hK hP 0 rfl rfl 6 (by decide) (hts _ qX3_longestRow_0) (fun _ h9 => h9) rfl dX3_longestRow_58 ?_
            refine lv_iload_n hx hb dX3_longestRow_61 rfl (lv_at hl 2 rfl) ?_
            refine lv_iload_n hx hb dX3_longestRow_62 rfl (lv_at hl 3 rfl) ?_
            refine lv_aload_n hx hb dX3_longestRow_63 rfl (lv_at hl 0 rfl) ?_
            refine va_get (D := G) (ci := 3) (v := .ref (na 0)) (C := RX3) (T := TX3) (N := 8) hx hb hts iX3_longestRow_X3 hown hK hP 0 rfl rfl 0 (by decide) (hts _ qX3_longestRow_1) (fun _ h9 => h9) rfl dX3_longestRow_64 ?_
            refine va_get (D := G) (ci := 1) (v := .ref (na 1)) (C := RX1) (T := TX1) (N := 9) hx hb hts iX3_longestRow_X1 hown hK hP 3 rfl rfl 0 (by decide) (hts _ qX3_longestRow_2) (fun _ h9 => h9) rfl dX3_longestRow_67 ?_
            refine lv_iload_n hx hb dX3_longestRow_70 rfl (lv_at hl 2 rfl) ?_
            obtain ⟨g71, h⟩ := tw_gs h
            refine va_iald (f := Y.1.1) (n := 12) hx hb hK hP 4 0 rfl rfl g71 dX3_longestRow_71 ?_
            refine lv_iadd hx hb dX3_longestRow_72 ?_
            obtain ⟨g73, h⟩ := tw_gs h
            refine tw_iast (ws' := (tw_wW cI cQ a na pa ta qa xa z (Y.1, Y.2.1, Y.2.2.1, Y.2.2.2.1, Y.2.2.2.2.1, (upd Y.2.2.2.2.2.1 v2.toNatClampNeg (v3 + (Y.1.1 v2.toNatClampNeg))), Y.2.2.2.2.2.2.1, Y.2.2.2.2.2.2.2.1, Y.2.2.2.2.2.2.2.2))) (f := Y.2.2.2.2.2.1) (n := 12) hx hb hK hP hD hS 2 0 rfl rfl g73 dX3_longestRow_73 rfl (fun H locs hP hD hS => ?_)
            refine lv_iload_n hx hb dX3_longestRow_74 rfl (lv_at hl 1 rfl) ?_
            refine lv_aload_n hx hb dX3_longestRow_75 rfl (lv_at hl 0 rfl) ?_
            refine va_get (D := G) (ci := 3) (v := .ref (a 2)) (C := RX3) (T := TX3) (N := 8) hx hb hts iX3_longestRow_X3 hown hK hP 0 rfl rfl 6 (by decide) (hts _ qX3_longestRow_0) (fun _ h9 => h9) rfl dX3_longestRow_76 ?_
            refine lv_iload_n hx hb dX3_longestRow_79 rfl (lv_at hl 2 rfl) ?_
            obtain ⟨g80, h⟩ := tw_gs h
            refine va_iald (f := (upd Y.2.2.2.2.2.1 v2.toNatClampNeg (v3 + (Y.1.1 v2.toNatClampNeg)))) (n := 12) hx hb hK hP 2 0 rfl rfl g80 dX3_longestRow_80 ?_
            refine va_mmax hx hb (hml.trans hl.1.symm) hown (hts _ qX3_longestRow_3) (hts _ qX3_longestRow_4) (hts _ qX3_longestRow_5) (hts _ qX3_longestRow_6) (Nat.le_of_ble_eq_true rfl) (Nat.le_of_ble_eq_true rfl) (Nat.zero_le _) (Nat.zero_le _) dX3_longestRow_81 ?_
            refine lv_istore_n (lv' := [(1, .int (if v1 < ((upd Y.2.2.2.2.2.1 v2.toNatClampNeg (v3 + (Y.1.1 v2.toNatClampNeg))) v2.toNatClampNeg) then ((upd Y.2.2.2.2.2.1 v2.toNatClampNeg (v3 + (Y.1.1 v2.toNatClampNeg))) v2.toNatClampNeg) else v1)), (0, .ref (a 0)), (2, .int v2), (3, .int v3), (4, .int v4)]) hx hb dX3_longestRow_84 rfl hl (by decide) rfl (fun ls hl => ?_)
            refine lv_iinc (v := (v2 + 1)) (lv' := [(2, .int (v2 + 1)), (1, .int (if v1 < ((upd Y.2.2.2.2.2.1 v2.toNatClampNeg (v3 + (Y.1.1 v2.toNatClampNeg))) v2.toNatClampNeg) then ((upd Y.2.2.2.2.2.1 v2.toNatClampNeg (v3 + (Y.1.1 v2.toNatClampNeg))) v2.toNatClampNeg) else v1)), (0, .ref (a 0)), (3, .int v3), (4, .int v4)]) hx hb dX3_longestRow_85 hl (k := 2) rfl rfl (by decide) rfl (fun ls hl => ?_)
            refine lv_goto (tgt := 4) hx hb dX3_longestRow_88 (by decide) ?_
            exact ih4 (if v1 < ((upd Y.2.2.2.2.2.1 v2.toNatClampNeg (v3 + (Y.1.1 v2.toNatClampNeg))) v2.toNatClampNeg) then ((upd Y.2.2.2.2.2.1 v2.toNatClampNeg (v3 + (Y.1.1 v2.toNatClampNeg))) v2.toNatClampNeg) else v1) (v2 + 1) (Y.1, Y.2.1, Y.2.2.1, Y.2.2.2.1, Y.2.2.2.2.1, (upd Y.2.2.2.2.2.1 v2.toNatClampNeg (v3 + (Y.1.1 v2.toNatClampNeg))), Y.2.2.2.2.2.2.1, Y.2.2.2.2.2.2.2.1, Y.2.2.2.2.2.2.2.2) H locs ls h (lv_sub hl [2, 1, 0] rfl) hP hD hS
          · replace h := tw_f c23 h
            refine lv_aload_n hx hb dX3_longestRow_26 rfl (lv_at hl 0 rfl) ?_
            refine va_get (D := G) (ci := 3) (v := .ref (na 0)) (C := RX3) (T := TX3) (N := 8) hx hb hts iX3_longestRow_X3 hown hK hP 0 rfl rfl 0 (by decide) (hts _ qX3_longestRow_1) (fun _ h9 => h9) rfl dX3_longestRow_27 ?_
            refine lv_iload_n hx hb dX3_longestRow_30 rfl (lv_at hl 2 rfl) ?_
            refine lv_iload hx hb dX3_longestRow_31 (lv_at hl 4 rfl) ?_
            obtain ⟨r33, e33, h⟩ := tw_bs h
            refine tw_callVi (ws' := (tw_wW cI cQ a na pa ta qa xa z Y)) (As := [.int v2, .int v4]) (rest := []) F hN hK hP hD hS hA (mX1_isNeeded l G cI na Y.1 H.size v2 v4 e33) (cwV 2 hts gX3_longestRow_X1_isNeeded rfl rfl rfl (by decide +kernel) ⟨(Nat.le_of_ble_eq_true rfl), (Nat.le_of_ble_eq_true rfl)⟩) [0] rfl [3, 4, 5, 6, 7, 8, 9, 10] tw_cN_nd tw_cN_C rfl tw_cN_M (r0 := 0) (ci := 1) rfl rfl rfl rfl hl.1 rfl (Nat.le_of_ble_eq_true rfl) dX3_longestRow_33 ⟨Nat.zero_le _, Nat.zero_le _⟩ (fun H locs hP hD hS => ?_)
            refine lv_if_eq (tgt := 51) hx hb dX3_longestRow_36 (by decide) (fun c36 => ?_) (fun c36 => ?_)
            · replace h := tw_t c36 h
              refine lv_iinc (v := (v4 + 1)) (lv' := [(4, .int (v4 + 1)), (0, .ref (a 0)), (1, .int v1), (2, .int v2), (3, .int v3)]) hx hb dX3_longestRow_51 hl (k := 4) rfl rfl (by decide) rfl (fun ls hl => ?_)
              refine lv_goto (tgt := 20) hx hb dX3_longestRow_54 (by decide) ?_
              exact ih20 v1 v2 v3 (v4 + 1) Y H locs ls h (lv_sub hl [1, 2, 3, 4, 0] rfl) hP hD hS
            · replace h := tw_f c36 h
              refine lv_iload_n hx hb dX3_longestRow_39 rfl (lv_at hl 3 rfl) ?_
              refine lv_aload_n hx hb dX3_longestRow_40 rfl (lv_at hl 0 rfl) ?_
              refine va_get (D := G) (ci := 3) (v := .ref (a 2)) (C := RX3) (T := TX3) (N := 8) hx hb hts iX3_longestRow_X3 hown hK hP 0 rfl rfl 6 (by decide) (hts _ qX3_longestRow_0) (fun _ h9 => h9) rfl dX3_longestRow_41 ?_
              refine lv_iload hx hb dX3_longestRow_44 (lv_at hl 4 rfl) ?_
              obtain ⟨g46, h⟩ := tw_gs h
              refine va_iald (f := Y.2.2.2.2.2.1) (n := 12) hx hb hK hP 2 0 rfl rfl g46 dX3_longestRow_46 ?_
              refine va_mmax hx hb (hml.trans hl.1.symm) hown (hts _ qX3_longestRow_3) (hts _ qX3_longestRow_4) (hts _ qX3_longestRow_5) (hts _ qX3_longestRow_6) (Nat.le_of_ble_eq_true rfl) (Nat.le_of_ble_eq_true rfl) (Nat.zero_le _) (Nat.zero_le _) dX3_longestRow_47 ?_
              refine lv_istore_n (lv' := [(3, .int (if v3 < (Y.2.2.2.2.2.1 v4.toNatClampNeg) then (Y.2.2.2.2.2.1 v4.toNatClampNeg) else v3)), (0, .ref (a 0)), (1, .int v1), (2, .int v2), (4, .int v4)]) hx hb dX3_longestRow_50 rfl hl (by decide) rfl (fun ls hl => ?_)
              refine lv_iinc (v := (v4 + 1)) (lv' := [(4, .int (v4 + 1)), (3, .int (if v3 < (Y.2.2.2.2.2.1 v4.toNatClampNeg) then (Y.2.2.2.2.2.1 v4.toNatClampNeg) else v3)), (0, .ref (a 0)), (1, .int v1), (2, .int v2)]) hx hb dX3_longestRow_51 hl (k := 4) rfl rfl (by decide) rfl (fun ls hl => ?_)
              refine lv_goto (tgt := 20) hx hb dX3_longestRow_54 (by decide) ?_
              exact ih20 v1 v2 (if v3 < (Y.2.2.2.2.2.1 v4.toNatClampNeg) then (Y.2.2.2.2.2.1 v4.toNatClampNeg) else v3) (v4 + 1) Y H locs ls h (lv_sub hl [2, 3, 4, 1, 0] rfl) hP hD hS
      refine lv_iload_n hx hb dX3_longestRow_4 rfl (lv_at hl 2 rfl) ?_
      refine lv_aload_n hx hb dX3_longestRow_5 rfl (lv_at hl 0 rfl) ?_
      refine va_get (D := G) (ci := 3) (v := .ref (na 0)) (C := RX3) (T := TX3) (N := 8) hx hb hts iX3_longestRow_X3 hown hK hP 0 rfl rfl 0 (by decide) (hts _ qX3_longestRow_1) (fun _ h9 => h9) rfl dX3_longestRow_6 ?_
      refine va_get (D := G) (ci := 1) (v := .int Y.1.2.2.2.2.2.2.2.1) (C := RX1) (T := TX1) (N := 9) hx hb hts iX3_longestRow_X1 hown hK hP 3 rfl rfl 7 (by decide) (hts _ qX3_longestRow_7) (fun _ h9 => h9) rfl dX3_longestRow_9 ?_
      refine lv_icmp_ge (tgt := 91) hx hb dX3_longestRow_12 (by decide) (fun c12 => ?_) (fun c12 => ?_)
      · replace h := tw_t c12 h
        refine lv_iload_n hx hb dX3_longestRow_91 rfl (lv_at hl 1 rfl) ?_
        exact hq H locs _ ls v1 (tw_rt (fun r => r.1 = v1) h rfl) rfl (tw_rt (fun r => va_P G vwCl (tw_wW cI cQ a na pa ta qa xa z r.2) H) h hP) hS dX3_longestRow_92
      · replace h := tw_f c12 h
        refine lv_iconst (v := (0 : Int32)) hx hb dX3_longestRow_15 (by decide) ?_
        refine lv_istore_n (lv' := [(3, .int (0 : Int32)), (0, .ref (a 0)), (1, .int v1), (2, .int v2)]) hx hb dX3_longestRow_16 rfl hl (by decide) rfl (fun ls hl => ?_)
        refine lv_iconst (v := (0 : Int32)) hx hb dX3_longestRow_17 (by decide) ?_
        refine lv_istore (lv' := [(4, .int (0 : Int32)), (3, .int (0 : Int32)), (0, .ref (a 0)), (1, .int v1), (2, .int v2)]) hx hb dX3_longestRow_18 hl (by decide) rfl (fun ls hl => ?_)
        exact L20 512 v1 v2 (0 : Int32) (0 : Int32) Y H locs ls h (lv_sub hl [2, 3, 4, 1, 0] rfl) hP hD hS
  refine lv_iconst (v := (0 : Int32)) hx hb dX3_longestRow_0 (by decide) ?_
  refine lv_istore_n (lv' := [(1, .int (0 : Int32)), (0, .ref (a 0))]) hx hb dX3_longestRow_1 rfl hl (by decide) rfl (fun ls hl => ?_)
  refine lv_iconst (v := (0 : Int32)) hx hb dX3_longestRow_2 (by decide) ?_
  refine lv_istore_n (lv' := [(2, .int (0 : Int32)), (1, .int (0 : Int32)), (0, .ref (a 0))]) hx hb dX3_longestRow_3 rfl hl (by decide) rfl (fun ls hl => ?_)
  exact L4 512 (0 : Int32) (0 : Int32) Y H locs ls h (lv_sub hl [2, 1, 0] rfl) hP hD hS
abbrev rmX3_dropOldest : Room := { frames := 0, cells := 0, slots := 0, locals := 0 }
set_option maxRecDepth 20000 in
theorem qX3_dropOldest_0 : (Cond.fieldLink RX3 29 "TheatreWall" "saved" "[LTheatreWall$State;") ∈ wsX3_dropOldest := (List.mem_cons_of_mem _ (List.mem_append_left _ (List.mem_of_getElem? (i := 0) rfl)))
set_option maxRecDepth 20000 in
theorem qX3_dropOldest_1 : (Cond.fieldLink RX3 44 "TheatreWall" "savedCount" "I") ∈ wsX3_dropOldest := (List.mem_cons_of_mem _ (List.mem_append_left _ (List.mem_of_getElem? (i := 1) rfl)))
set_option maxRecDepth 20000 in
theorem iX3_dropOldest_X3 : ∀ w ∈ u_ws RX3 TX3 8, w ∈ wsX3_dropOldest := fun w h => (List.mem_cons_of_mem _ (List.mem_append_right _ h))
set_option maxHeartbeats 4000000 in
set_option maxRecDepth 100000 in
theorem mX3_dropOldest (l : Launch) (G : va_G) (cI : ClassId) (cQ : ClassId) (a na pa ta qa xa : Nat → Nat) (z : Nat → Nat → Nat) (Y : tw_Wl) (sz : Nat)  {rv : tw_Wl} (h : fX3_dropOldest Y = some rv) : tw_Mv l yX3_dropOldest wsX3_dropOldest rmX3_dropOldest G [(cI, .int), (cQ, .object RX1)] (tw_wW cI cQ a na pa ta qa xa z Y) [.ref (a 0)] sz (tw_wW cI cQ a na pa ta qa xa z rv) := by
  refine tw_ofv (cc := cX3_dropOldest) (maxL := 3) (own := RX3) (by decide) rfl rfl (Nat.le_of_ble_eq_true rfl) ?_
  intro p e s m args below meth c Q A ls H locs F hN hK hP hD hS hA hl hq
  obtain ⟨hx, hb, hml, hown, hts⟩ := id F
  have hl : lv_has ls 3 [(0, .ref (a 0))] := hl
  unfold fX3_dropOldest at h
  refine lv_aload_n hx hb dX3_dropOldest_0 rfl (lv_at hl 0 rfl) ?_
  refine va_get (D := G) (ci := 3) (v := .ref (a 1)) (C := RX3) (T := TX3) (N := 8) hx hb hts iX3_dropOldest_X3 hown hK hP 0 rfl rfl 4 (by decide) (hts _ qX3_dropOldest_0) (fun _ h9 => h9) rfl dX3_dropOldest_1 ?_
  refine lv_iconst (v := (0 : Int32)) hx hb dX3_dropOldest_4 (by decide) ?_
  obtain ⟨j5, h⟩ := tw_qs h
  refine tw_aldq (v := z (Y.2.2.2.2.2.2.2.2 (0 : Int32).toNatClampNeg) 0) (f := fun i => some (z (Y.2.2.2.2.2.2.2.2 i) 0)) hx hb hK hP 1 1 rfl rfl (tw_vin (by decide)) rfl dX3_dropOldest_5 ?_
  refine lv_astore_n (lv' := [(1, .ref (z (Y.2.2.2.2.2.2.2.2 (0 : Int32).toNatClampNeg) 0)), (0, .ref (a 0))]) hx hb dX3_dropOldest_6 rfl hl (by decide) rfl (fun ls hl => ?_)
  refine lv_iconst (v := (1 : Int32)) hx hb dX3_dropOldest_7 (by decide) ?_
  refine lv_istore_n (lv' := [(2, .int (1 : Int32)), (1, .ref (z (Y.2.2.2.2.2.2.2.2 (0 : Int32).toNatClampNeg) 0)), (0, .ref (a 0))]) hx hb dX3_dropOldest_8 rfl hl (by decide) rfl (fun ls hl => ?_)
  refine lv_iload_n hx hb dX3_dropOldest_9 rfl (lv_at hl 0 rfl) ?_
  refine lv_bipush (v := (6 : Int32)) hx hb dX3_dropOldest_10 (by decide) ?_
  refine lv_icmp_ge (tgt := 35) hx hb dX3_dropOldest_12 (by decide) (fun c => absurd c (by decide)) (fun _ => ?_)
  refine lv_aload_n hx hb dX3_dropOldest_15 rfl (lv_at hl 2 rfl) ?_
  refine va_get (D := G) (ci := 3) (v := .ref (a 1)) (C := RX3) (T := TX3) (N := 8) hx hb hts iX3_dropOldest_X3 hown hK hP 0 rfl rfl 4 (by decide) (hts _ qX3_dropOldest_0) (fun _ h9 => h9) rfl dX3_dropOldest_16 ?_
  refine lv_iload_n hx hb dX3_dropOldest_19 rfl (lv_at hl 0 rfl) ?_
  refine lv_iconst (v := (1 : Int32)) hx hb dX3_dropOldest_20 (by decide) ?_
  refine lv_isub hx hb dX3_dropOldest_21 ?_
  refine lv_aload_n hx hb dX3_dropOldest_22 rfl (lv_at hl 2 rfl) ?_
  refine va_get (D := G) (ci := 3) (v := .ref (a 1)) (C := RX3) (T := TX3) (N := 8) hx hb hts iX3_dropOldest_X3 hown hK hP 0 rfl rfl 4 (by decide) (hts _ qX3_dropOldest_0) (fun _ h9 => h9) rfl dX3_dropOldest_23 ?_
  refine lv_iload_n hx hb dX3_dropOldest_26 rfl (lv_at hl 0 rfl) ?_
  obtain ⟨j27, h⟩ := tw_qs h
  refine tw_aldq (v := z (Y.2.2.2.2.2.2.2.2 (1 : Int32).toNatClampNeg) 0) (f := fun i => some (z (Y.2.2.2.2.2.2.2.2 i) 0)) hx hb hK hP 1 1 rfl rfl (tw_vin (by decide)) rfl dX3_dropOldest_27 ?_
  refine tw_astq (ws' := (tw_wW cI cQ a na pa ta qa xa z (Y.1, Y.2.1, Y.2.2.1, Y.2.2.2.1, Y.2.2.2.2.1, Y.2.2.2.2.2.1, Y.2.2.2.2.2.2.1, Y.2.2.2.2.2.2.2.1, (va_up Y.2.2.2.2.2.2.2.2 ((1 : Int32) - (1 : Int32)).toNatClampNeg (Y.2.2.2.2.2.2.2.2 (1 : Int32).toNatClampNeg))))) (f := fun i => some (z (Y.2.2.2.2.2.2.2.2 i) 0)) (v := z (Y.2.2.2.2.2.2.2.2 (1 : Int32).toNatClampNeg) 0) hx hb hK hP hD hS 1 1 (27 + 8 * (Y.2.2.2.2.2.2.2.2 (1 : Int32).toNatClampNeg)) 1 rfl rfl (tw_zp j27) rfl (tw_vin (by decide)) dX3_dropOldest_28 (by rw [tw_pi]; rfl) (fun H locs hP hD hS => ?_)
  refine lv_iinc (v := ((1 : Int32) + 1)) (lv' := [(2, .int ((1 : Int32) + 1)), (1, .ref (z (Y.2.2.2.2.2.2.2.2 (0 : Int32).toNatClampNeg) 0)), (0, .ref (a 0))]) hx hb dX3_dropOldest_29 hl (k := 0) rfl rfl (by decide) rfl (fun ls hl => ?_)
  refine lv_goto (tgt := 9) hx hb dX3_dropOldest_32 (by decide) ?_
  refine lv_iload_n hx hb dX3_dropOldest_9 rfl (lv_at hl 0 rfl) ?_
  refine lv_bipush (v := (6 : Int32)) hx hb dX3_dropOldest_10 (by decide) ?_
  refine lv_icmp_ge (tgt := 35) hx hb dX3_dropOldest_12 (by decide) (fun c => absurd c (by decide)) (fun _ => ?_)
  refine lv_aload_n hx hb dX3_dropOldest_15 rfl (lv_at hl 2 rfl) ?_
  refine va_get (D := G) (ci := 3) (v := .ref (a 1)) (C := RX3) (T := TX3) (N := 8) hx hb hts iX3_dropOldest_X3 hown hK hP 0 rfl rfl 4 (by decide) (hts _ qX3_dropOldest_0) (fun _ h9 => h9) rfl dX3_dropOldest_16 ?_
  refine lv_iload_n hx hb dX3_dropOldest_19 rfl (lv_at hl 0 rfl) ?_
  refine lv_iconst (v := (1 : Int32)) hx hb dX3_dropOldest_20 (by decide) ?_
  refine lv_isub hx hb dX3_dropOldest_21 ?_
  refine lv_aload_n hx hb dX3_dropOldest_22 rfl (lv_at hl 2 rfl) ?_
  refine va_get (D := G) (ci := 3) (v := .ref (a 1)) (C := RX3) (T := TX3) (N := 8) hx hb hts iX3_dropOldest_X3 hown hK hP 0 rfl rfl 4 (by decide) (hts _ qX3_dropOldest_0) (fun _ h9 => h9) rfl dX3_dropOldest_23 ?_
  refine lv_iload_n hx hb dX3_dropOldest_26 rfl (lv_at hl 0 rfl) ?_
  obtain ⟨j27, h⟩ := tw_qs h
  refine tw_aldq (v := z ((va_up Y.2.2.2.2.2.2.2.2 ((1 : Int32) - (1 : Int32)).toNatClampNeg (Y.2.2.2.2.2.2.2.2 (1 : Int32).toNatClampNeg)) ((1 : Int32) + 1).toNatClampNeg) 0) (f := fun i => some (z ((va_up Y.2.2.2.2.2.2.2.2 ((1 : Int32) - (1 : Int32)).toNatClampNeg (Y.2.2.2.2.2.2.2.2 (1 : Int32).toNatClampNeg)) i) 0)) hx hb hK hP 1 1 rfl rfl (tw_vin (by decide)) rfl dX3_dropOldest_27 ?_
  refine tw_astq (ws' := (tw_wW cI cQ a na pa ta qa xa z (Y.1, Y.2.1, Y.2.2.1, Y.2.2.2.1, Y.2.2.2.2.1, Y.2.2.2.2.2.1, Y.2.2.2.2.2.2.1, Y.2.2.2.2.2.2.2.1, (va_up (va_up Y.2.2.2.2.2.2.2.2 ((1 : Int32) - (1 : Int32)).toNatClampNeg (Y.2.2.2.2.2.2.2.2 (1 : Int32).toNatClampNeg)) (((1 : Int32) + 1) - (1 : Int32)).toNatClampNeg ((va_up Y.2.2.2.2.2.2.2.2 ((1 : Int32) - (1 : Int32)).toNatClampNeg (Y.2.2.2.2.2.2.2.2 (1 : Int32).toNatClampNeg)) ((1 : Int32) + 1).toNatClampNeg))))) (f := fun i => some (z ((va_up Y.2.2.2.2.2.2.2.2 ((1 : Int32) - (1 : Int32)).toNatClampNeg (Y.2.2.2.2.2.2.2.2 (1 : Int32).toNatClampNeg)) i) 0)) (v := z ((va_up Y.2.2.2.2.2.2.2.2 ((1 : Int32) - (1 : Int32)).toNatClampNeg (Y.2.2.2.2.2.2.2.2 (1 : Int32).toNatClampNeg)) ((1 : Int32) + 1).toNatClampNeg) 0) hx hb hK hP hD hS 1 1 (27 + 8 * ((va_up Y.2.2.2.2.2.2.2.2 ((1 : Int32) - (1 : Int32)).toNatClampNeg (Y.2.2.2.2.2.2.2.2 (1 : Int32).toNatClampNeg)) ((1 : Int32) + 1).toNatClampNeg)) 1 rfl rfl (tw_zp j27) rfl (tw_vin (by decide)) dX3_dropOldest_28 (by rw [tw_pi]; rfl) (fun H locs hP hD hS => ?_)
  refine lv_iinc (v := (((1 : Int32) + 1) + 1)) (lv' := [(2, .int (((1 : Int32) + 1) + 1)), (1, .ref (z (Y.2.2.2.2.2.2.2.2 (0 : Int32).toNatClampNeg) 0)), (0, .ref (a 0))]) hx hb dX3_dropOldest_29 hl (k := 0) rfl rfl (by decide) rfl (fun ls hl => ?_)
  refine lv_goto (tgt := 9) hx hb dX3_dropOldest_32 (by decide) ?_
  refine lv_iload_n hx hb dX3_dropOldest_9 rfl (lv_at hl 0 rfl) ?_
  refine lv_bipush (v := (6 : Int32)) hx hb dX3_dropOldest_10 (by decide) ?_
  refine lv_icmp_ge (tgt := 35) hx hb dX3_dropOldest_12 (by decide) (fun c => absurd c (by decide)) (fun _ => ?_)
  refine lv_aload_n hx hb dX3_dropOldest_15 rfl (lv_at hl 2 rfl) ?_
  refine va_get (D := G) (ci := 3) (v := .ref (a 1)) (C := RX3) (T := TX3) (N := 8) hx hb hts iX3_dropOldest_X3 hown hK hP 0 rfl rfl 4 (by decide) (hts _ qX3_dropOldest_0) (fun _ h9 => h9) rfl dX3_dropOldest_16 ?_
  refine lv_iload_n hx hb dX3_dropOldest_19 rfl (lv_at hl 0 rfl) ?_
  refine lv_iconst (v := (1 : Int32)) hx hb dX3_dropOldest_20 (by decide) ?_
  refine lv_isub hx hb dX3_dropOldest_21 ?_
  refine lv_aload_n hx hb dX3_dropOldest_22 rfl (lv_at hl 2 rfl) ?_
  refine va_get (D := G) (ci := 3) (v := .ref (a 1)) (C := RX3) (T := TX3) (N := 8) hx hb hts iX3_dropOldest_X3 hown hK hP 0 rfl rfl 4 (by decide) (hts _ qX3_dropOldest_0) (fun _ h9 => h9) rfl dX3_dropOldest_23 ?_
  refine lv_iload_n hx hb dX3_dropOldest_26 rfl (lv_at hl 0 rfl) ?_
  obtain ⟨j27, h⟩ := tw_qs h
  refine tw_aldq (v := z ((va_up (va_up Y.2.2.2.2.2.2.2.2 ((1 : Int32) - (1 : Int32)).toNatClampNeg (Y.2.2.2.2.2.2.2.2 (1 : Int32).toNatClampNeg)) (((1 : Int32) + 1) - (1 : Int32)).toNatClampNeg ((va_up Y.2.2.2.2.2.2.2.2 ((1 : Int32) - (1 : Int32)).toNatClampNeg (Y.2.2.2.2.2.2.2.2 (1 : Int32).toNatClampNeg)) ((1 : Int32) + 1).toNatClampNeg)) (((1 : Int32) + 1) + 1).toNatClampNeg) 0) (f := fun i => some (z ((va_up (va_up Y.2.2.2.2.2.2.2.2 ((1 : Int32) - (1 : Int32)).toNatClampNeg (Y.2.2.2.2.2.2.2.2 (1 : Int32).toNatClampNeg)) (((1 : Int32) + 1) - (1 : Int32)).toNatClampNeg ((va_up Y.2.2.2.2.2.2.2.2 ((1 : Int32) - (1 : Int32)).toNatClampNeg (Y.2.2.2.2.2.2.2.2 (1 : Int32).toNatClampNeg)) ((1 : Int32) + 1).toNatClampNeg)) i) 0)) hx hb hK hP 1 1 rfl rfl (tw_vin (by decide)) rfl dX3_dropOldest_27 ?_
  refine tw_astq (ws' := (tw_wW cI cQ a na pa ta qa xa z (Y.1, Y.2.1, Y.2.2.1, Y.2.2.2.1, Y.2.2.2.2.1, Y.2.2.2.2.2.1, Y.2.2.2.2.2.2.1, Y.2.2.2.2.2.2.2.1, (va_up (va_up (va_up Y.2.2.2.2.2.2.2.2 ((1 : Int32) - (1 : Int32)).toNatClampNeg (Y.2.2.2.2.2.2.2.2 (1 : Int32).toNatClampNeg)) (((1 : Int32) + 1) - (1 : Int32)).toNatClampNeg ((va_up Y.2.2.2.2.2.2.2.2 ((1 : Int32) - (1 : Int32)).toNatClampNeg (Y.2.2.2.2.2.2.2.2 (1 : Int32).toNatClampNeg)) ((1 : Int32) + 1).toNatClampNeg)) ((((1 : Int32) + 1) + 1) - (1 : Int32)).toNatClampNeg ((va_up (va_up Y.2.2.2.2.2.2.2.2 ((1 : Int32) - (1 : Int32)).toNatClampNeg (Y.2.2.2.2.2.2.2.2 (1 : Int32).toNatClampNeg)) (((1 : Int32) + 1) - (1 : Int32)).toNatClampNeg ((va_up Y.2.2.2.2.2.2.2.2 ((1 : Int32) - (1 : Int32)).toNatClampNeg (Y.2.2.2.2.2.2.2.2 (1 : Int32).toNatClampNeg)) ((1 : Int32) + 1).toNatClampNeg)) (((1 : Int32) + 1) + 1).toNatClampNeg))))) (f := fun i => some (z ((va_up (va_up Y.2.2.2.2.2.2.2.2 ((1 : Int32) - (1 : Int32)).toNatClampNeg (Y.2.2.2.2.2.2.2.2 (1 : Int32).toNatClampNeg)) (((1 : Int32) + 1) - (1 : Int32)).toNatClampNeg ((va_up Y.2.2.2.2.2.2.2.2 ((1 : Int32) - (1 : Int32)).toNatClampNeg (Y.2.2.2.2.2.2.2.2 (1 : Int32).toNatClampNeg)) ((1 : Int32) + 1).toNatClampNeg)) i) 0)) (v := z ((va_up (va_up Y.2.2.2.2.2.2.2.2 ((1 : Int32) - (1 : Int32)).toNatClampNeg (Y.2.2.2.2.2.2.2.2 (1 : Int32).toNatClampNeg)) (((1 : Int32) + 1) - (1 : Int32)).toNatClampNeg ((va_up Y.2.2.2.2.2.2.2.2 ((1 : Int32) - (1 : Int32)).toNatClampNeg (Y.2.2.2.2.2.2.2.2 (1 : Int32).toNatClampNeg)) ((1 : Int32) + 1).toNatClampNeg)) (((1 : Int32) + 1) + 1).toNatClampNeg) 0) hx hb hK hP hD hS 1 1 (27 + 8 * ((va_up (va_up Y.2.2.2.2.2.2.2.2 ((1 : Int32) - (1 : Int32)).toNatClampNeg (Y.2.2.2.2.2.2.2.2 (1 : Int32).toNatClampNeg)) (((1 : Int32) + 1) - (1 : Int32)).toNatClampNeg ((va_up Y.2.2.2.2.2.2.2.2 ((1 : Int32) - (1 : Int32)).toNatClampNeg (Y.2.2.2.2.2.2.2.2 (1 : Int32).toNatClampNeg)) ((1 : Int32) + 1).toNatClampNeg)) (((1 : Int32) + 1) + 1).toNatClampNeg)) 1 rfl rfl (tw_zp j27) rfl (tw_vin (by decide)) dX3_dropOldest_28 (by rw [tw_pi]; rfl) (fun H locs hP hD hS => ?_)
  refine lv_iinc (v := ((((1 : Int32) + 1) + 1) + 1)) (lv' := [(2, .int ((((1 : Int32) + 1) + 1) + 1)), (1, .ref (z (Y.2.2.2.2.2.2.2.2 (0 : Int32).toNatClampNeg) 0)), (0, .ref (a 0))]) hx hb dX3_dropOldest_29 hl (k := 0) rfl rfl (by decide) rfl (fun ls hl => ?_)
  refine lv_goto (tgt := 9) hx hb dX3_dropOldest_32 (by decide) ?_
  refine lv_iload_n hx hb dX3_dropOldest_9 rfl (lv_at hl 0 rfl) ?_
  refine lv_bipush (v := (6 : Int32)) hx hb dX3_dropOldest_10 (by decide) ?_
  refine lv_icmp_ge (tgt := 35) hx hb dX3_dropOldest_12 (by decide) (fun c => absurd c (by decide)) (fun _ => ?_)
  refine lv_aload_n hx hb dX3_dropOldest_15 rfl (lv_at hl 2 rfl) ?_
  refine va_get (D := G) (ci := 3) (v := .ref (a 1)) (C := RX3) (T := TX3) (N := 8) hx hb hts iX3_dropOldest_X3 hown hK hP 0 rfl rfl 4 (by decide) (hts _ qX3_dropOldest_0) (fun _ h9 => h9) rfl dX3_dropOldest_16 ?_
  refine lv_iload_n hx hb dX3_dropOldest_19 rfl (lv_at hl 0 rfl) ?_
  refine lv_iconst (v := (1 : Int32)) hx hb dX3_dropOldest_20 (by decide) ?_
  refine lv_isub hx hb dX3_dropOldest_21 ?_
  refine lv_aload_n hx hb dX3_dropOldest_22 rfl (lv_at hl 2 rfl) ?_
  refine va_get (D := G) (ci := 3) (v := .ref (a 1)) (C := RX3) (T := TX3) (N := 8) hx hb hts iX3_dropOldest_X3 hown hK hP 0 rfl rfl 4 (by decide) (hts _ qX3_dropOldest_0) (fun _ h9 => h9) rfl dX3_dropOldest_23 ?_
  refine lv_iload_n hx hb dX3_dropOldest_26 rfl (lv_at hl 0 rfl) ?_
  obtain ⟨j27, h⟩ := tw_qs h
  refine tw_aldq (v := z ((va_up (va_up (va_up Y.2.2.2.2.2.2.2.2 ((1 : Int32) - (1 : Int32)).toNatClampNeg (Y.2.2.2.2.2.2.2.2 (1 : Int32).toNatClampNeg)) (((1 : Int32) + 1) - (1 : Int32)).toNatClampNeg ((va_up Y.2.2.2.2.2.2.2.2 ((1 : Int32) - (1 : Int32)).toNatClampNeg (Y.2.2.2.2.2.2.2.2 (1 : Int32).toNatClampNeg)) ((1 : Int32) + 1).toNatClampNeg)) ((((1 : Int32) + 1) + 1) - (1 : Int32)).toNatClampNeg ((va_up (va_up Y.2.2.2.2.2.2.2.2 ((1 : Int32) - (1 : Int32)).toNatClampNeg (Y.2.2.2.2.2.2.2.2 (1 : Int32).toNatClampNeg)) (((1 : Int32) + 1) - (1 : Int32)).toNatClampNeg ((va_up Y.2.2.2.2.2.2.2.2 ((1 : Int32) - (1 : Int32)).toNatClampNeg (Y.2.2.2.2.2.2.2.2 (1 : Int32).toNatClampNeg)) ((1 : Int32) + 1).toNatClampNeg)) (((1 : Int32) + 1) + 1).toNatClampNeg)) ((((1 : Int32) + 1) + 1) + 1).toNatClampNeg) 0) (f := fun i => some (z ((va_up (va_up (va_up Y.2.2.2.2.2.2.2.2 ((1 : Int32) - (1 : Int32)).toNatClampNeg (Y.2.2.2.2.2.2.2.2 (1 : Int32).toNatClampNeg)) (((1 : Int32) + 1) - (1 : Int32)).toNatClampNeg ((va_up Y.2.2.2.2.2.2.2.2 ((1 : Int32) - (1 : Int32)).toNatClampNeg (Y.2.2.2.2.2.2.2.2 (1 : Int32).toNatClampNeg)) ((1 : Int32) + 1).toNatClampNeg)) ((((1 : Int32) + 1) + 1) - (1 : Int32)).toNatClampNeg ((va_up (va_up Y.2.2.2.2.2.2.2.2 ((1 : Int32) - (1 : Int32)).toNatClampNeg (Y.2.2.2.2.2.2.2.2 (1 : Int32).toNatClampNeg)) (((1 : Int32) + 1) - (1 : Int32)).toNatClampNeg ((va_up Y.2.2.2.2.2.2.2.2 ((1 : Int32) - (1 : Int32)).toNatClampNeg (Y.2.2.2.2.2.2.2.2 (1 : Int32).toNatClampNeg)) ((1 : Int32) + 1).toNatClampNeg)) (((1 : Int32) + 1) + 1).toNatClampNeg)) i) 0)) hx hb hK hP 1 1 rfl rfl (tw_vin (by decide)) rfl dX3_dropOldest_27 ?_
  refine tw_astq (ws' := (tw_wW cI cQ a na pa ta qa xa z (Y.1, Y.2.1, Y.2.2.1, Y.2.2.2.1, Y.2.2.2.2.1, Y.2.2.2.2.2.1, Y.2.2.2.2.2.2.1, Y.2.2.2.2.2.2.2.1, (va_up (va_up (va_up (va_up Y.2.2.2.2.2.2.2.2 ((1 : Int32) - (1 : Int32)).toNatClampNeg (Y.2.2.2.2.2.2.2.2 (1 : Int32).toNatClampNeg)) (((1 : Int32) + 1) - (1 : Int32)).toNatClampNeg ((va_up Y.2.2.2.2.2.2.2.2 ((1 : Int32) - (1 : Int32)).toNatClampNeg (Y.2.2.2.2.2.2.2.2 (1 : Int32).toNatClampNeg)) ((1 : Int32) + 1).toNatClampNeg)) ((((1 : Int32) + 1) + 1) - (1 : Int32)).toNatClampNeg ((va_up (va_up Y.2.2.2.2.2.2.2.2 ((1 : Int32) - (1 : Int32)).toNatClampNeg (Y.2.2.2.2.2.2.2.2 (1 : Int32).toNatClampNeg)) (((1 : Int32) + 1) - (1 : Int32)).toNatClampNeg ((va_up Y.2.2.2.2.2.2.2.2 ((1 : Int32) - (1 : Int32)).toNatClampNeg (Y.2.2.2.2.2.2.2.2 (1 : Int32).toNatClampNeg)) ((1 : Int32) + 1).toNatClampNeg)) (((1 : Int32) + 1) + 1).toNatClampNeg)) (((((1 : Int32) + 1) + 1) + 1) - (1 : Int32)).toNatClampNeg ((va_up (va_up (va_up Y.2.2.2.2.2.2.2.2 ((1 : Int32) - (1 : Int32)).toNatClampNeg (Y.2.2.2.2.2.2.2.2 (1 : Int32).toNatClampNeg)) (((1 : Int32) + 1) - (1 : Int32)).toNatClampNeg ((va_up Y.2.2.2.2.2.2.2.2 ((1 : Int32) - (1 : Int32)).toNatClampNeg (Y.2.2.2.2.2.2.2.2 (1 : Int32).toNatClampNeg)) ((1 : Int32) + 1).toNatClampNeg)) ((((1 : Int32) + 1) + 1) - (1 : Int32)).toNatClampNeg ((va_up (va_up Y.2.2.2.2.2.2.2.2 ((1 : Int32) - (1 : Int32)).toNatClampNeg (Y.2.2.2.2.2.2.2.2 (1 : Int32).toNatClampNeg)) (((1 : Int32) + 1) - (1 : Int32)).toNatClampNeg ((va_up Y.2.2.2.2.2.2.2.2 ((1 : Int32) - (1 : Int32)).toNatClampNeg (Y.2.2.2.2.2.2.2.2 (1 : Int32).toNatClampNeg)) ((1 : Int32) + 1).toNatClampNeg)) (((1 : Int32) + 1) + 1).toNatClampNeg)) ((((1 : Int32) + 1) + 1) + 1).toNatClampNeg))))) (f := fun i => some (z ((va_up (va_up (va_up Y.2.2.2.2.2.2.2.2 ((1 : Int32) - (1 : Int32)).toNatClampNeg (Y.2.2.2.2.2.2.2.2 (1 : Int32).toNatClampNeg)) (((1 : Int32) + 1) - (1 : Int32)).toNatClampNeg ((va_up Y.2.2.2.2.2.2.2.2 ((1 : Int32) - (1 : Int32)).toNatClampNeg (Y.2.2.2.2.2.2.2.2 (1 : Int32).toNatClampNeg)) ((1 : Int32) + 1).toNatClampNeg)) ((((1 : Int32) + 1) + 1) - (1 : Int32)).toNatClampNeg ((va_up (va_up Y.2.2.2.2.2.2.2.2 ((1 : Int32) - (1 : Int32)).toNatClampNeg (Y.2.2.2.2.2.2.2.2 (1 : Int32).toNatClampNeg)) (((1 : Int32) + 1) - (1 : Int32)).toNatClampNeg ((va_up Y.2.2.2.2.2.2.2.2 ((1 : Int32) - (1 : Int32)).toNatClampNeg (Y.2.2.2.2.2.2.2.2 (1 : Int32).toNatClampNeg)) ((1 : Int32) + 1).toNatClampNeg)) (((1 : Int32) + 1) + 1).toNatClampNeg)) i) 0)) (v := z ((va_up (va_up (va_up Y.2.2.2.2.2.2.2.2 ((1 : Int32) - (1 : Int32)).toNatClampNeg (Y.2.2.2.2.2.2.2.2 (1 : Int32).toNatClampNeg)) (((1 : Int32) + 1) - (1 : Int32)).toNatClampNeg ((va_up Y.2.2.2.2.2.2.2.2 ((1 : Int32) - (1 : Int32)).toNatClampNeg (Y.2.2.2.2.2.2.2.2 (1 : Int32).toNatClampNeg)) ((1 : Int32) + 1).toNatClampNeg)) ((((1 : Int32) + 1) + 1) - (1 : Int32)).toNatClampNeg ((va_up (va_up Y.2.2.2.2.2.2.2.2 ((1 : Int32) - (1 : Int32)).toNatClampNeg (Y.2.2.2.2.2.2.2.2 (1 : Int32).toNatClampNeg)) (((1 : Int32) + 1) - (1 : Int32)).toNatClampNeg ((va_up Y.2.2.2.2.2.2.2.2 ((1 : Int32) - (1 : Int32)).toNatClampNeg (Y.2.2.2.2.2.2.2.2 (1 : Int32).toNatClampNeg)) ((1 : Int32) + 1).toNatClampNeg)) (((1 : Int32) + 1) + 1).toNatClampNeg)) ((((1 : Int32) + 1) + 1) + 1).toNatClampNeg) 0) hx hb hK hP hD hS 1 1 (27 + 8 * ((va_up (va_up (va_up Y.2.2.2.2.2.2.2.2 ((1 : Int32) - (1 : Int32)).toNatClampNeg (Y.2.2.2.2.2.2.2.2 (1 : Int32).toNatClampNeg)) (((1 : Int32) + 1) - (1 : Int32)).toNatClampNeg ((va_up Y.2.2.2.2.2.2.2.2 ((1 : Int32) - (1 : Int32)).toNatClampNeg (Y.2.2.2.2.2.2.2.2 (1 : Int32).toNatClampNeg)) ((1 : Int32) + 1).toNatClampNeg)) ((((1 : Int32) + 1) + 1) - (1 : Int32)).toNatClampNeg ((va_up (va_up Y.2.2.2.2.2.2.2.2 ((1 : Int32) - (1 : Int32)).toNatClampNeg (Y.2.2.2.2.2.2.2.2 (1 : Int32).toNatClampNeg)) (((1 : Int32) + 1) - (1 : Int32)).toNatClampNeg ((va_up Y.2.2.2.2.2.2.2.2 ((1 : Int32) - (1 : Int32)).toNatClampNeg (Y.2.2.2.2.2.2.2.2 (1 : Int32).toNatClampNeg)) ((1 : Int32) + 1).toNatClampNeg)) (((1 : Int32) + 1) + 1).toNatClampNeg)) ((((1 : Int32) + 1) + 1) + 1).toNatClampNeg)) 1 rfl rfl (tw_zp j27) rfl (tw_vin (by decide)) dX3_dropOldest_28 (by rw [tw_pi]; rfl) (fun H locs hP hD hS => ?_)
  refine lv_iinc (v := (((((1 : Int32) + 1) + 1) + 1) + 1)) (lv' := [(2, .int (((((1 : Int32) + 1) + 1) + 1) + 1)), (1, .ref (z (Y.2.2.2.2.2.2.2.2 (0 : Int32).toNatClampNeg) 0)), (0, .ref (a 0))]) hx hb dX3_dropOldest_29 hl (k := 0) rfl rfl (by decide) rfl (fun ls hl => ?_)
  refine lv_goto (tgt := 9) hx hb dX3_dropOldest_32 (by decide) ?_
  refine lv_iload_n hx hb dX3_dropOldest_9 rfl (lv_at hl 0 rfl) ?_
  refine lv_bipush (v := (6 : Int32)) hx hb dX3_dropOldest_10 (by decide) ?_
  refine lv_icmp_ge (tgt := 35) hx hb dX3_dropOldest_12 (by decide) (fun c => absurd c (by decide)) (fun _ => ?_)
  refine lv_aload_n hx hb dX3_dropOldest_15 rfl (lv_at hl 2 rfl) ?_
  refine va_get (D := G) (ci := 3) (v := .ref (a 1)) (C := RX3) (T := TX3) (N := 8) hx hb hts iX3_dropOldest_X3 hown hK hP 0 rfl rfl 4 (by decide) (hts _ qX3_dropOldest_0) (fun _ h9 => h9) rfl dX3_dropOldest_16 ?_
  refine lv_iload_n hx hb dX3_dropOldest_19 rfl (lv_at hl 0 rfl) ?_
  refine lv_iconst (v := (1 : Int32)) hx hb dX3_dropOldest_20 (by decide) ?_
  refine lv_isub hx hb dX3_dropOldest_21 ?_
  refine lv_aload_n hx hb dX3_dropOldest_22 rfl (lv_at hl 2 rfl) ?_
  refine va_get (D := G) (ci := 3) (v := .ref (a 1)) (C := RX3) (T := TX3) (N := 8) hx hb hts iX3_dropOldest_X3 hown hK hP 0 rfl rfl 4 (by decide) (hts _ qX3_dropOldest_0) (fun _ h9 => h9) rfl dX3_dropOldest_23 ?_
  refine lv_iload_n hx hb dX3_dropOldest_26 rfl (lv_at hl 0 rfl) ?_
  obtain ⟨j27, h⟩ := tw_qs h
  refine tw_aldq (v := z ((va_up (va_up (va_up (va_up Y.2.2.2.2.2.2.2.2 ((1 : Int32) - (1 : Int32)).toNatClampNeg (Y.2.2.2.2.2.2.2.2 (1 : Int32).toNatClampNeg)) (((1 : Int32) + 1) - (1 : Int32)).toNatClampNeg ((va_up Y.2.2.2.2.2.2.2.2 ((1 : Int32) - (1 : Int32)).toNatClampNeg (Y.2.2.2.2.2.2.2.2 (1 : Int32).toNatClampNeg)) ((1 : Int32) + 1).toNatClampNeg)) ((((1 : Int32) + 1) + 1) - (1 : Int32)).toNatClampNeg ((va_up (va_up Y.2.2.2.2.2.2.2.2 ((1 : Int32) - (1 : Int32)).toNatClampNeg (Y.2.2.2.2.2.2.2.2 (1 : Int32).toNatClampNeg)) (((1 : Int32) + 1) - (1 : Int32)).toNatClampNeg ((va_up Y.2.2.2.2.2.2.2.2 ((1 : Int32) - (1 : Int32)).toNatClampNeg (Y.2.2.2.2.2.2.2.2 (1 : Int32).toNatClampNeg)) ((1 : Int32) + 1).toNatClampNeg)) (((1 : Int32) + 1) + 1).toNatClampNeg)) (((((1 : Int32) + 1) + 1) + 1) - (1 : Int32)).toNatClampNeg ((va_up (va_up (va_up Y.2.2.2.2.2.2.2.2 ((1 : Int32) - (1 : Int32)).toNatClampNeg (Y.2.2.2.2.2.2.2.2 (1 : Int32).toNatClampNeg)) (((1 : Int32) + 1) - (1 : Int32)).toNatClampNeg ((va_up Y.2.2.2.2.2.2.2.2 ((1 : Int32) - (1 : Int32)).toNatClampNeg (Y.2.2.2.2.2.2.2.2 (1 : Int32).toNatClampNeg)) ((1 : Int32) + 1).toNatClampNeg)) ((((1 : Int32) + 1) + 1) - (1 : Int32)).toNatClampNeg ((va_up (va_up Y.2.2.2.2.2.2.2.2 ((1 : Int32) - (1 : Int32)).toNatClampNeg (Y.2.2.2.2.2.2.2.2 (1 : Int32).toNatClampNeg)) (((1 : Int32) + 1) - (1 : Int32)).toNatClampNeg ((va_up Y.2.2.2.2.2.2.2.2 ((1 : Int32) - (1 : Int32)).toNatClampNeg (Y.2.2.2.2.2.2.2.2 (1 : Int32).toNatClampNeg)) ((1 : Int32) + 1).toNatClampNeg)) (((1 : Int32) + 1) + 1).toNatClampNeg)) ((((1 : Int32) + 1) + 1) + 1).toNatClampNeg)) (((((1 : Int32) + 1) + 1) + 1) + 1).toNatClampNeg) 0) (f := fun i => some (z ((va_up (va_up (va_up (va_up Y.2.2.2.2.2.2.2.2 ((1 : Int32) - (1 : Int32)).toNatClampNeg (Y.2.2.2.2.2.2.2.2 (1 : Int32).toNatClampNeg)) (((1 : Int32) + 1) - (1 : Int32)).toNatClampNeg ((va_up Y.2.2.2.2.2.2.2.2 ((1 : Int32) - (1 : Int32)).toNatClampNeg (Y.2.2.2.2.2.2.2.2 (1 : Int32).toNatClampNeg)) ((1 : Int32) + 1).toNatClampNeg)) ((((1 : Int32) + 1) + 1) - (1 : Int32)).toNatClampNeg ((va_up (va_up Y.2.2.2.2.2.2.2.2 ((1 : Int32) - (1 : Int32)).toNatClampNeg (Y.2.2.2.2.2.2.2.2 (1 : Int32).toNatClampNeg)) (((1 : Int32) + 1) - (1 : Int32)).toNatClampNeg ((va_up Y.2.2.2.2.2.2.2.2 ((1 : Int32) - (1 : Int32)).toNatClampNeg (Y.2.2.2.2.2.2.2.2 (1 : Int32).toNatClampNeg)) ((1 : Int32) + 1).toNatClampNeg)) (((1 : Int32) + 1) + 1).toNatClampNeg)) (((((1 : Int32) + 1) + 1) + 1) - (1 : Int32)).toNatClampNeg ((va_up (va_up (va_up Y.2.2.2.2.2.2.2.2 ((1 : Int32) - (1 : Int32)).toNatClampNeg (Y.2.2.2.2.2.2.2.2 (1 : Int32).toNatClampNeg)) (((1 : Int32) + 1) - (1 : Int32)).toNatClampNeg ((va_up Y.2.2.2.2.2.2.2.2 ((1 : Int32) - (1 : Int32)).toNatClampNeg (Y.2.2.2.2.2.2.2.2 (1 : Int32).toNatClampNeg)) ((1 : Int32) + 1).toNatClampNeg)) ((((1 : Int32) + 1) + 1) - (1 : Int32)).toNatClampNeg ((va_up (va_up Y.2.2.2.2.2.2.2.2 ((1 : Int32) - (1 : Int32)).toNatClampNeg (Y.2.2.2.2.2.2.2.2 (1 : Int32).toNatClampNeg)) (((1 : Int32) + 1) - (1 : Int32)).toNatClampNeg ((va_up Y.2.2.2.2.2.2.2.2 ((1 : Int32) - (1 : Int32)).toNatClampNeg (Y.2.2.2.2.2.2.2.2 (1 : Int32).toNatClampNeg)) ((1 : Int32) + 1).toNatClampNeg)) (((1 : Int32) + 1) + 1).toNatClampNeg)) ((((1 : Int32) + 1) + 1) + 1).toNatClampNeg)) i) 0)) hx hb hK hP 1 1 rfl rfl (tw_vin (by decide)) rfl dX3_dropOldest_27 ?_
  refine tw_astq (ws' := (tw_wW cI cQ a na pa ta qa xa z (Y.1, Y.2.1, Y.2.2.1, Y.2.2.2.1, Y.2.2.2.2.1, Y.2.2.2.2.2.1, Y.2.2.2.2.2.2.1, Y.2.2.2.2.2.2.2.1, (va_up (va_up (va_up (va_up (va_up Y.2.2.2.2.2.2.2.2 ((1 : Int32) - (1 : Int32)).toNatClampNeg (Y.2.2.2.2.2.2.2.2 (1 : Int32).toNatClampNeg)) (((1 : Int32) + 1) - (1 : Int32)).toNatClampNeg ((va_up Y.2.2.2.2.2.2.2.2 ((1 : Int32) - (1 : Int32)).toNatClampNeg (Y.2.2.2.2.2.2.2.2 (1 : Int32).toNatClampNeg)) ((1 : Int32) + 1).toNatClampNeg)) ((((1 : Int32) + 1) + 1) - (1 : Int32)).toNatClampNeg ((va_up (va_up Y.2.2.2.2.2.2.2.2 ((1 : Int32) - (1 : Int32)).toNatClampNeg (Y.2.2.2.2.2.2.2.2 (1 : Int32).toNatClampNeg)) (((1 : Int32) + 1) - (1 : Int32)).toNatClampNeg ((va_up Y.2.2.2.2.2.2.2.2 ((1 : Int32) - (1 : Int32)).toNatClampNeg (Y.2.2.2.2.2.2.2.2 (1 : Int32).toNatClampNeg)) ((1 : Int32) + 1).toNatClampNeg)) (((1 : Int32) + 1) + 1).toNatClampNeg)) (((((1 : Int32) + 1) + 1) + 1) - (1 : Int32)).toNatClampNeg ((va_up (va_up (va_up Y.2.2.2.2.2.2.2.2 ((1 : Int32) - (1 : Int32)).toNatClampNeg (Y.2.2.2.2.2.2.2.2 (1 : Int32).toNatClampNeg)) (((1 : Int32) + 1) - (1 : Int32)).toNatClampNeg ((va_up Y.2.2.2.2.2.2.2.2 ((1 : Int32) - (1 : Int32)).toNatClampNeg (Y.2.2.2.2.2.2.2.2 (1 : Int32).toNatClampNeg)) ((1 : Int32) + 1).toNatClampNeg)) ((((1 : Int32) + 1) + 1) - (1 : Int32)).toNatClampNeg ((va_up (va_up Y.2.2.2.2.2.2.2.2 ((1 : Int32) - (1 : Int32)).toNatClampNeg (Y.2.2.2.2.2.2.2.2 (1 : Int32).toNatClampNeg)) (((1 : Int32) + 1) - (1 : Int32)).toNatClampNeg ((va_up Y.2.2.2.2.2.2.2.2 ((1 : Int32) - (1 : Int32)).toNatClampNeg (Y.2.2.2.2.2.2.2.2 (1 : Int32).toNatClampNeg)) ((1 : Int32) + 1).toNatClampNeg)) (((1 : Int32) + 1) + 1).toNatClampNeg)) ((((1 : Int32) + 1) + 1) + 1).toNatClampNeg)) ((((((1 : Int32) + 1) + 1) + 1) + 1) - (1 : Int32)).toNatClampNeg ((va_up (va_up (va_up (va_up Y.2.2.2.2.2.2.2.2 ((1 : Int32) - (1 : Int32)).toNatClampNeg (Y.2.2.2.2.2.2.2.2 (1 : Int32).toNatClampNeg)) (((1 : Int32) + 1) - (1 : Int32)).toNatClampNeg ((va_up Y.2.2.2.2.2.2.2.2 ((1 : Int32) - (1 : Int32)).toNatClampNeg (Y.2.2.2.2.2.2.2.2 (1 : Int32).toNatClampNeg)) ((1 : Int32) + 1).toNatClampNeg)) ((((1 : Int32) + 1) + 1) - (1 : Int32)).toNatClampNeg ((va_up (va_up Y.2.2.2.2.2.2.2.2 ((1 : Int32) - (1 : Int32)).toNatClampNeg (Y.2.2.2.2.2.2.2.2 (1 : Int32).toNatClampNeg)) (((1 : Int32) + 1) - (1 : Int32)).toNatClampNeg ((va_up Y.2.2.2.2.2.2.2.2 ((1 : Int32) - (1 : Int32)).toNatClampNeg (Y.2.2.2.2.2.2.2.2 (1 : Int32).toNatClampNeg)) ((1 : Int32) + 1).toNatClampNeg)) (((1 : Int32) + 1) + 1).toNatClampNeg)) (((((1 : Int32) + 1) + 1) + 1) - (1 : Int32)).toNatClampNeg ((va_up (va_up (va_up Y.2.2.2.2.2.2.2.2 ((1 : Int32) - (1 : Int32)).toNatClampNeg (Y.2.2.2.2.2.2.2.2 (1 : Int32).toNatClampNeg)) (((1 : Int32) + 1) - (1 : Int32)).toNatClampNeg ((va_up Y.2.2.2.2.2.2.2.2 ((1 : Int32) - (1 : Int32)).toNatClampNeg (Y.2.2.2.2.2.2.2.2 (1 : Int32).toNatClampNeg)) ((1 : Int32) + 1).toNatClampNeg)) ((((1 : Int32) + 1) + 1) - (1 : Int32)).toNatClampNeg ((va_up (va_up Y.2.2.2.2.2.2.2.2 ((1 : Int32) - (1 : Int32)).toNatClampNeg (Y.2.2.2.2.2.2.2.2 (1 : Int32).toNatClampNeg)) (((1 : Int32) + 1) - (1 : Int32)).toNatClampNeg ((va_up Y.2.2.2.2.2.2.2.2 ((1 : Int32) - (1 : Int32)).toNatClampNeg (Y.2.2.2.2.2.2.2.2 (1 : Int32).toNatClampNeg)) ((1 : Int32) + 1).toNatClampNeg)) (((1 : Int32) + 1) + 1).toNatClampNeg)) ((((1 : Int32) + 1) + 1) + 1).toNatClampNeg)) (((((1 : Int32) + 1) + 1) + 1) + 1).toNatClampNeg))))) (f := fun i => some (z ((va_up (va_up (va_up (va_up Y.2.2.2.2.2.2.2.2 ((1 : Int32) - (1 : Int32)).toNatClampNeg (Y.2.2.2.2.2.2.2.2 (1 : Int32).toNatClampNeg)) (((1 : Int32) + 1) - (1 : Int32)).toNatClampNeg ((va_up Y.2.2.2.2.2.2.2.2 ((1 : Int32) - (1 : Int32)).toNatClampNeg (Y.2.2.2.2.2.2.2.2 (1 : Int32).toNatClampNeg)) ((1 : Int32) + 1).toNatClampNeg)) ((((1 : Int32) + 1) + 1) - (1 : Int32)).toNatClampNeg ((va_up (va_up Y.2.2.2.2.2.2.2.2 ((1 : Int32) - (1 : Int32)).toNatClampNeg (Y.2.2.2.2.2.2.2.2 (1 : Int32).toNatClampNeg)) (((1 : Int32) + 1) - (1 : Int32)).toNatClampNeg ((va_up Y.2.2.2.2.2.2.2.2 ((1 : Int32) - (1 : Int32)).toNatClampNeg (Y.2.2.2.2.2.2.2.2 (1 : Int32).toNatClampNeg)) ((1 : Int32) + 1).toNatClampNeg)) (((1 : Int32) + 1) + 1).toNatClampNeg)) (((((1 : Int32) + 1) + 1) + 1) - (1 : Int32)).toNatClampNeg ((va_up (va_up (va_up Y.2.2.2.2.2.2.2.2 ((1 : Int32) - (1 : Int32)).toNatClampNeg (Y.2.2.2.2.2.2.2.2 (1 : Int32).toNatClampNeg)) (((1 : Int32) + 1) - (1 : Int32)).toNatClampNeg ((va_up Y.2.2.2.2.2.2.2.2 ((1 : Int32) - (1 : Int32)).toNatClampNeg (Y.2.2.2.2.2.2.2.2 (1 : Int32).toNatClampNeg)) ((1 : Int32) + 1).toNatClampNeg)) ((((1 : Int32) + 1) + 1) - (1 : Int32)).toNatClampNeg ((va_up (va_up Y.2.2.2.2.2.2.2.2 ((1 : Int32) - (1 : Int32)).toNatClampNeg (Y.2.2.2.2.2.2.2.2 (1 : Int32).toNatClampNeg)) (((1 : Int32) + 1) - (1 : Int32)).toNatClampNeg ((va_up Y.2.2.2.2.2.2.2.2 ((1 : Int32) - (1 : Int32)).toNatClampNeg (Y.2.2.2.2.2.2.2.2 (1 : Int32).toNatClampNeg)) ((1 : Int32) + 1).toNatClampNeg)) (((1 : Int32) + 1) + 1).toNatClampNeg)) ((((1 : Int32) + 1) + 1) + 1).toNatClampNeg)) i) 0)) (v := z ((va_up (va_up (va_up (va_up Y.2.2.2.2.2.2.2.2 ((1 : Int32) - (1 : Int32)).toNatClampNeg (Y.2.2.2.2.2.2.2.2 (1 : Int32).toNatClampNeg)) (((1 : Int32) + 1) - (1 : Int32)).toNatClampNeg ((va_up Y.2.2.2.2.2.2.2.2 ((1 : Int32) - (1 : Int32)).toNatClampNeg (Y.2.2.2.2.2.2.2.2 (1 : Int32).toNatClampNeg)) ((1 : Int32) + 1).toNatClampNeg)) ((((1 : Int32) + 1) + 1) - (1 : Int32)).toNatClampNeg ((va_up (va_up Y.2.2.2.2.2.2.2.2 ((1 : Int32) - (1 : Int32)).toNatClampNeg (Y.2.2.2.2.2.2.2.2 (1 : Int32).toNatClampNeg)) (((1 : Int32) + 1) - (1 : Int32)).toNatClampNeg ((va_up Y.2.2.2.2.2.2.2.2 ((1 : Int32) - (1 : Int32)).toNatClampNeg (Y.2.2.2.2.2.2.2.2 (1 : Int32).toNatClampNeg)) ((1 : Int32) + 1).toNatClampNeg)) (((1 : Int32) + 1) + 1).toNatClampNeg)) (((((1 : Int32) + 1) + 1) + 1) - (1 : Int32)).toNatClampNeg ((va_up (va_up (va_up Y.2.2.2.2.2.2.2.2 ((1 : Int32) - (1 : Int32)).toNatClampNeg (Y.2.2.2.2.2.2.2.2 (1 : Int32).toNatClampNeg)) (((1 : Int32) + 1) - (1 : Int32)).toNatClampNeg ((va_up Y.2.2.2.2.2.2.2.2 ((1 : Int32) - (1 : Int32)).toNatClampNeg (Y.2.2.2.2.2.2.2.2 (1 : Int32).toNatClampNeg)) ((1 : Int32) + 1).toNatClampNeg)) ((((1 : Int32) + 1) + 1) - (1 : Int32)).toNatClampNeg ((va_up (va_up Y.2.2.2.2.2.2.2.2 ((1 : Int32) - (1 : Int32)).toNatClampNeg (Y.2.2.2.2.2.2.2.2 (1 : Int32).toNatClampNeg)) (((1 : Int32) + 1) - (1 : Int32)).toNatClampNeg ((va_up Y.2.2.2.2.2.2.2.2 ((1 : Int32) - (1 : Int32)).toNatClampNeg (Y.2.2.2.2.2.2.2.2 (1 : Int32).toNatClampNeg)) ((1 : Int32) + 1).toNatClampNeg)) (((1 : Int32) + 1) + 1).toNatClampNeg)) ((((1 : Int32) + 1) + 1) + 1).toNatClampNeg)) (((((1 : Int32) + 1) + 1) + 1) + 1).toNatClampNeg) 0) hx hb hK hP hD hS 1 1 (27 + 8 * ((va_up (va_up (va_up (va_up Y.2.2.2.2.2.2.2.2 ((1 : Int32) - (1 : Int32)).toNatClampNeg (Y.2.2.2.2.2.2.2.2 (1 : Int32).toNatClampNeg)) (((1 : Int32) + 1) - (1 : Int32)).toNatClampNeg ((va_up Y.2.2.2.2.2.2.2.2 ((1 : Int32) - (1 : Int32)).toNatClampNeg (Y.2.2.2.2.2.2.2.2 (1 : Int32).toNatClampNeg)) ((1 : Int32) + 1).toNatClampNeg)) ((((1 : Int32) + 1) + 1) - (1 : Int32)).toNatClampNeg ((va_up (va_up Y.2.2.2.2.2.2.2.2 ((1 : Int32) - (1 : Int32)).toNatClampNeg (Y.2.2.2.2.2.2.2.2 (1 : Int32).toNatClampNeg)) (((1 : Int32) + 1) - (1 : Int32)).toNatClampNeg ((va_up Y.2.2.2.2.2.2.2.2 ((1 : Int32) - (1 : Int32)).toNatClampNeg (Y.2.2.2.2.2.2.2.2 (1 : Int32).toNatClampNeg)) ((1 : Int32) + 1).toNatClampNeg)) (((1 : Int32) + 1) + 1).toNatClampNeg)) (((((1 : Int32) + 1) + 1) + 1) - (1 : Int32)).toNatClampNeg ((va_up (va_up (va_up Y.2.2.2.2.2.2.2.2 ((1 : Int32) - (1 : Int32)).toNatClampNeg (Y.2.2.2.2.2.2.2.2 (1 : Int32).toNatClampNeg)) (((1 : Int32) + 1) - (1 : Int32)).toNatClampNeg ((va_up Y.2.2.2.2.2.2.2.2 ((1 : Int32) - (1 : Int32)).toNatClampNeg (Y.2.2.2.2.2.2.2.2 (1 : Int32).toNatClampNeg)) ((1 : Int32) + 1).toNatClampNeg)) ((((1 : Int32) + 1) + 1) - (1 : Int32)).toNatClampNeg ((va_up (va_up Y.2.2.2.2.2.2.2.2 ((1 : Int32) - (1 : Int32)).toNatClampNeg (Y.2.2.2.2.2.2.2.2 (1 : Int32).toNatClampNeg)) (((1 : Int32) + 1) - (1 : Int32)).toNatClampNeg ((va_up Y.2.2.2.2.2.2.2.2 ((1 : Int32) - (1 : Int32)).toNatClampNeg (Y.2.2.2.2.2.2.2.2 (1 : Int32).toNatClampNeg)) ((1 : Int32) + 1).toNatClampNeg)) (((1 : Int32) + 1) + 1).toNatClampNeg)) ((((1 : Int32) + 1) + 1) + 1).toNatClampNeg)) (((((1 : Int32) + 1) + 1) + 1) + 1).toNatClampNeg)) 1 rfl rfl (tw_zp j27) rfl (tw_vin (by decide)) dX3_dropOldest_28 (by rw [tw_pi]; rfl) (fun H locs hP hD hS => ?_)
  refine lv_iinc (v := ((((((1 : Int32) + 1) + 1) + 1) + 1) + 1)) (lv' := [(2, .int ((((((1 : Int32) + 1) + 1) + 1) + 1) + 1)), (1, .ref (z (Y.2.2.2.2.2.2.2.2 (0 : Int32).toNatClampNeg) 0)), (0, .ref (a 0))]) hx hb dX3_dropOldest_29 hl (k := 0) rfl rfl (by decide) rfl (fun ls hl => ?_)
  refine lv_goto (tgt := 9) hx hb dX3_dropOldest_32 (by decide) ?_
  refine lv_iload_n hx hb dX3_dropOldest_9 rfl (lv_at hl 0 rfl) ?_
  refine lv_bipush (v := (6 : Int32)) hx hb dX3_dropOldest_10 (by decide) ?_
  refine lv_icmp_ge (tgt := 35) hx hb dX3_dropOldest_12 (by decide) (fun _ => ?_) (fun c => absurd (by decide) c)
  refine lv_aload_n hx hb dX3_dropOldest_35 rfl (lv_at hl 2 rfl) ?_
  refine va_get (D := G) (ci := 3) (v := .ref (a 1)) (C := RX3) (T := TX3) (N := 8) hx hb hts iX3_dropOldest_X3 hown hK hP 0 rfl rfl 4 (by decide) (hts _ qX3_dropOldest_0) (fun _ h9 => h9) rfl dX3_dropOldest_36 ?_
  refine lv_iconst (v := (5 : Int32)) hx hb dX3_dropOldest_39 (by decide) ?_
  refine lv_aload_n hx hb dX3_dropOldest_40 rfl (lv_at hl 1 rfl) ?_
  refine tw_astq (ws' := (tw_wW cI cQ a na pa ta qa xa z (Y.1, Y.2.1, Y.2.2.1, Y.2.2.2.1, Y.2.2.2.2.1, Y.2.2.2.2.2.1, Y.2.2.2.2.2.2.1, Y.2.2.2.2.2.2.2.1, (va_up (va_up (va_up (va_up (va_up (va_up Y.2.2.2.2.2.2.2.2 ((1 : Int32) - (1 : Int32)).toNatClampNeg (Y.2.2.2.2.2.2.2.2 (1 : Int32).toNatClampNeg)) (((1 : Int32) + 1) - (1 : Int32)).toNatClampNeg ((va_up Y.2.2.2.2.2.2.2.2 ((1 : Int32) - (1 : Int32)).toNatClampNeg (Y.2.2.2.2.2.2.2.2 (1 : Int32).toNatClampNeg)) ((1 : Int32) + 1).toNatClampNeg)) ((((1 : Int32) + 1) + 1) - (1 : Int32)).toNatClampNeg ((va_up (va_up Y.2.2.2.2.2.2.2.2 ((1 : Int32) - (1 : Int32)).toNatClampNeg (Y.2.2.2.2.2.2.2.2 (1 : Int32).toNatClampNeg)) (((1 : Int32) + 1) - (1 : Int32)).toNatClampNeg ((va_up Y.2.2.2.2.2.2.2.2 ((1 : Int32) - (1 : Int32)).toNatClampNeg (Y.2.2.2.2.2.2.2.2 (1 : Int32).toNatClampNeg)) ((1 : Int32) + 1).toNatClampNeg)) (((1 : Int32) + 1) + 1).toNatClampNeg)) (((((1 : Int32) + 1) + 1) + 1) - (1 : Int32)).toNatClampNeg ((va_up (va_up (va_up Y.2.2.2.2.2.2.2.2 ((1 : Int32) - (1 : Int32)).toNatClampNeg (Y.2.2.2.2.2.2.2.2 (1 : Int32).toNatClampNeg)) (((1 : Int32) + 1) - (1 : Int32)).toNatClampNeg ((va_up Y.2.2.2.2.2.2.2.2 ((1 : Int32) - (1 : Int32)).toNatClampNeg (Y.2.2.2.2.2.2.2.2 (1 : Int32).toNatClampNeg)) ((1 : Int32) + 1).toNatClampNeg)) ((((1 : Int32) + 1) + 1) - (1 : Int32)).toNatClampNeg ((va_up (va_up Y.2.2.2.2.2.2.2.2 ((1 : Int32) - (1 : Int32)).toNatClampNeg (Y.2.2.2.2.2.2.2.2 (1 : Int32).toNatClampNeg)) (((1 : Int32) + 1) - (1 : Int32)).toNatClampNeg ((va_up Y.2.2.2.2.2.2.2.2 ((1 : Int32) - (1 : Int32)).toNatClampNeg (Y.2.2.2.2.2.2.2.2 (1 : Int32).toNatClampNeg)) ((1 : Int32) + 1).toNatClampNeg)) (((1 : Int32) + 1) + 1).toNatClampNeg)) ((((1 : Int32) + 1) + 1) + 1).toNatClampNeg)) ((((((1 : Int32) + 1) + 1) + 1) + 1) - (1 : Int32)).toNatClampNeg ((va_up (va_up (va_up (va_up Y.2.2.2.2.2.2.2.2 ((1 : Int32) - (1 : Int32)).toNatClampNeg (Y.2.2.2.2.2.2.2.2 (1 : Int32).toNatClampNeg)) (((1 : Int32) + 1) - (1 : Int32)).toNatClampNeg ((va_up Y.2.2.2.2.2.2.2.2 ((1 : Int32) - (1 : Int32)).toNatClampNeg (Y.2.2.2.2.2.2.2.2 (1 : Int32).toNatClampNeg)) ((1 : Int32) + 1).toNatClampNeg)) ((((1 : Int32) + 1) + 1) - (1 : Int32)).toNatClampNeg ((va_up (va_up Y.2.2.2.2.2.2.2.2 ((1 : Int32) - (1 : Int32)).toNatClampNeg (Y.2.2.2.2.2.2.2.2 (1 : Int32).toNatClampNeg)) (((1 : Int32) + 1) - (1 : Int32)).toNatClampNeg ((va_up Y.2.2.2.2.2.2.2.2 ((1 : Int32) - (1 : Int32)).toNatClampNeg (Y.2.2.2.2.2.2.2.2 (1 : Int32).toNatClampNeg)) ((1 : Int32) + 1).toNatClampNeg)) (((1 : Int32) + 1) + 1).toNatClampNeg)) (((((1 : Int32) + 1) + 1) + 1) - (1 : Int32)).toNatClampNeg ((va_up (va_up (va_up Y.2.2.2.2.2.2.2.2 ((1 : Int32) - (1 : Int32)).toNatClampNeg (Y.2.2.2.2.2.2.2.2 (1 : Int32).toNatClampNeg)) (((1 : Int32) + 1) - (1 : Int32)).toNatClampNeg ((va_up Y.2.2.2.2.2.2.2.2 ((1 : Int32) - (1 : Int32)).toNatClampNeg (Y.2.2.2.2.2.2.2.2 (1 : Int32).toNatClampNeg)) ((1 : Int32) + 1).toNatClampNeg)) ((((1 : Int32) + 1) + 1) - (1 : Int32)).toNatClampNeg ((va_up (va_up Y.2.2.2.2.2.2.2.2 ((1 : Int32) - (1 : Int32)).toNatClampNeg (Y.2.2.2.2.2.2.2.2 (1 : Int32).toNatClampNeg)) (((1 : Int32) + 1) - (1 : Int32)).toNatClampNeg ((va_up Y.2.2.2.2.2.2.2.2 ((1 : Int32) - (1 : Int32)).toNatClampNeg (Y.2.2.2.2.2.2.2.2 (1 : Int32).toNatClampNeg)) ((1 : Int32) + 1).toNatClampNeg)) (((1 : Int32) + 1) + 1).toNatClampNeg)) ((((1 : Int32) + 1) + 1) + 1).toNatClampNeg)) (((((1 : Int32) + 1) + 1) + 1) + 1).toNatClampNeg)) (5 : Int32).toNatClampNeg (Y.2.2.2.2.2.2.2.2 (0 : Int32).toNatClampNeg))))) (f := fun i => some (z ((va_up (va_up (va_up (va_up (va_up Y.2.2.2.2.2.2.2.2 ((1 : Int32) - (1 : Int32)).toNatClampNeg (Y.2.2.2.2.2.2.2.2 (1 : Int32).toNatClampNeg)) (((1 : Int32) + 1) - (1 : Int32)).toNatClampNeg ((va_up Y.2.2.2.2.2.2.2.2 ((1 : Int32) - (1 : Int32)).toNatClampNeg (Y.2.2.2.2.2.2.2.2 (1 : Int32).toNatClampNeg)) ((1 : Int32) + 1).toNatClampNeg)) ((((1 : Int32) + 1) + 1) - (1 : Int32)).toNatClampNeg ((va_up (va_up Y.2.2.2.2.2.2.2.2 ((1 : Int32) - (1 : Int32)).toNatClampNeg (Y.2.2.2.2.2.2.2.2 (1 : Int32).toNatClampNeg)) (((1 : Int32) + 1) - (1 : Int32)).toNatClampNeg ((va_up Y.2.2.2.2.2.2.2.2 ((1 : Int32) - (1 : Int32)).toNatClampNeg (Y.2.2.2.2.2.2.2.2 (1 : Int32).toNatClampNeg)) ((1 : Int32) + 1).toNatClampNeg)) (((1 : Int32) + 1) + 1).toNatClampNeg)) (((((1 : Int32) + 1) + 1) + 1) - (1 : Int32)).toNatClampNeg ((va_up (va_up (va_up Y.2.2.2.2.2.2.2.2 ((1 : Int32) - (1 : Int32)).toNatClampNeg (Y.2.2.2.2.2.2.2.2 (1 : Int32).toNatClampNeg)) (((1 : Int32) + 1) - (1 : Int32)).toNatClampNeg ((va_up Y.2.2.2.2.2.2.2.2 ((1 : Int32) - (1 : Int32)).toNatClampNeg (Y.2.2.2.2.2.2.2.2 (1 : Int32).toNatClampNeg)) ((1 : Int32) + 1).toNatClampNeg)) ((((1 : Int32) + 1) + 1) - (1 : Int32)).toNatClampNeg ((va_up (va_up Y.2.2.2.2.2.2.2.2 ((1 : Int32) - (1 : Int32)).toNatClampNeg (Y.2.2.2.2.2.2.2.2 (1 : Int32).toNatClampNeg)) (((1 : Int32) + 1) - (1 : Int32)).toNatClampNeg ((va_up Y.2.2.2.2.2.2.2.2 ((1 : Int32) - (1 : Int32)).toNatClampNeg (Y.2.2.2.2.2.2.2.2 (1 : Int32).toNatClampNeg)) ((1 : Int32) + 1).toNatClampNeg)) (((1 : Int32) + 1) + 1).toNatClampNeg)) ((((1 : Int32) + 1) + 1) + 1).toNatClampNeg)) ((((((1 : Int32) + 1) + 1) + 1) + 1) - (1 : Int32)).toNatClampNeg ((va_up (va_up (va_up (va_up Y.2.2.2.2.2.2.2.2 ((1 : Int32) - (1 : Int32)).toNatClampNeg (Y.2.2.2.2.2.2.2.2 (1 : Int32).toNatClampNeg)) (((1 : Int32) + 1) - (1 : Int32)).toNatClampNeg ((va_up Y.2.2.2.2.2.2.2.2 ((1 : Int32) - (1 : Int32)).toNatClampNeg (Y.2.2.2.2.2.2.2.2 (1 : Int32).toNatClampNeg)) ((1 : Int32) + 1).toNatClampNeg)) ((((1 : Int32) + 1) + 1) - (1 : Int32)).toNatClampNeg ((va_up (va_up Y.2.2.2.2.2.2.2.2 ((1 : Int32) - (1 : Int32)).toNatClampNeg (Y.2.2.2.2.2.2.2.2 (1 : Int32).toNatClampNeg)) (((1 : Int32) + 1) - (1 : Int32)).toNatClampNeg ((va_up Y.2.2.2.2.2.2.2.2 ((1 : Int32) - (1 : Int32)).toNatClampNeg (Y.2.2.2.2.2.2.2.2 (1 : Int32).toNatClampNeg)) ((1 : Int32) + 1).toNatClampNeg)) (((1 : Int32) + 1) + 1).toNatClampNeg)) (((((1 : Int32) + 1) + 1) + 1) - (1 : Int32)).toNatClampNeg ((va_up (va_up (va_up Y.2.2.2.2.2.2.2.2 ((1 : Int32) - (1 : Int32)).toNatClampNeg (Y.2.2.2.2.2.2.2.2 (1 : Int32).toNatClampNeg)) (((1 : Int32) + 1) - (1 : Int32)).toNatClampNeg ((va_up Y.2.2.2.2.2.2.2.2 ((1 : Int32) - (1 : Int32)).toNatClampNeg (Y.2.2.2.2.2.2.2.2 (1 : Int32).toNatClampNeg)) ((1 : Int32) + 1).toNatClampNeg)) ((((1 : Int32) + 1) + 1) - (1 : Int32)).toNatClampNeg ((va_up (va_up Y.2.2.2.2.2.2.2.2 ((1 : Int32) - (1 : Int32)).toNatClampNeg (Y.2.2.2.2.2.2.2.2 (1 : Int32).toNatClampNeg)) (((1 : Int32) + 1) - (1 : Int32)).toNatClampNeg ((va_up Y.2.2.2.2.2.2.2.2 ((1 : Int32) - (1 : Int32)).toNatClampNeg (Y.2.2.2.2.2.2.2.2 (1 : Int32).toNatClampNeg)) ((1 : Int32) + 1).toNatClampNeg)) (((1 : Int32) + 1) + 1).toNatClampNeg)) ((((1 : Int32) + 1) + 1) + 1).toNatClampNeg)) (((((1 : Int32) + 1) + 1) + 1) + 1).toNatClampNeg)) i) 0)) (v := z (Y.2.2.2.2.2.2.2.2 (0 : Int32).toNatClampNeg) 0) hx hb hK hP hD hS 1 1 (27 + 8 * (Y.2.2.2.2.2.2.2.2 (0 : Int32).toNatClampNeg)) 1 rfl rfl (tw_zp j5) rfl (tw_vin (by decide)) dX3_dropOldest_41 (by rw [tw_pi]; rfl) (fun H locs hP hD hS => ?_)
  refine lv_aload_n hx hb dX3_dropOldest_42 rfl (lv_at hl 2 rfl) ?_
  refine lv_iconst (v := (5 : Int32)) hx hb dX3_dropOldest_43 (by decide) ?_
  refine tw_put (ws' := (tw_wW cI cQ a na pa ta qa xa z (Y.1, Y.2.1, Y.2.2.1, Y.2.2.2.1, Y.2.2.2.2.1, Y.2.2.2.2.2.1, (5 : Int32), Y.2.2.2.2.2.2.2.1, (va_up (va_up (va_up (va_up (va_up (va_up Y.2.2.2.2.2.2.2.2 ((1 : Int32) - (1 : Int32)).toNatClampNeg (Y.2.2.2.2.2.2.2.2 (1 : Int32).toNatClampNeg)) (((1 : Int32) + 1) - (1 : Int32)).toNatClampNeg ((va_up Y.2.2.2.2.2.2.2.2 ((1 : Int32) - (1 : Int32)).toNatClampNeg (Y.2.2.2.2.2.2.2.2 (1 : Int32).toNatClampNeg)) ((1 : Int32) + 1).toNatClampNeg)) ((((1 : Int32) + 1) + 1) - (1 : Int32)).toNatClampNeg ((va_up (va_up Y.2.2.2.2.2.2.2.2 ((1 : Int32) - (1 : Int32)).toNatClampNeg (Y.2.2.2.2.2.2.2.2 (1 : Int32).toNatClampNeg)) (((1 : Int32) + 1) - (1 : Int32)).toNatClampNeg ((va_up Y.2.2.2.2.2.2.2.2 ((1 : Int32) - (1 : Int32)).toNatClampNeg (Y.2.2.2.2.2.2.2.2 (1 : Int32).toNatClampNeg)) ((1 : Int32) + 1).toNatClampNeg)) (((1 : Int32) + 1) + 1).toNatClampNeg)) (((((1 : Int32) + 1) + 1) + 1) - (1 : Int32)).toNatClampNeg ((va_up (va_up (va_up Y.2.2.2.2.2.2.2.2 ((1 : Int32) - (1 : Int32)).toNatClampNeg (Y.2.2.2.2.2.2.2.2 (1 : Int32).toNatClampNeg)) (((1 : Int32) + 1) - (1 : Int32)).toNatClampNeg ((va_up Y.2.2.2.2.2.2.2.2 ((1 : Int32) - (1 : Int32)).toNatClampNeg (Y.2.2.2.2.2.2.2.2 (1 : Int32).toNatClampNeg)) ((1 : Int32) + 1).toNatClampNeg)) ((((1 : Int32) + 1) + 1) - (1 : Int32)).toNatClampNeg ((va_up (va_up Y.2.2.2.2.2.2.2.2 ((1 : Int32) - (1 : Int32)).toNatClampNeg (Y.2.2.2.2.2.2.2.2 (1 : Int32).toNatClampNeg)) (((1 : Int32) + 1) - (1 : Int32)).toNatClampNeg ((va_up Y.2.2.2.2.2.2.2.2 ((1 : Int32) - (1 : Int32)).toNatClampNeg (Y.2.2.2.2.2.2.2.2 (1 : Int32).toNatClampNeg)) ((1 : Int32) + 1).toNatClampNeg)) (((1 : Int32) + 1) + 1).toNatClampNeg)) ((((1 : Int32) + 1) + 1) + 1).toNatClampNeg)) ((((((1 : Int32) + 1) + 1) + 1) + 1) - (1 : Int32)).toNatClampNeg ((va_up (va_up (va_up (va_up Y.2.2.2.2.2.2.2.2 ((1 : Int32) - (1 : Int32)).toNatClampNeg (Y.2.2.2.2.2.2.2.2 (1 : Int32).toNatClampNeg)) (((1 : Int32) + 1) - (1 : Int32)).toNatClampNeg ((va_up Y.2.2.2.2.2.2.2.2 ((1 : Int32) - (1 : Int32)).toNatClampNeg (Y.2.2.2.2.2.2.2.2 (1 : Int32).toNatClampNeg)) ((1 : Int32) + 1).toNatClampNeg)) ((((1 : Int32) + 1) + 1) - (1 : Int32)).toNatClampNeg ((va_up (va_up Y.2.2.2.2.2.2.2.2 ((1 : Int32) - (1 : Int32)).toNatClampNeg (Y.2.2.2.2.2.2.2.2 (1 : Int32).toNatClampNeg)) (((1 : Int32) + 1) - (1 : Int32)).toNatClampNeg ((va_up Y.2.2.2.2.2.2.2.2 ((1 : Int32) - (1 : Int32)).toNatClampNeg (Y.2.2.2.2.2.2.2.2 (1 : Int32).toNatClampNeg)) ((1 : Int32) + 1).toNatClampNeg)) (((1 : Int32) + 1) + 1).toNatClampNeg)) (((((1 : Int32) + 1) + 1) + 1) - (1 : Int32)).toNatClampNeg ((va_up (va_up (va_up Y.2.2.2.2.2.2.2.2 ((1 : Int32) - (1 : Int32)).toNatClampNeg (Y.2.2.2.2.2.2.2.2 (1 : Int32).toNatClampNeg)) (((1 : Int32) + 1) - (1 : Int32)).toNatClampNeg ((va_up Y.2.2.2.2.2.2.2.2 ((1 : Int32) - (1 : Int32)).toNatClampNeg (Y.2.2.2.2.2.2.2.2 (1 : Int32).toNatClampNeg)) ((1 : Int32) + 1).toNatClampNeg)) ((((1 : Int32) + 1) + 1) - (1 : Int32)).toNatClampNeg ((va_up (va_up Y.2.2.2.2.2.2.2.2 ((1 : Int32) - (1 : Int32)).toNatClampNeg (Y.2.2.2.2.2.2.2.2 (1 : Int32).toNatClampNeg)) (((1 : Int32) + 1) - (1 : Int32)).toNatClampNeg ((va_up Y.2.2.2.2.2.2.2.2 ((1 : Int32) - (1 : Int32)).toNatClampNeg (Y.2.2.2.2.2.2.2.2 (1 : Int32).toNatClampNeg)) ((1 : Int32) + 1).toNatClampNeg)) (((1 : Int32) + 1) + 1).toNatClampNeg)) ((((1 : Int32) + 1) + 1) + 1).toNatClampNeg)) (((((1 : Int32) + 1) + 1) + 1) + 1).toNatClampNeg)) (5 : Int32).toNatClampNeg (Y.2.2.2.2.2.2.2.2 (0 : Int32).toNatClampNeg))))) (D := G) (ci := 3) (v := .int (5 : Int32)) (ty := .int) (C := RX3) (T := TX3) (N := 8) hx hb hts iX3_dropOldest_X3 tyX3 tyX3_ok nmX3 hown hK hP hD hS 0 rfl rfl 7 (by decide) (hts _ qX3_dropOldest_1) (fun _ h9 => h9) rfl (by decide +kernel) rfl rfl (Nat.le_of_ble_eq_true rfl) dX3_dropOldest_44 rfl (fun H locs hP hD hS => ?_)
  exact hq H locs _ ls (tw_rt (fun r => va_P G vwCl (tw_wW cI cQ a na pa ta qa xa z r) H) h hP) hS dX3_dropOldest_47
abbrev rmX3_saveState : Room := { frames := 1, cells := 0, slots := 0, locals := 22 }
set_option maxRecDepth 20000 in
theorem qX3_saveState_0 : (Cond.fieldLink RX3 29 "TheatreWall" "saved" "[LTheatreWall$State;") ∈ wsX3_saveState := (List.mem_cons_of_mem _ (List.mem_append_left _ (List.mem_append_left _ (List.mem_of_getElem? (i := 1) rfl))))
set_option maxRecDepth 20000 in
theorem qX3_saveState_1 : (Cond.fieldLink RX3 44 "TheatreWall" "savedCount" "I") ∈ wsX3_saveState := (List.mem_cons_of_mem _ (List.mem_append_left _ (List.mem_append_left _ (List.mem_of_getElem? (i := 0) rfl))))
set_option maxRecDepth 20000 in
theorem qX3_saveState_2 : (Cond.fieldLink RX3 10 "TheatreWall" "now" "LTheatreWall$State;") ∈ wsX3_saveState := (List.mem_cons_of_mem _ (List.mem_append_left _ (List.mem_append_left _ (List.mem_of_getElem? (i := 2) rfl))))
set_option maxRecDepth 20000 in
theorem iX3_saveState_X3 : ∀ w ∈ u_ws RX3 TX3 8, w ∈ wsX3_saveState := fun w h => (List.mem_cons_of_mem _ (List.mem_append_left _ (List.mem_append_right _ h)))
set_option maxHeartbeats 4000000 in
set_option maxRecDepth 100000 in
theorem mX3_saveState (l : Launch) (G : va_G) (cI : ClassId) (cQ : ClassId) (a na pa ta qa xa : Nat → Nat) (z : Nat → Nat → Nat) (Y : tw_Wl) (sz : Nat)  {rv : tw_Wl} (h : fX3_saveState Y = some rv) : tw_Mv l yX3_saveState wsX3_saveState rmX3_saveState G [(cI, .int), (cQ, .object RX1)] (tw_wW cI cQ a na pa ta qa xa z Y) [.ref (a 0)] sz (tw_wW cI cQ a na pa ta qa xa z rv) := by
  refine tw_ofv (cc := cX3_saveState) (maxL := 1) (own := RX3) (by decide) rfl rfl (Nat.le_of_ble_eq_true rfl) ?_
  intro p e s m args below meth c Q A ls H locs F hN hK hP hD hS hA hl hq
  obtain ⟨hx, hb, hml, hown, hts⟩ := id F
  have hl : lv_has ls 1 [(0, .ref (a 0))] := hl
  unfold fX3_saveState at h
  have L13 : ∀ (Y : tw_Wl) (H : Heap) (locs : List Loc) (ls : Array Slot), fX3_saveState_13 Y = some rv → lv_has ls 1 [(0, .ref (a 0))] → va_P G vwCl (tw_wW cI cQ a na pa ta qa xa z Y) H → va_D A (tw_wW cI cQ a na pa ta qa xa z Y) → va_S A s.heap H locs → W p l e rmX3_saveState s m args below meth c H locs 0 0 Q (F0 m 13 ls []) := by
    intro Y H locs ls h hl hP hD hS
    unfold fX3_saveState_13 at h
    refine lv_aload_n hx hb dX3_saveState_13 rfl (lv_at hl 0 rfl) ?_
    refine va_get (D := G) (ci := 3) (v := .ref (a 1)) (C := RX3) (T := TX3) (N := 8) hx hb hts iX3_saveState_X3 hown hK hP 0 rfl rfl 4 (by decide) (hts _ qX3_saveState_0) (fun _ h9 => h9) rfl dX3_saveState_14 ?_
    refine lv_aload_n hx hb dX3_saveState_17 rfl (lv_at hl 0 rfl) ?_
    refine va_get (D := G) (ci := 3) (v := .int Y.2.2.2.2.2.2.1) (C := RX3) (T := TX3) (N := 8) hx hb hts iX3_saveState_X3 hown hK hP 0 rfl rfl 7 (by decide) (hts _ qX3_saveState_1) (fun _ h9 => h9) rfl dX3_saveState_18 ?_
    obtain ⟨g21, h⟩ := tw_gs h
    obtain ⟨j21, h⟩ := tw_qs h
    refine tw_aldq (v := z (Y.2.2.2.2.2.2.2.2 Y.2.2.2.2.2.2.1.toNatClampNeg) 0) (f := fun i => some (z (Y.2.2.2.2.2.2.2.2 i) 0)) hx hb hK hP 1 1 rfl rfl g21 rfl dX3_saveState_21 ?_
    refine lv_aload_n hx hb dX3_saveState_22 rfl (lv_at hl 0 rfl) ?_
    refine va_get (D := G) (ci := 3) (v := .ref (na 0)) (C := RX3) (T := TX3) (N := 8) hx hb hts iX3_saveState_X3 hown hK hP 0 rfl rfl 0 (by decide) (hts _ qX3_saveState_2) (fun _ h9 => h9) rfl dX3_saveState_23 ?_
    obtain ⟨r26, e26, h⟩ := tw_bs h
    refine tw_callVv (ws' := (tw_wW cI cQ a na pa ta qa xa z (Y.1, Y.2.1, Y.2.2.1, Y.2.2.2.1, Y.2.2.2.2.1, Y.2.2.2.2.2.1, Y.2.2.2.2.2.2.1, (va_up Y.2.2.2.2.2.2.2.1 (Y.2.2.2.2.2.2.2.2 Y.2.2.2.2.2.2.1.toNatClampNeg) r26), Y.2.2.2.2.2.2.2.2))) (As := [.ref (na 0)]) (rest := []) F hN hK hP hD hS hA (mX1_copyFrom l G cI (z (Y.2.2.2.2.2.2.2.2 Y.2.2.2.2.2.2.1.toNatClampNeg)) na (Y.2.2.2.2.2.2.2.1 (Y.2.2.2.2.2.2.2.2 Y.2.2.2.2.2.2.1.toNatClampNeg)) Y.1 H.size e26) (cwV 1 hts gX3_saveState_X1_copyFrom rfl rfl rfl (by decide +kernel) ⟨(Nat.le_of_ble_eq_true rfl), (Nat.le_of_ble_eq_true rfl)⟩) [0] rfl (tw_z1_is (Y.2.2.2.2.2.2.2.2 Y.2.2.2.2.2.2.1.toNatClampNeg)) (tw_z1_nd j21) (tw_z1_C j21) rfl (tw_z1_M j21) (r0 := 0) (ci := 1) rfl rfl rfl rfl hl.1 rfl (Nat.le_of_ble_eq_true rfl) dX3_saveState_26 ⟨Nat.zero_le _, Nat.zero_le _⟩ (fun H locs hP hD hS => ?_)
    refine lv_aload_n hx hb dX3_saveState_29 rfl (lv_at hl 0 rfl) ?_
    refine lv_dup hx hb dX3_saveState_30 rfl ?_
    refine va_get (D := G) (ci := 3) (v := .int Y.2.2.2.2.2.2.1) (C := RX3) (T := TX3) (N := 8) hx hb hts iX3_saveState_X3 hown hK hP 0 rfl rfl 7 (by decide) (hts _ qX3_saveState_1) (fun _ h9 => h9) rfl dX3_saveState_31 ?_
    refine lv_iconst (v := (1 : Int32)) hx hb dX3_saveState_34 (by decide) ?_
    refine lv_iadd hx hb dX3_saveState_35 ?_
    refine tw_put (ws' := (tw_wW cI cQ a na pa ta qa xa z (Y.1, Y.2.1, Y.2.2.1, Y.2.2.2.1, Y.2.2.2.2.1, Y.2.2.2.2.2.1, (Y.2.2.2.2.2.2.1 + (1 : Int32)), (va_up Y.2.2.2.2.2.2.2.1 (Y.2.2.2.2.2.2.2.2 Y.2.2.2.2.2.2.1.toNatClampNeg) r26), Y.2.2.2.2.2.2.2.2))) (D := G) (ci := 3) (v := .int (Y.2.2.2.2.2.2.1 + (1 : Int32))) (ty := .int) (C := RX3) (T := TX3) (N := 8) hx hb hts iX3_saveState_X3 tyX3 tyX3_ok nmX3 hown hK hP hD hS 0 rfl rfl 7 (by decide) (hts _ qX3_saveState_1) (fun _ h9 => h9) rfl (by decide +kernel) rfl rfl (Nat.le_of_ble_eq_true rfl) dX3_saveState_36 rfl (fun H locs hP hD hS => ?_)
    exact hq H locs _ ls (tw_rt (fun r => va_P G vwCl (tw_wW cI cQ a na pa ta qa xa z r) H) h hP) hS dX3_saveState_39
  refine lv_aload_n hx hb dX3_saveState_0 rfl (lv_at hl 0 rfl) ?_
  refine va_get (D := G) (ci := 3) (v := .int Y.2.2.2.2.2.2.1) (C := RX3) (T := TX3) (N := 8) hx hb hts iX3_saveState_X3 hown hK hP 0 rfl rfl 7 (by decide) (hts _ qX3_saveState_1) (fun _ h9 => h9) rfl dX3_saveState_1 ?_
  refine lv_bipush (v := (6 : Int32)) hx hb dX3_saveState_4 (by decide) ?_
  refine lv_icmp_lt (tgt := 13) hx hb dX3_saveState_6 (by decide) (fun c6 => ?_) (fun c6 => ?_)
  · replace h := tw_t c6 h
    exact L13 Y H locs ls h (lv_sub hl [0] rfl) hP hD hS
  · replace h := tw_f c6 h
    refine lv_aload_n hx hb dX3_saveState_9 rfl (lv_at hl 0 rfl) ?_
    obtain ⟨r10, e10, h⟩ := tw_bs h
    refine tw_callVvF (ws' := (tw_wW cI cQ a na pa ta qa xa z r10)) (As := []) (rest := []) F hN hK hP hD hS hA (mX3_dropOldest l G cI cQ a na pa ta qa xa z Y H.size e10) (cwV 0 hts gX3_saveState_X3_dropOldest rfl rfl rfl (by decide +kernel) ⟨(Nat.le_of_ble_eq_true rfl), (Nat.le_of_ble_eq_true rfl)⟩) rfl (r0 := 0) (ci := 3) rfl rfl rfl rfl hl.1 rfl (Nat.le_of_ble_eq_true rfl) dX3_saveState_10 ⟨Nat.zero_le _, Nat.zero_le _⟩ (fun H locs hP hD hS => ?_)
    exact L13 r10 H locs ls h (lv_sub hl [0] rfl) hP hD hS
