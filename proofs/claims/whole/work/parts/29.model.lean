abbrev rmX4_isAt : Room := { frames := 1, cells := 0, slots := 0, locals := 22 }
set_option maxRecDepth 20000 in
theorem qX4_isAt_0 : (Cond.fieldLink RX4 116 "TheatreWallModel" "at" "I") ∈ wsX4_isAt := (List.mem_cons_of_mem _ (List.mem_append_left _ (List.mem_of_getElem? (i := 0) rfl)))
set_option maxRecDepth 20000 in
theorem qX4_isAt_1 : (Cond.fieldLink RX4 113 "TheatreWallModel" "typed" "I") ∈ wsX4_isAt := (List.mem_cons_of_mem _ (List.mem_append_left _ (List.mem_of_getElem? (i := 1) rfl)))
set_option maxRecDepth 20000 in
theorem qX4_isAt_2 : (Cond.fieldLink RX4 19 "TheatreWallModel" "text" "[I") ∈ wsX4_isAt := (List.mem_cons_of_mem _ (List.mem_append_left _ (List.mem_of_getElem? (i := 2) rfl)))
set_option maxRecDepth 20000 in
theorem iX4_isAt_X4 : ∀ w ∈ u_ws RX4 TX4 13, w ∈ wsX4_isAt := fun w h => (List.mem_cons_of_mem _ (List.mem_append_right _ h))
set_option maxHeartbeats 4000000 in
set_option maxRecDepth 100000 in
theorem mX4_isAt (l : Launch) (G : va_G) (cI : ClassId) (ma : Nat → Nat) (M : tw_Md) (sz : Nat) (p1 : Int32) (p2 : Int32) {rv : Int32} (h : fX4_isAt M p1 p2 = some rv) : tw_Mi l yX4_isAt wsX4_isAt rmX4_isAt G [(cI, .int)] (tw_wM cI ma M) [.ref (ma 0), .int p1, .int p2] sz rv (tw_wM cI ma M) := by
  refine tw_ofi (ty := .boolean) (cc := cX4_isAt) (maxL := 3) (own := RX4) (by decide) rfl rfl (Nat.le_of_ble_eq_true rfl) ?_
  intro p e s m args below meth c Q A ls H locs F hN hK hP hD hS hA hl hq
  obtain ⟨hx, hb, hml, hown, hts⟩ := id F
  have hl : lv_has ls 3 [(0, .ref (ma 0)), (1, .int p1), (2, .int p2)] := hl
  unfold fX4_isAt at h
  refine lv_aload_n hx hb dX4_isAt_0 rfl (lv_at hl 0 rfl) ?_
  refine va_get (D := G) (ci := 4) (v := .int M.2.2.2.2.2.2.2.1) (C := RX4) (T := TX4) (N := 13) hx hb hts iX4_isAt_X4 hown hK hP 0 rfl rfl 7 (by decide) (hts _ qX4_isAt_0) (fun _ h9 => h9) rfl dX4_isAt_1 ?_
  refine lv_aload_n hx hb dX4_isAt_4 rfl (lv_at hl 0 rfl) ?_
  refine va_get (D := G) (ci := 4) (v := .int M.2.2.2.2.2.1) (C := RX4) (T := TX4) (N := 13) hx hb hts iX4_isAt_X4 hown hK hP 0 rfl rfl 5 (by decide) (hts _ qX4_isAt_1) (fun _ h9 => h9) rfl dX4_isAt_5 ?_
  refine lv_icmp_ge (tgt := 32) hx hb dX4_isAt_8 (by decide) (fun c8 => ?_) (fun c8 => ?_)
  · replace h := tw_t c8 h
    refine lv_iconst (v := (0 : Int32)) hx hb dX4_isAt_32 (by decide) ?_
    exact hq H locs _ ls (0 : Int32) (tw_rt (fun r => r = (0 : Int32)) h rfl) rfl hP hS dX4_isAt_33
  · replace h := tw_f c8 h
    refine lv_aload_n hx hb dX4_isAt_11 rfl (lv_at hl 0 rfl) ?_
    refine va_get (D := G) (ci := 4) (v := .ref (ma 4)) (C := RX4) (T := TX4) (N := 13) hx hb hts iX4_isAt_X4 hown hK hP 0 rfl rfl 4 (by decide) (hts _ qX4_isAt_2) (fun _ h9 => h9) rfl dX4_isAt_12 ?_
    refine lv_aload_n hx hb dX4_isAt_15 rfl (lv_at hl 0 rfl) ?_
    refine va_get (D := G) (ci := 4) (v := .int M.2.2.2.2.2.2.2.1) (C := RX4) (T := TX4) (N := 13) hx hb hts iX4_isAt_X4 hown hK hP 0 rfl rfl 7 (by decide) (hts _ qX4_isAt_0) (fun _ h9 => h9) rfl dX4_isAt_16 ?_
    obtain ⟨g19, h⟩ := tw_gs h
    refine va_iald (f := M.2.2.2.2.1) (n := 60) hx hb hK hP 4 0 rfl rfl g19 dX4_isAt_19 ?_
    refine lv_iload_n hx hb dX4_isAt_20 rfl (lv_at hl 1 rfl) ?_
    refine lv_iload_n hx hb dX4_isAt_21 rfl (lv_at hl 2 rfl) ?_
    obtain ⟨r22, e22, h⟩ := tw_bs h
    refine tw_callSi (ws' := (tw_wM cI ma M)) (As := [.int (M.2.2.2.2.1 M.2.2.2.2.2.2.2.1.toNatClampNeg), .int p1, .int p2]) (rest := []) F hN hK hP hD hS hA (mX4_in l G cI H.size (M.2.2.2.2.1 M.2.2.2.2.2.2.2.1.toNatClampNeg) p1 p2 e22) (va_cwS 3 hts gX4_isAt_X4_in rfl rfl rfl (by decide +kernel) ⟨(Nat.le_of_ble_eq_true rfl), (Nat.le_of_ble_eq_true rfl)⟩) [0] rfl [] (by decide) rfl rfl rfl rfl hl.1 rfl (Nat.le_of_ble_eq_true rfl) dX4_isAt_22 ⟨Nat.zero_le _, Nat.zero_le _⟩ (fun H locs hP hD hS => ?_)
    refine lv_if_eq (tgt := 32) hx hb dX4_isAt_25 (by decide) (fun c25 => ?_) (fun c25 => ?_)
    · replace h := tw_t c25 h
      refine lv_iconst (v := (0 : Int32)) hx hb dX4_isAt_32 (by decide) ?_
      exact hq H locs _ ls (0 : Int32) (tw_rt (fun r => r = (0 : Int32)) h rfl) rfl hP hS dX4_isAt_33
    · replace h := tw_f c25 h
      refine lv_iconst (v := (1 : Int32)) hx hb dX4_isAt_28 (by decide) ?_
      refine lv_goto (tgt := 33) hx hb dX4_isAt_29 (by decide) ?_
      exact hq H locs _ ls (1 : Int32) (tw_rt (fun r => r = (1 : Int32)) h rfl) rfl hP hS dX4_isAt_33
abbrev rmX4_stops : Room := { frames := 0, cells := 0, slots := 0, locals := 0 }
set_option maxRecDepth 20000 in
theorem qX4_stops_0 : (Cond.fieldLink RX4 116 "TheatreWallModel" "at" "I") ∈ wsX4_stops := (List.mem_cons_of_mem _ (List.mem_append_left _ (List.mem_of_getElem? (i := 0) rfl)))
set_option maxRecDepth 20000 in
theorem qX4_stops_1 : (Cond.fieldLink RX4 113 "TheatreWallModel" "typed" "I") ∈ wsX4_stops := (List.mem_cons_of_mem _ (List.mem_append_left _ (List.mem_of_getElem? (i := 1) rfl)))
set_option maxRecDepth 20000 in
theorem qX4_stops_2 : (Cond.fieldLink RX4 119 "TheatreWallModel" "isFault" "Z") ∈ wsX4_stops := (List.mem_cons_of_mem _ (List.mem_append_left _ (List.mem_of_getElem? (i := 2) rfl)))
set_option maxRecDepth 20000 in
theorem iX4_stops_X4 : ∀ w ∈ u_ws RX4 TX4 13, w ∈ wsX4_stops := fun w h => (List.mem_cons_of_mem _ (List.mem_append_right _ h))
set_option maxHeartbeats 4000000 in
set_option maxRecDepth 100000 in
theorem mX4_stops (l : Launch) (G : va_G) (cI : ClassId) (ma : Nat → Nat) (M : tw_Md) (sz : Nat)  {rv : Int32 × tw_Md} (h : fX4_stops M = some rv) : tw_Mi l yX4_stops wsX4_stops rmX4_stops G [(cI, .int)] (tw_wM cI ma M) [.ref (ma 0)] sz rv.1 (tw_wM cI ma rv.2) := by
  refine tw_ofi (ty := .boolean) (cc := cX4_stops) (maxL := 1) (own := RX4) (by decide) rfl rfl (Nat.le_of_ble_eq_true rfl) ?_
  intro p e s m args below meth c Q A ls H locs F hN hK hP hD hS hA hl hq
  obtain ⟨hx, hb, hml, hown, hts⟩ := id F
  have hl : lv_has ls 1 [(0, .ref (ma 0))] := hl
  unfold fX4_stops at h
  refine lv_aload_n hx hb dX4_stops_0 rfl (lv_at hl 0 rfl) ?_
  refine lv_aload_n hx hb dX4_stops_1 rfl (lv_at hl 0 rfl) ?_
  refine va_get (D := G) (ci := 4) (v := .int M.2.2.2.2.2.2.2.1) (C := RX4) (T := TX4) (N := 13) hx hb hts iX4_stops_X4 hown hK hP 0 rfl rfl 7 (by decide) (hts _ qX4_stops_0) (fun _ h9 => h9) rfl dX4_stops_2 ?_
  refine lv_aload_n hx hb dX4_stops_5 rfl (lv_at hl 0 rfl) ?_
  refine va_get (D := G) (ci := 4) (v := .int M.2.2.2.2.2.1) (C := RX4) (T := TX4) (N := 13) hx hb hts iX4_stops_X4 hown hK hP 0 rfl rfl 5 (by decide) (hts _ qX4_stops_1) (fun _ h9 => h9) rfl dX4_stops_6 ?_
  refine lv_icmp_ge (tgt := 16) hx hb dX4_stops_9 (by decide) (fun c9 => ?_) (fun c9 => ?_)
  · replace h := tw_t c9 h
    refine lv_iconst (v := (0 : Int32)) hx hb dX4_stops_16 (by decide) ?_
    refine tw_put (ws' := (tw_wM cI ma (M.1, M.2.1, M.2.2.1, M.2.2.2.1, M.2.2.2.2.1, M.2.2.2.2.2.1, M.2.2.2.2.2.2.1, M.2.2.2.2.2.2.2.1, (0 : Int32), M.2.2.2.2.2.2.2.2.2.1, M.2.2.2.2.2.2.2.2.2.2.1, M.2.2.2.2.2.2.2.2.2.2.2.1, M.2.2.2.2.2.2.2.2.2.2.2.2))) (D := G) (ci := 4) (v := .int (0 : Int32)) (ty := .boolean) (C := RX4) (T := TX4) (N := 13) hx hb hts iX4_stops_X4 tyX4 tyX4_ok nmX4 hown hK hP hD hS 0 rfl rfl 8 (by decide) (hts _ qX4_stops_2) (fun _ h9 => h9) rfl (by decide +kernel) rfl rfl (Nat.le_of_ble_eq_true rfl) dX4_stops_17 rfl (fun H locs hP hD hS => ?_)
    refine lv_iconst (v := (0 : Int32)) hx hb dX4_stops_20 (by decide) ?_
    exact hq H locs _ ls (0 : Int32) (tw_rt (fun r => r.1 = (0 : Int32)) h rfl) rfl (tw_rt (fun r => va_P G vwCl (tw_wM cI ma r.2) H) h hP) hS dX4_stops_21
  · replace h := tw_f c9 h
    refine lv_iconst (v := (1 : Int32)) hx hb dX4_stops_12 (by decide) ?_
    refine lv_goto (tgt := 17) hx hb dX4_stops_13 (by decide) ?_
    refine tw_put (ws' := (tw_wM cI ma (M.1, M.2.1, M.2.2.1, M.2.2.2.1, M.2.2.2.2.1, M.2.2.2.2.2.1, M.2.2.2.2.2.2.1, M.2.2.2.2.2.2.2.1, (1 : Int32), M.2.2.2.2.2.2.2.2.2.1, M.2.2.2.2.2.2.2.2.2.2.1, M.2.2.2.2.2.2.2.2.2.2.2.1, M.2.2.2.2.2.2.2.2.2.2.2.2))) (D := G) (ci := 4) (v := .int (1 : Int32)) (ty := .boolean) (C := RX4) (T := TX4) (N := 13) hx hb hts iX4_stops_X4 tyX4 tyX4_ok nmX4 hown hK hP hD hS 0 rfl rfl 8 (by decide) (hts _ qX4_stops_2) (fun _ h9 => h9) rfl (by decide +kernel) rfl rfl (Nat.le_of_ble_eq_true rfl) dX4_stops_17 rfl (fun H locs hP hD hS => ?_)
    refine lv_iconst (v := (0 : Int32)) hx hb dX4_stops_20 (by decide) ?_
    exact hq H locs _ ls (0 : Int32) (tw_rt (fun r => r.1 = (0 : Int32)) h rfl) rfl (tw_rt (fun r => va_P G vwCl (tw_wM cI ma r.2) H) h hP) hS dX4_stops_21
abbrev rmX4_isSign : Room := { frames := 2, cells := 0, slots := 0, locals := 44 }
set_option maxRecDepth 20000 in
theorem qX4_isSign_0 : (Cond.fieldLink RX4 116 "TheatreWallModel" "at" "I") ∈ wsX4_isSign := (List.mem_cons_of_mem _ (List.mem_append_left _ (List.mem_of_getElem? (i := 0) rfl)))
set_option maxRecDepth 20000 in
theorem iX4_isSign_X4 : ∀ w ∈ u_ws RX4 TX4 13, w ∈ wsX4_isSign := fun w h => (List.mem_cons_of_mem _ (List.mem_append_right _ h))
set_option maxHeartbeats 4000000 in
set_option maxRecDepth 100000 in
theorem mX4_isSign (l : Launch) (G : va_G) (cI : ClassId) (ma : Nat → Nat) (M : tw_Md) (sz : Nat) (p1 : Int32) {rv : Int32 × tw_Md} (h : fX4_isSign M p1 = some rv) : tw_Mi l yX4_isSign wsX4_isSign rmX4_isSign G [(cI, .int)] (tw_wM cI ma M) [.ref (ma 0), .int p1] sz rv.1 (tw_wM cI ma rv.2) := by
  refine tw_ofi (ty := .boolean) (cc := cX4_isSign) (maxL := 3) (own := RX4) (by decide) rfl rfl (Nat.le_of_ble_eq_true rfl) ?_
  intro p e s m args below meth c Q A ls H locs F hN hK hP hD hS hA hl hq
  obtain ⟨hx, hb, hml, hown, hts⟩ := id F
  have hl : lv_has ls 3 [(0, .ref (ma 0)), (1, .int p1)] := hl
  unfold fX4_isSign at h
  refine lv_aload_n hx hb dX4_isSign_0 rfl (lv_at hl 0 rfl) ?_
  refine lv_iload_n hx hb dX4_isSign_1 rfl (lv_at hl 1 rfl) ?_
  refine lv_iload_n hx hb dX4_isSign_2 rfl (lv_at hl 1 rfl) ?_
  obtain ⟨r3, e3, h⟩ := tw_bs h
  refine tw_callViF (ws' := (tw_wM cI ma M)) (As := [.int p1, .int p1]) (rest := []) F hN hK hP hD hS hA (mX4_isAt l G cI ma M H.size p1 p1 e3) (cwV 2 hts gX4_isSign_X4_isAt rfl rfl rfl (by decide +kernel) ⟨(Nat.le_of_ble_eq_true rfl), (Nat.le_of_ble_eq_true rfl)⟩) rfl (r0 := 0) (ci := 4) rfl rfl rfl rfl hl.1 rfl (Nat.le_of_ble_eq_true rfl) dX4_isSign_3 ⟨Nat.zero_le _, Nat.zero_le _⟩ (fun H locs hP hD hS => ?_)
  refine lv_istore_n (lv' := [(2, .int r3), (0, .ref (ma 0)), (1, .int p1)]) hx hb dX4_isSign_6 rfl hl (by decide) rfl (fun ls hl => ?_)
  refine lv_aload_n hx hb dX4_isSign_7 rfl (lv_at hl 1 rfl) ?_
  refine lv_dup hx hb dX4_isSign_8 rfl ?_
  refine va_get (D := G) (ci := 4) (v := .int M.2.2.2.2.2.2.2.1) (C := RX4) (T := TX4) (N := 13) hx hb hts iX4_isSign_X4 hown hK hP 0 rfl rfl 7 (by decide) (hts _ qX4_isSign_0) (fun _ h9 => h9) rfl dX4_isSign_9 ?_
  refine lv_iload_n hx hb dX4_isSign_12 rfl (lv_at hl 0 rfl) ?_
  refine lv_if_eq (tgt := 20) hx hb dX4_isSign_13 (by decide) (fun c13 => ?_) (fun c13 => ?_)
  · replace h := tw_t c13 h
    refine lv_iconst (v := (0 : Int32)) hx hb dX4_isSign_20 (by decide) ?_
    refine lv_iadd hx hb dX4_isSign_21 ?_
    refine tw_put (ws' := (tw_wM cI ma (M.1, M.2.1, M.2.2.1, M.2.2.2.1, M.2.2.2.2.1, M.2.2.2.2.2.1, M.2.2.2.2.2.2.1, (M.2.2.2.2.2.2.2.1 + (0 : Int32)), M.2.2.2.2.2.2.2.2.1, M.2.2.2.2.2.2.2.2.2.1, M.2.2.2.2.2.2.2.2.2.2.1, M.2.2.2.2.2.2.2.2.2.2.2.1, M.2.2.2.2.2.2.2.2.2.2.2.2))) (D := G) (ci := 4) (v := .int (M.2.2.2.2.2.2.2.1 + (0 : Int32))) (ty := .int) (C := RX4) (T := TX4) (N := 13) hx hb hts iX4_isSign_X4 tyX4 tyX4_ok nmX4 hown hK hP hD hS 0 rfl rfl 7 (by decide) (hts _ qX4_isSign_0) (fun _ h9 => h9) rfl (by decide +kernel) rfl rfl (Nat.le_of_ble_eq_true rfl) dX4_isSign_22 rfl (fun H locs hP hD hS => ?_)
    refine lv_iload_n hx hb dX4_isSign_25 rfl (lv_at hl 0 rfl) ?_
    obtain ⟨g26, h⟩ := tw_qs h
    exact hq H locs _ ls r3 (tw_rt (fun r => r.1 = r3) h rfl) (tw_nb g26) (tw_rt (fun r => va_P G vwCl (tw_wM cI ma r.2) H) h hP) hS dX4_isSign_26
  · replace h := tw_f c13 h
    refine lv_iconst (v := (1 : Int32)) hx hb dX4_isSign_16 (by decide) ?_
    refine lv_goto (tgt := 21) hx hb dX4_isSign_17 (by decide) ?_
    refine lv_iadd hx hb dX4_isSign_21 ?_
    refine tw_put (ws' := (tw_wM cI ma (M.1, M.2.1, M.2.2.1, M.2.2.2.1, M.2.2.2.2.1, M.2.2.2.2.2.1, M.2.2.2.2.2.2.1, (M.2.2.2.2.2.2.2.1 + (1 : Int32)), M.2.2.2.2.2.2.2.2.1, M.2.2.2.2.2.2.2.2.2.1, M.2.2.2.2.2.2.2.2.2.2.1, M.2.2.2.2.2.2.2.2.2.2.2.1, M.2.2.2.2.2.2.2.2.2.2.2.2))) (D := G) (ci := 4) (v := .int (M.2.2.2.2.2.2.2.1 + (1 : Int32))) (ty := .int) (C := RX4) (T := TX4) (N := 13) hx hb hts iX4_isSign_X4 tyX4 tyX4_ok nmX4 hown hK hP hD hS 0 rfl rfl 7 (by decide) (hts _ qX4_isSign_0) (fun _ h9 => h9) rfl (by decide +kernel) rfl rfl (Nat.le_of_ble_eq_true rfl) dX4_isSign_22 rfl (fun H locs hP hD hS => ?_)
    refine lv_iload_n hx hb dX4_isSign_25 rfl (lv_at hl 0 rfl) ?_
    obtain ⟨g26, h⟩ := tw_qs h
    exact hq H locs _ ls r3 (tw_rt (fun r => r.1 = r3) h rfl) (tw_nb g26) (tw_rt (fun r => va_P G vwCl (tw_wM cI ma r.2) H) h hP) hS dX4_isSign_26
abbrev rmX4_isFigure : Room := { frames := 2, cells := 0, slots := 0, locals := 44 }
set_option maxRecDepth 20000 in
theorem qX4_isFigure_0 : (Cond.fieldLink RX4 22 "TheatreWallModel" "told" "[I") ∈ wsX4_isFigure := (List.mem_cons_of_mem _ (List.mem_append_left _ (List.mem_of_getElem? (i := 0) rfl)))
set_option maxRecDepth 20000 in
theorem qX4_isFigure_1 : (Cond.fieldLink RX4 130 "TheatreWallModel" "tolds" "I") ∈ wsX4_isFigure := (List.mem_cons_of_mem _ (List.mem_append_left _ (List.mem_of_getElem? (i := 1) rfl)))
set_option maxRecDepth 20000 in
theorem qX4_isFigure_2 : (Cond.fieldLink RX4 19 "TheatreWallModel" "text" "[I") ∈ wsX4_isFigure := (List.mem_cons_of_mem _ (List.mem_append_left _ (List.mem_of_getElem? (i := 2) rfl)))
set_option maxRecDepth 20000 in
theorem qX4_isFigure_3 : (Cond.fieldLink RX4 116 "TheatreWallModel" "at" "I") ∈ wsX4_isFigure := (List.mem_cons_of_mem _ (List.mem_append_left _ (List.mem_of_getElem? (i := 3) rfl)))
set_option maxRecDepth 20000 in
theorem iX4_isFigure_X4 : ∀ w ∈ u_ws RX4 TX4 13, w ∈ wsX4_isFigure := fun w h => (List.mem_cons_of_mem _ (List.mem_append_right _ h))
set_option maxHeartbeats 4000000 in
set_option maxRecDepth 100000 in
theorem mX4_isFigure (l : Launch) (G : va_G) (cI : ClassId) (ma : Nat → Nat) (M : tw_Md) (sz : Nat) (p1 : Int32) (p2 : Int32) (p3 : Int32) {rv : Int32 × tw_Md} (h : fX4_isFigure M p1 p2 p3 = some rv) : tw_Mi l yX4_isFigure wsX4_isFigure rmX4_isFigure G [(cI, .int)] (tw_wM cI ma M) [.ref (ma 0), .int p1, .int p2, .int p3] sz rv.1 (tw_wM cI ma rv.2) := by
  refine tw_ofi (ty := .boolean) (cc := cX4_isFigure) (maxL := 4) (own := RX4) (by decide) rfl rfl (Nat.le_of_ble_eq_true rfl) ?_
  intro p e s m args below meth c Q A ls H locs F hN hK hP hD hS hA hl hq
  obtain ⟨hx, hb, hml, hown, hts⟩ := id F
  have hl : lv_has ls 4 [(0, .ref (ma 0)), (1, .int p1), (2, .int p2), (3, .int p3)] := hl
  unfold fX4_isFigure at h
  refine lv_aload_n hx hb dX4_isFigure_0 rfl (lv_at hl 0 rfl) ?_
  refine lv_iload_n hx hb dX4_isFigure_1 rfl (lv_at hl 2 rfl) ?_
  refine lv_iload_n hx hb dX4_isFigure_2 rfl (lv_at hl 3 rfl) ?_
  obtain ⟨r3, e3, h⟩ := tw_bs h
  refine tw_callViF (ws' := (tw_wM cI ma M)) (As := [.int p2, .int p3]) (rest := []) F hN hK hP hD hS hA (mX4_isAt l G cI ma M H.size p2 p3 e3) (cwV 2 hts gX4_isFigure_X4_isAt rfl rfl rfl (by decide +kernel) ⟨(Nat.le_of_ble_eq_true rfl), (Nat.le_of_ble_eq_true rfl)⟩) rfl (r0 := 0) (ci := 4) rfl rfl rfl rfl hl.1 rfl (Nat.le_of_ble_eq_true rfl) dX4_isFigure_3 ⟨Nat.zero_le _, Nat.zero_le _⟩ (fun H locs hP hD hS => ?_)
  refine lv_if_ne (tgt := 14) hx hb dX4_isFigure_6 (by decide) (fun c6 => ?_) (fun c6 => ?_)
  · replace h := tw_t c6 h
    refine lv_aload_n hx hb dX4_isFigure_14 rfl (lv_at hl 0 rfl) ?_
    refine va_get (D := G) (ci := 4) (v := .ref (ma 5)) (C := RX4) (T := TX4) (N := 13) hx hb hts iX4_isFigure_X4 hown hK hP 0 rfl rfl 9 (by decide) (hts _ qX4_isFigure_0) (fun _ h9 => h9) rfl dX4_isFigure_15 ?_
    refine lv_iconst (v := (4 : Int32)) hx hb dX4_isFigure_18 (by decide) ?_
    refine lv_aload_n hx hb dX4_isFigure_19 rfl (lv_at hl 0 rfl) ?_
    refine va_get (D := G) (ci := 4) (v := .int M.2.2.2.2.2.2.2.2.2.2.1) (C := RX4) (T := TX4) (N := 13) hx hb hts iX4_isFigure_X4 hown hK hP 0 rfl rfl 10 (by decide) (hts _ qX4_isFigure_1) (fun _ h9 => h9) rfl dX4_isFigure_20 ?_
    refine lv_imul hx hb dX4_isFigure_23 ?_
    refine lv_iload_n hx hb dX4_isFigure_24 rfl (lv_at hl 1 rfl) ?_
    refine lv_iadd hx hb dX4_isFigure_25 ?_
    refine lv_aload_n hx hb dX4_isFigure_26 rfl (lv_at hl 0 rfl) ?_
    refine va_get (D := G) (ci := 4) (v := .ref (ma 4)) (C := RX4) (T := TX4) (N := 13) hx hb hts iX4_isFigure_X4 hown hK hP 0 rfl rfl 4 (by decide) (hts _ qX4_isFigure_2) (fun _ h9 => h9) rfl dX4_isFigure_27 ?_
    refine lv_aload_n hx hb dX4_isFigure_30 rfl (lv_at hl 0 rfl) ?_
    refine va_get (D := G) (ci := 4) (v := .int M.2.2.2.2.2.2.2.1) (C := RX4) (T := TX4) (N := 13) hx hb hts iX4_isFigure_X4 hown hK hP 0 rfl rfl 7 (by decide) (hts _ qX4_isFigure_3) (fun _ h9 => h9) rfl dX4_isFigure_31 ?_
    obtain ⟨g34, h⟩ := tw_gs h
    refine va_iald (f := M.2.2.2.2.1) (n := 60) hx hb hK hP 4 0 rfl rfl g34 dX4_isFigure_34 ?_
    refine lv_bipush (v := (48 : Int32)) hx hb dX4_isFigure_35 (by decide) ?_
    refine lv_isub hx hb dX4_isFigure_37 ?_
    obtain ⟨g38, h⟩ := tw_gs h
    refine tw_iast (ws' := (tw_wM cI ma (M.1, M.2.1, M.2.2.1, M.2.2.2.1, M.2.2.2.2.1, M.2.2.2.2.2.1, M.2.2.2.2.2.2.1, M.2.2.2.2.2.2.2.1, M.2.2.2.2.2.2.2.2.1, (upd M.2.2.2.2.2.2.2.2.2.1 (((4 : Int32) * M.2.2.2.2.2.2.2.2.2.2.1) + p1).toNatClampNeg ((M.2.2.2.2.1 M.2.2.2.2.2.2.2.1.toNatClampNeg) - (48 : Int32))), M.2.2.2.2.2.2.2.2.2.2.1, M.2.2.2.2.2.2.2.2.2.2.2.1, M.2.2.2.2.2.2.2.2.2.2.2.2))) (f := M.2.2.2.2.2.2.2.2.2.1) (n := 124) hx hb hK hP hD hS 5 0 rfl rfl g38 dX4_isFigure_38 rfl (fun H locs hP hD hS => ?_)
    refine lv_aload_n hx hb dX4_isFigure_39 rfl (lv_at hl 0 rfl) ?_
    refine lv_dup hx hb dX4_isFigure_40 rfl ?_
    refine va_get (D := G) (ci := 4) (v := .int M.2.2.2.2.2.2.2.1) (C := RX4) (T := TX4) (N := 13) hx hb hts iX4_isFigure_X4 hown hK hP 0 rfl rfl 7 (by decide) (hts _ qX4_isFigure_3) (fun _ h9 => h9) rfl dX4_isFigure_41 ?_
    refine lv_iconst (v := (1 : Int32)) hx hb dX4_isFigure_44 (by decide) ?_
    refine lv_iadd hx hb dX4_isFigure_45 ?_
    refine tw_put (ws' := (tw_wM cI ma (M.1, M.2.1, M.2.2.1, M.2.2.2.1, M.2.2.2.2.1, M.2.2.2.2.2.1, M.2.2.2.2.2.2.1, (M.2.2.2.2.2.2.2.1 + (1 : Int32)), M.2.2.2.2.2.2.2.2.1, (upd M.2.2.2.2.2.2.2.2.2.1 (((4 : Int32) * M.2.2.2.2.2.2.2.2.2.2.1) + p1).toNatClampNeg ((M.2.2.2.2.1 M.2.2.2.2.2.2.2.1.toNatClampNeg) - (48 : Int32))), M.2.2.2.2.2.2.2.2.2.2.1, M.2.2.2.2.2.2.2.2.2.2.2.1, M.2.2.2.2.2.2.2.2.2.2.2.2))) (D := G) (ci := 4) (v := .int (M.2.2.2.2.2.2.2.1 + (1 : Int32))) (ty := .int) (C := RX4) (T := TX4) (N := 13) hx hb hts iX4_isFigure_X4 tyX4 tyX4_ok nmX4 hown hK hP hD hS 0 rfl rfl 7 (by decide) (hts _ qX4_isFigure_3) (fun _ h9 => h9) rfl (by decide +kernel) rfl rfl (Nat.le_of_ble_eq_true rfl) dX4_isFigure_46 rfl (fun H locs hP hD hS => ?_)
    refine lv_iconst (v := (1 : Int32)) hx hb dX4_isFigure_49 (by decide) ?_
    exact hq H locs _ ls (1 : Int32) (tw_rt (fun r => r.1 = (1 : Int32)) h rfl) rfl (tw_rt (fun r => va_P G vwCl (tw_wM cI ma r.2) H) h hP) hS dX4_isFigure_50
  · replace h := tw_fn c6 h
    refine lv_aload_n hx hb dX4_isFigure_9 rfl (lv_at hl 0 rfl) ?_
    obtain ⟨r10, e10, h⟩ := tw_bs h
    refine tw_callViF (ws' := (tw_wM cI ma r10.2)) (As := []) (rest := []) F hN hK hP hD hS hA (mX4_stops l G cI ma M H.size e10) (cwV 0 hts gX4_isFigure_X4_stops rfl rfl rfl (by decide +kernel) ⟨(Nat.le_of_ble_eq_true rfl), (Nat.le_of_ble_eq_true rfl)⟩) rfl (r0 := 0) (ci := 4) rfl rfl rfl rfl hl.1 rfl (Nat.le_of_ble_eq_true rfl) dX4_isFigure_10 ⟨Nat.zero_le _, Nat.zero_le _⟩ (fun H locs hP hD hS => ?_)
    obtain ⟨g13, h⟩ := tw_qs h
    exact hq H locs _ ls r10.1 (tw_rt (fun r => r.1 = r10.1) h rfl) (tw_nb g13) (tw_rt (fun r => va_P G vwCl (tw_wM cI ma r.2) H) h hP) hS dX4_isFigure_13
abbrev rmX4_isNeeds : Room := { frames := 2, cells := 0, slots := 0, locals := 44 }
set_option maxRecDepth 20000 in
theorem qX4_isNeeds_0 : (Cond.fieldLink RX4 22 "TheatreWallModel" "told" "[I") ∈ wsX4_isNeeds := (List.mem_cons_of_mem _ (List.mem_append_left _ (List.mem_of_getElem? (i := 0) rfl)))
set_option maxRecDepth 20000 in
theorem qX4_isNeeds_1 : (Cond.fieldLink RX4 130 "TheatreWallModel" "tolds" "I") ∈ wsX4_isNeeds := (List.mem_cons_of_mem _ (List.mem_append_left _ (List.mem_of_getElem? (i := 1) rfl)))
set_option maxRecDepth 20000 in
theorem qX4_isNeeds_2 : (Cond.fieldLink RX4 19 "TheatreWallModel" "text" "[I") ∈ wsX4_isNeeds := (List.mem_cons_of_mem _ (List.mem_append_left _ (List.mem_of_getElem? (i := 2) rfl)))
set_option maxRecDepth 20000 in
theorem qX4_isNeeds_3 : (Cond.fieldLink RX4 116 "TheatreWallModel" "at" "I") ∈ wsX4_isNeeds := (List.mem_cons_of_mem _ (List.mem_append_left _ (List.mem_of_getElem? (i := 3) rfl)))
set_option maxRecDepth 20000 in
theorem iX4_isNeeds_X4 : ∀ w ∈ u_ws RX4 TX4 13, w ∈ wsX4_isNeeds := fun w h => (List.mem_cons_of_mem _ (List.mem_append_right _ h))
set_option maxHeartbeats 4000000 in
set_option maxRecDepth 100000 in
theorem mX4_isNeeds (l : Launch) (G : va_G) (cI : ClassId) (ma : Nat → Nat) (M : tw_Md) (sz : Nat)  {rv : Int32 × tw_Md} (h : fX4_isNeeds M = some rv) : tw_Mi l yX4_isNeeds wsX4_isNeeds rmX4_isNeeds G [(cI, .int)] (tw_wM cI ma M) [.ref (ma 0)] sz rv.1 (tw_wM cI ma rv.2) := by
  refine tw_ofi (ty := .boolean) (cc := cX4_isNeeds) (maxL := 2) (own := RX4) (by decide) rfl rfl (Nat.le_of_ble_eq_true rfl) ?_
  intro p e s m args below meth c Q A ls H locs F hN hK hP hD hS hA hl hq
  obtain ⟨hx, hb, hml, hown, hts⟩ := id F
  have hl : lv_has ls 2 [(0, .ref (ma 0))] := hl
  unfold fX4_isNeeds at h
  have L3 : ∀ (n3 : Nat) (v1 : Int32) (M : tw_Md) (H : Heap) (locs : List Loc) (ls : Array Slot), fX4_isNeeds_3 n3 v1 M = some rv → lv_has ls 2 [(0, .ref (ma 0)), (1, .int v1)] → va_P G vwCl (tw_wM cI ma M) H → va_D A (tw_wM cI ma M) → va_S A s.heap H locs → W p l e rmX4_isNeeds s m args below meth c H locs 0 0 Q (F0 m 3 ls []) := by
    intro n3
    induction n3 with
    | zero =>
      intro v1 M H locs ls h
      rw [fX4_isNeeds_3] at h
      cases h
    | succ n3 ih3 =>
      intro v1 M H locs ls h hl hP hD hS
      rw [fX4_isNeeds_3] at h
      refine lv_aload_n hx hb dX4_isNeeds_3 rfl (lv_at hl 0 rfl) ?_
      refine lv_iload_n hx hb dX4_isNeeds_4 rfl (lv_at hl 1 rfl) ?_
      refine lv_bipush (v := (108 : Int32)) hx hb dX4_isNeeds_5 (by decide) ?_
      obtain ⟨r7, e7, h⟩ := tw_bs h
      refine tw_callViF (ws' := (tw_wM cI ma M)) (As := [.int v1, .int (108 : Int32)]) (rest := []) F hN hK hP hD hS hA (mX4_isAt l G cI ma M H.size v1 (108 : Int32) e7) (cwV 2 hts gX4_isNeeds_X4_isAt rfl rfl rfl (by decide +kernel) ⟨(Nat.le_of_ble_eq_true rfl), (Nat.le_of_ble_eq_true rfl)⟩) rfl (r0 := 0) (ci := 4) rfl rfl rfl rfl hl.1 rfl (Nat.le_of_ble_eq_true rfl) dX4_isNeeds_7 ⟨Nat.zero_le _, Nat.zero_le _⟩ (fun H locs hP hD hS => ?_)
      refine lv_if_eq (tgt := 68) hx hb dX4_isNeeds_10 (by decide) (fun c10 => ?_) (fun c10 => ?_)
      · replace h := tw_t c10 h
        refine lv_aload_n hx hb dX4_isNeeds_68 rfl (lv_at hl 0 rfl) ?_
        refine va_get (D := G) (ci := 4) (v := .ref (ma 5)) (C := RX4) (T := TX4) (N := 13) hx hb hts iX4_isNeeds_X4 hown hK hP 0 rfl rfl 9 (by decide) (hts _ qX4_isNeeds_0) (fun _ h9 => h9) rfl dX4_isNeeds_69 ?_
        refine lv_iconst (v := (4 : Int32)) hx hb dX4_isNeeds_72 (by decide) ?_
        refine lv_aload_n hx hb dX4_isNeeds_73 rfl (lv_at hl 0 rfl) ?_
        refine va_get (D := G) (ci := 4) (v := .int M.2.2.2.2.2.2.2.2.2.2.1) (C := RX4) (T := TX4) (N := 13) hx hb hts iX4_isNeeds_X4 hown hK hP 0 rfl rfl 10 (by decide) (hts _ qX4_isNeeds_1) (fun _ h9 => h9) rfl dX4_isNeeds_74 ?_
        refine lv_imul hx hb dX4_isNeeds_77 ?_
        refine lv_iconst (v := (3 : Int32)) hx hb dX4_isNeeds_78 (by decide) ?_
        refine lv_iadd hx hb dX4_isNeeds_79 ?_
        obtain ⟨g80, h⟩ := tw_gs h
        refine va_iald (f := M.2.2.2.2.2.2.2.2.2.1) (n := 124) hx hb hK hP 5 0 rfl rfl g80 dX4_isNeeds_80 ?_
        refine lv_if_ne (tgt := 91) hx hb dX4_isNeeds_81 (by decide) (fun c81 => ?_) (fun c81 => ?_)
        · replace h := tw_t c81 h
          refine lv_iconst (v := (1 : Int32)) hx hb dX4_isNeeds_91 (by decide) ?_
          refine lv_goto (tgt := 96) hx hb dX4_isNeeds_92 (by decide) ?_
          exact hq H locs _ ls (1 : Int32) (tw_rt (fun r => r.1 = (1 : Int32)) h rfl) rfl (tw_rt (fun r => va_P G vwCl (tw_wM cI ma r.2) H) h hP) hS dX4_isNeeds_96
        · replace h := tw_fn c81 h
          refine lv_aload_n hx hb dX4_isNeeds_84 rfl (lv_at hl 0 rfl) ?_
          obtain ⟨r85, e85, h⟩ := tw_bs h
          refine tw_callViF (ws' := (tw_wM cI ma r85.2)) (As := []) (rest := []) F hN hK hP hD hS hA (mX4_stops l G cI ma M H.size e85) (cwV 0 hts gX4_isNeeds_X4_stops rfl rfl rfl (by decide +kernel) ⟨(Nat.le_of_ble_eq_true rfl), (Nat.le_of_ble_eq_true rfl)⟩) rfl (r0 := 0) (ci := 4) rfl rfl rfl rfl hl.1 rfl (Nat.le_of_ble_eq_true rfl) dX4_isNeeds_85 ⟨Nat.zero_le _, Nat.zero_le _⟩ (fun H locs hP hD hS => ?_)
          refine lv_if_eq (tgt := 95) hx hb dX4_isNeeds_88 (by decide) (fun c88 => ?_) (fun c88 => ?_)
          · replace h := tw_t c88 h
            refine lv_iconst (v := (0 : Int32)) hx hb dX4_isNeeds_95 (by decide) ?_
            exact hq H locs _ ls (0 : Int32) (tw_rt (fun r => r.1 = (0 : Int32)) h rfl) rfl (tw_rt (fun r => va_P G vwCl (tw_wM cI ma r.2) H) h hP) hS dX4_isNeeds_96
          · replace h := tw_f c88 h
            refine lv_iconst (v := (1 : Int32)) hx hb dX4_isNeeds_91 (by decide) ?_
            refine lv_goto (tgt := 96) hx hb dX4_isNeeds_92 (by decide) ?_
            exact hq H locs _ ls (1 : Int32) (tw_rt (fun r => r.1 = (1 : Int32)) h rfl) rfl (tw_rt (fun r => va_P G vwCl (tw_wM cI ma r.2) H) h hP) hS dX4_isNeeds_96
      · replace h := tw_f c10 h
        refine lv_aload_n hx hb dX4_isNeeds_13 rfl (lv_at hl 0 rfl) ?_
        refine va_get (D := G) (ci := 4) (v := .ref (ma 5)) (C := RX4) (T := TX4) (N := 13) hx hb hts iX4_isNeeds_X4 hown hK hP 0 rfl rfl 9 (by decide) (hts _ qX4_isNeeds_0) (fun _ h9 => h9) rfl dX4_isNeeds_14 ?_
        refine lv_iconst (v := (4 : Int32)) hx hb dX4_isNeeds_17 (by decide) ?_
        refine lv_aload_n hx hb dX4_isNeeds_18 rfl (lv_at hl 0 rfl) ?_
        refine va_get (D := G) (ci := 4) (v := .int M.2.2.2.2.2.2.2.2.2.2.1) (C := RX4) (T := TX4) (N := 13) hx hb hts iX4_isNeeds_X4 hown hK hP 0 rfl rfl 10 (by decide) (hts _ qX4_isNeeds_1) (fun _ h9 => h9) rfl dX4_isNeeds_19 ?_
        refine lv_imul hx hb dX4_isNeeds_22 ?_
        refine lv_iconst (v := (3 : Int32)) hx hb dX4_isNeeds_23 (by decide) ?_
        refine lv_iadd hx hb dX4_isNeeds_24 ?_
        refine lv_dup2_11 hx hb dX4_isNeeds_25 rfl rfl ?_
        obtain ⟨g26, h⟩ := tw_gs h
        refine va_iald (f := M.2.2.2.2.2.2.2.2.2.1) (n := 124) hx hb hK hP 5 0 rfl rfl g26 dX4_isNeeds_26 ?_
        refine lv_iconst (v := (1 : Int32)) hx hb dX4_isNeeds_27 (by decide) ?_
        refine lv_aload_n hx hb dX4_isNeeds_28 rfl (lv_at hl 0 rfl) ?_
        refine va_get (D := G) (ci := 4) (v := .ref (ma 4)) (C := RX4) (T := TX4) (N := 13) hx hb hts iX4_isNeeds_X4 hown hK hP 0 rfl rfl 4 (by decide) (hts _ qX4_isNeeds_2) (fun _ h9 => h9) rfl dX4_isNeeds_29 ?_
        refine lv_aload_n hx hb dX4_isNeeds_32 rfl (lv_at hl 0 rfl) ?_
        refine va_get (D := G) (ci := 4) (v := .int M.2.2.2.2.2.2.2.1) (C := RX4) (T := TX4) (N := 13) hx hb hts iX4_isNeeds_X4 hown hK hP 0 rfl rfl 7 (by decide) (hts _ qX4_isNeeds_3) (fun _ h9 => h9) rfl dX4_isNeeds_33 ?_
        obtain ⟨g36, h⟩ := tw_gs h
        refine va_iald (f := M.2.2.2.2.1) (n := 60) hx hb hK hP 4 0 rfl rfl g36 dX4_isNeeds_36 ?_
        refine lv_bipush (v := (97 : Int32)) hx hb dX4_isNeeds_37 (by decide) ?_
        refine lv_isub hx hb dX4_isNeeds_39 ?_
        refine lv_ishl hx hb dX4_isNeeds_40 ?_
        refine lv_ior hx hb dX4_isNeeds_41 ?_
        obtain ⟨g42, h⟩ := tw_gs h
        refine tw_iast (ws' := (tw_wM cI ma (M.1, M.2.1, M.2.2.1, M.2.2.2.1, M.2.2.2.2.1, M.2.2.2.2.2.1, M.2.2.2.2.2.2.1, M.2.2.2.2.2.2.2.1, M.2.2.2.2.2.2.2.2.1, (upd M.2.2.2.2.2.2.2.2.2.1 (((4 : Int32) * M.2.2.2.2.2.2.2.2.2.2.1) + (3 : Int32)).toNatClampNeg ((M.2.2.2.2.2.2.2.2.2.1 (((4 : Int32) * M.2.2.2.2.2.2.2.2.2.2.1) + (3 : Int32)).toNatClampNeg) ||| ((1 : Int32) <<< (((M.2.2.2.2.1 M.2.2.2.2.2.2.2.1.toNatClampNeg) - (97 : Int32)) &&& 31)))), M.2.2.2.2.2.2.2.2.2.2.1, M.2.2.2.2.2.2.2.2.2.2.2.1, M.2.2.2.2.2.2.2.2.2.2.2.2))) (f := M.2.2.2.2.2.2.2.2.2.1) (n := 124) hx hb hK hP hD hS 5 0 rfl rfl g42 dX4_isNeeds_42 rfl (fun H locs hP hD hS => ?_)
        refine lv_aload_n hx hb dX4_isNeeds_43 rfl (lv_at hl 0 rfl) ?_
        refine va_get (D := G) (ci := 4) (v := .ref (ma 4)) (C := RX4) (T := TX4) (N := 13) hx hb hts iX4_isNeeds_X4 hown hK hP 0 rfl rfl 4 (by decide) (hts _ qX4_isNeeds_2) (fun _ h9 => h9) rfl dX4_isNeeds_44 ?_
        refine lv_aload_n hx hb dX4_isNeeds_47 rfl (lv_at hl 0 rfl) ?_
        refine va_get (D := G) (ci := 4) (v := .int M.2.2.2.2.2.2.2.1) (C := RX4) (T := TX4) (N := 13) hx hb hts iX4_isNeeds_X4 hown hK hP 0 rfl rfl 7 (by decide) (hts _ qX4_isNeeds_3) (fun _ h9 => h9) rfl dX4_isNeeds_48 ?_
        obtain ⟨g51, h⟩ := tw_gs h
        refine va_iald (f := M.2.2.2.2.1) (n := 60) hx hb hK hP 4 0 rfl rfl g51 dX4_isNeeds_51 ?_
        refine lv_iconst (v := (1 : Int32)) hx hb dX4_isNeeds_52 (by decide) ?_
        refine lv_iadd hx hb dX4_isNeeds_53 ?_
        refine lv_istore_n (lv' := [(1, .int ((M.2.2.2.2.1 M.2.2.2.2.2.2.2.1.toNatClampNeg) + (1 : Int32))), (0, .ref (ma 0))]) hx hb dX4_isNeeds_54 rfl hl (by decide) rfl (fun ls hl => ?_)
        refine lv_aload_n hx hb dX4_isNeeds_55 rfl (lv_at hl 1 rfl) ?_
        refine lv_dup hx hb dX4_isNeeds_56 rfl ?_
        refine va_get (D := G) (ci := 4) (v := .int M.2.2.2.2.2.2.2.1) (C := RX4) (T := TX4) (N := 13) hx hb hts iX4_isNeeds_X4 hown hK hP 0 rfl rfl 7 (by decide) (hts _ qX4_isNeeds_3) (fun _ h9 => h9) rfl dX4_isNeeds_57 ?_
        refine lv_iconst (v := (1 : Int32)) hx hb dX4_isNeeds_60 (by decide) ?_
        refine lv_iadd hx hb dX4_isNeeds_61 ?_
        refine tw_put (ws' := (tw_wM cI ma (M.1, M.2.1, M.2.2.1, M.2.2.2.1, M.2.2.2.2.1, M.2.2.2.2.2.1, M.2.2.2.2.2.2.1, (M.2.2.2.2.2.2.2.1 + (1 : Int32)), M.2.2.2.2.2.2.2.2.1, (upd M.2.2.2.2.2.2.2.2.2.1 (((4 : Int32) * M.2.2.2.2.2.2.2.2.2.2.1) + (3 : Int32)).toNatClampNeg ((M.2.2.2.2.2.2.2.2.2.1 (((4 : Int32) * M.2.2.2.2.2.2.2.2.2.2.1) + (3 : Int32)).toNatClampNeg) ||| ((1 : Int32) <<< (((M.2.2.2.2.1 M.2.2.2.2.2.2.2.1.toNatClampNeg) - (97 : Int32)) &&& 31)))), M.2.2.2.2.2.2.2.2.2.2.1, M.2.2.2.2.2.2.2.2.2.2.2.1, M.2.2.2.2.2.2.2.2.2.2.2.2))) (D := G) (ci := 4) (v := .int (M.2.2.2.2.2.2.2.1 + (1 : Int32))) (ty := .int) (C := RX4) (T := TX4) (N := 13) hx hb hts iX4_isNeeds_X4 tyX4 tyX4_ok nmX4 hown hK hP hD hS 0 rfl rfl 7 (by decide) (hts _ qX4_isNeeds_3) (fun _ h9 => h9) rfl (by decide +kernel) rfl rfl (Nat.le_of_ble_eq_true rfl) dX4_isNeeds_62 rfl (fun H locs hP hD hS => ?_)
        refine lv_goto (tgt := 3) hx hb dX4_isNeeds_65 (by decide) ?_
        exact ih3 ((M.2.2.2.2.1 M.2.2.2.2.2.2.2.1.toNatClampNeg) + (1 : Int32)) (M.1, M.2.1, M.2.2.1, M.2.2.2.1, M.2.2.2.2.1, M.2.2.2.2.2.1, M.2.2.2.2.2.2.1, (M.2.2.2.2.2.2.2.1 + (1 : Int32)), M.2.2.2.2.2.2.2.2.1, (upd M.2.2.2.2.2.2.2.2.2.1 (((4 : Int32) * M.2.2.2.2.2.2.2.2.2.2.1) + (3 : Int32)).toNatClampNeg ((M.2.2.2.2.2.2.2.2.2.1 (((4 : Int32) * M.2.2.2.2.2.2.2.2.2.2.1) + (3 : Int32)).toNatClampNeg) ||| ((1 : Int32) <<< (((M.2.2.2.2.1 M.2.2.2.2.2.2.2.1.toNatClampNeg) - (97 : Int32)) &&& 31)))), M.2.2.2.2.2.2.2.2.2.2.1, M.2.2.2.2.2.2.2.2.2.2.2.1, M.2.2.2.2.2.2.2.2.2.2.2.2) H locs ls h (lv_sub hl [1, 0] rfl) hP hD hS
  refine lv_bipush (v := (97 : Int32)) hx hb dX4_isNeeds_0 (by decide) ?_
  refine lv_istore_n (lv' := [(1, .int (97 : Int32)), (0, .ref (ma 0))]) hx hb dX4_isNeeds_2 rfl hl (by decide) rfl (fun ls hl => ?_)
  exact L3 512 (97 : Int32) M H locs ls h (lv_sub hl [1, 0] rfl) hP hD hS
abbrev rmX4_isPart : Room := { frames := 3, cells := 0, slots := 0, locals := 67 }
set_option maxRecDepth 20000 in
theorem qX4_isPart_0 : (Cond.fieldLink RX4 22 "TheatreWallModel" "told" "[I") ∈ wsX4_isPart := (List.mem_cons_of_mem _ (List.mem_append_left _ (List.mem_append_left _ (List.mem_of_getElem? (i := 0) rfl))))
set_option maxRecDepth 20000 in
theorem qX4_isPart_1 : (Cond.fieldLink RX4 130 "TheatreWallModel" "tolds" "I") ∈ wsX4_isPart := (List.mem_cons_of_mem _ (List.mem_append_left _ (List.mem_append_left _ (List.mem_of_getElem? (i := 1) rfl))))
set_option maxRecDepth 20000 in
theorem iX4_isPart_X4 : ∀ w ∈ u_ws RX4 TX4 13, w ∈ wsX4_isPart := fun w h => (List.mem_cons_of_mem _ (List.mem_append_right _ h))
set_option maxHeartbeats 4000000 in
set_option maxRecDepth 100000 in
theorem mX4_isPart (l : Launch) (G : va_G) (cI : ClassId) (ma : Nat → Nat) (M : tw_Md) (sz : Nat)  {rv : Int32 × tw_Md} (h : fX4_isPart M = some rv) : tw_Mi l yX4_isPart wsX4_isPart rmX4_isPart G [(cI, .int)] (tw_wM cI ma M) [.ref (ma 0)] sz rv.1 (tw_wM cI ma rv.2) := by
  refine tw_ofi (ty := .boolean) (cc := cX4_isPart) (maxL := 1) (own := RX4) (by decide) rfl rfl (Nat.le_of_ble_eq_true rfl) ?_
  intro p e s m args below meth c Q A ls H locs F hN hK hP hD hS hA hl hq
  obtain ⟨hx, hb, hml, hown, hts⟩ := id F
  have hl : lv_has ls 1 [(0, .ref (ma 0))] := hl
  unfold fX4_isPart at h
  have L116 : ∀ (M : tw_Md) (H : Heap) (locs : List Loc) (ls : Array Slot), fX4_isPart_116 M = some rv → lv_has ls 1 [(0, .ref (ma 0))] → va_P G vwCl (tw_wM cI ma M) H → va_D A (tw_wM cI ma M) → va_S A s.heap H locs → W p l e rmX4_isPart s m args below meth c H locs 0 0 Q (F0 m 116 ls []) := by
    intro M H locs ls h hl hP hD hS
    unfold fX4_isPart_116 at h
    refine lv_aload_n hx hb dX4_isPart_116 rfl (lv_at hl 0 rfl) ?_
    refine lv_bipush (v := (110 : Int32)) hx hb dX4_isPart_117 (by decide) ?_
    obtain ⟨r119, e119, h⟩ := tw_bs h
    refine tw_callViF (ws' := (tw_wM cI ma r119.2)) (As := [.int (110 : Int32)]) (rest := []) F hN hK hP hD hS hA (mX4_isSign l G cI ma M H.size (110 : Int32) e119) (cwV 1 hts gX4_isPart_X4_isSign rfl rfl rfl (by decide +kernel) ⟨(Nat.le_of_ble_eq_true rfl), (Nat.le_of_ble_eq_true rfl)⟩) rfl (r0 := 0) (ci := 4) rfl rfl rfl rfl hl.1 rfl (Nat.le_of_ble_eq_true rfl) dX4_isPart_119 ⟨Nat.zero_le _, Nat.zero_le _⟩ (fun H locs hP hD hS => ?_)
    refine lv_if_eq (tgt := 132) hx hb dX4_isPart_122 (by decide) (fun c122 => ?_) (fun c122 => ?_)
    · replace h := tw_t c122 h
      refine lv_iconst (v := (1 : Int32)) hx hb dX4_isPart_132 (by decide) ?_
      refine lv_goto (tgt := 137) hx hb dX4_isPart_133 (by decide) ?_
      exact hq H locs _ ls (1 : Int32) (tw_rt (fun r => r.1 = (1 : Int32)) h rfl) rfl (tw_rt (fun r => va_P G vwCl (tw_wM cI ma r.2) H) h hP) hS dX4_isPart_137
    · replace h := tw_f c122 h
      refine lv_aload_n hx hb dX4_isPart_125 rfl (lv_at hl 0 rfl) ?_
      obtain ⟨r126, e126, h⟩ := tw_bs h
      refine tw_callViF (ws' := (tw_wM cI ma r126.2)) (As := []) (rest := []) F hN hK hP hD hS hA (mX4_isNeeds l G cI ma r119.2 H.size e126) (cwV 0 hts gX4_isPart_X4_isNeeds rfl rfl rfl (by decide +kernel) ⟨(Nat.le_of_ble_eq_true rfl), (Nat.le_of_ble_eq_true rfl)⟩) rfl (r0 := 0) (ci := 4) rfl rfl rfl rfl hl.1 rfl (Nat.le_of_ble_eq_true rfl) dX4_isPart_126 ⟨Nat.zero_le _, Nat.zero_le _⟩ (fun H locs hP hD hS => ?_)
      refine lv_if_eq (tgt := 136) hx hb dX4_isPart_129 (by decide) (fun c129 => ?_) (fun c129 => ?_)
      · replace h := tw_t c129 h
        refine lv_iconst (v := (0 : Int32)) hx hb dX4_isPart_136 (by decide) ?_
        exact hq H locs _ ls (0 : Int32) (tw_rt (fun r => r.1 = (0 : Int32)) h rfl) rfl (tw_rt (fun r => va_P G vwCl (tw_wM cI ma r.2) H) h hP) hS dX4_isPart_137
      · replace h := tw_f c129 h
        refine lv_iconst (v := (1 : Int32)) hx hb dX4_isPart_132 (by decide) ?_
        refine lv_goto (tgt := 137) hx hb dX4_isPart_133 (by decide) ?_
        exact hq H locs _ ls (1 : Int32) (tw_rt (fun r => r.1 = (1 : Int32)) h rfl) rfl (tw_rt (fun r => va_P G vwCl (tw_wM cI ma r.2) H) h hP) hS dX4_isPart_137
  have L93 : ∀ (M : tw_Md) (H : Heap) (locs : List Loc) (ls : Array Slot), fX4_isPart_93 M = some rv → lv_has ls 1 [(0, .ref (ma 0))] → va_P G vwCl (tw_wM cI ma M) H → va_D A (tw_wM cI ma M) → va_S A s.heap H locs → W p l e rmX4_isPart s m args below meth c H locs 0 0 Q (F0 m 93 ls []) := by
    intro M H locs ls h hl hP hD hS
    unfold fX4_isPart_93 at h
    refine lv_aload_n hx hb dX4_isPart_93 rfl (lv_at hl 0 rfl) ?_
    refine lv_bipush (v := (104 : Int32)) hx hb dX4_isPart_94 (by decide) ?_
    obtain ⟨r96, e96, h⟩ := tw_bs h
    refine tw_callViF (ws' := (tw_wM cI ma r96.2)) (As := [.int (104 : Int32)]) (rest := []) F hN hK hP hD hS hA (mX4_isSign l G cI ma M H.size (104 : Int32) e96) (cwV 1 hts gX4_isPart_X4_isSign rfl rfl rfl (by decide +kernel) ⟨(Nat.le_of_ble_eq_true rfl), (Nat.le_of_ble_eq_true rfl)⟩) rfl (r0 := 0) (ci := 4) rfl rfl rfl rfl hl.1 rfl (Nat.le_of_ble_eq_true rfl) dX4_isPart_96 ⟨Nat.zero_le _, Nat.zero_le _⟩ (fun H locs hP hD hS => ?_)
    refine lv_if_eq (tgt := 116) hx hb dX4_isPart_99 (by decide) (fun c99 => ?_) (fun c99 => ?_)
    · replace h := tw_t c99 h
      exact L116 r96.2 H locs ls h (lv_sub hl [0] rfl) hP hD hS
    · replace h := tw_f c99 h
      refine lv_aload_n hx hb dX4_isPart_102 rfl (lv_at hl 0 rfl) ?_
      refine lv_iconst (v := (2 : Int32)) hx hb dX4_isPart_103 (by decide) ?_
      refine lv_bipush (v := (48 : Int32)) hx hb dX4_isPart_104 (by decide) ?_
      refine lv_bipush (v := (51 : Int32)) hx hb dX4_isPart_106 (by decide) ?_
      obtain ⟨r108, e108, h⟩ := tw_bs h
      refine tw_callViF (ws' := (tw_wM cI ma r108.2)) (As := [.int (2 : Int32), .int (48 : Int32), .int (51 : Int32)]) (rest := []) F hN hK hP hD hS hA (mX4_isFigure l G cI ma r96.2 H.size (2 : Int32) (48 : Int32) (51 : Int32) e108) (cwV 3 hts gX4_isPart_X4_isFigure rfl rfl rfl (by decide +kernel) ⟨(Nat.le_of_ble_eq_true rfl), (Nat.le_of_ble_eq_true rfl)⟩) rfl (r0 := 0) (ci := 4) rfl rfl rfl rfl hl.1 rfl (Nat.le_of_ble_eq_true rfl) dX4_isPart_108 ⟨Nat.zero_le _, Nat.zero_le _⟩ (fun H locs hP hD hS => ?_)
      refine lv_if_ne (tgt := 116) hx hb dX4_isPart_111 (by decide) (fun c111 => ?_) (fun c111 => ?_)
      · replace h := tw_t c111 h
        exact L116 r108.2 H locs ls h (lv_sub hl [0] rfl) hP hD hS
      · replace h := tw_fn c111 h
        refine lv_iconst (v := (0 : Int32)) hx hb dX4_isPart_114 (by decide) ?_
        exact hq H locs _ ls (0 : Int32) (tw_rt (fun r => r.1 = (0 : Int32)) h rfl) rfl (tw_rt (fun r => va_P G vwCl (tw_wM cI ma r.2) H) h hP) hS dX4_isPart_115
  refine lv_aload_n hx hb dX4_isPart_0 rfl (lv_at hl 0 rfl) ?_
  refine va_get (D := G) (ci := 4) (v := .ref (ma 5)) (C := RX4) (T := TX4) (N := 13) hx hb hts iX4_isPart_X4 hown hK hP 0 rfl rfl 9 (by decide) (hts _ qX4_isPart_0) (fun _ h9 => h9) rfl dX4_isPart_1 ?_
  refine lv_iconst (v := (4 : Int32)) hx hb dX4_isPart_4 (by decide) ?_
  refine lv_aload_n hx hb dX4_isPart_5 rfl (lv_at hl 0 rfl) ?_
  refine va_get (D := G) (ci := 4) (v := .int M.2.2.2.2.2.2.2.2.2.2.1) (C := RX4) (T := TX4) (N := 13) hx hb hts iX4_isPart_X4 hown hK hP 0 rfl rfl 10 (by decide) (hts _ qX4_isPart_1) (fun _ h9 => h9) rfl dX4_isPart_6 ?_
  refine lv_imul hx hb dX4_isPart_9 ?_
  refine lv_iconst (v := (1 : Int32)) hx hb dX4_isPart_10 (by decide) ?_
  refine lv_iadd hx hb dX4_isPart_11 ?_
  refine lv_iconst (v := (-1 : Int32)) hx hb dX4_isPart_12 (by decide) ?_
  obtain ⟨g13, h⟩ := tw_gs h
  refine tw_iast (ws' := (tw_wM cI ma (M.1, M.2.1, M.2.2.1, M.2.2.2.1, M.2.2.2.2.1, M.2.2.2.2.2.1, M.2.2.2.2.2.2.1, M.2.2.2.2.2.2.2.1, M.2.2.2.2.2.2.2.2.1, (upd M.2.2.2.2.2.2.2.2.2.1 (((4 : Int32) * M.2.2.2.2.2.2.2.2.2.2.1) + (1 : Int32)).toNatClampNeg (-1 : Int32)), M.2.2.2.2.2.2.2.2.2.2.1, M.2.2.2.2.2.2.2.2.2.2.2.1, M.2.2.2.2.2.2.2.2.2.2.2.2))) (f := M.2.2.2.2.2.2.2.2.2.1) (n := 124) hx hb hK hP hD hS 5 0 rfl rfl g13 dX4_isPart_13 rfl (fun H locs hP hD hS => ?_)
  refine lv_aload_n hx hb dX4_isPart_14 rfl (lv_at hl 0 rfl) ?_
  refine va_get (D := G) (ci := 4) (v := .ref (ma 5)) (C := RX4) (T := TX4) (N := 13) hx hb hts iX4_isPart_X4 hown hK hP 0 rfl rfl 9 (by decide) (hts _ qX4_isPart_0) (fun _ h9 => h9) rfl dX4_isPart_15 ?_
  refine lv_iconst (v := (4 : Int32)) hx hb dX4_isPart_18 (by decide) ?_
  refine lv_aload_n hx hb dX4_isPart_19 rfl (lv_at hl 0 rfl) ?_
  refine va_get (D := G) (ci := 4) (v := .int M.2.2.2.2.2.2.2.2.2.2.1) (C := RX4) (T := TX4) (N := 13) hx hb hts iX4_isPart_X4 hown hK hP 0 rfl rfl 10 (by decide) (hts _ qX4_isPart_1) (fun _ h9 => h9) rfl dX4_isPart_20 ?_
  refine lv_imul hx hb dX4_isPart_23 ?_
  refine lv_iconst (v := (2 : Int32)) hx hb dX4_isPart_24 (by decide) ?_
  refine lv_iadd hx hb dX4_isPart_25 ?_
  refine lv_iconst (v := (-1 : Int32)) hx hb dX4_isPart_26 (by decide) ?_
  obtain ⟨g27, h⟩ := tw_gs h
  refine tw_iast (ws' := (tw_wM cI ma (M.1, M.2.1, M.2.2.1, M.2.2.2.1, M.2.2.2.2.1, M.2.2.2.2.2.1, M.2.2.2.2.2.2.1, M.2.2.2.2.2.2.2.1, M.2.2.2.2.2.2.2.2.1, (upd (upd M.2.2.2.2.2.2.2.2.2.1 (((4 : Int32) * M.2.2.2.2.2.2.2.2.2.2.1) + (1 : Int32)).toNatClampNeg (-1 : Int32)) (((4 : Int32) * M.2.2.2.2.2.2.2.2.2.2.1) + (2 : Int32)).toNatClampNeg (-1 : Int32)), M.2.2.2.2.2.2.2.2.2.2.1, M.2.2.2.2.2.2.2.2.2.2.2.1, M.2.2.2.2.2.2.2.2.2.2.2.2))) (f := (upd M.2.2.2.2.2.2.2.2.2.1 (((4 : Int32) * M.2.2.2.2.2.2.2.2.2.2.1) + (1 : Int32)).toNatClampNeg (-1 : Int32))) (n := 124) hx hb hK hP hD hS 5 0 rfl rfl g27 dX4_isPart_27 rfl (fun H locs hP hD hS => ?_)
  refine lv_aload_n hx hb dX4_isPart_28 rfl (lv_at hl 0 rfl) ?_
  refine va_get (D := G) (ci := 4) (v := .ref (ma 5)) (C := RX4) (T := TX4) (N := 13) hx hb hts iX4_isPart_X4 hown hK hP 0 rfl rfl 9 (by decide) (hts _ qX4_isPart_0) (fun _ h9 => h9) rfl dX4_isPart_29 ?_
  refine lv_iconst (v := (4 : Int32)) hx hb dX4_isPart_32 (by decide) ?_
  refine lv_aload_n hx hb dX4_isPart_33 rfl (lv_at hl 0 rfl) ?_
  refine va_get (D := G) (ci := 4) (v := .int M.2.2.2.2.2.2.2.2.2.2.1) (C := RX4) (T := TX4) (N := 13) hx hb hts iX4_isPart_X4 hown hK hP 0 rfl rfl 10 (by decide) (hts _ qX4_isPart_1) (fun _ h9 => h9) rfl dX4_isPart_34 ?_
  refine lv_imul hx hb dX4_isPart_37 ?_
  refine lv_iconst (v := (3 : Int32)) hx hb dX4_isPart_38 (by decide) ?_
  refine lv_iadd hx hb dX4_isPart_39 ?_
  refine lv_iconst (v := (0 : Int32)) hx hb dX4_isPart_40 (by decide) ?_
  obtain ⟨g41, h⟩ := tw_gs h
  refine tw_iast (ws' := (tw_wM cI ma (M.1, M.2.1, M.2.2.1, M.2.2.2.1, M.2.2.2.2.1, M.2.2.2.2.2.1, M.2.2.2.2.2.2.1, M.2.2.2.2.2.2.2.1, M.2.2.2.2.2.2.2.2.1, (upd (upd (upd M.2.2.2.2.2.2.2.2.2.1 (((4 : Int32) * M.2.2.2.2.2.2.2.2.2.2.1) + (1 : Int32)).toNatClampNeg (-1 : Int32)) (((4 : Int32) * M.2.2.2.2.2.2.2.2.2.2.1) + (2 : Int32)).toNatClampNeg (-1 : Int32)) (((4 : Int32) * M.2.2.2.2.2.2.2.2.2.2.1) + (3 : Int32)).toNatClampNeg (0 : Int32)), M.2.2.2.2.2.2.2.2.2.2.1, M.2.2.2.2.2.2.2.2.2.2.2.1, M.2.2.2.2.2.2.2.2.2.2.2.2))) (f := (upd (upd M.2.2.2.2.2.2.2.2.2.1 (((4 : Int32) * M.2.2.2.2.2.2.2.2.2.2.1) + (1 : Int32)).toNatClampNeg (-1 : Int32)) (((4 : Int32) * M.2.2.2.2.2.2.2.2.2.2.1) + (2 : Int32)).toNatClampNeg (-1 : Int32))) (n := 124) hx hb hK hP hD hS 5 0 rfl rfl g41 dX4_isPart_41 rfl (fun H locs hP hD hS => ?_)
  refine lv_aload_n hx hb dX4_isPart_42 rfl (lv_at hl 0 rfl) ?_
  refine lv_bipush (v := (100 : Int32)) hx hb dX4_isPart_43 (by decide) ?_
  obtain ⟨r45, e45, h⟩ := tw_bs h
  refine tw_callViF (ws' := (tw_wM cI ma r45.2)) (As := [.int (100 : Int32)]) (rest := []) F hN hK hP hD hS hA (mX4_isSign l G cI ma (M.1, M.2.1, M.2.2.1, M.2.2.2.1, M.2.2.2.2.1, M.2.2.2.2.2.1, M.2.2.2.2.2.2.1, M.2.2.2.2.2.2.2.1, M.2.2.2.2.2.2.2.2.1, (upd (upd (upd M.2.2.2.2.2.2.2.2.2.1 (((4 : Int32) * M.2.2.2.2.2.2.2.2.2.2.1) + (1 : Int32)).toNatClampNeg (-1 : Int32)) (((4 : Int32) * M.2.2.2.2.2.2.2.2.2.2.1) + (2 : Int32)).toNatClampNeg (-1 : Int32)) (((4 : Int32) * M.2.2.2.2.2.2.2.2.2.2.1) + (3 : Int32)).toNatClampNeg (0 : Int32)), M.2.2.2.2.2.2.2.2.2.2.1, M.2.2.2.2.2.2.2.2.2.2.2.1, M.2.2.2.2.2.2.2.2.2.2.2.2) H.size (100 : Int32) e45) (cwV 1 hts gX4_isPart_X4_isSign rfl rfl rfl (by decide +kernel) ⟨(Nat.le_of_ble_eq_true rfl), (Nat.le_of_ble_eq_true rfl)⟩) rfl (r0 := 0) (ci := 4) rfl rfl rfl rfl hl.1 rfl (Nat.le_of_ble_eq_true rfl) dX4_isPart_45 ⟨Nat.zero_le _, Nat.zero_le _⟩ (fun H locs hP hD hS => ?_)
  refine lv_if_ne (tgt := 56) hx hb dX4_isPart_48 (by decide) (fun c48 => ?_) (fun c48 => ?_)
  · replace h := tw_t c48 h
    refine lv_aload_n hx hb dX4_isPart_56 rfl (lv_at hl 0 rfl) ?_
    refine lv_iconst (v := (0 : Int32)) hx hb dX4_isPart_57 (by decide) ?_
    refine lv_bipush (v := (49 : Int32)) hx hb dX4_isPart_58 (by decide) ?_
    refine lv_bipush (v := (57 : Int32)) hx hb dX4_isPart_60 (by decide) ?_
    obtain ⟨r62, e62, h⟩ := tw_bs h
    refine tw_callViF (ws' := (tw_wM cI ma r62.2)) (As := [.int (0 : Int32), .int (49 : Int32), .int (57 : Int32)]) (rest := []) F hN hK hP hD hS hA (mX4_isFigure l G cI ma r45.2 H.size (0 : Int32) (49 : Int32) (57 : Int32) e62) (cwV 3 hts gX4_isPart_X4_isFigure rfl rfl rfl (by decide +kernel) ⟨(Nat.le_of_ble_eq_true rfl), (Nat.le_of_ble_eq_true rfl)⟩) rfl (r0 := 0) (ci := 4) rfl rfl rfl rfl hl.1 rfl (Nat.le_of_ble_eq_true rfl) dX4_isPart_62 ⟨Nat.zero_le _, Nat.zero_le _⟩ (fun H locs hP hD hS => ?_)
    refine lv_if_ne (tgt := 70) hx hb dX4_isPart_65 (by decide) (fun c65 => ?_) (fun c65 => ?_)
    · replace h := tw_t c65 h
      refine lv_aload_n hx hb dX4_isPart_70 rfl (lv_at hl 0 rfl) ?_
      refine lv_bipush (v := (112 : Int32)) hx hb dX4_isPart_71 (by decide) ?_
      obtain ⟨r73, e73, h⟩ := tw_bs h
      refine tw_callViF (ws' := (tw_wM cI ma r73.2)) (As := [.int (112 : Int32)]) (rest := []) F hN hK hP hD hS hA (mX4_isSign l G cI ma r62.2 H.size (112 : Int32) e73) (cwV 1 hts gX4_isPart_X4_isSign rfl rfl rfl (by decide +kernel) ⟨(Nat.le_of_ble_eq_true rfl), (Nat.le_of_ble_eq_true rfl)⟩) rfl (r0 := 0) (ci := 4) rfl rfl rfl rfl hl.1 rfl (Nat.le_of_ble_eq_true rfl) dX4_isPart_73 ⟨Nat.zero_le _, Nat.zero_le _⟩ (fun H locs hP hD hS => ?_)
      refine lv_if_eq (tgt := 93) hx hb dX4_isPart_76 (by decide) (fun c76 => ?_) (fun c76 => ?_)
      · replace h := tw_t c76 h
        exact L93 r73.2 H locs ls h (lv_sub hl [0] rfl) hP hD hS
      · replace h := tw_f c76 h
        refine lv_aload_n hx hb dX4_isPart_79 rfl (lv_at hl 0 rfl) ?_
        refine lv_iconst (v := (1 : Int32)) hx hb dX4_isPart_80 (by decide) ?_
        refine lv_bipush (v := (48 : Int32)) hx hb dX4_isPart_81 (by decide) ?_
        refine lv_bipush (v := (53 : Int32)) hx hb dX4_isPart_83 (by decide) ?_
        obtain ⟨r85, e85, h⟩ := tw_bs h
        refine tw_callViF (ws' := (tw_wM cI ma r85.2)) (As := [.int (1 : Int32), .int (48 : Int32), .int (53 : Int32)]) (rest := []) F hN hK hP hD hS hA (mX4_isFigure l G cI ma r73.2 H.size (1 : Int32) (48 : Int32) (53 : Int32) e85) (cwV 3 hts gX4_isPart_X4_isFigure rfl rfl rfl (by decide +kernel) ⟨(Nat.le_of_ble_eq_true rfl), (Nat.le_of_ble_eq_true rfl)⟩) rfl (r0 := 0) (ci := 4) rfl rfl rfl rfl hl.1 rfl (Nat.le_of_ble_eq_true rfl) dX4_isPart_85 ⟨Nat.zero_le _, Nat.zero_le _⟩ (fun H locs hP hD hS => ?_)
        refine lv_if_ne (tgt := 93) hx hb dX4_isPart_88 (by decide) (fun c88 => ?_) (fun c88 => ?_)
        · replace h := tw_t c88 h
          exact L93 r85.2 H locs ls h (lv_sub hl [0] rfl) hP hD hS
        · replace h := tw_fn c88 h
          refine lv_iconst (v := (0 : Int32)) hx hb dX4_isPart_91 (by decide) ?_
          exact hq H locs _ ls (0 : Int32) (tw_rt (fun r => r.1 = (0 : Int32)) h rfl) rfl (tw_rt (fun r => va_P G vwCl (tw_wM cI ma r.2) H) h hP) hS dX4_isPart_92
    · replace h := tw_fn c65 h
      refine lv_iconst (v := (0 : Int32)) hx hb dX4_isPart_68 (by decide) ?_
      exact hq H locs _ ls (0 : Int32) (tw_rt (fun r => r.1 = (0 : Int32)) h rfl) rfl (tw_rt (fun r => va_P G vwCl (tw_wM cI ma r.2) H) h hP) hS dX4_isPart_69
  · replace h := tw_fn c48 h
    refine lv_aload_n hx hb dX4_isPart_51 rfl (lv_at hl 0 rfl) ?_
    obtain ⟨r52, e52, h⟩ := tw_bs h
    refine tw_callViF (ws' := (tw_wM cI ma r52.2)) (As := []) (rest := []) F hN hK hP hD hS hA (mX4_stops l G cI ma r45.2 H.size e52) (cwV 0 hts gX4_isPart_X4_stops rfl rfl rfl (by decide +kernel) ⟨(Nat.le_of_ble_eq_true rfl), (Nat.le_of_ble_eq_true rfl)⟩) rfl (r0 := 0) (ci := 4) rfl rfl rfl rfl hl.1 rfl (Nat.le_of_ble_eq_true rfl) dX4_isPart_52 ⟨Nat.zero_le _, Nat.zero_le _⟩ (fun H locs hP hD hS => ?_)
    obtain ⟨g55, h⟩ := tw_qs h
    exact hq H locs _ ls r52.1 (tw_rt (fun r => r.1 = r52.1) h rfl) (tw_nb g55) (tw_rt (fun r => va_P G vwCl (tw_wM cI ma r.2) H) h hP) hS dX4_isPart_55
abbrev rmX4_isText : Room := { frames := 4, cells := 0, slots := 0, locals := 87 }
set_option maxRecDepth 20000 in
theorem qX4_isText_0 : (Cond.fieldLink RX4 119 "TheatreWallModel" "isFault" "Z") ∈ wsX4_isText := (List.mem_cons_of_mem _ (List.mem_append_left _ (List.mem_append_left _ (List.mem_of_getElem? (i := 2) rfl))))
set_option maxRecDepth 20000 in
theorem qX4_isText_1 : (Cond.fieldLink RX4 116 "TheatreWallModel" "at" "I") ∈ wsX4_isText := (List.mem_cons_of_mem _ (List.mem_append_left _ (List.mem_append_left _ (List.mem_of_getElem? (i := 0) rfl))))
set_option maxRecDepth 20000 in
theorem qX4_isText_2 : (Cond.fieldLink RX4 113 "TheatreWallModel" "typed" "I") ∈ wsX4_isText := (List.mem_cons_of_mem _ (List.mem_append_left _ (List.mem_append_left _ (List.mem_of_getElem? (i := 3) rfl))))
set_option maxRecDepth 20000 in
theorem qX4_isText_3 : (Cond.fieldLink RX4 130 "TheatreWallModel" "tolds" "I") ∈ wsX4_isText := (List.mem_cons_of_mem _ (List.mem_append_left _ (List.mem_append_left _ (List.mem_of_getElem? (i := 1) rfl))))
set_option maxRecDepth 20000 in
theorem iX4_isText_X4 : ∀ w ∈ u_ws RX4 TX4 13, w ∈ wsX4_isText := fun w h => (List.mem_cons_of_mem _ (List.mem_append_right _ h))
set_option maxHeartbeats 4000000 in
set_option maxRecDepth 100000 in
theorem mX4_isText (l : Launch) (G : va_G) (cI : ClassId) (ma : Nat → Nat) (M : tw_Md) (sz : Nat)  {rv : Int32 × tw_Md} (h : fX4_isText M = some rv) : tw_Mi l yX4_isText wsX4_isText rmX4_isText G [(cI, .int)] (tw_wM cI ma M) [.ref (ma 0)] sz rv.1 (tw_wM cI ma rv.2) := by
  refine tw_ofi (ty := .boolean) (cc := cX4_isText) (maxL := 2) (own := RX4) (by decide) rfl rfl (Nat.le_of_ble_eq_true rfl) ?_
  intro p e s m args below meth c Q A ls H locs F hN hK hP hD hS hA hl hq
  obtain ⟨hx, hb, hml, hown, hts⟩ := id F
  have hl : lv_has ls 2 [(0, .ref (ma 0))] := hl
  unfold fX4_isText at h
  have L67 : ∀ (t1 : Int32) (M : tw_Md) (H : Heap) (locs : List Loc) (ls : Array Slot), fX4_isText_67 t1 M = some rv → lv_has ls 2 [(0, .ref (ma 0))] → va_P G vwCl (tw_wM cI ma M) H → va_D A (tw_wM cI ma M) → va_S A s.heap H locs → W p l e rmX4_isText s m args below meth c H locs 0 0 Q (F0 m 67 ls [.int t1, .ref (ma 0)]) := by
    intro t1 M H locs ls h hl hP hD hS
    unfold fX4_isText_67 at h
    obtain ⟨g67, h⟩ := tw_qs h
    refine tw_put (ws' := (tw_wM cI ma (M.1, M.2.1, M.2.2.1, M.2.2.2.1, M.2.2.2.2.1, M.2.2.2.2.2.1, M.2.2.2.2.2.2.1, M.2.2.2.2.2.2.2.1, t1, M.2.2.2.2.2.2.2.2.2.1, M.2.2.2.2.2.2.2.2.2.2.1, M.2.2.2.2.2.2.2.2.2.2.2.1, M.2.2.2.2.2.2.2.2.2.2.2.2))) (D := G) (ci := 4) (v := .int t1) (ty := .boolean) (C := RX4) (T := TX4) (N := 13) hx hb hts iX4_isText_X4 tyX4 tyX4_ok nmX4 hown hK hP hD hS 0 rfl rfl 8 (by decide) (hts _ qX4_isText_0) (fun _ h9 => h9) rfl (by decide +kernel) (tw_nb g67) (tw_fb g67) (Nat.le_of_ble_eq_true rfl) dX4_isText_67 rfl (fun H locs hP hD hS => ?_)
    refine lv_aload_n hx hb dX4_isText_70 rfl (lv_at hl 0 rfl) ?_
    refine va_get (D := G) (ci := 4) (v := .int M.2.2.2.2.2.2.2.1) (C := RX4) (T := TX4) (N := 13) hx hb hts iX4_isText_X4 hown hK hP 0 rfl rfl 7 (by decide) (hts _ qX4_isText_1) (fun _ h9 => h9) rfl dX4_isText_71 ?_
    refine lv_aload_n hx hb dX4_isText_74 rfl (lv_at hl 0 rfl) ?_
    refine va_get (D := G) (ci := 4) (v := .int M.2.2.2.2.2.1) (C := RX4) (T := TX4) (N := 13) hx hb hts iX4_isText_X4 hown hK hP 0 rfl rfl 5 (by decide) (hts _ qX4_isText_2) (fun _ h9 => h9) rfl dX4_isText_75 ?_
    refine lv_icmp_ne (tgt := 85) hx hb dX4_isText_78 (by decide) (fun c78 => ?_) (fun c78 => ?_)
    · replace h := tw_t c78 h
      refine lv_iconst (v := (0 : Int32)) hx hb dX4_isText_85 (by decide) ?_
      exact hq H locs _ ls (0 : Int32) (tw_rt (fun r => r.1 = (0 : Int32)) h rfl) rfl (tw_rt (fun r => va_P G vwCl (tw_wM cI ma r.2) H) h hP) hS dX4_isText_86
    · replace h := tw_fn c78 h
      refine lv_iconst (v := (1 : Int32)) hx hb dX4_isText_81 (by decide) ?_
      refine lv_goto (tgt := 86) hx hb dX4_isText_82 (by decide) ?_
      exact hq H locs _ ls (1 : Int32) (tw_rt (fun r => r.1 = (1 : Int32)) h rfl) rfl (tw_rt (fun r => va_P G vwCl (tw_wM cI ma r.2) H) h hP) hS dX4_isText_86
  have L17 : ∀ (n17 : Nat) (v1 : Int32) (M : tw_Md) (H : Heap) (locs : List Loc) (ls : Array Slot), fX4_isText_17 n17 v1 M = some rv → lv_has ls 2 [(0, .ref (ma 0)), (1, .int v1)] → va_P G vwCl (tw_wM cI ma M) H → va_D A (tw_wM cI ma M) → va_S A s.heap H locs → W p l e rmX4_isText s m args below meth c H locs 0 0 Q (F0 m 17 ls []) := by
    intro n17
    induction n17 with
    | zero =>
      intro v1 M H locs ls h
      rw [fX4_isText_17] at h
      cases h
    | succ n17 ih17 =>
      intro v1 M H locs ls h hl hP hD hS
      rw [fX4_isText_17] at h
      refine lv_iload_n hx hb dX4_isText_17 rfl (lv_at hl 1 rfl) ?_
      refine lv_if_eq (tgt := 50) hx hb dX4_isText_18 (by decide) (fun c18 => ?_) (fun c18 => ?_)
      · replace h := tw_t c18 h
        refine lv_aload_n hx hb dX4_isText_50 rfl (lv_at hl 0 rfl) ?_
        refine lv_aload_n hx hb dX4_isText_51 rfl (lv_at hl 0 rfl) ?_
        refine va_get (D := G) (ci := 4) (v := .int M.2.2.2.2.2.2.2.1) (C := RX4) (T := TX4) (N := 13) hx hb hts iX4_isText_X4 hown hK hP 0 rfl rfl 7 (by decide) (hts _ qX4_isText_1) (fun _ h9 => h9) rfl dX4_isText_52 ?_
        refine lv_aload_n hx hb dX4_isText_55 rfl (lv_at hl 0 rfl) ?_
        refine va_get (D := G) (ci := 4) (v := .int M.2.2.2.2.2.1) (C := RX4) (T := TX4) (N := 13) hx hb hts iX4_isText_X4 hown hK hP 0 rfl rfl 5 (by decide) (hts _ qX4_isText_2) (fun _ h9 => h9) rfl dX4_isText_56 ?_
        refine lv_icmp_ge (tgt := 66) hx hb dX4_isText_59 (by decide) (fun c59 => ?_) (fun c59 => ?_)
        · replace h := tw_t c59 h
          refine lv_iconst (v := (0 : Int32)) hx hb dX4_isText_66 (by decide) ?_
          exact L67 (0 : Int32) M H locs ls h (lv_sub hl [0] rfl) hP hD hS
        · replace h := tw_f c59 h
          refine lv_iconst (v := (1 : Int32)) hx hb dX4_isText_62 (by decide) ?_
          refine lv_goto (tgt := 67) hx hb dX4_isText_63 (by decide) ?_
          exact L67 (1 : Int32) M H locs ls h (lv_sub hl [0] rfl) hP hD hS
      · replace h := tw_f c18 h
        refine lv_aload_n hx hb dX4_isText_21 rfl (lv_at hl 0 rfl) ?_
        obtain ⟨r22, e22, h⟩ := tw_bs h
        refine tw_callViF (ws' := (tw_wM cI ma r22.2)) (As := []) (rest := []) F hN hK hP hD hS hA (mX4_isPart l G cI ma M H.size e22) (cwV 0 hts gX4_isText_X4_isPart rfl rfl rfl (by decide +kernel) ⟨(Nat.le_of_ble_eq_true rfl), (Nat.le_of_ble_eq_true rfl)⟩) rfl (r0 := 0) (ci := 4) rfl rfl rfl rfl hl.1 rfl (Nat.le_of_ble_eq_true rfl) dX4_isText_22 ⟨Nat.zero_le _, Nat.zero_le _⟩ (fun H locs hP hD hS => ?_)
        refine lv_if_ne (tgt := 30) hx hb dX4_isText_25 (by decide) (fun c25 => ?_) (fun c25 => ?_)
        · replace h := tw_t c25 h
          refine lv_aload_n hx hb dX4_isText_30 rfl (lv_at hl 0 rfl) ?_
          refine lv_dup hx hb dX4_isText_31 rfl ?_
          refine va_get (D := G) (ci := 4) (v := .int r22.2.2.2.2.2.2.2.2.2.2.2.1) (C := RX4) (T := TX4) (N := 13) hx hb hts iX4_isText_X4 hown hK hP 0 rfl rfl 10 (by decide) (hts _ qX4_isText_3) (fun _ h9 => h9) rfl dX4_isText_32 ?_
          refine lv_iconst (v := (1 : Int32)) hx hb dX4_isText_35 (by decide) ?_
          refine lv_iadd hx hb dX4_isText_36 ?_
          refine tw_put (ws' := (tw_wM cI ma (r22.2.1, r22.2.2.1, r22.2.2.2.1, r22.2.2.2.2.1, r22.2.2.2.2.2.1, r22.2.2.2.2.2.2.1, r22.2.2.2.2.2.2.2.1, r22.2.2.2.2.2.2.2.2.1, r22.2.2.2.2.2.2.2.2.2.1, r22.2.2.2.2.2.2.2.2.2.2.1, (r22.2.2.2.2.2.2.2.2.2.2.2.1 + (1 : Int32)), r22.2.2.2.2.2.2.2.2.2.2.2.2.1, r22.2.2.2.2.2.2.2.2.2.2.2.2.2))) (D := G) (ci := 4) (v := .int (r22.2.2.2.2.2.2.2.2.2.2.2.1 + (1 : Int32))) (ty := .int) (C := RX4) (T := TX4) (N := 13) hx hb hts iX4_isText_X4 tyX4 tyX4_ok nmX4 hown hK hP hD hS 0 rfl rfl 10 (by decide) (hts _ qX4_isText_3) (fun _ h9 => h9) rfl (by decide +kernel) rfl rfl (Nat.le_of_ble_eq_true rfl) dX4_isText_37 rfl (fun H locs hP hD hS => ?_)
          refine lv_aload_n hx hb dX4_isText_40 rfl (lv_at hl 0 rfl) ?_
          refine lv_bipush (v := (59 : Int32)) hx hb dX4_isText_41 (by decide) ?_
          obtain ⟨r43, e43, h⟩ := tw_bs h
          refine tw_callViF (ws' := (tw_wM cI ma r43.2)) (As := [.int (59 : Int32)]) (rest := []) F hN hK hP hD hS hA (mX4_isSign l G cI ma (r22.2.1, r22.2.2.1, r22.2.2.2.1, r22.2.2.2.2.1, r22.2.2.2.2.2.1, r22.2.2.2.2.2.2.1, r22.2.2.2.2.2.2.2.1, r22.2.2.2.2.2.2.2.2.1, r22.2.2.2.2.2.2.2.2.2.1, r22.2.2.2.2.2.2.2.2.2.2.1, (r22.2.2.2.2.2.2.2.2.2.2.2.1 + (1 : Int32)), r22.2.2.2.2.2.2.2.2.2.2.2.2.1, r22.2.2.2.2.2.2.2.2.2.2.2.2.2) H.size (59 : Int32) e43) (cwV 1 hts gX4_isText_X4_isSign rfl rfl rfl (by decide +kernel) ⟨(Nat.le_of_ble_eq_true rfl), (Nat.le_of_ble_eq_true rfl)⟩) rfl (r0 := 0) (ci := 4) rfl rfl rfl rfl hl.1 rfl (Nat.le_of_ble_eq_true rfl) dX4_isText_43 ⟨Nat.zero_le _, Nat.zero_le _⟩ (fun H locs hP hD hS => ?_)
          refine lv_istore_n (lv' := [(1, .int r43.1), (0, .ref (ma 0))]) hx hb dX4_isText_46 rfl hl (by decide) rfl (fun ls hl => ?_)
          refine lv_goto (tgt := 17) hx hb dX4_isText_47 (by decide) ?_
          exact ih17 r43.1 r43.2 H locs ls h (lv_sub hl [1, 0] rfl) hP hD hS
        · replace h := tw_fn c25 h
          refine lv_iconst (v := (0 : Int32)) hx hb dX4_isText_28 (by decide) ?_
          exact hq H locs _ ls (0 : Int32) (tw_rt (fun r => r.1 = (0 : Int32)) h rfl) rfl (tw_rt (fun r => va_P G vwCl (tw_wM cI ma r.2) H) h hP) hS dX4_isText_29
  refine lv_aload_n hx hb dX4_isText_0 rfl (lv_at hl 0 rfl) ?_
  refine lv_iconst (v := (0 : Int32)) hx hb dX4_isText_1 (by decide) ?_
  refine tw_put (ws' := (tw_wM cI ma (M.1, M.2.1, M.2.2.1, M.2.2.2.1, M.2.2.2.2.1, M.2.2.2.2.2.1, M.2.2.2.2.2.2.1, (0 : Int32), M.2.2.2.2.2.2.2.2.1, M.2.2.2.2.2.2.2.2.2.1, M.2.2.2.2.2.2.2.2.2.2.1, M.2.2.2.2.2.2.2.2.2.2.2.1, M.2.2.2.2.2.2.2.2.2.2.2.2))) (D := G) (ci := 4) (v := .int (0 : Int32)) (ty := .int) (C := RX4) (T := TX4) (N := 13) hx hb hts iX4_isText_X4 tyX4 tyX4_ok nmX4 hown hK hP hD hS 0 rfl rfl 7 (by decide) (hts _ qX4_isText_1) (fun _ h9 => h9) rfl (by decide +kernel) rfl rfl (Nat.le_of_ble_eq_true rfl) dX4_isText_2 rfl (fun H locs hP hD hS => ?_)
  refine lv_aload_n hx hb dX4_isText_5 rfl (lv_at hl 0 rfl) ?_
  refine lv_iconst (v := (0 : Int32)) hx hb dX4_isText_6 (by decide) ?_
  refine tw_put (ws' := (tw_wM cI ma (M.1, M.2.1, M.2.2.1, M.2.2.2.1, M.2.2.2.2.1, M.2.2.2.2.2.1, M.2.2.2.2.2.2.1, (0 : Int32), M.2.2.2.2.2.2.2.2.1, M.2.2.2.2.2.2.2.2.2.1, (0 : Int32), M.2.2.2.2.2.2.2.2.2.2.2.1, M.2.2.2.2.2.2.2.2.2.2.2.2))) (D := G) (ci := 4) (v := .int (0 : Int32)) (ty := .int) (C := RX4) (T := TX4) (N := 13) hx hb hts iX4_isText_X4 tyX4 tyX4_ok nmX4 hown hK hP hD hS 0 rfl rfl 10 (by decide) (hts _ qX4_isText_3) (fun _ h9 => h9) rfl (by decide +kernel) rfl rfl (Nat.le_of_ble_eq_true rfl) dX4_isText_7 rfl (fun H locs hP hD hS => ?_)
  refine lv_aload_n hx hb dX4_isText_10 rfl (lv_at hl 0 rfl) ?_
  refine lv_iconst (v := (0 : Int32)) hx hb dX4_isText_11 (by decide) ?_
  refine tw_put (ws' := (tw_wM cI ma (M.1, M.2.1, M.2.2.1, M.2.2.2.1, M.2.2.2.2.1, M.2.2.2.2.2.1, M.2.2.2.2.2.2.1, (0 : Int32), (0 : Int32), M.2.2.2.2.2.2.2.2.2.1, (0 : Int32), M.2.2.2.2.2.2.2.2.2.2.2.1, M.2.2.2.2.2.2.2.2.2.2.2.2))) (D := G) (ci := 4) (v := .int (0 : Int32)) (ty := .boolean) (C := RX4) (T := TX4) (N := 13) hx hb hts iX4_isText_X4 tyX4 tyX4_ok nmX4 hown hK hP hD hS 0 rfl rfl 8 (by decide) (hts _ qX4_isText_0) (fun _ h9 => h9) rfl (by decide +kernel) rfl rfl (Nat.le_of_ble_eq_true rfl) dX4_isText_12 rfl (fun H locs hP hD hS => ?_)
  refine lv_iconst (v := (1 : Int32)) hx hb dX4_isText_15 (by decide) ?_
  refine lv_istore_n (lv' := [(1, .int (1 : Int32)), (0, .ref (ma 0))]) hx hb dX4_isText_16 rfl hl (by decide) rfl (fun ls hl => ?_)
  exact L17 512 (1 : Int32) (M.1, M.2.1, M.2.2.1, M.2.2.2.1, M.2.2.2.2.1, M.2.2.2.2.2.1, M.2.2.2.2.2.2.1, (0 : Int32), (0 : Int32), M.2.2.2.2.2.2.2.2.2.1, (0 : Int32), M.2.2.2.2.2.2.2.2.2.2.2.1, M.2.2.2.2.2.2.2.2.2.2.2.2) H locs ls h (lv_sub hl [1, 0] rfl) hP hD hS
abbrev rmX4_firstError : Room := { frames := 5, cells := 0, slots := 0, locals := 108 }
set_option maxRecDepth 20000 in
theorem qX4_firstError_0 : (Cond.fieldLink RX4 31 "TheatreWallModel" "thrown" "I") ∈ wsX4_firstError := (List.mem_cons_of_mem _ (List.mem_append_left _ (List.mem_append_left _ (List.mem_of_getElem? (i := 0) rfl))))
set_option maxRecDepth 20000 in
theorem qX4_firstError_1 : (Cond.fieldLink RX4 113 "TheatreWallModel" "typed" "I") ∈ wsX4_firstError := (List.mem_cons_of_mem _ (List.mem_append_left _ (List.mem_append_left _ (List.mem_of_getElem? (i := 3) rfl))))
set_option maxRecDepth 20000 in
theorem qX4_firstError_2 : (Cond.fieldLink RX4 119 "TheatreWallModel" "isFault" "Z") ∈ wsX4_firstError := (List.mem_cons_of_mem _ (List.mem_append_left _ (List.mem_append_left _ (List.mem_of_getElem? (i := 1) rfl))))
set_option maxRecDepth 20000 in
theorem qX4_firstError_3 : (Cond.fieldLink RX4 116 "TheatreWallModel" "at" "I") ∈ wsX4_firstError := (List.mem_cons_of_mem _ (List.mem_append_left _ (List.mem_append_left _ (List.mem_of_getElem? (i := 2) rfl))))
set_option maxRecDepth 20000 in
theorem iX4_firstError_X4 : ∀ w ∈ u_ws RX4 TX4 13, w ∈ wsX4_firstError := fun w h => (List.mem_cons_of_mem _ (List.mem_append_right _ h))
set_option maxHeartbeats 4000000 in
set_option maxRecDepth 100000 in
theorem mX4_firstError (l : Launch) (G : va_G) (cI : ClassId) (ma : Nat → Nat) (M : tw_Md) (sz : Nat)  {rv : Int32 × tw_Md} (h : fX4_firstError M = some rv) : tw_Mi l yX4_firstError wsX4_firstError rmX4_firstError G [(cI, .int)] (tw_wM cI ma M) [.ref (ma 0)] sz rv.1 (tw_wM cI ma rv.2) := by
  refine tw_ofi (ty := .int) (cc := cX4_firstError) (maxL := 2) (own := RX4) (by decide) rfl rfl (Nat.le_of_ble_eq_true rfl) ?_
  intro p e s m args below meth c Q A ls H locs F hN hK hP hD hS hA hl hq
  obtain ⟨hx, hb, hml, hown, hts⟩ := id F
  have hl : lv_has ls 2 [(0, .ref (ma 0))] := hl
  unfold fX4_firstError at h
  refine lv_aload_n hx hb dX4_firstError_0 rfl (lv_at hl 0 rfl) ?_
  refine lv_iconst (v := (0 : Int32)) hx hb dX4_firstError_1 (by decide) ?_
  refine tw_put (ws' := (tw_wM cI ma (M.1, M.2.1, M.2.2.1, M.2.2.2.1, M.2.2.2.2.1, M.2.2.2.2.2.1, (0 : Int32), M.2.2.2.2.2.2.2.1, M.2.2.2.2.2.2.2.2.1, M.2.2.2.2.2.2.2.2.2.1, M.2.2.2.2.2.2.2.2.2.2.1, M.2.2.2.2.2.2.2.2.2.2.2.1, M.2.2.2.2.2.2.2.2.2.2.2.2))) (D := G) (ci := 4) (v := .int (0 : Int32)) (ty := .int) (C := RX4) (T := TX4) (N := 13) hx hb hts iX4_firstError_X4 tyX4 tyX4_ok nmX4 hown hK hP hD hS 0 rfl rfl 6 (by decide) (hts _ qX4_firstError_0) (fun _ h9 => h9) rfl (by decide +kernel) rfl rfl (Nat.le_of_ble_eq_true rfl) dX4_firstError_2 rfl (fun H locs hP hD hS => ?_)
  refine lv_aload_n hx hb dX4_firstError_5 rfl (lv_at hl 0 rfl) ?_
  obtain ⟨r6, e6, h⟩ := tw_bs h
  refine tw_callViF (ws' := (tw_wM cI ma r6.2)) (As := []) (rest := []) F hN hK hP hD hS hA (mX4_isText l G cI ma (M.1, M.2.1, M.2.2.1, M.2.2.2.1, M.2.2.2.2.1, M.2.2.2.2.2.1, (0 : Int32), M.2.2.2.2.2.2.2.1, M.2.2.2.2.2.2.2.2.1, M.2.2.2.2.2.2.2.2.2.1, M.2.2.2.2.2.2.2.2.2.2.1, M.2.2.2.2.2.2.2.2.2.2.2.1, M.2.2.2.2.2.2.2.2.2.2.2.2) H.size e6) (cwV 0 hts gX4_firstError_X4_isText rfl rfl rfl (by decide +kernel) ⟨(Nat.le_of_ble_eq_true rfl), (Nat.le_of_ble_eq_true rfl)⟩) rfl (r0 := 0) (ci := 4) rfl rfl rfl rfl hl.1 rfl (Nat.le_of_ble_eq_true rfl) dX4_firstError_6 ⟨Nat.zero_le _, Nat.zero_le _⟩ (fun H locs hP hD hS => ?_)
  refine lv_istore_n (lv' := [(1, .int r6.1), (0, .ref (ma 0))]) hx hb dX4_firstError_9 rfl hl (by decide) rfl (fun ls hl => ?_)
  refine lv_iload_n hx hb dX4_firstError_10 rfl (lv_at hl 0 rfl) ?_
  refine lv_if_ne (tgt := 28) hx hb dX4_firstError_11 (by decide) (fun c11 => ?_) (fun c11 => ?_)
  · replace h := tw_t c11 h
    refine lv_aload_n hx hb dX4_firstError_28 rfl (lv_at hl 1 rfl) ?_
    refine va_get (D := G) (ci := 4) (v := .int r6.2.2.2.2.2.2.1) (C := RX4) (T := TX4) (N := 13) hx hb hts iX4_firstError_X4 hown hK hP 0 rfl rfl 5 (by decide) (hts _ qX4_firstError_1) (fun _ h9 => h9) rfl dX4_firstError_29 ?_
    exact hq H locs _ ls r6.2.2.2.2.2.2.1 (tw_rt (fun r => r.1 = r6.2.2.2.2.2.2.1) h rfl) rfl (tw_rt (fun r => va_P G vwCl (tw_wM cI ma r.2) H) h hP) hS dX4_firstError_32
  · replace h := tw_fn c11 h
    refine lv_aload_n hx hb dX4_firstError_14 rfl (lv_at hl 1 rfl) ?_
    refine va_get (D := G) (ci := 4) (v := .int r6.2.2.2.2.2.2.2.2.2.1) (C := RX4) (T := TX4) (N := 13) hx hb hts iX4_firstError_X4 hown hK hP 0 rfl rfl 8 (by decide) (hts _ qX4_firstError_2) (fun _ h9 => h9) rfl dX4_firstError_15 ?_
    refine lv_if_eq (tgt := 28) hx hb dX4_firstError_18 (by decide) (fun c18 => ?_) (fun c18 => ?_)
    · replace h := tw_t c18 h
      refine lv_aload_n hx hb dX4_firstError_28 rfl (lv_at hl 1 rfl) ?_
      refine va_get (D := G) (ci := 4) (v := .int r6.2.2.2.2.2.2.1) (C := RX4) (T := TX4) (N := 13) hx hb hts iX4_firstError_X4 hown hK hP 0 rfl rfl 5 (by decide) (hts _ qX4_firstError_1) (fun _ h9 => h9) rfl dX4_firstError_29 ?_
      exact hq H locs _ ls r6.2.2.2.2.2.2.1 (tw_rt (fun r => r.1 = r6.2.2.2.2.2.2.1) h rfl) rfl (tw_rt (fun r => va_P G vwCl (tw_wM cI ma r.2) H) h hP) hS dX4_firstError_32
    · replace h := tw_f c18 h
      refine lv_aload_n hx hb dX4_firstError_21 rfl (lv_at hl 1 rfl) ?_
      refine va_get (D := G) (ci := 4) (v := .int r6.2.2.2.2.2.2.2.2.1) (C := RX4) (T := TX4) (N := 13) hx hb hts iX4_firstError_X4 hown hK hP 0 rfl rfl 7 (by decide) (hts _ qX4_firstError_3) (fun _ h9 => h9) rfl dX4_firstError_22 ?_
      refine lv_goto (tgt := 32) hx hb dX4_firstError_25 (by decide) ?_
      exact hq H locs _ ls r6.2.2.2.2.2.2.2.2.1 (tw_rt (fun r => r.1 = r6.2.2.2.2.2.2.2.2.1) h rfl) rfl (tw_rt (fun r => va_P G vwCl (tw_wM cI ma r.2) H) h hP) hS dX4_firstError_32
abbrev rmX4_mayCome : Room := { frames := 0, cells := 0, slots := 0, locals := 0 }
set_option maxRecDepth 20000 in
theorem qX4_mayCome_0 : (Cond.fieldLink RX4 130 "TheatreWallModel" "tolds" "I") ∈ wsX4_mayCome := (List.mem_cons_of_mem _ (List.mem_append_left _ (List.mem_of_getElem? (i := 1) rfl)))
set_option maxRecDepth 20000 in
theorem qX4_mayCome_1 : (Cond.fieldLink RX4 22 "TheatreWallModel" "told" "[I") ∈ wsX4_mayCome := (List.mem_cons_of_mem _ (List.mem_append_left _ (List.mem_of_getElem? (i := 2) rfl)))
set_option maxRecDepth 20000 in
theorem qX4_mayCome_2 : (Cond.fieldLink RX4 7 "TheatreWallModel" "now" "[I") ∈ wsX4_mayCome := (List.mem_cons_of_mem _ (List.mem_append_left _ (List.mem_of_getElem? (i := 0) rfl)))
set_option maxRecDepth 20000 in
theorem iX4_mayCome_X4 : ∀ w ∈ u_ws RX4 TX4 13, w ∈ wsX4_mayCome := fun w h => (List.mem_cons_of_mem _ (List.mem_append_right _ h))
set_option maxHeartbeats 4000000 in
set_option maxRecDepth 100000 in
theorem mX4_mayCome (l : Launch) (G : va_G) (cI : ClassId) (ma : Nat → Nat) (M : tw_Md) (sz : Nat)  {rv : Int32} (h : fX4_mayCome M = some rv) : tw_Mi l yX4_mayCome wsX4_mayCome rmX4_mayCome G [(cI, .int)] (tw_wM cI ma M) [.ref (ma 0)] sz rv (tw_wM cI ma M) := by
  refine tw_ofi (ty := .boolean) (cc := cX4_mayCome) (maxL := 3) (own := RX4) (by decide) rfl rfl (Nat.le_of_ble_eq_true rfl) ?_
  intro p e s m args below meth c Q A ls H locs F hN hK hP hD hS hA hl hq
  obtain ⟨hx, hb, hml, hown, hts⟩ := id F
  have hl : lv_has ls 3 [(0, .ref (ma 0))] := hl
  unfold fX4_mayCome at h
  have L24 : ∀ (n24 : Nat) (v1 : Int32) (v2 : Int32) (H : Heap) (locs : List Loc) (ls : Array Slot), fX4_mayCome_24 M n24 v1 v2 = some rv → lv_has ls 3 [(0, .ref (ma 0)), (1, .int v1), (2, .int v2)] → va_P G vwCl (tw_wM cI ma M) H → va_D A (tw_wM cI ma M) → va_S A s.heap H locs → W p l e rmX4_mayCome s m args below meth c H locs 0 0 Q (F0 m 24 ls []) := by
    intro n24
    induction n24 with
    | zero =>
      intro v1 v2 H locs ls h
      rw [fX4_mayCome_24] at h
      cases h
    | succ n24 ih24 =>
      intro v1 v2 H locs ls h hl hP hD hS
      rw [fX4_mayCome_24] at h
      refine lv_iload_n hx hb dX4_mayCome_24 rfl (lv_at hl 2 rfl) ?_
      refine lv_aload_n hx hb dX4_mayCome_25 rfl (lv_at hl 0 rfl) ?_
      refine va_get (D := G) (ci := 4) (v := .int M.2.2.2.2.2.2.2.2.2.2.1) (C := RX4) (T := TX4) (N := 13) hx hb hts iX4_mayCome_X4 hown hK hP 0 rfl rfl 10 (by decide) (hts _ qX4_mayCome_0) (fun _ h9 => h9) rfl dX4_mayCome_26 ?_
      refine lv_icmp_ge (tgt := 70) hx hb dX4_mayCome_29 (by decide) (fun c29 => ?_) (fun c29 => ?_)
      · replace h := tw_t c29 h
        refine lv_iload_n hx hb dX4_mayCome_70 rfl (lv_at hl 1 rfl) ?_
        obtain ⟨g71, h⟩ := tw_qs h
        exact hq H locs _ ls v1 (tw_rt (fun r => r = v1) h rfl) (tw_nb g71) hP hS dX4_mayCome_71
      · replace h := tw_f c29 h
        refine lv_iload_n hx hb dX4_mayCome_32 rfl (lv_at hl 1 rfl) ?_
        refine lv_if_eq (tgt := 62) hx hb dX4_mayCome_33 (by decide) (fun c33 => ?_) (fun c33 => ?_)
        · replace h := tw_t c33 h
          refine lv_iconst (v := (0 : Int32)) hx hb dX4_mayCome_62 (by decide) ?_
          refine lv_istore_n (lv' := [(1, .int (0 : Int32)), (0, .ref (ma 0)), (2, .int v2)]) hx hb dX4_mayCome_63 rfl hl (by decide) rfl (fun ls hl => ?_)
          refine lv_iinc (v := (v2 + 1)) (lv' := [(2, .int (v2 + 1)), (1, .int (0 : Int32)), (0, .ref (ma 0))]) hx hb dX4_mayCome_64 hl (k := 2) rfl rfl (by decide) rfl (fun ls hl => ?_)
          refine lv_goto (tgt := 24) hx hb dX4_mayCome_67 (by decide) ?_
          exact ih24 (0 : Int32) (v2 + 1) H locs ls h (lv_sub hl [2, 1, 0] rfl) hP hD hS
        · replace h := tw_f c33 h
          refine lv_aload_n hx hb dX4_mayCome_36 rfl (lv_at hl 0 rfl) ?_
          refine va_get (D := G) (ci := 4) (v := .ref (ma 5)) (C := RX4) (T := TX4) (N := 13) hx hb hts iX4_mayCome_X4 hown hK hP 0 rfl rfl 9 (by decide) (hts _ qX4_mayCome_1) (fun _ h9 => h9) rfl dX4_mayCome_37 ?_
          refine lv_iconst (v := (4 : Int32)) hx hb dX4_mayCome_40 (by decide) ?_
          refine lv_iload_n hx hb dX4_mayCome_41 rfl (lv_at hl 2 rfl) ?_
          refine lv_imul hx hb dX4_mayCome_42 ?_
          refine lv_iconst (v := (3 : Int32)) hx hb dX4_mayCome_43 (by decide) ?_
          refine lv_iadd hx hb dX4_mayCome_44 ?_
          obtain ⟨g45, h⟩ := tw_gs h
          refine va_iald (f := M.2.2.2.2.2.2.2.2.2.1) (n := 124) hx hb hK hP 5 0 rfl rfl g45 dX4_mayCome_45 ?_
          refine lv_aload_n hx hb dX4_mayCome_46 rfl (lv_at hl 0 rfl) ?_
          refine va_get (D := G) (ci := 4) (v := .ref (ma 1)) (C := RX4) (T := TX4) (N := 13) hx hb hts iX4_mayCome_X4 hown hK hP 0 rfl rfl 0 (by decide) (hts _ qX4_mayCome_2) (fun _ h9 => h9) rfl dX4_mayCome_47 ?_
          refine lv_iconst (v := (0 : Int32)) hx hb dX4_mayCome_50 (by decide) ?_
          refine va_iald (f := M.1) (n := 70) hx hb hK hP 1 0 rfl rfl (tw_vin (by decide)) dX4_mayCome_51 ?_
          refine lv_iload_n hx hb dX4_mayCome_52 rfl (lv_at hl 2 rfl) ?_
          refine lv_iadd hx hb dX4_mayCome_53 ?_
          refine lv_ishr hx hb dX4_mayCome_54 ?_
          refine lv_if_ne (tgt := 62) hx hb dX4_mayCome_55 (by decide) (fun c55 => ?_) (fun c55 => ?_)
          · replace h := tw_t c55 h
            refine lv_iconst (v := (0 : Int32)) hx hb dX4_mayCome_62 (by decide) ?_
            refine lv_istore_n (lv' := [(1, .int (0 : Int32)), (0, .ref (ma 0)), (2, .int v2)]) hx hb dX4_mayCome_63 rfl hl (by decide) rfl (fun ls hl => ?_)
            refine lv_iinc (v := (v2 + 1)) (lv' := [(2, .int (v2 + 1)), (1, .int (0 : Int32)), (0, .ref (ma 0))]) hx hb dX4_mayCome_64 hl (k := 2) rfl rfl (by decide) rfl (fun ls hl => ?_)
            refine lv_goto (tgt := 24) hx hb dX4_mayCome_67 (by decide) ?_
            exact ih24 (0 : Int32) (v2 + 1) H locs ls h (lv_sub hl [2, 1, 0] rfl) hP hD hS
          · replace h := tw_fn c55 h
            refine lv_iconst (v := (1 : Int32)) hx hb dX4_mayCome_58 (by decide) ?_
            refine lv_goto (tgt := 63) hx hb dX4_mayCome_59 (by decide) ?_
            refine lv_istore_n (lv' := [(1, .int (1 : Int32)), (0, .ref (ma 0)), (2, .int v2)]) hx hb dX4_mayCome_63 rfl hl (by decide) rfl (fun ls hl => ?_)
            refine lv_iinc (v := (v2 + 1)) (lv' := [(2, .int (v2 + 1)), (1, .int (1 : Int32)), (0, .ref (ma 0))]) hx hb dX4_mayCome_64 hl (k := 2) rfl rfl (by decide) rfl (fun ls hl => ?_)
            refine lv_goto (tgt := 24) hx hb dX4_mayCome_67 (by decide) ?_
            exact ih24 (1 : Int32) (v2 + 1) H locs ls h (lv_sub hl [2, 1, 0] rfl) hP hD hS
  refine lv_aload_n hx hb dX4_mayCome_0 rfl (lv_at hl 0 rfl) ?_
  refine va_get (D := G) (ci := 4) (v := .ref (ma 1)) (C := RX4) (T := TX4) (N := 13) hx hb hts iX4_mayCome_X4 hown hK hP 0 rfl rfl 0 (by decide) (hts _ qX4_mayCome_2) (fun _ h9 => h9) rfl dX4_mayCome_1 ?_
  refine lv_iconst (v := (0 : Int32)) hx hb dX4_mayCome_4 (by decide) ?_
  refine va_iald (f := M.1) (n := 70) hx hb hK hP 1 0 rfl rfl (tw_vin (by decide)) dX4_mayCome_5 ?_
  refine lv_aload_n hx hb dX4_mayCome_6 rfl (lv_at hl 0 rfl) ?_
  refine va_get (D := G) (ci := 4) (v := .int M.2.2.2.2.2.2.2.2.2.2.1) (C := RX4) (T := TX4) (N := 13) hx hb hts iX4_mayCome_X4 hown hK hP 0 rfl rfl 10 (by decide) (hts _ qX4_mayCome_0) (fun _ h9 => h9) rfl dX4_mayCome_7 ?_
  refine lv_iadd hx hb dX4_mayCome_10 ?_
  refine lv_bipush (v := (12 : Int32)) hx hb dX4_mayCome_11 (by decide) ?_
  refine lv_icmp_gt (tgt := 20) hx hb dX4_mayCome_13 (by decide) (fun c13 => ?_) (fun c13 => ?_)
  · replace h := tw_t c13 h
    refine lv_iconst (v := (0 : Int32)) hx hb dX4_mayCome_20 (by decide) ?_
    refine lv_istore_n (lv' := [(1, .int (0 : Int32)), (0, .ref (ma 0))]) hx hb dX4_mayCome_21 rfl hl (by decide) rfl (fun ls hl => ?_)
    refine lv_iconst (v := (0 : Int32)) hx hb dX4_mayCome_22 (by decide) ?_
    refine lv_istore_n (lv' := [(2, .int (0 : Int32)), (1, .int (0 : Int32)), (0, .ref (ma 0))]) hx hb dX4_mayCome_23 rfl hl (by decide) rfl (fun ls hl => ?_)
    exact L24 512 (0 : Int32) (0 : Int32) H locs ls h (lv_sub hl [2, 1, 0] rfl) hP hD hS
  · replace h := tw_f c13 h
    refine lv_iconst (v := (1 : Int32)) hx hb dX4_mayCome_16 (by decide) ?_
    refine lv_goto (tgt := 21) hx hb dX4_mayCome_17 (by decide) ?_
    refine lv_istore_n (lv' := [(1, .int (1 : Int32)), (0, .ref (ma 0))]) hx hb dX4_mayCome_21 rfl hl (by decide) rfl (fun ls hl => ?_)
    refine lv_iconst (v := (0 : Int32)) hx hb dX4_mayCome_22 (by decide) ?_
    refine lv_istore_n (lv' := [(2, .int (0 : Int32)), (1, .int (1 : Int32)), (0, .ref (ma 0))]) hx hb dX4_mayCome_23 rfl hl (by decide) rfl (fun ls hl => ?_)
    exact L24 512 (1 : Int32) (0 : Int32) H locs ls h (lv_sub hl [2, 1, 0] rfl) hP hD hS
abbrev rmX4_addAll : Room := { frames := 5, cells := 0, slots := 0, locals := 108 }
set_option maxRecDepth 20000 in
theorem qX4_addAll_0 : (Cond.fieldLink RX4 130 "TheatreWallModel" "tolds" "I") ∈ wsX4_addAll := (List.mem_cons_of_mem _ (List.mem_append_left _ (List.mem_append_left _ (List.mem_of_getElem? (i := 2) rfl))))
set_option maxRecDepth 20000 in
theorem qX4_addAll_1 : (Cond.fieldLink RX4 7 "TheatreWallModel" "now" "[I") ∈ wsX4_addAll := (List.mem_cons_of_mem _ (List.mem_append_left _ (List.mem_append_left _ (List.mem_of_getElem? (i := 4) rfl))))
set_option maxRecDepth 20000 in
theorem qX4_addAll_2 : (Cond.fieldLink RX4 22 "TheatreWallModel" "told" "[I") ∈ wsX4_addAll := (List.mem_cons_of_mem _ (List.mem_append_left _ (List.mem_append_left _ (List.mem_of_getElem? (i := 3) rfl))))
set_option maxRecDepth 20000 in
theorem qX4_addAll_3 : (Cond.fieldLink RX4 31 "TheatreWallModel" "thrown" "I") ∈ wsX4_addAll := (List.mem_cons_of_mem _ (List.mem_append_left _ (List.mem_append_left _ (List.mem_of_getElem? (i := 0) rfl))))
set_option maxRecDepth 20000 in
theorem qX4_addAll_4 : (Cond.fieldLink RX4 113 "TheatreWallModel" "typed" "I") ∈ wsX4_addAll := (List.mem_cons_of_mem _ (List.mem_append_left _ (List.mem_append_left _ (List.mem_of_getElem? (i := 1) rfl))))
set_option maxRecDepth 20000 in
theorem iX4_addAll_X4 : ∀ w ∈ u_ws RX4 TX4 13, w ∈ wsX4_addAll := fun w h => (List.mem_cons_of_mem _ (List.mem_append_right _ h))
set_option maxHeartbeats 4000000 in
set_option maxRecDepth 100000 in
theorem mX4_addAll (l : Launch) (G : va_G) (cI : ClassId) (ma : Nat → Nat) (M : tw_Md) (sz : Nat)  {rv : Int32 × tw_Md} (h : fX4_addAll M = some rv) : tw_Mi l yX4_addAll wsX4_addAll rmX4_addAll G [(cI, .int)] (tw_wM cI ma M) [.ref (ma 0)] sz rv.1 (tw_wM cI ma rv.2) := by
  refine tw_ofi (ty := .int) (cc := cX4_addAll) (maxL := 2) (own := RX4) (by decide) rfl rfl (Nat.le_of_ble_eq_true rfl) ?_
  intro p e s m args below meth c Q A ls H locs F hN hK hP hD hS hA hl hq
  obtain ⟨hx, hb, hml, hown, hts⟩ := id F
  have hl : lv_has ls 2 [(0, .ref (ma 0))] := hl
  unfold fX4_addAll at h
  have L42 : ∀ (n42 : Nat) (v1 : Int32) (M : tw_Md) (H : Heap) (locs : List Loc) (ls : Array Slot), fX4_addAll_42 n42 v1 M = some rv → lv_has ls 2 [(0, .ref (ma 0)), (1, .int v1)] → va_P G vwCl (tw_wM cI ma M) H → va_D A (tw_wM cI ma M) → va_S A s.heap H locs → W p l e rmX4_addAll s m args below meth c H locs 0 0 Q (F0 m 42 ls []) := by
    intro n42
    induction n42 with
    | zero =>
      intro v1 M H locs ls h
      rw [fX4_addAll_42] at h
      cases h
    | succ n42 ih42 =>
      intro v1 M H locs ls h hl hP hD hS
      rw [fX4_addAll_42] at h
      refine lv_iload_n hx hb dX4_addAll_42 rfl (lv_at hl 1 rfl) ?_
      refine lv_aload_n hx hb dX4_addAll_43 rfl (lv_at hl 0 rfl) ?_
      refine va_get (D := G) (ci := 4) (v := .int M.2.2.2.2.2.2.2.2.2.2.1) (C := RX4) (T := TX4) (N := 13) hx hb hts iX4_addAll_X4 hown hK hP 0 rfl rfl 10 (by decide) (hts _ qX4_addAll_0) (fun _ h9 => h9) rfl dX4_addAll_44 ?_
      refine lv_icmp_ge (tgt := 98) hx hb dX4_addAll_47 (by decide) (fun c47 => ?_) (fun c47 => ?_)
      · replace h := tw_t c47 h
        refine lv_aload_n hx hb dX4_addAll_98 rfl (lv_at hl 0 rfl) ?_
        refine va_get (D := G) (ci := 4) (v := .ref (ma 1)) (C := RX4) (T := TX4) (N := 13) hx hb hts iX4_addAll_X4 hown hK hP 0 rfl rfl 0 (by decide) (hts _ qX4_addAll_1) (fun _ h9 => h9) rfl dX4_addAll_99 ?_
        refine lv_iconst (v := (0 : Int32)) hx hb dX4_addAll_102 (by decide) ?_
        refine va_iald (f := M.1) (n := 70) hx hb hK hP 1 0 rfl rfl (tw_vin (by decide)) dX4_addAll_103 ?_
        exact hq H locs _ ls (M.1 (0 : Int32).toNatClampNeg) (tw_rt (fun r => r.1 = (M.1 (0 : Int32).toNatClampNeg)) h rfl) rfl (tw_rt (fun r => va_P G vwCl (tw_wM cI ma r.2) H) h hP) hS dX4_addAll_104
      · replace h := tw_f c47 h
        refine lv_aload_n hx hb dX4_addAll_50 rfl (lv_at hl 0 rfl) ?_
        refine lv_aload_n hx hb dX4_addAll_51 rfl (lv_at hl 0 rfl) ?_
        refine va_get (D := G) (ci := 4) (v := .ref (ma 5)) (C := RX4) (T := TX4) (N := 13) hx hb hts iX4_addAll_X4 hown hK hP 0 rfl rfl 9 (by decide) (hts _ qX4_addAll_2) (fun _ h9 => h9) rfl dX4_addAll_52 ?_
        refine lv_iconst (v := (4 : Int32)) hx hb dX4_addAll_55 (by decide) ?_
        refine lv_iload_n hx hb dX4_addAll_56 rfl (lv_at hl 1 rfl) ?_
        refine lv_imul hx hb dX4_addAll_57 ?_
        obtain ⟨g58, h⟩ := tw_gs h
        refine va_iald (f := M.2.2.2.2.2.2.2.2.2.1) (n := 124) hx hb hK hP 5 0 rfl rfl g58 dX4_addAll_58 ?_
        refine lv_aload_n hx hb dX4_addAll_59 rfl (lv_at hl 0 rfl) ?_
        refine va_get (D := G) (ci := 4) (v := .ref (ma 5)) (C := RX4) (T := TX4) (N := 13) hx hb hts iX4_addAll_X4 hown hK hP 0 rfl rfl 9 (by decide) (hts _ qX4_addAll_2) (fun _ h9 => h9) rfl dX4_addAll_60 ?_
        refine lv_iconst (v := (4 : Int32)) hx hb dX4_addAll_63 (by decide) ?_
        refine lv_iload_n hx hb dX4_addAll_64 rfl (lv_at hl 1 rfl) ?_
        refine lv_imul hx hb dX4_addAll_65 ?_
        refine lv_iconst (v := (1 : Int32)) hx hb dX4_addAll_66 (by decide) ?_
        refine lv_iadd hx hb dX4_addAll_67 ?_
        obtain ⟨g68, h⟩ := tw_gs h
        refine va_iald (f := M.2.2.2.2.2.2.2.2.2.1) (n := 124) hx hb hK hP 5 0 rfl rfl g68 dX4_addAll_68 ?_
        refine lv_aload_n hx hb dX4_addAll_69 rfl (lv_at hl 0 rfl) ?_
        refine va_get (D := G) (ci := 4) (v := .ref (ma 5)) (C := RX4) (T := TX4) (N := 13) hx hb hts iX4_addAll_X4 hown hK hP 0 rfl rfl 9 (by decide) (hts _ qX4_addAll_2) (fun _ h9 => h9) rfl dX4_addAll_70 ?_
        refine lv_iconst (v := (4 : Int32)) hx hb dX4_addAll_73 (by decide) ?_
        refine lv_iload_n hx hb dX4_addAll_74 rfl (lv_at hl 1 rfl) ?_
        refine lv_imul hx hb dX4_addAll_75 ?_
        refine lv_iconst (v := (2 : Int32)) hx hb dX4_addAll_76 (by decide) ?_
        refine lv_iadd hx hb dX4_addAll_77 ?_
        obtain ⟨g78, h⟩ := tw_gs h
        refine va_iald (f := M.2.2.2.2.2.2.2.2.2.1) (n := 124) hx hb hK hP 5 0 rfl rfl g78 dX4_addAll_78 ?_
        refine lv_aload_n hx hb dX4_addAll_79 rfl (lv_at hl 0 rfl) ?_
        refine va_get (D := G) (ci := 4) (v := .ref (ma 5)) (C := RX4) (T := TX4) (N := 13) hx hb hts iX4_addAll_X4 hown hK hP 0 rfl rfl 9 (by decide) (hts _ qX4_addAll_2) (fun _ h9 => h9) rfl dX4_addAll_80 ?_
        refine lv_iconst (v := (4 : Int32)) hx hb dX4_addAll_83 (by decide) ?_
        refine lv_iload_n hx hb dX4_addAll_84 rfl (lv_at hl 1 rfl) ?_
        refine lv_imul hx hb dX4_addAll_85 ?_
        refine lv_iconst (v := (3 : Int32)) hx hb dX4_addAll_86 (by decide) ?_
        refine lv_iadd hx hb dX4_addAll_87 ?_
        obtain ⟨g88, h⟩ := tw_gs h
        refine va_iald (f := M.2.2.2.2.2.2.2.2.2.1) (n := 124) hx hb hK hP 5 0 rfl rfl g88 dX4_addAll_88 ?_
        obtain ⟨r89, e89, h⟩ := tw_bs h
        refine tw_callVvF (ws' := (tw_wM cI ma r89)) (As := [.int (M.2.2.2.2.2.2.2.2.2.1 ((4 : Int32) * v1).toNatClampNeg), .int (M.2.2.2.2.2.2.2.2.2.1 (((4 : Int32) * v1) + (1 : Int32)).toNatClampNeg), .int (M.2.2.2.2.2.2.2.2.2.1 (((4 : Int32) * v1) + (2 : Int32)).toNatClampNeg), .int (M.2.2.2.2.2.2.2.2.2.1 (((4 : Int32) * v1) + (3 : Int32)).toNatClampNeg)]) (rest := []) F hN hK hP hD hS hA (mX4_comes l G cI ma M H.size (M.2.2.2.2.2.2.2.2.2.1 ((4 : Int32) * v1).toNatClampNeg) (M.2.2.2.2.2.2.2.2.2.1 (((4 : Int32) * v1) + (1 : Int32)).toNatClampNeg) (M.2.2.2.2.2.2.2.2.2.1 (((4 : Int32) * v1) + (2 : Int32)).toNatClampNeg) (M.2.2.2.2.2.2.2.2.2.1 (((4 : Int32) * v1) + (3 : Int32)).toNatClampNeg) e89) (cwV 4 hts gX4_addAll_X4_comes rfl rfl rfl (by decide +kernel) ⟨(Nat.le_of_ble_eq_true rfl), (Nat.le_of_ble_eq_true rfl)⟩) rfl (r0 := 0) (ci := 4) rfl rfl rfl rfl hl.1 rfl (Nat.le_of_ble_eq_true rfl) dX4_addAll_89 ⟨Nat.zero_le _, Nat.zero_le _⟩ (fun H locs hP hD hS => ?_)
        refine lv_iinc (v := (v1 + 1)) (lv' := [(1, .int (v1 + 1)), (0, .ref (ma 0))]) hx hb dX4_addAll_92 hl (k := 1) rfl rfl (by decide) rfl (fun ls hl => ?_)
        refine lv_goto (tgt := 42) hx hb dX4_addAll_95 (by decide) ?_
        exact ih42 (v1 + 1) r89 H locs ls h (lv_sub hl [1, 0] rfl) hP hD hS
  refine lv_aload_n hx hb dX4_addAll_0 rfl (lv_at hl 0 rfl) ?_
  refine lv_iconst (v := (0 : Int32)) hx hb dX4_addAll_1 (by decide) ?_
  refine tw_put (ws' := (tw_wM cI ma (M.1, M.2.1, M.2.2.1, M.2.2.2.1, M.2.2.2.2.1, M.2.2.2.2.2.1, (0 : Int32), M.2.2.2.2.2.2.2.1, M.2.2.2.2.2.2.2.2.1, M.2.2.2.2.2.2.2.2.2.1, M.2.2.2.2.2.2.2.2.2.2.1, M.2.2.2.2.2.2.2.2.2.2.2.1, M.2.2.2.2.2.2.2.2.2.2.2.2))) (D := G) (ci := 4) (v := .int (0 : Int32)) (ty := .int) (C := RX4) (T := TX4) (N := 13) hx hb hts iX4_addAll_X4 tyX4 tyX4_ok nmX4 hown hK hP hD hS 0 rfl rfl 6 (by decide) (hts _ qX4_addAll_3) (fun _ h9 => h9) rfl (by decide +kernel) rfl rfl (Nat.le_of_ble_eq_true rfl) dX4_addAll_2 rfl (fun H locs hP hD hS => ?_)
  refine lv_aload_n hx hb dX4_addAll_5 rfl (lv_at hl 0 rfl) ?_
  obtain ⟨r6, e6, h⟩ := tw_bs h
  refine tw_callViF (ws' := (tw_wM cI ma r6.2)) (As := []) (rest := []) F hN hK hP hD hS hA (mX4_isText l G cI ma (M.1, M.2.1, M.2.2.1, M.2.2.2.1, M.2.2.2.2.1, M.2.2.2.2.2.1, (0 : Int32), M.2.2.2.2.2.2.2.1, M.2.2.2.2.2.2.2.2.1, M.2.2.2.2.2.2.2.2.2.1, M.2.2.2.2.2.2.2.2.2.2.1, M.2.2.2.2.2.2.2.2.2.2.2.1, M.2.2.2.2.2.2.2.2.2.2.2.2) H.size e6) (cwV 0 hts gX4_addAll_X4_isText rfl rfl rfl (by decide +kernel) ⟨(Nat.le_of_ble_eq_true rfl), (Nat.le_of_ble_eq_true rfl)⟩) rfl (r0 := 0) (ci := 4) rfl rfl rfl rfl hl.1 rfl (Nat.le_of_ble_eq_true rfl) dX4_addAll_6 ⟨Nat.zero_le _, Nat.zero_le _⟩ (fun H locs hP hD hS => ?_)
  refine lv_if_ne (tgt := 18) hx hb dX4_addAll_9 (by decide) (fun c9 => ?_) (fun c9 => ?_)
  · replace h := tw_t c9 h
    refine lv_aload_n hx hb dX4_addAll_18 rfl (lv_at hl 0 rfl) ?_
    obtain ⟨r19, e19, h⟩ := tw_bs h
    refine tw_callViF (ws' := (tw_wM cI ma r6.2)) (As := []) (rest := []) F hN hK hP hD hS hA (mX4_mayCome l G cI ma r6.2 H.size e19) (cwV 0 hts gX4_addAll_X4_mayCome rfl rfl rfl (by decide +kernel) ⟨(Nat.le_of_ble_eq_true rfl), (Nat.le_of_ble_eq_true rfl)⟩) rfl (r0 := 0) (ci := 4) rfl rfl rfl rfl hl.1 rfl (Nat.le_of_ble_eq_true rfl) dX4_addAll_19 ⟨Nat.zero_le _, Nat.zero_le _⟩ (fun H locs hP hD hS => ?_)
    refine lv_if_ne (tgt := 31) hx hb dX4_addAll_22 (by decide) (fun c22 => ?_) (fun c22 => ?_)
    · replace h := tw_t c22 h
      refine lv_aload_n hx hb dX4_addAll_31 rfl (lv_at hl 0 rfl) ?_
      obtain ⟨r32, e32, h⟩ := tw_bs h
      refine tw_callVvF (ws' := (tw_wM cI ma r32)) (As := []) (rest := []) F hN hK hP hD hS hA (mX4_saves l G cI ma r6.2 H.size e32) (cwV 0 hts gX4_addAll_X4_saves rfl rfl rfl (by decide +kernel) ⟨(Nat.le_of_ble_eq_true rfl), (Nat.le_of_ble_eq_true rfl)⟩) rfl (r0 := 0) (ci := 4) rfl rfl rfl rfl hl.1 rfl (Nat.le_of_ble_eq_true rfl) dX4_addAll_32 ⟨Nat.zero_le _, Nat.zero_le _⟩ (fun H locs hP hD hS => ?_)
      refine lv_aload_n hx hb dX4_addAll_35 rfl (lv_at hl 0 rfl) ?_
      refine lv_iconst (v := (0 : Int32)) hx hb dX4_addAll_36 (by decide) ?_
      refine tw_put (ws' := (tw_wM cI ma (r32.1, r32.2.1, r32.2.2.1, r32.2.2.2.1, r32.2.2.2.2.1, (0 : Int32), r32.2.2.2.2.2.2.1, r32.2.2.2.2.2.2.2.1, r32.2.2.2.2.2.2.2.2.1, r32.2.2.2.2.2.2.2.2.2.1, r32.2.2.2.2.2.2.2.2.2.2.1, r32.2.2.2.2.2.2.2.2.2.2.2.1, r32.2.2.2.2.2.2.2.2.2.2.2.2))) (D := G) (ci := 4) (v := .int (0 : Int32)) (ty := .int) (C := RX4) (T := TX4) (N := 13) hx hb hts iX4_addAll_X4 tyX4 tyX4_ok nmX4 hown hK hP hD hS 0 rfl rfl 5 (by decide) (hts _ qX4_addAll_4) (fun _ h9 => h9) rfl (by decide +kernel) rfl rfl (Nat.le_of_ble_eq_true rfl) dX4_addAll_37 rfl (fun H locs hP hD hS => ?_)
      refine lv_iconst (v := (0 : Int32)) hx hb dX4_addAll_40 (by decide) ?_
      refine lv_istore_n (lv' := [(1, .int (0 : Int32)), (0, .ref (ma 0))]) hx hb dX4_addAll_41 rfl hl (by decide) rfl (fun ls hl => ?_)
      exact L42 512 (0 : Int32) (r32.1, r32.2.1, r32.2.2.1, r32.2.2.2.1, r32.2.2.2.2.1, (0 : Int32), r32.2.2.2.2.2.2.1, r32.2.2.2.2.2.2.2.1, r32.2.2.2.2.2.2.2.2.1, r32.2.2.2.2.2.2.2.2.2.1, r32.2.2.2.2.2.2.2.2.2.2.1, r32.2.2.2.2.2.2.2.2.2.2.2.1, r32.2.2.2.2.2.2.2.2.2.2.2.2) H locs ls h (lv_sub hl [1, 0] rfl) hP hD hS
    · replace h := tw_fn c22 h
      refine lv_aload_n hx hb dX4_addAll_25 rfl (lv_at hl 0 rfl) ?_
      refine lv_iconst (v := (2 : Int32)) hx hb dX4_addAll_26 (by decide) ?_
      obtain ⟨r27, e27, h⟩ := tw_bs h
      refine tw_callViF (ws' := (tw_wM cI ma r27.2)) (As := [.int (2 : Int32)]) (rest := []) F hN hK hP hD hS hA (mX4_fails l G cI ma r6.2 H.size (2 : Int32) e27) (cwV 1 hts gX4_addAll_X4_fails rfl rfl rfl (by decide +kernel) ⟨(Nat.le_of_ble_eq_true rfl), (Nat.le_of_ble_eq_true rfl)⟩) rfl (r0 := 0) (ci := 4) rfl rfl rfl rfl hl.1 rfl (Nat.le_of_ble_eq_true rfl) dX4_addAll_27 ⟨Nat.zero_le _, Nat.zero_le _⟩ (fun H locs hP hD hS => ?_)
      exact hq H locs _ ls r27.1 (tw_rt (fun r => r.1 = r27.1) h rfl) rfl (tw_rt (fun r => va_P G vwCl (tw_wM cI ma r.2) H) h hP) hS dX4_addAll_30
  · replace h := tw_fn c9 h
    refine lv_aload_n hx hb dX4_addAll_12 rfl (lv_at hl 0 rfl) ?_
    refine lv_iconst (v := (1 : Int32)) hx hb dX4_addAll_13 (by decide) ?_
    obtain ⟨r14, e14, h⟩ := tw_bs h
    refine tw_callViF (ws' := (tw_wM cI ma r14.2)) (As := [.int (1 : Int32)]) (rest := []) F hN hK hP hD hS hA (mX4_fails l G cI ma r6.2 H.size (1 : Int32) e14) (cwV 1 hts gX4_addAll_X4_fails rfl rfl rfl (by decide +kernel) ⟨(Nat.le_of_ble_eq_true rfl), (Nat.le_of_ble_eq_true rfl)⟩) rfl (r0 := 0) (ci := 4) rfl rfl rfl rfl hl.1 rfl (Nat.le_of_ble_eq_true rfl) dX4_addAll_14 ⟨Nat.zero_le _, Nat.zero_le _⟩ (fun H locs hP hD hS => ?_)
    exact hq H locs _ ls r14.1 (tw_rt (fun r => r.1 = r14.1) h rfl) rfl (tw_rt (fun r => va_P G vwCl (tw_wM cI ma r.2) H) h hP) hS dX4_addAll_17
