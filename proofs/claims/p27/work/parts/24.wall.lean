abbrev rmX3_add : Room := { frames := 4, cells := 0, slots := 0, locals := 103 }
set_option maxRecDepth 20000 in
theorem qX3_add_0 : (Cond.fieldLink RX3 10 "TheatreWall" "now" "LTheatreWall$State;") ∈ wsX3_add := (List.mem_cons_of_mem _ (List.mem_append_left _ (List.mem_append_left _ (List.mem_append_left _ (List.mem_append_left _ (List.mem_append_left _ (List.mem_append_left _ (List.mem_of_getElem? (i := 4) rfl))))))))
set_option maxRecDepth 20000 in
theorem qX3_add_1 : (Cond.fieldLink RX3 61 "TheatreWall$State" "size" "I") ∈ wsX3_add := (List.mem_cons_of_mem _ (List.mem_append_left _ (List.mem_append_left _ (List.mem_append_left _ (List.mem_append_left _ (List.mem_append_left _ (List.mem_append_left _ (List.mem_of_getElem? (i := 5) rfl))))))))
set_option maxRecDepth 20000 in
theorem qX3_add_2 : (Cond.fieldLink RX3 19 "TheatreWall" "plan" "LTheatreWall$Plan;") ∈ wsX3_add := (List.mem_cons_of_mem _ (List.mem_append_left _ (List.mem_append_left _ (List.mem_append_left _ (List.mem_append_left _ (List.mem_append_left _ (List.mem_append_left _ (List.mem_of_getElem? (i := 6) rfl))))))))
set_option maxRecDepth 20000 in
theorem iX3_add_X3 : ∀ w ∈ u_ws RX3 TX3 8, w ∈ wsX3_add := fun w h => (List.mem_cons_of_mem _ (List.mem_append_left _ (List.mem_append_left _ (List.mem_append_left _ (List.mem_append_left _ (List.mem_append_right _ h))))))
set_option maxRecDepth 20000 in
theorem iX3_add_X1 : ∀ w ∈ u_ws RX1 TX1 9, w ∈ wsX3_add := fun w h => (List.mem_cons_of_mem _ (List.mem_append_left _ (List.mem_append_left _ (List.mem_append_left _ (List.mem_append_right _ h)))))
set_option maxHeartbeats 4000000 in
set_option maxRecDepth 100000 in
theorem mX3_add (l : Launch) (G : va_G) (cI : ClassId) (cQ : ClassId) (a na pa ta qa xa : Nat → Nat) (z : Nat → Nat → Nat) (Y : tw_Wl) (sz : Nat) (p1 : Int32) (p2 : Int32) (p3 : Int32) {rv : Nat × Int32 × tw_Wl} (h : fX3_add Y p1 p2 p3 = some rv) (hk : rv.1 = 0) : tw_Mi l yX3_add wsX3_add rmX3_add G [(cI, .int), (cQ, .object RX1)] (tw_wW cI cQ a na pa ta qa xa z Y) [.ref (a 0), .int p1, .int p2, .int p3] sz rv.2.1 (tw_wW cI cQ a na pa ta qa xa z rv.2.2) := by
  refine tw_ofi (ty := .int) (cc := cX3_add) (maxL := 4) (own := RX3) (by decide) rfl rfl (Nat.le_of_ble_eq_true rfl) ?_
  intro p e s m args below meth c Q A ls H locs F hN hK hP hD hS hA hl hq
  obtain ⟨hx, hb, hml, hown, hts⟩ := id F
  have hl : lv_has ls 4 [(0, .ref (a 0)), (1, .int p1), (2, .int p2), (3, .int p3)] := hl
  unfold fX3_add at h
  refine lv_iload_n hx hb dX3_add_0 rfl (lv_at hl 1 rfl) ?_
  obtain ⟨r1, e1, h⟩ := tw_bs h
  refine tw_callSi (ws' := (tw_wW cI cQ a na pa ta qa xa z Y)) (As := [.int p1]) (rest := []) F hN hK hP hD hS hA (mX3_isLength l G cI H.size p1 e1) (va_cwS 1 hts gX3_add_X3_isLength rfl rfl rfl (by decide +kernel) ⟨(Nat.le_of_ble_eq_true rfl), (Nat.le_of_ble_eq_true rfl)⟩) [0] rfl [] (by decide) rfl rfl rfl rfl hl.1 rfl (Nat.le_of_ble_eq_true rfl) dX3_add_1 ⟨Nat.zero_le _, Nat.zero_le _⟩ (fun H locs hP hD hS => ?_)
  refine lv_if_eq (tgt := 21) hx hb dX3_add_4 (by decide) (fun c4 => ?_) (fun c4 => ?_)
  · replace h := tw_t c4 h
    exact tw_thr h hk (by decide)
  · replace h := tw_f c4 h
    refine lv_iload_n hx hb dX3_add_7 rfl (lv_at hl 2 rfl) ?_
    obtain ⟨r8, e8, h⟩ := tw_bs h
    refine tw_callSi (ws' := (tw_wW cI cQ a na pa ta qa xa z Y)) (As := [.int p2]) (rest := []) F hN hK hP hD hS hA (mX3_isPersonOrNone l G cI H.size p2 e8) (va_cwS 1 hts gX3_add_X3_isPersonOrNone rfl rfl rfl (by decide +kernel) ⟨(Nat.le_of_ble_eq_true rfl), (Nat.le_of_ble_eq_true rfl)⟩) [0] rfl [] (by decide) rfl rfl rfl rfl hl.1 rfl (Nat.le_of_ble_eq_true rfl) dX3_add_8 ⟨Nat.zero_le _, Nat.zero_le _⟩ (fun H locs hP hD hS => ?_)
    refine lv_if_eq (tgt := 21) hx hb dX3_add_11 (by decide) (fun c11 => ?_) (fun c11 => ?_)
    · replace h := tw_t c11 h
      exact tw_thr h hk (by decide)
    · replace h := tw_f c11 h
      refine lv_iload_n hx hb dX3_add_14 rfl (lv_at hl 3 rfl) ?_
      obtain ⟨r15, e15, h⟩ := tw_bs h
      refine tw_callSi (ws' := (tw_wW cI cQ a na pa ta qa xa z Y)) (As := [.int p3]) (rest := []) F hN hK hP hD hS hA (mX3_isHallOrNone l G cI H.size p3 e15) (va_cwS 1 hts gX3_add_X3_isHallOrNone rfl rfl rfl (by decide +kernel) ⟨(Nat.le_of_ble_eq_true rfl), (Nat.le_of_ble_eq_true rfl)⟩) [0] rfl [] (by decide) rfl rfl rfl rfl hl.1 rfl (Nat.le_of_ble_eq_true rfl) dX3_add_15 ⟨Nat.zero_le _, Nat.zero_le _⟩ (fun H locs hP hD hS => ?_)
      refine lv_if_ne (tgt := 29) hx hb dX3_add_18 (by decide) (fun c18 => ?_) (fun c18 => ?_)
      · replace h := tw_t c18 h
        refine lv_aload_n hx hb dX3_add_29 rfl (lv_at hl 0 rfl) ?_
        refine va_get (D := G) (ci := 3) (v := .ref (na 0)) (C := RX3) (T := TX3) (N := 8) hx hb hts iX3_add_X3 hown hK hP 0 rfl rfl 0 (by decide) (hts _ qX3_add_0) (fun _ h9 => h9) rfl dX3_add_30 ?_
        refine va_get (D := G) (ci := 1) (v := .int Y.1.2.2.2.2.2.2.2.1) (C := RX1) (T := TX1) (N := 9) hx hb hts iX3_add_X1 hown hK hP 3 rfl rfl 7 (by decide) (hts _ qX3_add_1) (fun _ h9 => h9) rfl dX3_add_33 ?_
        refine lv_bipush (v := (12 : Int32)) hx hb dX3_add_36 (by decide) ?_
        refine lv_icmp_lt (tgt := 49) hx hb dX3_add_38 (by decide) (fun c38 => ?_) (fun c38 => ?_)
        · replace h := tw_t c38 h
          refine lv_aload_n hx hb dX3_add_49 rfl (lv_at hl 0 rfl) ?_
          obtain ⟨r50, e50, h⟩ := tw_bs h
          refine tw_callVvF (ws' := (tw_wW cI cQ a na pa ta qa xa z r50)) (As := []) (rest := []) F hN hK hP hD hS hA (mX3_saveState l G cI cQ a na pa ta qa xa z Y H.size e50) (cwV 0 hts gX3_add_X3_saveState rfl rfl rfl (by decide +kernel) ⟨(Nat.le_of_ble_eq_true rfl), (Nat.le_of_ble_eq_true rfl)⟩) rfl (r0 := 0) (ci := 3) rfl rfl rfl rfl hl.1 rfl (Nat.le_of_ble_eq_true rfl) dX3_add_50 ⟨Nat.zero_le _, Nat.zero_le _⟩ (fun H locs hP hD hS => ?_)
          refine lv_aload_n hx hb dX3_add_53 rfl (lv_at hl 0 rfl) ?_
          refine va_get (D := G) (ci := 3) (v := .ref (na 0)) (C := RX3) (T := TX3) (N := 8) hx hb hts iX3_add_X3 hown hK hP 0 rfl rfl 0 (by decide) (hts _ qX3_add_0) (fun _ h9 => h9) rfl dX3_add_54 ?_
          refine lv_iload_n hx hb dX3_add_57 rfl (lv_at hl 1 rfl) ?_
          refine lv_iload_n hx hb dX3_add_58 rfl (lv_at hl 2 rfl) ?_
          refine lv_iload_n hx hb dX3_add_59 rfl (lv_at hl 3 rfl) ?_
          obtain ⟨r60, e60, h⟩ := tw_bs h
          refine tw_callVv (ws' := (tw_wW cI cQ a na pa ta qa xa z (r60, r50.2.1, r50.2.2.1, r50.2.2.2.1, r50.2.2.2.2.1, r50.2.2.2.2.2.1, r50.2.2.2.2.2.2.1, r50.2.2.2.2.2.2.2.1, r50.2.2.2.2.2.2.2.2))) (As := [.int p1, .int p2, .int p3]) (rest := []) F hN hK hP hD hS hA (mX1_appendTask l G cI na r50.1 H.size p1 p2 p3 e60) (cwV 3 hts gX3_add_X1_appendTask rfl rfl rfl (by decide +kernel) ⟨(Nat.le_of_ble_eq_true rfl), (Nat.le_of_ble_eq_true rfl)⟩) [0] rfl [3, 4, 5, 6, 7, 8, 9, 10] tw_cN_nd tw_cN_C rfl tw_cN_M (r0 := 0) (ci := 1) rfl rfl rfl rfl hl.1 rfl (Nat.le_of_ble_eq_true rfl) dX3_add_60 ⟨Nat.zero_le _, Nat.zero_le _⟩ (fun H locs hP hD hS => ?_)
          refine lv_aload_n hx hb dX3_add_63 rfl (lv_at hl 0 rfl) ?_
          refine va_get (D := G) (ci := 3) (v := .ref (pa 0)) (C := RX3) (T := TX3) (N := 8) hx hb hts iX3_add_X3 hown hK hP 0 rfl rfl 1 (by decide) (hts _ qX3_add_2) (fun _ h9 => h9) rfl dX3_add_64 ?_
          refine lv_aload_n hx hb dX3_add_67 rfl (lv_at hl 0 rfl) ?_
          refine va_get (D := G) (ci := 3) (v := .ref (na 0)) (C := RX3) (T := TX3) (N := 8) hx hb hts iX3_add_X3 hown hK hP 0 rfl rfl 0 (by decide) (hts _ qX3_add_0) (fun _ h9 => h9) rfl dX3_add_68 ?_
          obtain ⟨r71, e71, h⟩ := tw_bs h
          refine tw_callVv (ws' := (tw_wW cI cQ a na pa ta qa xa z (r60, r71, r50.2.2.1, r50.2.2.2.1, r50.2.2.2.2.1, r50.2.2.2.2.2.1, r50.2.2.2.2.2.2.1, r50.2.2.2.2.2.2.2.1, r50.2.2.2.2.2.2.2.2))) (As := [.ref (na 0)]) (rest := []) F hN hK hP hD hS hA (mX0_lay l G cI pa na r50.2.1 r60 H.size e71) (cwV 1 hts gX3_add_X0_lay rfl rfl rfl (by decide +kernel) ⟨(Nat.le_of_ble_eq_true rfl), (Nat.le_of_ble_eq_true rfl)⟩) [0] rfl [11, 12, 13, 3, 4, 5, 6, 7, 8, 9, 10] tw_cPN_nd tw_cPN_C rfl tw_cPN_M (r0 := 0) (ci := 0) rfl rfl rfl rfl hl.1 rfl (Nat.le_of_ble_eq_true rfl) dX3_add_71 ⟨Nat.zero_le _, Nat.zero_le _⟩ (fun H locs hP hD hS => ?_)
          refine lv_aload_n hx hb dX3_add_74 rfl (lv_at hl 0 rfl) ?_
          refine va_get (D := G) (ci := 3) (v := .ref (na 0)) (C := RX3) (T := TX3) (N := 8) hx hb hts iX3_add_X3 hown hK hP 0 rfl rfl 0 (by decide) (hts _ qX3_add_0) (fun _ h9 => h9) rfl dX3_add_75 ?_
          refine va_get (D := G) (ci := 1) (v := .int r60.2.2.2.2.2.2.2.1) (C := RX1) (T := TX1) (N := 9) hx hb hts iX3_add_X1 hown hK hP 3 rfl rfl 7 (by decide) (hts _ qX3_add_1) (fun _ h9 => h9) rfl dX3_add_78 ?_
          refine lv_iconst (v := (1 : Int32)) hx hb dX3_add_81 (by decide) ?_
          refine lv_isub hx hb dX3_add_82 ?_
          exact hq H locs _ ls (r60.2.2.2.2.2.2.2.1 - (1 : Int32)) (tw_rt (fun r => r.2.1 = (r60.2.2.2.2.2.2.2.1 - (1 : Int32))) h rfl) rfl (tw_rt (fun r => va_P G vwCl (tw_wW cI cQ a na pa ta qa xa z r.2.2) H) h hP) hS dX3_add_83
        · replace h := tw_f c38 h
          exact tw_thr h hk (by decide)
      · replace h := tw_fn c18 h
        exact tw_thr h hk (by decide)
abbrev rxX3_add : Room := { frames := 6, cells := 1, slots := 6, locals := 103 }
set_option maxRecDepth 20000 in
theorem qbX3_add_0 : (Cond.classLink RX3 58 "java/lang/IllegalArgumentException") ∈ wsX3_add := (List.mem_cons_of_mem _ (List.mem_append_left _ (List.mem_append_left _ (List.mem_append_left _ (List.mem_append_left _ (List.mem_append_left _ (List.mem_append_left _ (List.mem_of_getElem? (i := 0) rfl))))))))
set_option maxRecDepth 20000 in
theorem qbX3_add_1 : (Cond.initialized "java/lang/IllegalArgumentException") ∈ wsX3_add := (List.mem_cons_of_mem _ (List.mem_append_left _ (List.mem_append_left _ (List.mem_append_left _ (List.mem_append_left _ (List.mem_append_left _ (List.mem_append_left _ (List.mem_of_getElem? (i := 1) rfl))))))))
set_option maxRecDepth 20000 in
theorem qbX3_add_2 : (Cond.fieldLink RX3 10 "TheatreWall" "now" "LTheatreWall$State;") ∈ wsX3_add := (List.mem_cons_of_mem _ (List.mem_append_left _ (List.mem_append_left _ (List.mem_append_left _ (List.mem_append_left _ (List.mem_append_left _ (List.mem_append_left _ (List.mem_of_getElem? (i := 4) rfl))))))))
set_option maxRecDepth 20000 in
theorem qbX3_add_3 : (Cond.fieldLink RX3 61 "TheatreWall$State" "size" "I") ∈ wsX3_add := (List.mem_cons_of_mem _ (List.mem_append_left _ (List.mem_append_left _ (List.mem_append_left _ (List.mem_append_left _ (List.mem_append_left _ (List.mem_append_left _ (List.mem_of_getElem? (i := 5) rfl))))))))
set_option maxRecDepth 20000 in
theorem qbX3_add_4 : (Cond.fieldLink RX3 19 "TheatreWall" "plan" "LTheatreWall$Plan;") ∈ wsX3_add := (List.mem_cons_of_mem _ (List.mem_append_left _ (List.mem_append_left _ (List.mem_append_left _ (List.mem_append_left _ (List.mem_append_left _ (List.mem_append_left _ (List.mem_of_getElem? (i := 6) rfl))))))))
set_option maxRecDepth 20000 in
theorem qbX3_add_5 : (Cond.classLink RX3 64 "java/lang/IllegalStateException") ∈ wsX3_add := (List.mem_cons_of_mem _ (List.mem_append_left _ (List.mem_append_left _ (List.mem_append_left _ (List.mem_append_left _ (List.mem_append_left _ (List.mem_append_left _ (List.mem_of_getElem? (i := 2) rfl))))))))
set_option maxRecDepth 20000 in
theorem qbX3_add_6 : (Cond.initialized "java/lang/IllegalStateException") ∈ wsX3_add := (List.mem_cons_of_mem _ (List.mem_append_left _ (List.mem_append_left _ (List.mem_append_left _ (List.mem_append_left _ (List.mem_append_left _ (List.mem_append_left _ (List.mem_of_getElem? (i := 3) rfl))))))))
set_option maxRecDepth 20000 in
theorem ibX3_add_X3 : ∀ w ∈ u_ws RX3 TX3 8, w ∈ wsX3_add := fun w h => (List.mem_cons_of_mem _ (List.mem_append_left _ (List.mem_append_left _ (List.mem_append_left _ (List.mem_append_left _ (List.mem_append_right _ h))))))
set_option maxRecDepth 20000 in
theorem ibX3_add_X1 : ∀ w ∈ u_ws RX1 TX1 9, w ∈ wsX3_add := fun w h => (List.mem_cons_of_mem _ (List.mem_append_left _ (List.mem_append_left _ (List.mem_append_left _ (List.mem_append_right _ h)))))
set_option maxHeartbeats 4000000 in
set_option maxRecDepth 100000 in
theorem xX3_add (l : Launch) (hst : l.stackTraces = false) (G : va_G) (cI : ClassId) (cQ : ClassId) (a na pa ta qa xa : Nat → Nat) (z : Nat → Nat → Nat) (Y : tw_Wl) (sz : Nat) (p1 : Int32) (p2 : Int32) (p3 : Int32) {rv : Nat × Int32 × tw_Wl} (h : fX3_add Y p1 p2 p3 = some rv) (hk : ¬ rv.1 = 0) {Qc : Array Value → State → Outcome → State → Prop} : tw_Mx l yX3_add wsX3_add rxX3_add G [(cI, .int), (cQ, .object RX1)] (tw_wW cI cQ a na pa ta qa xa z Y) [.ref (a 0), .int p1, .int p2, .int p3] sz (tw_en rv.1) (tw_wW cI cQ a na pa ta qa xa z rv.2.2) Qc := by
  refine tw_ofx hst (cc := cX3_add) (maxL := 4) (own := RX3) (by decide) rfl rfl (Nat.le_of_ble_eq_true rfl) (Nat.le_of_ble_eq_true rfl) (Nat.le_of_ble_eq_true rfl) (Nat.le_of_ble_eq_true rfl) (Nat.le_of_ble_eq_true rfl) ?_
  intro p e s m args below meth c Q A ls H locs F hN hK hP hD hS hA hl hNX hq
  obtain ⟨hx, hb, hml, hown, hts⟩ := id F
  have hl : lv_has ls 4 [(0, .ref (a 0)), (1, .int p1), (2, .int p2), (3, .int p3)] := hl
  unfold fX3_add at h
  refine lv_iload_n hx hb dX3_add_0 rfl (lv_at hl 1 rfl) ?_
  obtain ⟨r1, e1, h⟩ := tw_bs h
  refine tw_callSi (ws' := (tw_wW cI cQ a na pa ta qa xa z Y)) (As := [.int p1]) (rest := []) F hN hK hP hD hS hA (mX3_isLength l G cI H.size p1 e1) (va_cwS 1 hts gX3_add_X3_isLength rfl rfl rfl (by decide +kernel) ⟨(Nat.le_of_ble_eq_true rfl), (Nat.le_of_ble_eq_true rfl)⟩) [0] rfl [] (by decide) rfl rfl rfl rfl hl.1 rfl (Nat.le_of_ble_eq_true rfl) dX3_add_1 ⟨Nat.zero_le _, Nat.zero_le _⟩ (fun H locs hP hD hS => ?_)
  refine lv_if_eq (tgt := 21) hx hb dX3_add_4 (by decide) (fun c4 => ?_) (fun c4 => ?_)
  · replace h := tw_t c4 h
    exact hq H locs 21 ls tw_E1 58 60 (tw_rt (fun r => tw_E1 = tw_en r.1) h rfl) (by decide) (hts _ qbX3_add_0) (hts _ qbX3_add_1) (vx_hat (fun w h => hts w (List.mem_cons_of_mem _ (List.mem_append_left _ (List.mem_append_right _ h)))) tw_xb1 hNX.words) tw_xg1 dX3_add_21 dX3_add_24 dX3_add_25 dX3_add_28 hl.1 (tw_rt (fun r => va_P G vwCl (tw_wW cI cQ a na pa ta qa xa z r.2.2) H) h hP) hS
  · replace h := tw_f c4 h
    refine lv_iload_n hx hb dX3_add_7 rfl (lv_at hl 2 rfl) ?_
    obtain ⟨r8, e8, h⟩ := tw_bs h
    refine tw_callSi (ws' := (tw_wW cI cQ a na pa ta qa xa z Y)) (As := [.int p2]) (rest := []) F hN hK hP hD hS hA (mX3_isPersonOrNone l G cI H.size p2 e8) (va_cwS 1 hts gX3_add_X3_isPersonOrNone rfl rfl rfl (by decide +kernel) ⟨(Nat.le_of_ble_eq_true rfl), (Nat.le_of_ble_eq_true rfl)⟩) [0] rfl [] (by decide) rfl rfl rfl rfl hl.1 rfl (Nat.le_of_ble_eq_true rfl) dX3_add_8 ⟨Nat.zero_le _, Nat.zero_le _⟩ (fun H locs hP hD hS => ?_)
    refine lv_if_eq (tgt := 21) hx hb dX3_add_11 (by decide) (fun c11 => ?_) (fun c11 => ?_)
    · replace h := tw_t c11 h
      exact hq H locs 21 ls tw_E1 58 60 (tw_rt (fun r => tw_E1 = tw_en r.1) h rfl) (by decide) (hts _ qbX3_add_0) (hts _ qbX3_add_1) (vx_hat (fun w h => hts w (List.mem_cons_of_mem _ (List.mem_append_left _ (List.mem_append_right _ h)))) tw_xb1 hNX.words) tw_xg1 dX3_add_21 dX3_add_24 dX3_add_25 dX3_add_28 hl.1 (tw_rt (fun r => va_P G vwCl (tw_wW cI cQ a na pa ta qa xa z r.2.2) H) h hP) hS
    · replace h := tw_f c11 h
      refine lv_iload_n hx hb dX3_add_14 rfl (lv_at hl 3 rfl) ?_
      obtain ⟨r15, e15, h⟩ := tw_bs h
      refine tw_callSi (ws' := (tw_wW cI cQ a na pa ta qa xa z Y)) (As := [.int p3]) (rest := []) F hN hK hP hD hS hA (mX3_isHallOrNone l G cI H.size p3 e15) (va_cwS 1 hts gX3_add_X3_isHallOrNone rfl rfl rfl (by decide +kernel) ⟨(Nat.le_of_ble_eq_true rfl), (Nat.le_of_ble_eq_true rfl)⟩) [0] rfl [] (by decide) rfl rfl rfl rfl hl.1 rfl (Nat.le_of_ble_eq_true rfl) dX3_add_15 ⟨Nat.zero_le _, Nat.zero_le _⟩ (fun H locs hP hD hS => ?_)
      refine lv_if_ne (tgt := 29) hx hb dX3_add_18 (by decide) (fun c18 => ?_) (fun c18 => ?_)
      · replace h := tw_t c18 h
        refine lv_aload_n hx hb dX3_add_29 rfl (lv_at hl 0 rfl) ?_
        refine va_get (D := G) (ci := 3) (v := .ref (na 0)) (C := RX3) (T := TX3) (N := 8) hx hb hts ibX3_add_X3 hown hK hP 0 rfl rfl 0 (by decide) (hts _ qbX3_add_2) (fun _ h9 => h9) rfl dX3_add_30 ?_
        refine va_get (D := G) (ci := 1) (v := .int Y.1.2.2.2.2.2.2.2.1) (C := RX1) (T := TX1) (N := 9) hx hb hts ibX3_add_X1 hown hK hP 3 rfl rfl 7 (by decide) (hts _ qbX3_add_3) (fun _ h9 => h9) rfl dX3_add_33 ?_
        refine lv_bipush (v := (12 : Int32)) hx hb dX3_add_36 (by decide) ?_
        refine lv_icmp_lt (tgt := 49) hx hb dX3_add_38 (by decide) (fun c38 => ?_) (fun c38 => ?_)
        · replace h := tw_t c38 h
          refine lv_aload_n hx hb dX3_add_49 rfl (lv_at hl 0 rfl) ?_
          obtain ⟨r50, e50, h⟩ := tw_bs h
          refine tw_callVvF (ws' := (tw_wW cI cQ a na pa ta qa xa z r50)) (As := []) (rest := []) F hN hK hP hD hS hA (mX3_saveState l G cI cQ a na pa ta qa xa z Y H.size e50) (cwV 0 hts gX3_add_X3_saveState rfl rfl rfl (by decide +kernel) ⟨(Nat.le_of_ble_eq_true rfl), (Nat.le_of_ble_eq_true rfl)⟩) rfl (r0 := 0) (ci := 3) rfl rfl rfl rfl hl.1 rfl (Nat.le_of_ble_eq_true rfl) dX3_add_50 ⟨Nat.zero_le _, Nat.zero_le _⟩ (fun H locs hP hD hS => ?_)
          refine lv_aload_n hx hb dX3_add_53 rfl (lv_at hl 0 rfl) ?_
          refine va_get (D := G) (ci := 3) (v := .ref (na 0)) (C := RX3) (T := TX3) (N := 8) hx hb hts ibX3_add_X3 hown hK hP 0 rfl rfl 0 (by decide) (hts _ qbX3_add_2) (fun _ h9 => h9) rfl dX3_add_54 ?_
          refine lv_iload_n hx hb dX3_add_57 rfl (lv_at hl 1 rfl) ?_
          refine lv_iload_n hx hb dX3_add_58 rfl (lv_at hl 2 rfl) ?_
          refine lv_iload_n hx hb dX3_add_59 rfl (lv_at hl 3 rfl) ?_
          obtain ⟨r60, e60, h⟩ := tw_bs h
          refine tw_callVv (ws' := (tw_wW cI cQ a na pa ta qa xa z (r60, r50.2.1, r50.2.2.1, r50.2.2.2.1, r50.2.2.2.2.1, r50.2.2.2.2.2.1, r50.2.2.2.2.2.2.1, r50.2.2.2.2.2.2.2.1, r50.2.2.2.2.2.2.2.2))) (As := [.int p1, .int p2, .int p3]) (rest := []) F hN hK hP hD hS hA (mX1_appendTask l G cI na r50.1 H.size p1 p2 p3 e60) (cwV 3 hts gX3_add_X1_appendTask rfl rfl rfl (by decide +kernel) ⟨(Nat.le_of_ble_eq_true rfl), (Nat.le_of_ble_eq_true rfl)⟩) [0] rfl [3, 4, 5, 6, 7, 8, 9, 10] tw_cN_nd tw_cN_C rfl tw_cN_M (r0 := 0) (ci := 1) rfl rfl rfl rfl hl.1 rfl (Nat.le_of_ble_eq_true rfl) dX3_add_60 ⟨Nat.zero_le _, Nat.zero_le _⟩ (fun H locs hP hD hS => ?_)
          refine lv_aload_n hx hb dX3_add_63 rfl (lv_at hl 0 rfl) ?_
          refine va_get (D := G) (ci := 3) (v := .ref (pa 0)) (C := RX3) (T := TX3) (N := 8) hx hb hts ibX3_add_X3 hown hK hP 0 rfl rfl 1 (by decide) (hts _ qbX3_add_4) (fun _ h9 => h9) rfl dX3_add_64 ?_
          refine lv_aload_n hx hb dX3_add_67 rfl (lv_at hl 0 rfl) ?_
          refine va_get (D := G) (ci := 3) (v := .ref (na 0)) (C := RX3) (T := TX3) (N := 8) hx hb hts ibX3_add_X3 hown hK hP 0 rfl rfl 0 (by decide) (hts _ qbX3_add_2) (fun _ h9 => h9) rfl dX3_add_68 ?_
          obtain ⟨r71, e71, h⟩ := tw_bs h
          refine tw_callVv (ws' := (tw_wW cI cQ a na pa ta qa xa z (r60, r71, r50.2.2.1, r50.2.2.2.1, r50.2.2.2.2.1, r50.2.2.2.2.2.1, r50.2.2.2.2.2.2.1, r50.2.2.2.2.2.2.2.1, r50.2.2.2.2.2.2.2.2))) (As := [.ref (na 0)]) (rest := []) F hN hK hP hD hS hA (mX0_lay l G cI pa na r50.2.1 r60 H.size e71) (cwV 1 hts gX3_add_X0_lay rfl rfl rfl (by decide +kernel) ⟨(Nat.le_of_ble_eq_true rfl), (Nat.le_of_ble_eq_true rfl)⟩) [0] rfl [11, 12, 13, 3, 4, 5, 6, 7, 8, 9, 10] tw_cPN_nd tw_cPN_C rfl tw_cPN_M (r0 := 0) (ci := 0) rfl rfl rfl rfl hl.1 rfl (Nat.le_of_ble_eq_true rfl) dX3_add_71 ⟨Nat.zero_le _, Nat.zero_le _⟩ (fun H locs hP hD hS => ?_)
          refine lv_aload_n hx hb dX3_add_74 rfl (lv_at hl 0 rfl) ?_
          refine va_get (D := G) (ci := 3) (v := .ref (na 0)) (C := RX3) (T := TX3) (N := 8) hx hb hts ibX3_add_X3 hown hK hP 0 rfl rfl 0 (by decide) (hts _ qbX3_add_2) (fun _ h9 => h9) rfl dX3_add_75 ?_
          refine va_get (D := G) (ci := 1) (v := .int r60.2.2.2.2.2.2.2.1) (C := RX1) (T := TX1) (N := 9) hx hb hts ibX3_add_X1 hown hK hP 3 rfl rfl 7 (by decide) (hts _ qbX3_add_3) (fun _ h9 => h9) rfl dX3_add_78 ?_
          refine lv_iconst (v := (1 : Int32)) hx hb dX3_add_81 (by decide) ?_
          refine lv_isub hx hb dX3_add_82 ?_
          exact absurd (tw_rt (fun r => r.1 = 0) h rfl) hk
        · replace h := tw_f c38 h
          exact hq H locs 41 ls tw_E2 64 66 (tw_rt (fun r => tw_E2 = tw_en r.1) h rfl) (by decide) (hts _ qbX3_add_5) (hts _ qbX3_add_6) (vx_hat (fun w h => hts w (List.mem_cons_of_mem _ (List.mem_append_right _ h))) tw_xb2 hNX.words) tw_xg2 dX3_add_41 dX3_add_44 dX3_add_45 dX3_add_48 hl.1 (tw_rt (fun r => va_P G vwCl (tw_wW cI cQ a na pa ta qa xa z r.2.2) H) h hP) hS
      · replace h := tw_fn c18 h
        exact hq H locs 21 ls tw_E1 58 60 (tw_rt (fun r => tw_E1 = tw_en r.1) h rfl) (by decide) (hts _ qbX3_add_0) (hts _ qbX3_add_1) (vx_hat (fun w h => hts w (List.mem_cons_of_mem _ (List.mem_append_left _ (List.mem_append_right _ h)))) tw_xb1 hNX.words) tw_xg1 dX3_add_21 dX3_add_24 dX3_add_25 dX3_add_28 hl.1 (tw_rt (fun r => va_P G vwCl (tw_wW cI cQ a na pa ta qa xa z r.2.2) H) h hP) hS
abbrev rmX3_remove : Room := { frames := 4, cells := 0, slots := 0, locals := 103 }
set_option maxRecDepth 20000 in
theorem qX3_remove_0 : (Cond.fieldLink RX3 10 "TheatreWall" "now" "LTheatreWall$State;") ∈ wsX3_remove := (List.mem_cons_of_mem _ (List.mem_append_left _ (List.mem_append_left _ (List.mem_append_left _ (List.mem_append_left _ (List.mem_append_left _ (List.mem_of_getElem? (i := 2) rfl)))))))
set_option maxRecDepth 20000 in
theorem qX3_remove_1 : (Cond.fieldLink RX3 19 "TheatreWall" "plan" "LTheatreWall$Plan;") ∈ wsX3_remove := (List.mem_cons_of_mem _ (List.mem_append_left _ (List.mem_append_left _ (List.mem_append_left _ (List.mem_append_left _ (List.mem_append_left _ (List.mem_of_getElem? (i := 3) rfl)))))))
set_option maxRecDepth 20000 in
theorem iX3_remove_X3 : ∀ w ∈ u_ws RX3 TX3 8, w ∈ wsX3_remove := fun w h => (List.mem_cons_of_mem _ (List.mem_append_left _ (List.mem_append_left _ (List.mem_append_left _ (List.mem_append_right _ h)))))
set_option maxHeartbeats 4000000 in
set_option maxRecDepth 100000 in
theorem mX3_remove (l : Launch) (G : va_G) (cI : ClassId) (cQ : ClassId) (a na pa ta qa xa : Nat → Nat) (z : Nat → Nat → Nat) (Y : tw_Wl) (sz : Nat) (p1 : Int32) {rv : Nat × Int32 × tw_Wl} (h : fX3_remove Y p1 = some rv) (hk : rv.1 = 0) : tw_Mi l yX3_remove wsX3_remove rmX3_remove G [(cI, .int), (cQ, .object RX1)] (tw_wW cI cQ a na pa ta qa xa z Y) [.ref (a 0), .int p1] sz rv.2.1 (tw_wW cI cQ a na pa ta qa xa z rv.2.2) := by
  refine tw_ofi (ty := .int) (cc := cX3_remove) (maxL := 3) (own := RX3) (by decide) rfl rfl (Nat.le_of_ble_eq_true rfl) ?_
  intro p e s m args below meth c Q A ls H locs F hN hK hP hD hS hA hl hq
  obtain ⟨hx, hb, hml, hown, hts⟩ := id F
  have hl : lv_has ls 3 [(0, .ref (a 0)), (1, .int p1)] := hl
  unfold fX3_remove at h
  refine lv_aload_n hx hb dX3_remove_0 rfl (lv_at hl 0 rfl) ?_
  refine lv_iload_n hx hb dX3_remove_1 rfl (lv_at hl 1 rfl) ?_
  obtain ⟨r2, e2, h⟩ := tw_bs h
  refine tw_callViF (ws' := (tw_wW cI cQ a na pa ta qa xa z Y)) (As := [.int p1]) (rest := []) F hN hK hP hD hS hA (mX3_isTask l G cI cQ a na pa ta qa xa z Y H.size p1 e2) (cwV 1 hts gX3_remove_X3_isTask rfl rfl rfl (by decide +kernel) ⟨(Nat.le_of_ble_eq_true rfl), (Nat.le_of_ble_eq_true rfl)⟩) rfl (r0 := 0) (ci := 3) rfl rfl rfl rfl hl.1 rfl (Nat.le_of_ble_eq_true rfl) dX3_remove_2 ⟨Nat.zero_le _, Nat.zero_le _⟩ (fun H locs hP hD hS => ?_)
  refine lv_if_ne (tgt := 16) hx hb dX3_remove_5 (by decide) (fun c5 => ?_) (fun c5 => ?_)
  · replace h := tw_t c5 h
    refine lv_aload_n hx hb dX3_remove_16 rfl (lv_at hl 0 rfl) ?_
    refine va_get (D := G) (ci := 3) (v := .ref (na 0)) (C := RX3) (T := TX3) (N := 8) hx hb hts iX3_remove_X3 hown hK hP 0 rfl rfl 0 (by decide) (hts _ qX3_remove_0) (fun _ h9 => h9) rfl dX3_remove_17 ?_
    refine lv_iload_n hx hb dX3_remove_20 rfl (lv_at hl 1 rfl) ?_
    obtain ⟨r21, e21, h⟩ := tw_bs h
    refine tw_callVi (ws' := (tw_wW cI cQ a na pa ta qa xa z Y)) (As := [.int p1]) (rest := []) F hN hK hP hD hS hA (mX1_followers l G cI na Y.1 H.size p1 e21) (cwV 1 hts gX3_remove_X1_followers rfl rfl rfl (by decide +kernel) ⟨(Nat.le_of_ble_eq_true rfl), (Nat.le_of_ble_eq_true rfl)⟩) [0] rfl [3, 4, 5, 6, 7, 8, 9, 10] tw_cN_nd tw_cN_C rfl tw_cN_M (r0 := 0) (ci := 1) rfl rfl rfl rfl hl.1 rfl (Nat.le_of_ble_eq_true rfl) dX3_remove_21 ⟨Nat.zero_le _, Nat.zero_le _⟩ (fun H locs hP hD hS => ?_)
    refine lv_istore_n (lv' := [(2, .int r21), (0, .ref (a 0)), (1, .int p1)]) hx hb dX3_remove_24 rfl hl (by decide) rfl (fun ls hl => ?_)
    refine lv_aload_n hx hb dX3_remove_25 rfl (lv_at hl 1 rfl) ?_
    obtain ⟨r26, e26, h⟩ := tw_bs h
    refine tw_callVvF (ws' := (tw_wW cI cQ a na pa ta qa xa z r26)) (As := []) (rest := []) F hN hK hP hD hS hA (mX3_saveState l G cI cQ a na pa ta qa xa z Y H.size e26) (cwV 0 hts gX3_remove_X3_saveState rfl rfl rfl (by decide +kernel) ⟨(Nat.le_of_ble_eq_true rfl), (Nat.le_of_ble_eq_true rfl)⟩) rfl (r0 := 0) (ci := 3) rfl rfl rfl rfl hl.1 rfl (Nat.le_of_ble_eq_true rfl) dX3_remove_26 ⟨Nat.zero_le _, Nat.zero_le _⟩ (fun H locs hP hD hS => ?_)
    refine lv_aload_n hx hb dX3_remove_29 rfl (lv_at hl 1 rfl) ?_
    refine va_get (D := G) (ci := 3) (v := .ref (na 0)) (C := RX3) (T := TX3) (N := 8) hx hb hts iX3_remove_X3 hown hK hP 0 rfl rfl 0 (by decide) (hts _ qX3_remove_0) (fun _ h9 => h9) rfl dX3_remove_30 ?_
    refine lv_iload_n hx hb dX3_remove_33 rfl (lv_at hl 2 rfl) ?_
    obtain ⟨r34, e34, h⟩ := tw_bs h
    refine tw_callVv (ws' := (tw_wW cI cQ a na pa ta qa xa z (r34, r26.2.1, r26.2.2.1, r26.2.2.2.1, r26.2.2.2.2.1, r26.2.2.2.2.2.1, r26.2.2.2.2.2.2.1, r26.2.2.2.2.2.2.2.1, r26.2.2.2.2.2.2.2.2))) (As := [.int p1]) (rest := []) F hN hK hP hD hS hA (mX1_dropTask l G cI na r26.1 H.size p1 e34) (cwV 1 hts gX3_remove_X1_dropTask rfl rfl rfl (by decide +kernel) ⟨(Nat.le_of_ble_eq_true rfl), (Nat.le_of_ble_eq_true rfl)⟩) [0] rfl [3, 4, 5, 6, 7, 8, 9, 10] tw_cN_nd tw_cN_C rfl tw_cN_M (r0 := 0) (ci := 1) rfl rfl rfl rfl hl.1 rfl (Nat.le_of_ble_eq_true rfl) dX3_remove_34 ⟨Nat.zero_le _, Nat.zero_le _⟩ (fun H locs hP hD hS => ?_)
    refine lv_aload_n hx hb dX3_remove_37 rfl (lv_at hl 1 rfl) ?_
    refine va_get (D := G) (ci := 3) (v := .ref (pa 0)) (C := RX3) (T := TX3) (N := 8) hx hb hts iX3_remove_X3 hown hK hP 0 rfl rfl 1 (by decide) (hts _ qX3_remove_1) (fun _ h9 => h9) rfl dX3_remove_38 ?_
    refine lv_aload_n hx hb dX3_remove_41 rfl (lv_at hl 1 rfl) ?_
    refine va_get (D := G) (ci := 3) (v := .ref (na 0)) (C := RX3) (T := TX3) (N := 8) hx hb hts iX3_remove_X3 hown hK hP 0 rfl rfl 0 (by decide) (hts _ qX3_remove_0) (fun _ h9 => h9) rfl dX3_remove_42 ?_
    obtain ⟨r45, e45, h⟩ := tw_bs h
    refine tw_callVv (ws' := (tw_wW cI cQ a na pa ta qa xa z (r34, r45, r26.2.2.1, r26.2.2.2.1, r26.2.2.2.2.1, r26.2.2.2.2.2.1, r26.2.2.2.2.2.2.1, r26.2.2.2.2.2.2.2.1, r26.2.2.2.2.2.2.2.2))) (As := [.ref (na 0)]) (rest := []) F hN hK hP hD hS hA (mX0_lay l G cI pa na r26.2.1 r34 H.size e45) (cwV 1 hts gX3_remove_X0_lay rfl rfl rfl (by decide +kernel) ⟨(Nat.le_of_ble_eq_true rfl), (Nat.le_of_ble_eq_true rfl)⟩) [0] rfl [11, 12, 13, 3, 4, 5, 6, 7, 8, 9, 10] tw_cPN_nd tw_cPN_C rfl tw_cPN_M (r0 := 0) (ci := 0) rfl rfl rfl rfl hl.1 rfl (Nat.le_of_ble_eq_true rfl) dX3_remove_45 ⟨Nat.zero_le _, Nat.zero_le _⟩ (fun H locs hP hD hS => ?_)
    refine lv_iload_n hx hb dX3_remove_48 rfl (lv_at hl 0 rfl) ?_
    exact hq H locs _ ls r21 (tw_rt (fun r => r.2.1 = r21) h rfl) rfl (tw_rt (fun r => va_P G vwCl (tw_wW cI cQ a na pa ta qa xa z r.2.2) H) h hP) hS dX3_remove_49
  · replace h := tw_fn c5 h
    exact tw_thr h hk (by decide)
abbrev rmX3_need : Room := { frames := 4, cells := 0, slots := 0, locals := 103 }
set_option maxRecDepth 20000 in
theorem qX3_need_0 : (Cond.fieldLink RX3 19 "TheatreWall" "plan" "LTheatreWall$Plan;") ∈ wsX3_need := (List.mem_cons_of_mem _ (List.mem_append_left _ (List.mem_append_left _ (List.mem_append_left _ (List.mem_append_left _ (List.mem_append_left _ (List.mem_append_left _ (List.mem_of_getElem? (i := 6) rfl))))))))
set_option maxRecDepth 20000 in
theorem qX3_need_1 : (Cond.fieldLink RX3 10 "TheatreWall" "now" "LTheatreWall$State;") ∈ wsX3_need := (List.mem_cons_of_mem _ (List.mem_append_left _ (List.mem_append_left _ (List.mem_append_left _ (List.mem_append_left _ (List.mem_append_left _ (List.mem_append_left _ (List.mem_of_getElem? (i := 4) rfl))))))))
set_option maxRecDepth 20000 in
theorem qX3_need_2 : (Cond.fieldLink RX3 96 "TheatreWall$State" "needs" "[I") ∈ wsX3_need := (List.mem_cons_of_mem _ (List.mem_append_left _ (List.mem_append_left _ (List.mem_append_left _ (List.mem_append_left _ (List.mem_append_left _ (List.mem_append_left _ (List.mem_of_getElem? (i := 5) rfl))))))))
set_option maxRecDepth 20000 in
theorem iX3_need_X3 : ∀ w ∈ u_ws RX3 TX3 8, w ∈ wsX3_need := fun w h => (List.mem_cons_of_mem _ (List.mem_append_left _ (List.mem_append_left _ (List.mem_append_left _ (List.mem_append_left _ (List.mem_append_right _ h))))))
set_option maxRecDepth 20000 in
theorem iX3_need_X1 : ∀ w ∈ u_ws RX1 TX1 9, w ∈ wsX3_need := fun w h => (List.mem_cons_of_mem _ (List.mem_append_left _ (List.mem_append_left _ (List.mem_append_left _ (List.mem_append_right _ h)))))
set_option maxHeartbeats 4000000 in
set_option maxRecDepth 100000 in
theorem mX3_need (l : Launch) (G : va_G) (cI : ClassId) (cQ : ClassId) (a na pa ta qa xa : Nat → Nat) (z : Nat → Nat → Nat) (Y : tw_Wl) (sz : Nat) (p1 : Int32) (p2 : Int32) (p3 : Int32) {rv : Nat × Int32 × tw_Wl} (h : fX3_need Y p1 p2 p3 = some rv) (hk : rv.1 = 0) : tw_Mi l yX3_need wsX3_need rmX3_need G [(cI, .int), (cQ, .object RX1)] (tw_wW cI cQ a na pa ta qa xa z Y) [.ref (a 0), .int p1, .int p2, .int p3] sz rv.2.1 (tw_wW cI cQ a na pa ta qa xa z rv.2.2) := by
  refine tw_ofi (ty := .int) (cc := cX3_need) (maxL := 5) (own := RX3) (by decide) rfl rfl (Nat.le_of_ble_eq_true rfl) ?_
  intro p e s m args below meth c Q A ls H locs F hN hK hP hD hS hA hl hq
  obtain ⟨hx, hb, hml, hown, hts⟩ := id F
  have hl : lv_has ls 5 [(0, .ref (a 0)), (1, .int p1), (2, .int p2), (3, .int p3)] := hl
  unfold fX3_need at h
  have L99 : ∀ (v4 : Int32) (Y : tw_Wl) (H : Heap) (locs : List Loc) (ls : Array Slot), fX3_need_99 p1 p2 p3 v4 Y = some rv → lv_has ls 5 [(0, .ref (a 0)), (4, .int v4)] → va_P G vwCl (tw_wW cI cQ a na pa ta qa xa z Y) H → va_D A (tw_wW cI cQ a na pa ta qa xa z Y) → va_S A s.heap H locs → W p l e rmX3_need s m args below meth c H locs 0 0 Q (F0 m 99 ls []) := by
    intro v4 Y H locs ls h hl hP hD hS
    unfold fX3_need_99 at h
    refine lv_aload_n hx hb dX3_need_99 rfl (lv_at hl 0 rfl) ?_
    refine va_get (D := G) (ci := 3) (v := .ref (pa 0)) (C := RX3) (T := TX3) (N := 8) hx hb hts iX3_need_X3 hown hK hP 0 rfl rfl 1 (by decide) (hts _ qX3_need_0) (fun _ h9 => h9) rfl dX3_need_100 ?_
    refine lv_aload_n hx hb dX3_need_103 rfl (lv_at hl 0 rfl) ?_
    refine va_get (D := G) (ci := 3) (v := .ref (na 0)) (C := RX3) (T := TX3) (N := 8) hx hb hts iX3_need_X3 hown hK hP 0 rfl rfl 0 (by decide) (hts _ qX3_need_1) (fun _ h9 => h9) rfl dX3_need_104 ?_
    obtain ⟨r107, e107, h⟩ := tw_bs h
    refine tw_callVv (ws' := (tw_wW cI cQ a na pa ta qa xa z (Y.1, r107, Y.2.2.1, Y.2.2.2.1, Y.2.2.2.2.1, Y.2.2.2.2.2.1, Y.2.2.2.2.2.2.1, Y.2.2.2.2.2.2.2.1, Y.2.2.2.2.2.2.2.2))) (As := [.ref (na 0)]) (rest := []) F hN hK hP hD hS hA (mX0_lay l G cI pa na Y.2.1 Y.1 H.size e107) (cwV 1 hts gX3_need_X0_lay rfl rfl rfl (by decide +kernel) ⟨(Nat.le_of_ble_eq_true rfl), (Nat.le_of_ble_eq_true rfl)⟩) [0] rfl [11, 12, 13, 3, 4, 5, 6, 7, 8, 9, 10] tw_cPN_nd tw_cPN_C rfl tw_cPN_M (r0 := 0) (ci := 0) rfl rfl rfl rfl hl.1 rfl (Nat.le_of_ble_eq_true rfl) dX3_need_107 ⟨Nat.zero_le _, Nat.zero_le _⟩ (fun H locs hP hD hS => ?_)
    refine lv_iload hx hb dX3_need_110 (lv_at hl 1 rfl) ?_
    exact hq H locs _ ls v4 (tw_rt (fun r => r.2.1 = v4) h rfl) rfl (tw_rt (fun r => va_P G vwCl (tw_wW cI cQ a na pa ta qa xa z r.2.2) H) h hP) hS dX3_need_112
  have L54 : ∀ (t0 : Int32) (Y : tw_Wl) (H : Heap) (locs : List Loc) (ls : Array Slot), fX3_need_54 p1 p2 p3 t0 Y = some rv → lv_has ls 5 [(0, .ref (a 0)), (1, .int p1), (2, .int p2), (3, .int p3)] → va_P G vwCl (tw_wW cI cQ a na pa ta qa xa z Y) H → va_D A (tw_wW cI cQ a na pa ta qa xa z Y) → va_S A s.heap H locs → W p l e rmX3_need s m args below meth c H locs 0 0 Q (F0 m 54 ls [.int t0]) := by
    intro t0 Y H locs ls h hl hP hD hS
    unfold fX3_need_54 at h
    refine lv_istore (lv' := [(4, .int t0), (0, .ref (a 0)), (1, .int p1), (2, .int p2), (3, .int p3)]) hx hb dX3_need_54 hl (by decide) rfl (fun ls hl => ?_)
    refine lv_aload_n hx hb dX3_need_56 rfl (lv_at hl 1 rfl) ?_
    obtain ⟨r57, e57, h⟩ := tw_bs h
    refine tw_callVvF (ws' := (tw_wW cI cQ a na pa ta qa xa z r57)) (As := []) (rest := []) F hN hK hP hD hS hA (mX3_saveState l G cI cQ a na pa ta qa xa z Y H.size e57) (cwV 0 hts gX3_need_X3_saveState rfl rfl rfl (by decide +kernel) ⟨(Nat.le_of_ble_eq_true rfl), (Nat.le_of_ble_eq_true rfl)⟩) rfl (r0 := 0) (ci := 3) rfl rfl rfl rfl hl.1 rfl (Nat.le_of_ble_eq_true rfl) dX3_need_57 ⟨Nat.zero_le _, Nat.zero_le _⟩ (fun H locs hP hD hS => ?_)
    refine lv_iload_n hx hb dX3_need_60 rfl (lv_at hl 4 rfl) ?_
    refine lv_if_eq (tgt := 82) hx hb dX3_need_61 (by decide) (fun c61 => ?_) (fun c61 => ?_)
    · replace h := tw_t c61 h
      refine lv_aload_n hx hb dX3_need_82 rfl (lv_at hl 1 rfl) ?_
      refine va_get (D := G) (ci := 3) (v := .ref (na 0)) (C := RX3) (T := TX3) (N := 8) hx hb hts iX3_need_X3 hown hK hP 0 rfl rfl 0 (by decide) (hts _ qX3_need_1) (fun _ h9 => h9) rfl dX3_need_83 ?_
      refine va_get (D := G) (ci := 1) (v := .ref (na 5)) (C := RX1) (T := TX1) (N := 9) hx hb hts iX3_need_X1 hown hK hP 3 rfl rfl 4 (by decide) (hts _ qX3_need_2) (fun _ h9 => h9) rfl dX3_need_86 ?_
      refine lv_iload_n hx hb dX3_need_89 rfl (lv_at hl 2 rfl) ?_
      refine lv_dup2_11 hx hb dX3_need_90 rfl rfl ?_
      obtain ⟨g91, h⟩ := tw_gs h
      refine va_iald (f := r57.1.2.2.2.2.1) (n := 12) hx hb hK hP 8 0 rfl rfl g91 dX3_need_91 ?_
      refine lv_iconst (v := (1 : Int32)) hx hb dX3_need_92 (by decide) ?_
      refine lv_iload_n hx hb dX3_need_93 rfl (lv_at hl 3 rfl) ?_
      refine lv_ishl hx hb dX3_need_94 ?_
      refine lv_iconst (v := (-1 : Int32)) hx hb dX3_need_95 (by decide) ?_
      refine lv_ixor hx hb dX3_need_96 ?_
      refine lv_iand hx hb dX3_need_97 ?_
      obtain ⟨g98, h⟩ := tw_gs h
      refine tw_iast (ws' := (tw_wW cI cQ a na pa ta qa xa z ((r57.1.1, r57.1.2.1, r57.1.2.2.1, r57.1.2.2.2.1, (upd r57.1.2.2.2.2.1 p1.toNatClampNeg ((r57.1.2.2.2.2.1 p1.toNatClampNeg) &&& (((1 : Int32) <<< (p2 &&& 31)) ^^^ (-1 : Int32)))), r57.1.2.2.2.2.2.1, r57.1.2.2.2.2.2.2.1, r57.1.2.2.2.2.2.2.2.1, r57.1.2.2.2.2.2.2.2.2), r57.2.1, r57.2.2.1, r57.2.2.2.1, r57.2.2.2.2.1, r57.2.2.2.2.2.1, r57.2.2.2.2.2.2.1, r57.2.2.2.2.2.2.2.1, r57.2.2.2.2.2.2.2.2))) (f := r57.1.2.2.2.2.1) (n := 12) hx hb hK hP hD hS 8 0 rfl rfl g98 dX3_need_98 rfl (fun H locs hP hD hS => ?_)
      exact L99 t0 ((r57.1.1, r57.1.2.1, r57.1.2.2.1, r57.1.2.2.2.1, (upd r57.1.2.2.2.2.1 p1.toNatClampNeg ((r57.1.2.2.2.2.1 p1.toNatClampNeg) &&& (((1 : Int32) <<< (p2 &&& 31)) ^^^ (-1 : Int32)))), r57.1.2.2.2.2.2.1, r57.1.2.2.2.2.2.2.1, r57.1.2.2.2.2.2.2.2.1, r57.1.2.2.2.2.2.2.2.2), r57.2.1, r57.2.2.1, r57.2.2.2.1, r57.2.2.2.2.1, r57.2.2.2.2.2.1, r57.2.2.2.2.2.2.1, r57.2.2.2.2.2.2.2.1, r57.2.2.2.2.2.2.2.2) H locs ls h (lv_sub hl [1, 0] rfl) hP hD hS
    · replace h := tw_f c61 h
      refine lv_aload_n hx hb dX3_need_64 rfl (lv_at hl 1 rfl) ?_
      refine va_get (D := G) (ci := 3) (v := .ref (na 0)) (C := RX3) (T := TX3) (N := 8) hx hb hts iX3_need_X3 hown hK hP 0 rfl rfl 0 (by decide) (hts _ qX3_need_1) (fun _ h9 => h9) rfl dX3_need_65 ?_
      refine va_get (D := G) (ci := 1) (v := .ref (na 5)) (C := RX1) (T := TX1) (N := 9) hx hb hts iX3_need_X1 hown hK hP 3 rfl rfl 4 (by decide) (hts _ qX3_need_2) (fun _ h9 => h9) rfl dX3_need_68 ?_
      refine lv_iload_n hx hb dX3_need_71 rfl (lv_at hl 2 rfl) ?_
      refine lv_dup2_11 hx hb dX3_need_72 rfl rfl ?_
      obtain ⟨g73, h⟩ := tw_gs h
      refine va_iald (f := r57.1.2.2.2.2.1) (n := 12) hx hb hK hP 8 0 rfl rfl g73 dX3_need_73 ?_
      refine lv_iconst (v := (1 : Int32)) hx hb dX3_need_74 (by decide) ?_
      refine lv_iload_n hx hb dX3_need_75 rfl (lv_at hl 3 rfl) ?_
      refine lv_ishl hx hb dX3_need_76 ?_
      refine lv_ior hx hb dX3_need_77 ?_
      obtain ⟨g78, h⟩ := tw_gs h
      refine tw_iast (ws' := (tw_wW cI cQ a na pa ta qa xa z ((r57.1.1, r57.1.2.1, r57.1.2.2.1, r57.1.2.2.2.1, (upd r57.1.2.2.2.2.1 p1.toNatClampNeg ((r57.1.2.2.2.2.1 p1.toNatClampNeg) ||| ((1 : Int32) <<< (p2 &&& 31)))), r57.1.2.2.2.2.2.1, r57.1.2.2.2.2.2.2.1, r57.1.2.2.2.2.2.2.2.1, r57.1.2.2.2.2.2.2.2.2), r57.2.1, r57.2.2.1, r57.2.2.2.1, r57.2.2.2.2.1, r57.2.2.2.2.2.1, r57.2.2.2.2.2.2.1, r57.2.2.2.2.2.2.2.1, r57.2.2.2.2.2.2.2.2))) (f := r57.1.2.2.2.2.1) (n := 12) hx hb hK hP hD hS 8 0 rfl rfl g78 dX3_need_78 rfl (fun H locs hP hD hS => ?_)
      refine lv_goto (tgt := 99) hx hb dX3_need_79 (by decide) ?_
      exact L99 t0 ((r57.1.1, r57.1.2.1, r57.1.2.2.1, r57.1.2.2.2.1, (upd r57.1.2.2.2.2.1 p1.toNatClampNeg ((r57.1.2.2.2.2.1 p1.toNatClampNeg) ||| ((1 : Int32) <<< (p2 &&& 31)))), r57.1.2.2.2.2.2.1, r57.1.2.2.2.2.2.2.1, r57.1.2.2.2.2.2.2.2.1, r57.1.2.2.2.2.2.2.2.2), r57.2.1, r57.2.2.1, r57.2.2.2.1, r57.2.2.2.2.1, r57.2.2.2.2.2.1, r57.2.2.2.2.2.2.1, r57.2.2.2.2.2.2.2.1, r57.2.2.2.2.2.2.2.2) H locs ls h (lv_sub hl [1, 0] rfl) hP hD hS
  refine lv_aload_n hx hb dX3_need_0 rfl (lv_at hl 0 rfl) ?_
  refine lv_iload_n hx hb dX3_need_1 rfl (lv_at hl 1 rfl) ?_
  obtain ⟨r2, e2, h⟩ := tw_bs h
  refine tw_callViF (ws' := (tw_wW cI cQ a na pa ta qa xa z Y)) (As := [.int p1]) (rest := []) F hN hK hP hD hS hA (mX3_isTask l G cI cQ a na pa ta qa xa z Y H.size p1 e2) (cwV 1 hts gX3_need_X3_isTask rfl rfl rfl (by decide +kernel) ⟨(Nat.le_of_ble_eq_true rfl), (Nat.le_of_ble_eq_true rfl)⟩) rfl (r0 := 0) (ci := 3) rfl rfl rfl rfl hl.1 rfl (Nat.le_of_ble_eq_true rfl) dX3_need_2 ⟨Nat.zero_le _, Nat.zero_le _⟩ (fun H locs hP hD hS => ?_)
  refine lv_if_eq (tgt := 16) hx hb dX3_need_5 (by decide) (fun c5 => ?_) (fun c5 => ?_)
  · replace h := tw_t c5 h
    exact tw_thr h hk (by decide)
  · replace h := tw_f c5 h
    refine lv_aload_n hx hb dX3_need_8 rfl (lv_at hl 0 rfl) ?_
    refine lv_iload_n hx hb dX3_need_9 rfl (lv_at hl 2 rfl) ?_
    obtain ⟨r10, e10, h⟩ := tw_bs h
    refine tw_callViF (ws' := (tw_wW cI cQ a na pa ta qa xa z Y)) (As := [.int p2]) (rest := []) F hN hK hP hD hS hA (mX3_isTask l G cI cQ a na pa ta qa xa z Y H.size p2 e10) (cwV 1 hts gX3_need_X3_isTask rfl rfl rfl (by decide +kernel) ⟨(Nat.le_of_ble_eq_true rfl), (Nat.le_of_ble_eq_true rfl)⟩) rfl (r0 := 0) (ci := 3) rfl rfl rfl rfl hl.1 rfl (Nat.le_of_ble_eq_true rfl) dX3_need_10 ⟨Nat.zero_le _, Nat.zero_le _⟩ (fun H locs hP hD hS => ?_)
    refine lv_if_ne (tgt := 24) hx hb dX3_need_13 (by decide) (fun c13 => ?_) (fun c13 => ?_)
    · replace h := tw_t c13 h
      refine lv_iload_n hx hb dX3_need_24 rfl (lv_at hl 2 rfl) ?_
      refine lv_iload_n hx hb dX3_need_25 rfl (lv_at hl 1 rfl) ?_
      refine lv_icmp_lt (tgt := 37) hx hb dX3_need_26 (by decide) (fun c26 => ?_) (fun c26 => ?_)
      · replace h := tw_t c26 h
        refine lv_aload_n hx hb dX3_need_37 rfl (lv_at hl 0 rfl) ?_
        refine va_get (D := G) (ci := 3) (v := .ref (na 0)) (C := RX3) (T := TX3) (N := 8) hx hb hts iX3_need_X3 hown hK hP 0 rfl rfl 0 (by decide) (hts _ qX3_need_1) (fun _ h9 => h9) rfl dX3_need_38 ?_
        refine lv_iload_n hx hb dX3_need_41 rfl (lv_at hl 1 rfl) ?_
        refine lv_iload_n hx hb dX3_need_42 rfl (lv_at hl 2 rfl) ?_
        obtain ⟨r43, e43, h⟩ := tw_bs h
        refine tw_callVi (ws' := (tw_wW cI cQ a na pa ta qa xa z Y)) (As := [.int p1, .int p2]) (rest := []) F hN hK hP hD hS hA (mX1_isNeeded l G cI na Y.1 H.size p1 p2 e43) (cwV 2 hts gX3_need_X1_isNeeded rfl rfl rfl (by decide +kernel) ⟨(Nat.le_of_ble_eq_true rfl), (Nat.le_of_ble_eq_true rfl)⟩) [0] rfl [3, 4, 5, 6, 7, 8, 9, 10] tw_cN_nd tw_cN_C rfl tw_cN_M (r0 := 0) (ci := 1) rfl rfl rfl rfl hl.1 rfl (Nat.le_of_ble_eq_true rfl) dX3_need_43 ⟨Nat.zero_le _, Nat.zero_le _⟩ (fun H locs hP hD hS => ?_)
        refine lv_if_eq (tgt := 53) hx hb dX3_need_46 (by decide) (fun c46 => ?_) (fun c46 => ?_)
        · replace h := tw_t c46 h
          refine lv_iconst (v := (0 : Int32)) hx hb dX3_need_53 (by decide) ?_
          exact L54 (0 : Int32) Y H locs ls h (lv_sub hl [0, 1, 2, 3] rfl) hP hD hS
        · replace h := tw_f c46 h
          refine lv_iconst (v := (1 : Int32)) hx hb dX3_need_49 (by decide) ?_
          refine lv_goto (tgt := 54) hx hb dX3_need_50 (by decide) ?_
          exact L54 (1 : Int32) Y H locs ls h (lv_sub hl [0, 1, 2, 3] rfl) hP hD hS
      · replace h := tw_f c26 h
        exact tw_thr h hk (by decide)
    · replace h := tw_fn c13 h
      exact tw_thr h hk (by decide)
abbrev rmX3_change : Room := { frames := 4, cells := 0, slots := 0, locals := 103 }
set_option maxRecDepth 20000 in
theorem qX3_change_0 : (Cond.fieldLink RX3 10 "TheatreWall" "now" "LTheatreWall$State;") ∈ wsX3_change := (List.mem_cons_of_mem _ (List.mem_append_left _ (List.mem_append_left _ (List.mem_append_left _ (List.mem_append_left _ (List.mem_append_left _ (List.mem_append_left _ (List.mem_of_getElem? (i := 4) rfl))))))))
set_option maxRecDepth 20000 in
theorem qX3_change_1 : (Cond.fieldLink RX3 19 "TheatreWall" "plan" "LTheatreWall$Plan;") ∈ wsX3_change := (List.mem_cons_of_mem _ (List.mem_append_left _ (List.mem_append_left _ (List.mem_append_left _ (List.mem_append_left _ (List.mem_append_left _ (List.mem_append_left _ (List.mem_of_getElem? (i := 5) rfl))))))))
set_option maxRecDepth 20000 in
theorem iX3_change_X3 : ∀ w ∈ u_ws RX3 TX3 8, w ∈ wsX3_change := fun w h => (List.mem_cons_of_mem _ (List.mem_append_left _ (List.mem_append_left _ (List.mem_append_left _ (List.mem_append_left _ (List.mem_append_right _ h))))))
set_option maxHeartbeats 4000000 in
set_option maxRecDepth 100000 in
theorem mX3_change (l : Launch) (G : va_G) (cI : ClassId) (cQ : ClassId) (a na pa ta qa xa : Nat → Nat) (z : Nat → Nat → Nat) (Y : tw_Wl) (sz : Nat) (p1 : Int32) (p2 : Int32) (p3 : Int32) {rv : Nat × Int32 × tw_Wl} (h : fX3_change Y p1 p2 p3 = some rv) (hk : rv.1 = 0) : tw_Mi l yX3_change wsX3_change rmX3_change G [(cI, .int), (cQ, .object RX1)] (tw_wW cI cQ a na pa ta qa xa z Y) [.ref (a 0), .int p1, .int p2, .int p3] sz rv.2.1 (tw_wW cI cQ a na pa ta qa xa z rv.2.2) := by
  refine tw_ofi (ty := .int) (cc := cX3_change) (maxL := 6) (own := RX3) (by decide) rfl rfl (Nat.le_of_ble_eq_true rfl) ?_
  intro p e s m args below meth c Q A ls H locs F hN hK hP hD hS hA hl hq
  obtain ⟨hx, hb, hml, hown, hts⟩ := id F
  have hl : lv_has ls 6 [(0, .ref (a 0)), (1, .int p1), (2, .int p2), (3, .int p3)] := hl
  unfold fX3_change at h
  refine lv_aload_n hx hb dX3_change_0 rfl (lv_at hl 0 rfl) ?_
  refine lv_iload_n hx hb dX3_change_1 rfl (lv_at hl 1 rfl) ?_
  obtain ⟨r2, e2, h⟩ := tw_bs h
  refine tw_callViF (ws' := (tw_wW cI cQ a na pa ta qa xa z Y)) (As := [.int p1]) (rest := []) F hN hK hP hD hS hA (mX3_isTask l G cI cQ a na pa ta qa xa z Y H.size p1 e2) (cwV 1 hts gX3_change_X3_isTask rfl rfl rfl (by decide +kernel) ⟨(Nat.le_of_ble_eq_true rfl), (Nat.le_of_ble_eq_true rfl)⟩) rfl (r0 := 0) (ci := 3) rfl rfl rfl rfl hl.1 rfl (Nat.le_of_ble_eq_true rfl) dX3_change_2 ⟨Nat.zero_le _, Nat.zero_le _⟩ (fun H locs hP hD hS => ?_)
  refine lv_if_ne (tgt := 16) hx hb dX3_change_5 (by decide) (fun c5 => ?_) (fun c5 => ?_)
  · replace h := tw_t c5 h
    refine lv_iload_n hx hb dX3_change_16 rfl (lv_at hl 2 rfl) ?_
    refine lv_iload_n hx hb dX3_change_17 rfl (lv_at hl 3 rfl) ?_
    obtain ⟨r18, e18, h⟩ := tw_bs h
    refine tw_callSi (ws' := (tw_wW cI cQ a na pa ta qa xa z Y)) (As := [.int p2, .int p3]) (rest := []) F hN hK hP hD hS hA (mX3_isValue l G cI H.size p2 p3 e18) (va_cwS 2 hts gX3_change_X3_isValue rfl rfl rfl (by decide +kernel) ⟨(Nat.le_of_ble_eq_true rfl), (Nat.le_of_ble_eq_true rfl)⟩) [0] rfl [] (by decide) rfl rfl rfl rfl hl.1 rfl (Nat.le_of_ble_eq_true rfl) dX3_change_18 ⟨Nat.zero_le _, Nat.zero_le _⟩ (fun H locs hP hD hS => ?_)
    refine lv_if_ne (tgt := 32) hx hb dX3_change_21 (by decide) (fun c21 => ?_) (fun c21 => ?_)
    · replace h := tw_t c21 h
      refine lv_aload_n hx hb dX3_change_32 rfl (lv_at hl 0 rfl) ?_
      obtain ⟨r33, e33, h⟩ := tw_bs h
      refine tw_callVvF (ws' := (tw_wW cI cQ a na pa ta qa xa z r33)) (As := []) (rest := []) F hN hK hP hD hS hA (mX3_saveState l G cI cQ a na pa ta qa xa z Y H.size e33) (cwV 0 hts gX3_change_X3_saveState rfl rfl rfl (by decide +kernel) ⟨(Nat.le_of_ble_eq_true rfl), (Nat.le_of_ble_eq_true rfl)⟩) rfl (r0 := 0) (ci := 3) rfl rfl rfl rfl hl.1 rfl (Nat.le_of_ble_eq_true rfl) dX3_change_33 ⟨Nat.zero_le _, Nat.zero_le _⟩ (fun H locs hP hD hS => ?_)
      refine lv_aload_n hx hb dX3_change_36 rfl (lv_at hl 0 rfl) ?_
      refine va_get (D := G) (ci := 3) (v := .ref (na 0)) (C := RX3) (T := TX3) (N := 8) hx hb hts iX3_change_X3 hown hK hP 0 rfl rfl 0 (by decide) (hts _ qX3_change_0) (fun _ h9 => h9) rfl dX3_change_37 ?_
      refine lv_iload_n hx hb dX3_change_40 rfl (lv_at hl 2 rfl) ?_
      obtain ⟨r41, e41, h⟩ := tw_bs h
      refine tw_callVr (ws' := (tw_wW cI cQ a na pa ta qa xa z r33)) (As := [.int p2]) (rest := []) F hN hK hP hD hS hA (mX1_property l G cI na r33.1 H.size p2 e41) (cwV 1 hts gX3_change_X1_property rfl rfl rfl (by decide +kernel) ⟨(Nat.le_of_ble_eq_true rfl), (Nat.le_of_ble_eq_true rfl)⟩) [0] rfl [3, 4, 5, 6, 7, 8, 9, 10] tw_cN_nd tw_cN_C rfl tw_cN_M (r0 := 0) (ci := 1) rfl rfl rfl rfl hl.1 rfl (Nat.le_of_ble_eq_true rfl) dX3_change_41 ⟨Nat.zero_le _, Nat.zero_le _⟩ (fun H locs hP hD hS => ?_)
      by_cases c41_1 : r41 = 1
      · replace h := tw_t c41_1 h
        rw [c41_1]
        refine lv_astore (lv' := [(4, .ref (na 1)), (0, .ref (a 0)), (1, .int p1), (2, .int p2), (3, .int p3)]) hx hb dX3_change_44 hl (by decide) rfl (fun ls hl => ?_)
        refine lv_aload hx hb dX3_change_46 (lv_at hl 0 rfl) ?_
        refine lv_iload_n hx hb dX3_change_48 rfl (lv_at hl 2 rfl) ?_
        obtain ⟨g49, h⟩ := tw_gs h
        refine va_iald (f := r33.1.1) (n := 12) hx hb hK hP 4 0 rfl rfl g49 dX3_change_49 ?_
        refine lv_istore (lv' := [(5, .int (r33.1.1 p1.toNatClampNeg)), (4, .ref (na 1)), (0, .ref (a 0)), (1, .int p1), (2, .int p2), (3, .int p3)]) hx hb dX3_change_50 hl (by decide) rfl (fun ls hl => ?_)
        refine lv_aload hx hb dX3_change_52 (lv_at hl 1 rfl) ?_
        refine lv_iload_n hx hb dX3_change_54 rfl (lv_at hl 3 rfl) ?_
        refine lv_iload_n hx hb dX3_change_55 rfl (lv_at hl 5 rfl) ?_
        obtain ⟨g56, h⟩ := tw_gs h
        refine tw_iast (ws' := (tw_wW cI cQ a na pa ta qa xa z (((upd r33.1.1 p1.toNatClampNeg p3), r33.1.2.1, r33.1.2.2.1, r33.1.2.2.2.1, r33.1.2.2.2.2.1, r33.1.2.2.2.2.2.1, r33.1.2.2.2.2.2.2.1, r33.1.2.2.2.2.2.2.2.1, r33.1.2.2.2.2.2.2.2.2), r33.2.1, r33.2.2.1, r33.2.2.2.1, r33.2.2.2.2.1, r33.2.2.2.2.2.1, r33.2.2.2.2.2.2.1, r33.2.2.2.2.2.2.2.1, r33.2.2.2.2.2.2.2.2))) (f := r33.1.1) (n := 12) hx hb hK hP hD hS 4 0 rfl rfl g56 dX3_change_56 rfl (fun H locs hP hD hS => ?_)
        refine lv_aload_n hx hb dX3_change_57 rfl (lv_at hl 2 rfl) ?_
        refine va_get (D := G) (ci := 3) (v := .ref (pa 0)) (C := RX3) (T := TX3) (N := 8) hx hb hts iX3_change_X3 hown hK hP 0 rfl rfl 1 (by decide) (hts _ qX3_change_1) (fun _ h9 => h9) rfl dX3_change_58 ?_
        refine lv_aload_n hx hb dX3_change_61 rfl (lv_at hl 2 rfl) ?_
        refine va_get (D := G) (ci := 3) (v := .ref (na 0)) (C := RX3) (T := TX3) (N := 8) hx hb hts iX3_change_X3 hown hK hP 0 rfl rfl 0 (by decide) (hts _ qX3_change_0) (fun _ h9 => h9) rfl dX3_change_62 ?_
        obtain ⟨r65, e65, h⟩ := tw_bs h
        refine tw_callVv (ws' := (tw_wW cI cQ a na pa ta qa xa z (((upd r33.1.1 p1.toNatClampNeg p3), r33.1.2.1, r33.1.2.2.1, r33.1.2.2.2.1, r33.1.2.2.2.2.1, r33.1.2.2.2.2.2.1, r33.1.2.2.2.2.2.2.1, r33.1.2.2.2.2.2.2.2.1, r33.1.2.2.2.2.2.2.2.2), r65, r33.2.2.1, r33.2.2.2.1, r33.2.2.2.2.1, r33.2.2.2.2.2.1, r33.2.2.2.2.2.2.1, r33.2.2.2.2.2.2.2.1, r33.2.2.2.2.2.2.2.2))) (As := [.ref (na 0)]) (rest := []) F hN hK hP hD hS hA (mX0_lay l G cI pa na r33.2.1 ((upd r33.1.1 p1.toNatClampNeg p3), r33.1.2.1, r33.1.2.2.1, r33.1.2.2.2.1, r33.1.2.2.2.2.1, r33.1.2.2.2.2.2.1, r33.1.2.2.2.2.2.2.1, r33.1.2.2.2.2.2.2.2.1, r33.1.2.2.2.2.2.2.2.2) H.size e65) (cwV 1 hts gX3_change_X0_lay rfl rfl rfl (by decide +kernel) ⟨(Nat.le_of_ble_eq_true rfl), (Nat.le_of_ble_eq_true rfl)⟩) [0] rfl [11, 12, 13, 3, 4, 5, 6, 7, 8, 9, 10] tw_cPN_nd tw_cPN_C rfl tw_cPN_M (r0 := 0) (ci := 0) rfl rfl rfl rfl hl.1 rfl (Nat.le_of_ble_eq_true rfl) dX3_change_65 ⟨Nat.zero_le _, Nat.zero_le _⟩ (fun H locs hP hD hS => ?_)
        refine lv_iload hx hb dX3_change_68 (lv_at hl 0 rfl) ?_
        exact hq H locs _ ls (r33.1.1 p1.toNatClampNeg) (tw_rt (fun r => r.2.1 = (r33.1.1 p1.toNatClampNeg)) h rfl) rfl (tw_rt (fun r => va_P G vwCl (tw_wW cI cQ a na pa ta qa xa z r.2.2) H) h hP) hS dX3_change_70
      · replace h := tw_f c41_1 h
        by_cases c41_2 : r41 = 2
        · replace h := tw_t c41_2 h
          rw [c41_2]
          refine lv_astore (lv' := [(4, .ref (na 2)), (0, .ref (a 0)), (1, .int p1), (2, .int p2), (3, .int p3)]) hx hb dX3_change_44 hl (by decide) rfl (fun ls hl => ?_)
          refine lv_aload hx hb dX3_change_46 (lv_at hl 0 rfl) ?_
          refine lv_iload_n hx hb dX3_change_48 rfl (lv_at hl 2 rfl) ?_
          obtain ⟨g49, h⟩ := tw_gs h
          refine va_iald (f := r33.1.2.1) (n := 12) hx hb hK hP 5 0 rfl rfl g49 dX3_change_49 ?_
          refine lv_istore (lv' := [(5, .int (r33.1.2.1 p1.toNatClampNeg)), (4, .ref (na 2)), (0, .ref (a 0)), (1, .int p1), (2, .int p2), (3, .int p3)]) hx hb dX3_change_50 hl (by decide) rfl (fun ls hl => ?_)
          refine lv_aload hx hb dX3_change_52 (lv_at hl 1 rfl) ?_
          refine lv_iload_n hx hb dX3_change_54 rfl (lv_at hl 3 rfl) ?_
          refine lv_iload_n hx hb dX3_change_55 rfl (lv_at hl 5 rfl) ?_
          obtain ⟨g56, h⟩ := tw_gs h
          refine tw_iast (ws' := (tw_wW cI cQ a na pa ta qa xa z ((r33.1.1, (upd r33.1.2.1 p1.toNatClampNeg p3), r33.1.2.2.1, r33.1.2.2.2.1, r33.1.2.2.2.2.1, r33.1.2.2.2.2.2.1, r33.1.2.2.2.2.2.2.1, r33.1.2.2.2.2.2.2.2.1, r33.1.2.2.2.2.2.2.2.2), r33.2.1, r33.2.2.1, r33.2.2.2.1, r33.2.2.2.2.1, r33.2.2.2.2.2.1, r33.2.2.2.2.2.2.1, r33.2.2.2.2.2.2.2.1, r33.2.2.2.2.2.2.2.2))) (f := r33.1.2.1) (n := 12) hx hb hK hP hD hS 5 0 rfl rfl g56 dX3_change_56 rfl (fun H locs hP hD hS => ?_)
          refine lv_aload_n hx hb dX3_change_57 rfl (lv_at hl 2 rfl) ?_
          refine va_get (D := G) (ci := 3) (v := .ref (pa 0)) (C := RX3) (T := TX3) (N := 8) hx hb hts iX3_change_X3 hown hK hP 0 rfl rfl 1 (by decide) (hts _ qX3_change_1) (fun _ h9 => h9) rfl dX3_change_58 ?_
          refine lv_aload_n hx hb dX3_change_61 rfl (lv_at hl 2 rfl) ?_
          refine va_get (D := G) (ci := 3) (v := .ref (na 0)) (C := RX3) (T := TX3) (N := 8) hx hb hts iX3_change_X3 hown hK hP 0 rfl rfl 0 (by decide) (hts _ qX3_change_0) (fun _ h9 => h9) rfl dX3_change_62 ?_
          obtain ⟨r65, e65, h⟩ := tw_bs h
          refine tw_callVv (ws' := (tw_wW cI cQ a na pa ta qa xa z ((r33.1.1, (upd r33.1.2.1 p1.toNatClampNeg p3), r33.1.2.2.1, r33.1.2.2.2.1, r33.1.2.2.2.2.1, r33.1.2.2.2.2.2.1, r33.1.2.2.2.2.2.2.1, r33.1.2.2.2.2.2.2.2.1, r33.1.2.2.2.2.2.2.2.2), r65, r33.2.2.1, r33.2.2.2.1, r33.2.2.2.2.1, r33.2.2.2.2.2.1, r33.2.2.2.2.2.2.1, r33.2.2.2.2.2.2.2.1, r33.2.2.2.2.2.2.2.2))) (As := [.ref (na 0)]) (rest := []) F hN hK hP hD hS hA (mX0_lay l G cI pa na r33.2.1 (r33.1.1, (upd r33.1.2.1 p1.toNatClampNeg p3), r33.1.2.2.1, r33.1.2.2.2.1, r33.1.2.2.2.2.1, r33.1.2.2.2.2.2.1, r33.1.2.2.2.2.2.2.1, r33.1.2.2.2.2.2.2.2.1, r33.1.2.2.2.2.2.2.2.2) H.size e65) (cwV 1 hts gX3_change_X0_lay rfl rfl rfl (by decide +kernel) ⟨(Nat.le_of_ble_eq_true rfl), (Nat.le_of_ble_eq_true rfl)⟩) [0] rfl [11, 12, 13, 3, 4, 5, 6, 7, 8, 9, 10] tw_cPN_nd tw_cPN_C rfl tw_cPN_M (r0 := 0) (ci := 0) rfl rfl rfl rfl hl.1 rfl (Nat.le_of_ble_eq_true rfl) dX3_change_65 ⟨Nat.zero_le _, Nat.zero_le _⟩ (fun H locs hP hD hS => ?_)
          refine lv_iload hx hb dX3_change_68 (lv_at hl 0 rfl) ?_
          exact hq H locs _ ls (r33.1.2.1 p1.toNatClampNeg) (tw_rt (fun r => r.2.1 = (r33.1.2.1 p1.toNatClampNeg)) h rfl) rfl (tw_rt (fun r => va_P G vwCl (tw_wW cI cQ a na pa ta qa xa z r.2.2) H) h hP) hS dX3_change_70
        · replace h := tw_f c41_2 h
          by_cases c41_3 : r41 = 3
          · replace h := tw_t c41_3 h
            rw [c41_3]
            refine lv_astore (lv' := [(4, .ref (na 3)), (0, .ref (a 0)), (1, .int p1), (2, .int p2), (3, .int p3)]) hx hb dX3_change_44 hl (by decide) rfl (fun ls hl => ?_)
            refine lv_aload hx hb dX3_change_46 (lv_at hl 0 rfl) ?_
            refine lv_iload_n hx hb dX3_change_48 rfl (lv_at hl 2 rfl) ?_
            obtain ⟨g49, h⟩ := tw_gs h
            refine va_iald (f := r33.1.2.2.1) (n := 12) hx hb hK hP 6 0 rfl rfl g49 dX3_change_49 ?_
            refine lv_istore (lv' := [(5, .int (r33.1.2.2.1 p1.toNatClampNeg)), (4, .ref (na 3)), (0, .ref (a 0)), (1, .int p1), (2, .int p2), (3, .int p3)]) hx hb dX3_change_50 hl (by decide) rfl (fun ls hl => ?_)
            refine lv_aload hx hb dX3_change_52 (lv_at hl 1 rfl) ?_
            refine lv_iload_n hx hb dX3_change_54 rfl (lv_at hl 3 rfl) ?_
            refine lv_iload_n hx hb dX3_change_55 rfl (lv_at hl 5 rfl) ?_
            obtain ⟨g56, h⟩ := tw_gs h
            refine tw_iast (ws' := (tw_wW cI cQ a na pa ta qa xa z ((r33.1.1, r33.1.2.1, (upd r33.1.2.2.1 p1.toNatClampNeg p3), r33.1.2.2.2.1, r33.1.2.2.2.2.1, r33.1.2.2.2.2.2.1, r33.1.2.2.2.2.2.2.1, r33.1.2.2.2.2.2.2.2.1, r33.1.2.2.2.2.2.2.2.2), r33.2.1, r33.2.2.1, r33.2.2.2.1, r33.2.2.2.2.1, r33.2.2.2.2.2.1, r33.2.2.2.2.2.2.1, r33.2.2.2.2.2.2.2.1, r33.2.2.2.2.2.2.2.2))) (f := r33.1.2.2.1) (n := 12) hx hb hK hP hD hS 6 0 rfl rfl g56 dX3_change_56 rfl (fun H locs hP hD hS => ?_)
            refine lv_aload_n hx hb dX3_change_57 rfl (lv_at hl 2 rfl) ?_
            refine va_get (D := G) (ci := 3) (v := .ref (pa 0)) (C := RX3) (T := TX3) (N := 8) hx hb hts iX3_change_X3 hown hK hP 0 rfl rfl 1 (by decide) (hts _ qX3_change_1) (fun _ h9 => h9) rfl dX3_change_58 ?_
            refine lv_aload_n hx hb dX3_change_61 rfl (lv_at hl 2 rfl) ?_
            refine va_get (D := G) (ci := 3) (v := .ref (na 0)) (C := RX3) (T := TX3) (N := 8) hx hb hts iX3_change_X3 hown hK hP 0 rfl rfl 0 (by decide) (hts _ qX3_change_0) (fun _ h9 => h9) rfl dX3_change_62 ?_
            obtain ⟨r65, e65, h⟩ := tw_bs h
            refine tw_callVv (ws' := (tw_wW cI cQ a na pa ta qa xa z ((r33.1.1, r33.1.2.1, (upd r33.1.2.2.1 p1.toNatClampNeg p3), r33.1.2.2.2.1, r33.1.2.2.2.2.1, r33.1.2.2.2.2.2.1, r33.1.2.2.2.2.2.2.1, r33.1.2.2.2.2.2.2.2.1, r33.1.2.2.2.2.2.2.2.2), r65, r33.2.2.1, r33.2.2.2.1, r33.2.2.2.2.1, r33.2.2.2.2.2.1, r33.2.2.2.2.2.2.1, r33.2.2.2.2.2.2.2.1, r33.2.2.2.2.2.2.2.2))) (As := [.ref (na 0)]) (rest := []) F hN hK hP hD hS hA (mX0_lay l G cI pa na r33.2.1 (r33.1.1, r33.1.2.1, (upd r33.1.2.2.1 p1.toNatClampNeg p3), r33.1.2.2.2.1, r33.1.2.2.2.2.1, r33.1.2.2.2.2.2.1, r33.1.2.2.2.2.2.2.1, r33.1.2.2.2.2.2.2.2.1, r33.1.2.2.2.2.2.2.2.2) H.size e65) (cwV 1 hts gX3_change_X0_lay rfl rfl rfl (by decide +kernel) ⟨(Nat.le_of_ble_eq_true rfl), (Nat.le_of_ble_eq_true rfl)⟩) [0] rfl [11, 12, 13, 3, 4, 5, 6, 7, 8, 9, 10] tw_cPN_nd tw_cPN_C rfl tw_cPN_M (r0 := 0) (ci := 0) rfl rfl rfl rfl hl.1 rfl (Nat.le_of_ble_eq_true rfl) dX3_change_65 ⟨Nat.zero_le _, Nat.zero_le _⟩ (fun H locs hP hD hS => ?_)
            refine lv_iload hx hb dX3_change_68 (lv_at hl 0 rfl) ?_
            exact hq H locs _ ls (r33.1.2.2.1 p1.toNatClampNeg) (tw_rt (fun r => r.2.1 = (r33.1.2.2.1 p1.toNatClampNeg)) h rfl) rfl (tw_rt (fun r => va_P G vwCl (tw_wW cI cQ a na pa ta qa xa z r.2.2) H) h hP) hS dX3_change_70
          · replace h := tw_f c41_3 h
            by_cases c41_4 : r41 = 4
            · replace h := tw_t c41_4 h
              rw [c41_4]
              refine lv_astore (lv' := [(4, .ref (na 4)), (0, .ref (a 0)), (1, .int p1), (2, .int p2), (3, .int p3)]) hx hb dX3_change_44 hl (by decide) rfl (fun ls hl => ?_)
              refine lv_aload hx hb dX3_change_46 (lv_at hl 0 rfl) ?_
              refine lv_iload_n hx hb dX3_change_48 rfl (lv_at hl 2 rfl) ?_
              obtain ⟨g49, h⟩ := tw_gs h
              refine va_iald (f := r33.1.2.2.2.1) (n := 12) hx hb hK hP 7 0 rfl rfl g49 dX3_change_49 ?_
              refine lv_istore (lv' := [(5, .int (r33.1.2.2.2.1 p1.toNatClampNeg)), (4, .ref (na 4)), (0, .ref (a 0)), (1, .int p1), (2, .int p2), (3, .int p3)]) hx hb dX3_change_50 hl (by decide) rfl (fun ls hl => ?_)
              refine lv_aload hx hb dX3_change_52 (lv_at hl 1 rfl) ?_
              refine lv_iload_n hx hb dX3_change_54 rfl (lv_at hl 3 rfl) ?_
              refine lv_iload_n hx hb dX3_change_55 rfl (lv_at hl 5 rfl) ?_
              obtain ⟨g56, h⟩ := tw_gs h
              refine tw_iast (ws' := (tw_wW cI cQ a na pa ta qa xa z ((r33.1.1, r33.1.2.1, r33.1.2.2.1, (upd r33.1.2.2.2.1 p1.toNatClampNeg p3), r33.1.2.2.2.2.1, r33.1.2.2.2.2.2.1, r33.1.2.2.2.2.2.2.1, r33.1.2.2.2.2.2.2.2.1, r33.1.2.2.2.2.2.2.2.2), r33.2.1, r33.2.2.1, r33.2.2.2.1, r33.2.2.2.2.1, r33.2.2.2.2.2.1, r33.2.2.2.2.2.2.1, r33.2.2.2.2.2.2.2.1, r33.2.2.2.2.2.2.2.2))) (f := r33.1.2.2.2.1) (n := 12) hx hb hK hP hD hS 7 0 rfl rfl g56 dX3_change_56 rfl (fun H locs hP hD hS => ?_)
              refine lv_aload_n hx hb dX3_change_57 rfl (lv_at hl 2 rfl) ?_
              refine va_get (D := G) (ci := 3) (v := .ref (pa 0)) (C := RX3) (T := TX3) (N := 8) hx hb hts iX3_change_X3 hown hK hP 0 rfl rfl 1 (by decide) (hts _ qX3_change_1) (fun _ h9 => h9) rfl dX3_change_58 ?_
              refine lv_aload_n hx hb dX3_change_61 rfl (lv_at hl 2 rfl) ?_
              refine va_get (D := G) (ci := 3) (v := .ref (na 0)) (C := RX3) (T := TX3) (N := 8) hx hb hts iX3_change_X3 hown hK hP 0 rfl rfl 0 (by decide) (hts _ qX3_change_0) (fun _ h9 => h9) rfl dX3_change_62 ?_
              obtain ⟨r65, e65, h⟩ := tw_bs h
              refine tw_callVv (ws' := (tw_wW cI cQ a na pa ta qa xa z ((r33.1.1, r33.1.2.1, r33.1.2.2.1, (upd r33.1.2.2.2.1 p1.toNatClampNeg p3), r33.1.2.2.2.2.1, r33.1.2.2.2.2.2.1, r33.1.2.2.2.2.2.2.1, r33.1.2.2.2.2.2.2.2.1, r33.1.2.2.2.2.2.2.2.2), r65, r33.2.2.1, r33.2.2.2.1, r33.2.2.2.2.1, r33.2.2.2.2.2.1, r33.2.2.2.2.2.2.1, r33.2.2.2.2.2.2.2.1, r33.2.2.2.2.2.2.2.2))) (As := [.ref (na 0)]) (rest := []) F hN hK hP hD hS hA (mX0_lay l G cI pa na r33.2.1 (r33.1.1, r33.1.2.1, r33.1.2.2.1, (upd r33.1.2.2.2.1 p1.toNatClampNeg p3), r33.1.2.2.2.2.1, r33.1.2.2.2.2.2.1, r33.1.2.2.2.2.2.2.1, r33.1.2.2.2.2.2.2.2.1, r33.1.2.2.2.2.2.2.2.2) H.size e65) (cwV 1 hts gX3_change_X0_lay rfl rfl rfl (by decide +kernel) ⟨(Nat.le_of_ble_eq_true rfl), (Nat.le_of_ble_eq_true rfl)⟩) [0] rfl [11, 12, 13, 3, 4, 5, 6, 7, 8, 9, 10] tw_cPN_nd tw_cPN_C rfl tw_cPN_M (r0 := 0) (ci := 0) rfl rfl rfl rfl hl.1 rfl (Nat.le_of_ble_eq_true rfl) dX3_change_65 ⟨Nat.zero_le _, Nat.zero_le _⟩ (fun H locs hP hD hS => ?_)
              refine lv_iload hx hb dX3_change_68 (lv_at hl 0 rfl) ?_
              exact hq H locs _ ls (r33.1.2.2.2.1 p1.toNatClampNeg) (tw_rt (fun r => r.2.1 = (r33.1.2.2.2.1 p1.toNatClampNeg)) h rfl) rfl (tw_rt (fun r => va_P G vwCl (tw_wW cI cQ a na pa ta qa xa z r.2.2) H) h hP) hS dX3_change_70
            · replace h := tw_f c41_4 h
              by_cases c41_5 : r41 = 5
              · replace h := tw_t c41_5 h
                rw [c41_5]
                refine lv_astore (lv' := [(4, .ref (na 5)), (0, .ref (a 0)), (1, .int p1), (2, .int p2), (3, .int p3)]) hx hb dX3_change_44 hl (by decide) rfl (fun ls hl => ?_)
                refine lv_aload hx hb dX3_change_46 (lv_at hl 0 rfl) ?_
                refine lv_iload_n hx hb dX3_change_48 rfl (lv_at hl 2 rfl) ?_
                obtain ⟨g49, h⟩ := tw_gs h
                refine va_iald (f := r33.1.2.2.2.2.1) (n := 12) hx hb hK hP 8 0 rfl rfl g49 dX3_change_49 ?_
                refine lv_istore (lv' := [(5, .int (r33.1.2.2.2.2.1 p1.toNatClampNeg)), (4, .ref (na 5)), (0, .ref (a 0)), (1, .int p1), (2, .int p2), (3, .int p3)]) hx hb dX3_change_50 hl (by decide) rfl (fun ls hl => ?_)
                refine lv_aload hx hb dX3_change_52 (lv_at hl 1 rfl) ?_
                refine lv_iload_n hx hb dX3_change_54 rfl (lv_at hl 3 rfl) ?_
                refine lv_iload_n hx hb dX3_change_55 rfl (lv_at hl 5 rfl) ?_
                obtain ⟨g56, h⟩ := tw_gs h
                refine tw_iast (ws' := (tw_wW cI cQ a na pa ta qa xa z ((r33.1.1, r33.1.2.1, r33.1.2.2.1, r33.1.2.2.2.1, (upd r33.1.2.2.2.2.1 p1.toNatClampNeg p3), r33.1.2.2.2.2.2.1, r33.1.2.2.2.2.2.2.1, r33.1.2.2.2.2.2.2.2.1, r33.1.2.2.2.2.2.2.2.2), r33.2.1, r33.2.2.1, r33.2.2.2.1, r33.2.2.2.2.1, r33.2.2.2.2.2.1, r33.2.2.2.2.2.2.1, r33.2.2.2.2.2.2.2.1, r33.2.2.2.2.2.2.2.2))) (f := r33.1.2.2.2.2.1) (n := 12) hx hb hK hP hD hS 8 0 rfl rfl g56 dX3_change_56 rfl (fun H locs hP hD hS => ?_)
                refine lv_aload_n hx hb dX3_change_57 rfl (lv_at hl 2 rfl) ?_
                refine va_get (D := G) (ci := 3) (v := .ref (pa 0)) (C := RX3) (T := TX3) (N := 8) hx hb hts iX3_change_X3 hown hK hP 0 rfl rfl 1 (by decide) (hts _ qX3_change_1) (fun _ h9 => h9) rfl dX3_change_58 ?_
                refine lv_aload_n hx hb dX3_change_61 rfl (lv_at hl 2 rfl) ?_
                refine va_get (D := G) (ci := 3) (v := .ref (na 0)) (C := RX3) (T := TX3) (N := 8) hx hb hts iX3_change_X3 hown hK hP 0 rfl rfl 0 (by decide) (hts _ qX3_change_0) (fun _ h9 => h9) rfl dX3_change_62 ?_
                obtain ⟨r65, e65, h⟩ := tw_bs h
                refine tw_callVv (ws' := (tw_wW cI cQ a na pa ta qa xa z ((r33.1.1, r33.1.2.1, r33.1.2.2.1, r33.1.2.2.2.1, (upd r33.1.2.2.2.2.1 p1.toNatClampNeg p3), r33.1.2.2.2.2.2.1, r33.1.2.2.2.2.2.2.1, r33.1.2.2.2.2.2.2.2.1, r33.1.2.2.2.2.2.2.2.2), r65, r33.2.2.1, r33.2.2.2.1, r33.2.2.2.2.1, r33.2.2.2.2.2.1, r33.2.2.2.2.2.2.1, r33.2.2.2.2.2.2.2.1, r33.2.2.2.2.2.2.2.2))) (As := [.ref (na 0)]) (rest := []) F hN hK hP hD hS hA (mX0_lay l G cI pa na r33.2.1 (r33.1.1, r33.1.2.1, r33.1.2.2.1, r33.1.2.2.2.1, (upd r33.1.2.2.2.2.1 p1.toNatClampNeg p3), r33.1.2.2.2.2.2.1, r33.1.2.2.2.2.2.2.1, r33.1.2.2.2.2.2.2.2.1, r33.1.2.2.2.2.2.2.2.2) H.size e65) (cwV 1 hts gX3_change_X0_lay rfl rfl rfl (by decide +kernel) ⟨(Nat.le_of_ble_eq_true rfl), (Nat.le_of_ble_eq_true rfl)⟩) [0] rfl [11, 12, 13, 3, 4, 5, 6, 7, 8, 9, 10] tw_cPN_nd tw_cPN_C rfl tw_cPN_M (r0 := 0) (ci := 0) rfl rfl rfl rfl hl.1 rfl (Nat.le_of_ble_eq_true rfl) dX3_change_65 ⟨Nat.zero_le _, Nat.zero_le _⟩ (fun H locs hP hD hS => ?_)
                refine lv_iload hx hb dX3_change_68 (lv_at hl 0 rfl) ?_
                exact hq H locs _ ls (r33.1.2.2.2.2.1 p1.toNatClampNeg) (tw_rt (fun r => r.2.1 = (r33.1.2.2.2.2.1 p1.toNatClampNeg)) h rfl) rfl (tw_rt (fun r => va_P G vwCl (tw_wW cI cQ a na pa ta qa xa z r.2.2) H) h hP) hS dX3_change_70
              · replace h := tw_f c41_5 h
                cases h
    · replace h := tw_fn c21 h
      exact tw_thr h hk (by decide)
  · replace h := tw_fn c5 h
    exact tw_thr h hk (by decide)
abbrev rmX3_slip : Room := { frames := 4, cells := 0, slots := 0, locals := 103 }
set_option maxRecDepth 20000 in
theorem qX3_slip_0 : (Cond.fieldLink RX3 19 "TheatreWall" "plan" "LTheatreWall$Plan;") ∈ wsX3_slip := (List.mem_cons_of_mem _ (List.mem_append_left _ (List.mem_append_left _ (List.mem_append_left _ (List.mem_append_left _ (List.mem_append_left _ (List.mem_append_left _ (List.mem_append_left _ (List.mem_of_getElem? (i := 6) rfl)))))))))
set_option maxRecDepth 20000 in
theorem qX3_slip_1 : (Cond.fieldLink RX3 112 "TheatreWall$Plan" "end" "I") ∈ wsX3_slip := (List.mem_cons_of_mem _ (List.mem_append_left _ (List.mem_append_left _ (List.mem_append_left _ (List.mem_append_left _ (List.mem_append_left _ (List.mem_append_left _ (List.mem_append_left _ (List.mem_of_getElem? (i := 7) rfl)))))))))
set_option maxRecDepth 20000 in
theorem qX3_slip_2 : (Cond.fieldLink RX3 10 "TheatreWall" "now" "LTheatreWall$State;") ∈ wsX3_slip := (List.mem_cons_of_mem _ (List.mem_append_left _ (List.mem_append_left _ (List.mem_append_left _ (List.mem_append_left _ (List.mem_append_left _ (List.mem_append_left _ (List.mem_append_left _ (List.mem_of_getElem? (i := 8) rfl)))))))))
set_option maxRecDepth 20000 in
theorem qX3_slip_3 : (Cond.fieldLink RX3 115 "TheatreWall$State" "earliest" "[I") ∈ wsX3_slip := (List.mem_cons_of_mem _ (List.mem_append_left _ (List.mem_append_left _ (List.mem_append_left _ (List.mem_append_left _ (List.mem_append_left _ (List.mem_append_left _ (List.mem_append_left _ (List.mem_of_getElem? (i := 9) rfl)))))))))
set_option maxRecDepth 20000 in
theorem qX3_slip_4 : (Cond.fieldLink RX3 118 "TheatreWall$Plan" "begins" "[I") ∈ wsX3_slip := (List.mem_cons_of_mem _ (List.mem_append_left _ (List.mem_append_left _ (List.mem_append_left _ (List.mem_append_left _ (List.mem_append_left _ (List.mem_append_left _ (List.mem_append_left _ (List.mem_of_getElem? (i := 10) rfl)))))))))
set_option maxRecDepth 20000 in
theorem iX3_slip_X3 : ∀ w ∈ u_ws RX3 TX3 8, w ∈ wsX3_slip := fun w h => (List.mem_cons_of_mem _ (List.mem_append_left _ (List.mem_append_left _ (List.mem_append_left _ (List.mem_append_left _ (List.mem_append_left _ (List.mem_append_right _ h)))))))
set_option maxRecDepth 20000 in
theorem iX3_slip_X0 : ∀ w ∈ u_ws RX0 TX0 5, w ∈ wsX3_slip := fun w h => (List.mem_cons_of_mem _ (List.mem_append_left _ (List.mem_append_left _ (List.mem_append_left _ (List.mem_append_left _ (List.mem_append_right _ h))))))
set_option maxRecDepth 20000 in
theorem iX3_slip_X1 : ∀ w ∈ u_ws RX1 TX1 9, w ∈ wsX3_slip := fun w h => (List.mem_cons_of_mem _ (List.mem_append_left _ (List.mem_append_left _ (List.mem_append_left _ (List.mem_append_right _ h)))))
set_option maxHeartbeats 4000000 in
set_option maxRecDepth 100000 in
theorem mX3_slip (l : Launch) (G : va_G) (cI : ClassId) (cQ : ClassId) (a na pa ta qa xa : Nat → Nat) (z : Nat → Nat → Nat) (Y : tw_Wl) (sz : Nat) (p1 : Int32) (p2 : Int32) {rv : Nat × Int32 × tw_Wl} (h : fX3_slip Y p1 p2 = some rv) (hk : rv.1 = 0) : tw_Mi l yX3_slip wsX3_slip rmX3_slip G [(cI, .int), (cQ, .object RX1)] (tw_wW cI cQ a na pa ta qa xa z Y) [.ref (a 0), .int p1, .int p2] sz rv.2.1 (tw_wW cI cQ a na pa ta qa xa z rv.2.2) := by
  refine tw_ofi (ty := .int) (cc := cX3_slip) (maxL := 4) (own := RX3) (by decide) rfl rfl (Nat.le_of_ble_eq_true rfl) ?_
  intro p e s m args below meth c Q A ls H locs F hN hK hP hD hS hA hl hq
  obtain ⟨hx, hb, hml, hown, hts⟩ := id F
  have hl : lv_has ls 4 [(0, .ref (a 0)), (1, .int p1), (2, .int p2)] := hl
  unfold fX3_slip at h
  refine lv_aload_n hx hb dX3_slip_0 rfl (lv_at hl 0 rfl) ?_
  refine lv_iload_n hx hb dX3_slip_1 rfl (lv_at hl 1 rfl) ?_
  obtain ⟨r2, e2, h⟩ := tw_bs h
  refine tw_callViF (ws' := (tw_wW cI cQ a na pa ta qa xa z Y)) (As := [.int p1]) (rest := []) F hN hK hP hD hS hA (mX3_isTask l G cI cQ a na pa ta qa xa z Y H.size p1 e2) (cwV 1 hts gX3_slip_X3_isTask rfl rfl rfl (by decide +kernel) ⟨(Nat.le_of_ble_eq_true rfl), (Nat.le_of_ble_eq_true rfl)⟩) rfl (r0 := 0) (ci := 3) rfl rfl rfl rfl hl.1 rfl (Nat.le_of_ble_eq_true rfl) dX3_slip_2 ⟨Nat.zero_le _, Nat.zero_le _⟩ (fun H locs hP hD hS => ?_)
  refine lv_if_ne (tgt := 16) hx hb dX3_slip_5 (by decide) (fun c5 => ?_) (fun c5 => ?_)
  · replace h := tw_t c5 h
    refine lv_iload_n hx hb dX3_slip_16 rfl (lv_at hl 2 rfl) ?_
    obtain ⟨r17, e17, h⟩ := tw_bs h
    refine tw_callSi (ws' := (tw_wW cI cQ a na pa ta qa xa z Y)) (As := [.int p2]) (rest := []) F hN hK hP hD hS hA (mX3_isSlip l G cI H.size p2 e17) (va_cwS 1 hts gX3_slip_X3_isSlip rfl rfl rfl (by decide +kernel) ⟨(Nat.le_of_ble_eq_true rfl), (Nat.le_of_ble_eq_true rfl)⟩) [0] rfl [] (by decide) rfl rfl rfl rfl hl.1 rfl (Nat.le_of_ble_eq_true rfl) dX3_slip_17 ⟨Nat.zero_le _, Nat.zero_le _⟩ (fun H locs hP hD hS => ?_)
    refine lv_if_ne (tgt := 31) hx hb dX3_slip_20 (by decide) (fun c20 => ?_) (fun c20 => ?_)
    · replace h := tw_t c20 h
      refine lv_aload_n hx hb dX3_slip_31 rfl (lv_at hl 0 rfl) ?_
      refine lv_iload_n hx hb dX3_slip_32 rfl (lv_at hl 1 rfl) ?_
      refine lv_iload_n hx hb dX3_slip_33 rfl (lv_at hl 2 rfl) ?_
      obtain ⟨r34, e34, h⟩ := tw_bs h
      refine tw_callViF (ws' := (tw_wW cI cQ a na pa ta qa xa z Y)) (As := [.int p1, .int p2]) (rest := []) F hN hK hP hD hS hA (mX3_couldSlip l G cI cQ a na pa ta qa xa z Y H.size p1 p2 e34) (cwV 2 hts gX3_slip_X3_couldSlip rfl rfl rfl (by decide +kernel) ⟨(Nat.le_of_ble_eq_true rfl), (Nat.le_of_ble_eq_true rfl)⟩) rfl (r0 := 0) (ci := 3) rfl rfl rfl rfl hl.1 rfl (Nat.le_of_ble_eq_true rfl) dX3_slip_34 ⟨Nat.zero_le _, Nat.zero_le _⟩ (fun H locs hP hD hS => ?_)
      refine lv_if_ne (tgt := 48) hx hb dX3_slip_37 (by decide) (fun c37 => ?_) (fun c37 => ?_)
      · replace h := tw_t c37 h
        refine lv_aload_n hx hb dX3_slip_48 rfl (lv_at hl 0 rfl) ?_
        refine va_get (D := G) (ci := 3) (v := .ref (pa 0)) (C := RX3) (T := TX3) (N := 8) hx hb hts iX3_slip_X3 hown hK hP 0 rfl rfl 1 (by decide) (hts _ qX3_slip_0) (fun _ h9 => h9) rfl dX3_slip_49 ?_
        refine va_get (D := G) (ci := 0) (v := .int Y.2.1.2.2.2.2) (C := RX0) (T := TX0) (N := 5) hx hb hts iX3_slip_X0 hown hK hP 11 rfl rfl 4 (by decide) (hts _ qX3_slip_1) (fun _ h9 => h9) rfl dX3_slip_52 ?_
        refine lv_istore_n (lv' := [(3, .int Y.2.1.2.2.2.2), (0, .ref (a 0)), (1, .int p1), (2, .int p2)]) hx hb dX3_slip_55 rfl hl (by decide) rfl (fun ls hl => ?_)
        refine lv_aload_n hx hb dX3_slip_56 rfl (lv_at hl 1 rfl) ?_
        obtain ⟨r57, e57, h⟩ := tw_bs h
        refine tw_callVvF (ws' := (tw_wW cI cQ a na pa ta qa xa z r57)) (As := []) (rest := []) F hN hK hP hD hS hA (mX3_saveState l G cI cQ a na pa ta qa xa z Y H.size e57) (cwV 0 hts gX3_slip_X3_saveState rfl rfl rfl (by decide +kernel) ⟨(Nat.le_of_ble_eq_true rfl), (Nat.le_of_ble_eq_true rfl)⟩) rfl (r0 := 0) (ci := 3) rfl rfl rfl rfl hl.1 rfl (Nat.le_of_ble_eq_true rfl) dX3_slip_57 ⟨Nat.zero_le _, Nat.zero_le _⟩ (fun H locs hP hD hS => ?_)
        refine lv_aload_n hx hb dX3_slip_60 rfl (lv_at hl 1 rfl) ?_
        refine va_get (D := G) (ci := 3) (v := .ref (na 0)) (C := RX3) (T := TX3) (N := 8) hx hb hts iX3_slip_X3 hown hK hP 0 rfl rfl 0 (by decide) (hts _ qX3_slip_2) (fun _ h9 => h9) rfl dX3_slip_61 ?_
        refine va_get (D := G) (ci := 1) (v := .ref (na 4)) (C := RX1) (T := TX1) (N := 9) hx hb hts iX3_slip_X1 hown hK hP 3 rfl rfl 3 (by decide) (hts _ qX3_slip_3) (fun _ h9 => h9) rfl dX3_slip_64 ?_
        refine lv_iload_n hx hb dX3_slip_67 rfl (lv_at hl 2 rfl) ?_
        refine lv_aload_n hx hb dX3_slip_68 rfl (lv_at hl 1 rfl) ?_
        refine va_get (D := G) (ci := 3) (v := .ref (pa 0)) (C := RX3) (T := TX3) (N := 8) hx hb hts iX3_slip_X3 hown hK hP 0 rfl rfl 1 (by decide) (hts _ qX3_slip_0) (fun _ h9 => h9) rfl dX3_slip_69 ?_
        refine va_get (D := G) (ci := 0) (v := .ref (pa 1)) (C := RX0) (T := TX0) (N := 5) hx hb hts iX3_slip_X0 hown hK hP 11 rfl rfl 0 (by decide) (hts _ qX3_slip_4) (fun _ h9 => h9) rfl dX3_slip_72 ?_
        refine lv_iload_n hx hb dX3_slip_75 rfl (lv_at hl 2 rfl) ?_
        obtain ⟨g76, h⟩ := tw_gs h
        refine va_iald (f := r57.2.1.1) (n := 12) hx hb hK hP 12 0 rfl rfl g76 dX3_slip_76 ?_
        refine lv_iload_n hx hb dX3_slip_77 rfl (lv_at hl 3 rfl) ?_
        refine lv_iadd hx hb dX3_slip_78 ?_
        obtain ⟨g79, h⟩ := tw_gs h
        refine tw_iast (ws' := (tw_wW cI cQ a na pa ta qa xa z ((r57.1.1, r57.1.2.1, r57.1.2.2.1, (upd r57.1.2.2.2.1 p1.toNatClampNeg ((r57.2.1.1 p1.toNatClampNeg) + p2)), r57.1.2.2.2.2.1, r57.1.2.2.2.2.2.1, r57.1.2.2.2.2.2.2.1, r57.1.2.2.2.2.2.2.2.1, r57.1.2.2.2.2.2.2.2.2), r57.2.1, r57.2.2.1, r57.2.2.2.1, r57.2.2.2.2.1, r57.2.2.2.2.2.1, r57.2.2.2.2.2.2.1, r57.2.2.2.2.2.2.2.1, r57.2.2.2.2.2.2.2.2))) (f := r57.1.2.2.2.1) (n := 12) hx hb hK hP hD hS 7 0 rfl rfl g79 dX3_slip_79 rfl (fun H locs hP hD hS => ?_)
        refine lv_aload_n hx hb dX3_slip_80 rfl (lv_at hl 1 rfl) ?_
        refine va_get (D := G) (ci := 3) (v := .ref (pa 0)) (C := RX3) (T := TX3) (N := 8) hx hb hts iX3_slip_X3 hown hK hP 0 rfl rfl 1 (by decide) (hts _ qX3_slip_0) (fun _ h9 => h9) rfl dX3_slip_81 ?_
        refine lv_aload_n hx hb dX3_slip_84 rfl (lv_at hl 1 rfl) ?_
        refine va_get (D := G) (ci := 3) (v := .ref (na 0)) (C := RX3) (T := TX3) (N := 8) hx hb hts iX3_slip_X3 hown hK hP 0 rfl rfl 0 (by decide) (hts _ qX3_slip_2) (fun _ h9 => h9) rfl dX3_slip_85 ?_
        obtain ⟨r88, e88, h⟩ := tw_bs h
        refine tw_callVv (ws' := (tw_wW cI cQ a na pa ta qa xa z ((r57.1.1, r57.1.2.1, r57.1.2.2.1, (upd r57.1.2.2.2.1 p1.toNatClampNeg ((r57.2.1.1 p1.toNatClampNeg) + p2)), r57.1.2.2.2.2.1, r57.1.2.2.2.2.2.1, r57.1.2.2.2.2.2.2.1, r57.1.2.2.2.2.2.2.2.1, r57.1.2.2.2.2.2.2.2.2), r88, r57.2.2.1, r57.2.2.2.1, r57.2.2.2.2.1, r57.2.2.2.2.2.1, r57.2.2.2.2.2.2.1, r57.2.2.2.2.2.2.2.1, r57.2.2.2.2.2.2.2.2))) (As := [.ref (na 0)]) (rest := []) F hN hK hP hD hS hA (mX0_lay l G cI pa na r57.2.1 (r57.1.1, r57.1.2.1, r57.1.2.2.1, (upd r57.1.2.2.2.1 p1.toNatClampNeg ((r57.2.1.1 p1.toNatClampNeg) + p2)), r57.1.2.2.2.2.1, r57.1.2.2.2.2.2.1, r57.1.2.2.2.2.2.2.1, r57.1.2.2.2.2.2.2.2.1, r57.1.2.2.2.2.2.2.2.2) H.size e88) (cwV 1 hts gX3_slip_X0_lay rfl rfl rfl (by decide +kernel) ⟨(Nat.le_of_ble_eq_true rfl), (Nat.le_of_ble_eq_true rfl)⟩) [0] rfl [11, 12, 13, 3, 4, 5, 6, 7, 8, 9, 10] tw_cPN_nd tw_cPN_C rfl tw_cPN_M (r0 := 0) (ci := 0) rfl rfl rfl rfl hl.1 rfl (Nat.le_of_ble_eq_true rfl) dX3_slip_88 ⟨Nat.zero_le _, Nat.zero_le _⟩ (fun H locs hP hD hS => ?_)
        refine lv_aload_n hx hb dX3_slip_91 rfl (lv_at hl 1 rfl) ?_
        refine va_get (D := G) (ci := 3) (v := .ref (pa 0)) (C := RX3) (T := TX3) (N := 8) hx hb hts iX3_slip_X3 hown hK hP 0 rfl rfl 1 (by decide) (hts _ qX3_slip_0) (fun _ h9 => h9) rfl dX3_slip_92 ?_
        refine va_get (D := G) (ci := 0) (v := .int r88.2.2.2.2) (C := RX0) (T := TX0) (N := 5) hx hb hts iX3_slip_X0 hown hK hP 11 rfl rfl 4 (by decide) (hts _ qX3_slip_1) (fun _ h9 => h9) rfl dX3_slip_95 ?_
        refine lv_iload_n hx hb dX3_slip_98 rfl (lv_at hl 0 rfl) ?_
        refine lv_isub hx hb dX3_slip_99 ?_
        exact hq H locs _ ls (r88.2.2.2.2 - Y.2.1.2.2.2.2) (tw_rt (fun r => r.2.1 = (r88.2.2.2.2 - Y.2.1.2.2.2.2)) h rfl) rfl (tw_rt (fun r => va_P G vwCl (tw_wW cI cQ a na pa ta qa xa z r.2.2) H) h hP) hS dX3_slip_100
      · replace h := tw_fn c37 h
        exact tw_thr h hk (by decide)
    · replace h := tw_fn c20 h
      exact tw_thr h hk (by decide)
  · replace h := tw_fn c5 h
    exact tw_thr h hk (by decide)
abbrev rxX3_slip : Room := { frames := 6, cells := 1, slots := 6, locals := 103 }
set_option maxRecDepth 20000 in
theorem qbX3_slip_0 : (Cond.fieldLink RX3 19 "TheatreWall" "plan" "LTheatreWall$Plan;") ∈ wsX3_slip := (List.mem_cons_of_mem _ (List.mem_append_left _ (List.mem_append_left _ (List.mem_append_left _ (List.mem_append_left _ (List.mem_append_left _ (List.mem_append_left _ (List.mem_append_left _ (List.mem_of_getElem? (i := 6) rfl)))))))))
set_option maxRecDepth 20000 in
theorem qbX3_slip_1 : (Cond.fieldLink RX3 112 "TheatreWall$Plan" "end" "I") ∈ wsX3_slip := (List.mem_cons_of_mem _ (List.mem_append_left _ (List.mem_append_left _ (List.mem_append_left _ (List.mem_append_left _ (List.mem_append_left _ (List.mem_append_left _ (List.mem_append_left _ (List.mem_of_getElem? (i := 7) rfl)))))))))
set_option maxRecDepth 20000 in
theorem qbX3_slip_2 : (Cond.fieldLink RX3 10 "TheatreWall" "now" "LTheatreWall$State;") ∈ wsX3_slip := (List.mem_cons_of_mem _ (List.mem_append_left _ (List.mem_append_left _ (List.mem_append_left _ (List.mem_append_left _ (List.mem_append_left _ (List.mem_append_left _ (List.mem_append_left _ (List.mem_of_getElem? (i := 8) rfl)))))))))
set_option maxRecDepth 20000 in
theorem qbX3_slip_3 : (Cond.fieldLink RX3 115 "TheatreWall$State" "earliest" "[I") ∈ wsX3_slip := (List.mem_cons_of_mem _ (List.mem_append_left _ (List.mem_append_left _ (List.mem_append_left _ (List.mem_append_left _ (List.mem_append_left _ (List.mem_append_left _ (List.mem_append_left _ (List.mem_of_getElem? (i := 9) rfl)))))))))
set_option maxRecDepth 20000 in
theorem qbX3_slip_4 : (Cond.fieldLink RX3 118 "TheatreWall$Plan" "begins" "[I") ∈ wsX3_slip := (List.mem_cons_of_mem _ (List.mem_append_left _ (List.mem_append_left _ (List.mem_append_left _ (List.mem_append_left _ (List.mem_append_left _ (List.mem_append_left _ (List.mem_append_left _ (List.mem_of_getElem? (i := 10) rfl)))))))))
set_option maxRecDepth 20000 in
theorem qbX3_slip_5 : (Cond.classLink RX3 64 "java/lang/IllegalStateException") ∈ wsX3_slip := (List.mem_cons_of_mem _ (List.mem_append_left _ (List.mem_append_left _ (List.mem_append_left _ (List.mem_append_left _ (List.mem_append_left _ (List.mem_append_left _ (List.mem_append_left _ (List.mem_of_getElem? (i := 4) rfl)))))))))
set_option maxRecDepth 20000 in
theorem qbX3_slip_6 : (Cond.initialized "java/lang/IllegalStateException") ∈ wsX3_slip := (List.mem_cons_of_mem _ (List.mem_append_left _ (List.mem_append_left _ (List.mem_append_left _ (List.mem_append_left _ (List.mem_append_left _ (List.mem_append_left _ (List.mem_append_left _ (List.mem_of_getElem? (i := 5) rfl)))))))))
set_option maxRecDepth 20000 in
theorem qbX3_slip_7 : (Cond.classLink RX3 58 "java/lang/IllegalArgumentException") ∈ wsX3_slip := (List.mem_cons_of_mem _ (List.mem_append_left _ (List.mem_append_left _ (List.mem_append_left _ (List.mem_append_left _ (List.mem_append_left _ (List.mem_append_left _ (List.mem_append_left _ (List.mem_of_getElem? (i := 2) rfl)))))))))
set_option maxRecDepth 20000 in
theorem qbX3_slip_8 : (Cond.initialized "java/lang/IllegalArgumentException") ∈ wsX3_slip := (List.mem_cons_of_mem _ (List.mem_append_left _ (List.mem_append_left _ (List.mem_append_left _ (List.mem_append_left _ (List.mem_append_left _ (List.mem_append_left _ (List.mem_append_left _ (List.mem_of_getElem? (i := 3) rfl)))))))))
set_option maxRecDepth 20000 in
theorem qbX3_slip_9 : (Cond.classLink RX3 81 "java/lang/IndexOutOfBoundsException") ∈ wsX3_slip := (List.mem_cons_of_mem _ (List.mem_append_left _ (List.mem_append_left _ (List.mem_append_left _ (List.mem_append_left _ (List.mem_append_left _ (List.mem_append_left _ (List.mem_append_left _ (List.mem_of_getElem? (i := 0) rfl)))))))))
set_option maxRecDepth 20000 in
theorem qbX3_slip_10 : (Cond.initialized "java/lang/IndexOutOfBoundsException") ∈ wsX3_slip := (List.mem_cons_of_mem _ (List.mem_append_left _ (List.mem_append_left _ (List.mem_append_left _ (List.mem_append_left _ (List.mem_append_left _ (List.mem_append_left _ (List.mem_append_left _ (List.mem_of_getElem? (i := 1) rfl)))))))))
set_option maxRecDepth 20000 in
theorem ibX3_slip_X3 : ∀ w ∈ u_ws RX3 TX3 8, w ∈ wsX3_slip := fun w h => (List.mem_cons_of_mem _ (List.mem_append_left _ (List.mem_append_left _ (List.mem_append_left _ (List.mem_append_left _ (List.mem_append_left _ (List.mem_append_right _ h)))))))
set_option maxRecDepth 20000 in
theorem ibX3_slip_X0 : ∀ w ∈ u_ws RX0 TX0 5, w ∈ wsX3_slip := fun w h => (List.mem_cons_of_mem _ (List.mem_append_left _ (List.mem_append_left _ (List.mem_append_left _ (List.mem_append_left _ (List.mem_append_right _ h))))))
set_option maxRecDepth 20000 in
theorem ibX3_slip_X1 : ∀ w ∈ u_ws RX1 TX1 9, w ∈ wsX3_slip := fun w h => (List.mem_cons_of_mem _ (List.mem_append_left _ (List.mem_append_left _ (List.mem_append_left _ (List.mem_append_right _ h)))))
set_option maxHeartbeats 4000000 in
set_option maxRecDepth 100000 in
theorem xX3_slip (l : Launch) (hst : l.stackTraces = false) (G : va_G) (cI : ClassId) (cQ : ClassId) (a na pa ta qa xa : Nat → Nat) (z : Nat → Nat → Nat) (Y : tw_Wl) (sz : Nat) (p1 : Int32) (p2 : Int32) {rv : Nat × Int32 × tw_Wl} (h : fX3_slip Y p1 p2 = some rv) (hk : ¬ rv.1 = 0) {Qc : Array Value → State → Outcome → State → Prop} : tw_Mx l yX3_slip wsX3_slip rxX3_slip G [(cI, .int), (cQ, .object RX1)] (tw_wW cI cQ a na pa ta qa xa z Y) [.ref (a 0), .int p1, .int p2] sz (tw_en rv.1) (tw_wW cI cQ a na pa ta qa xa z rv.2.2) Qc := by
  refine tw_ofx hst (cc := cX3_slip) (maxL := 4) (own := RX3) (by decide) rfl rfl (Nat.le_of_ble_eq_true rfl) (Nat.le_of_ble_eq_true rfl) (Nat.le_of_ble_eq_true rfl) (Nat.le_of_ble_eq_true rfl) (Nat.le_of_ble_eq_true rfl) ?_
  intro p e s m args below meth c Q A ls H locs F hN hK hP hD hS hA hl hNX hq
  obtain ⟨hx, hb, hml, hown, hts⟩ := id F
  have hl : lv_has ls 4 [(0, .ref (a 0)), (1, .int p1), (2, .int p2)] := hl
  unfold fX3_slip at h
  refine lv_aload_n hx hb dX3_slip_0 rfl (lv_at hl 0 rfl) ?_
  refine lv_iload_n hx hb dX3_slip_1 rfl (lv_at hl 1 rfl) ?_
  obtain ⟨r2, e2, h⟩ := tw_bs h
  refine tw_callViF (ws' := (tw_wW cI cQ a na pa ta qa xa z Y)) (As := [.int p1]) (rest := []) F hN hK hP hD hS hA (mX3_isTask l G cI cQ a na pa ta qa xa z Y H.size p1 e2) (cwV 1 hts gX3_slip_X3_isTask rfl rfl rfl (by decide +kernel) ⟨(Nat.le_of_ble_eq_true rfl), (Nat.le_of_ble_eq_true rfl)⟩) rfl (r0 := 0) (ci := 3) rfl rfl rfl rfl hl.1 rfl (Nat.le_of_ble_eq_true rfl) dX3_slip_2 ⟨Nat.zero_le _, Nat.zero_le _⟩ (fun H locs hP hD hS => ?_)
  refine lv_if_ne (tgt := 16) hx hb dX3_slip_5 (by decide) (fun c5 => ?_) (fun c5 => ?_)
  · replace h := tw_t c5 h
    refine lv_iload_n hx hb dX3_slip_16 rfl (lv_at hl 2 rfl) ?_
    obtain ⟨r17, e17, h⟩ := tw_bs h
    refine tw_callSi (ws' := (tw_wW cI cQ a na pa ta qa xa z Y)) (As := [.int p2]) (rest := []) F hN hK hP hD hS hA (mX3_isSlip l G cI H.size p2 e17) (va_cwS 1 hts gX3_slip_X3_isSlip rfl rfl rfl (by decide +kernel) ⟨(Nat.le_of_ble_eq_true rfl), (Nat.le_of_ble_eq_true rfl)⟩) [0] rfl [] (by decide) rfl rfl rfl rfl hl.1 rfl (Nat.le_of_ble_eq_true rfl) dX3_slip_17 ⟨Nat.zero_le _, Nat.zero_le _⟩ (fun H locs hP hD hS => ?_)
    refine lv_if_ne (tgt := 31) hx hb dX3_slip_20 (by decide) (fun c20 => ?_) (fun c20 => ?_)
    · replace h := tw_t c20 h
      refine lv_aload_n hx hb dX3_slip_31 rfl (lv_at hl 0 rfl) ?_
      refine lv_iload_n hx hb dX3_slip_32 rfl (lv_at hl 1 rfl) ?_
      refine lv_iload_n hx hb dX3_slip_33 rfl (lv_at hl 2 rfl) ?_
      obtain ⟨r34, e34, h⟩ := tw_bs h
      refine tw_callViF (ws' := (tw_wW cI cQ a na pa ta qa xa z Y)) (As := [.int p1, .int p2]) (rest := []) F hN hK hP hD hS hA (mX3_couldSlip l G cI cQ a na pa ta qa xa z Y H.size p1 p2 e34) (cwV 2 hts gX3_slip_X3_couldSlip rfl rfl rfl (by decide +kernel) ⟨(Nat.le_of_ble_eq_true rfl), (Nat.le_of_ble_eq_true rfl)⟩) rfl (r0 := 0) (ci := 3) rfl rfl rfl rfl hl.1 rfl (Nat.le_of_ble_eq_true rfl) dX3_slip_34 ⟨Nat.zero_le _, Nat.zero_le _⟩ (fun H locs hP hD hS => ?_)
      refine lv_if_ne (tgt := 48) hx hb dX3_slip_37 (by decide) (fun c37 => ?_) (fun c37 => ?_)
      · replace h := tw_t c37 h
        refine lv_aload_n hx hb dX3_slip_48 rfl (lv_at hl 0 rfl) ?_
        refine va_get (D := G) (ci := 3) (v := .ref (pa 0)) (C := RX3) (T := TX3) (N := 8) hx hb hts ibX3_slip_X3 hown hK hP 0 rfl rfl 1 (by decide) (hts _ qbX3_slip_0) (fun _ h9 => h9) rfl dX3_slip_49 ?_
        refine va_get (D := G) (ci := 0) (v := .int Y.2.1.2.2.2.2) (C := RX0) (T := TX0) (N := 5) hx hb hts ibX3_slip_X0 hown hK hP 11 rfl rfl 4 (by decide) (hts _ qbX3_slip_1) (fun _ h9 => h9) rfl dX3_slip_52 ?_
        refine lv_istore_n (lv' := [(3, .int Y.2.1.2.2.2.2), (0, .ref (a 0)), (1, .int p1), (2, .int p2)]) hx hb dX3_slip_55 rfl hl (by decide) rfl (fun ls hl => ?_)
        refine lv_aload_n hx hb dX3_slip_56 rfl (lv_at hl 1 rfl) ?_
        obtain ⟨r57, e57, h⟩ := tw_bs h
        refine tw_callVvF (ws' := (tw_wW cI cQ a na pa ta qa xa z r57)) (As := []) (rest := []) F hN hK hP hD hS hA (mX3_saveState l G cI cQ a na pa ta qa xa z Y H.size e57) (cwV 0 hts gX3_slip_X3_saveState rfl rfl rfl (by decide +kernel) ⟨(Nat.le_of_ble_eq_true rfl), (Nat.le_of_ble_eq_true rfl)⟩) rfl (r0 := 0) (ci := 3) rfl rfl rfl rfl hl.1 rfl (Nat.le_of_ble_eq_true rfl) dX3_slip_57 ⟨Nat.zero_le _, Nat.zero_le _⟩ (fun H locs hP hD hS => ?_)
        refine lv_aload_n hx hb dX3_slip_60 rfl (lv_at hl 1 rfl) ?_
        refine va_get (D := G) (ci := 3) (v := .ref (na 0)) (C := RX3) (T := TX3) (N := 8) hx hb hts ibX3_slip_X3 hown hK hP 0 rfl rfl 0 (by decide) (hts _ qbX3_slip_2) (fun _ h9 => h9) rfl dX3_slip_61 ?_
        refine va_get (D := G) (ci := 1) (v := .ref (na 4)) (C := RX1) (T := TX1) (N := 9) hx hb hts ibX3_slip_X1 hown hK hP 3 rfl rfl 3 (by decide) (hts _ qbX3_slip_3) (fun _ h9 => h9) rfl dX3_slip_64 ?_
        refine lv_iload_n hx hb dX3_slip_67 rfl (lv_at hl 2 rfl) ?_
        refine lv_aload_n hx hb dX3_slip_68 rfl (lv_at hl 1 rfl) ?_
        refine va_get (D := G) (ci := 3) (v := .ref (pa 0)) (C := RX3) (T := TX3) (N := 8) hx hb hts ibX3_slip_X3 hown hK hP 0 rfl rfl 1 (by decide) (hts _ qbX3_slip_0) (fun _ h9 => h9) rfl dX3_slip_69 ?_
        refine va_get (D := G) (ci := 0) (v := .ref (pa 1)) (C := RX0) (T := TX0) (N := 5) hx hb hts ibX3_slip_X0 hown hK hP 11 rfl rfl 0 (by decide) (hts _ qbX3_slip_4) (fun _ h9 => h9) rfl dX3_slip_72 ?_
        refine lv_iload_n hx hb dX3_slip_75 rfl (lv_at hl 2 rfl) ?_
        obtain ⟨g76, h⟩ := tw_gs h
        refine va_iald (f := r57.2.1.1) (n := 12) hx hb hK hP 12 0 rfl rfl g76 dX3_slip_76 ?_
        refine lv_iload_n hx hb dX3_slip_77 rfl (lv_at hl 3 rfl) ?_
        refine lv_iadd hx hb dX3_slip_78 ?_
        obtain ⟨g79, h⟩ := tw_gs h
        refine tw_iast (ws' := (tw_wW cI cQ a na pa ta qa xa z ((r57.1.1, r57.1.2.1, r57.1.2.2.1, (upd r57.1.2.2.2.1 p1.toNatClampNeg ((r57.2.1.1 p1.toNatClampNeg) + p2)), r57.1.2.2.2.2.1, r57.1.2.2.2.2.2.1, r57.1.2.2.2.2.2.2.1, r57.1.2.2.2.2.2.2.2.1, r57.1.2.2.2.2.2.2.2.2), r57.2.1, r57.2.2.1, r57.2.2.2.1, r57.2.2.2.2.1, r57.2.2.2.2.2.1, r57.2.2.2.2.2.2.1, r57.2.2.2.2.2.2.2.1, r57.2.2.2.2.2.2.2.2))) (f := r57.1.2.2.2.1) (n := 12) hx hb hK hP hD hS 7 0 rfl rfl g79 dX3_slip_79 rfl (fun H locs hP hD hS => ?_)
        refine lv_aload_n hx hb dX3_slip_80 rfl (lv_at hl 1 rfl) ?_
        refine va_get (D := G) (ci := 3) (v := .ref (pa 0)) (C := RX3) (T := TX3) (N := 8) hx hb hts ibX3_slip_X3 hown hK hP 0 rfl rfl 1 (by decide) (hts _ qbX3_slip_0) (fun _ h9 => h9) rfl dX3_slip_81 ?_
        refine lv_aload_n hx hb dX3_slip_84 rfl (lv_at hl 1 rfl) ?_
        refine va_get (D := G) (ci := 3) (v := .ref (na 0)) (C := RX3) (T := TX3) (N := 8) hx hb hts ibX3_slip_X3 hown hK hP 0 rfl rfl 0 (by decide) (hts _ qbX3_slip_2) (fun _ h9 => h9) rfl dX3_slip_85 ?_
        obtain ⟨r88, e88, h⟩ := tw_bs h
        refine tw_callVv (ws' := (tw_wW cI cQ a na pa ta qa xa z ((r57.1.1, r57.1.2.1, r57.1.2.2.1, (upd r57.1.2.2.2.1 p1.toNatClampNeg ((r57.2.1.1 p1.toNatClampNeg) + p2)), r57.1.2.2.2.2.1, r57.1.2.2.2.2.2.1, r57.1.2.2.2.2.2.2.1, r57.1.2.2.2.2.2.2.2.1, r57.1.2.2.2.2.2.2.2.2), r88, r57.2.2.1, r57.2.2.2.1, r57.2.2.2.2.1, r57.2.2.2.2.2.1, r57.2.2.2.2.2.2.1, r57.2.2.2.2.2.2.2.1, r57.2.2.2.2.2.2.2.2))) (As := [.ref (na 0)]) (rest := []) F hN hK hP hD hS hA (mX0_lay l G cI pa na r57.2.1 (r57.1.1, r57.1.2.1, r57.1.2.2.1, (upd r57.1.2.2.2.1 p1.toNatClampNeg ((r57.2.1.1 p1.toNatClampNeg) + p2)), r57.1.2.2.2.2.1, r57.1.2.2.2.2.2.1, r57.1.2.2.2.2.2.2.1, r57.1.2.2.2.2.2.2.2.1, r57.1.2.2.2.2.2.2.2.2) H.size e88) (cwV 1 hts gX3_slip_X0_lay rfl rfl rfl (by decide +kernel) ⟨(Nat.le_of_ble_eq_true rfl), (Nat.le_of_ble_eq_true rfl)⟩) [0] rfl [11, 12, 13, 3, 4, 5, 6, 7, 8, 9, 10] tw_cPN_nd tw_cPN_C rfl tw_cPN_M (r0 := 0) (ci := 0) rfl rfl rfl rfl hl.1 rfl (Nat.le_of_ble_eq_true rfl) dX3_slip_88 ⟨Nat.zero_le _, Nat.zero_le _⟩ (fun H locs hP hD hS => ?_)
        refine lv_aload_n hx hb dX3_slip_91 rfl (lv_at hl 1 rfl) ?_
        refine va_get (D := G) (ci := 3) (v := .ref (pa 0)) (C := RX3) (T := TX3) (N := 8) hx hb hts ibX3_slip_X3 hown hK hP 0 rfl rfl 1 (by decide) (hts _ qbX3_slip_0) (fun _ h9 => h9) rfl dX3_slip_92 ?_
        refine va_get (D := G) (ci := 0) (v := .int r88.2.2.2.2) (C := RX0) (T := TX0) (N := 5) hx hb hts ibX3_slip_X0 hown hK hP 11 rfl rfl 4 (by decide) (hts _ qbX3_slip_1) (fun _ h9 => h9) rfl dX3_slip_95 ?_
        refine lv_iload_n hx hb dX3_slip_98 rfl (lv_at hl 0 rfl) ?_
        refine lv_isub hx hb dX3_slip_99 ?_
        exact absurd (tw_rt (fun r => r.1 = 0) h rfl) hk
      · replace h := tw_fn c37 h
        exact hq H locs 40 ls tw_E2 64 66 (tw_rt (fun r => tw_E2 = tw_en r.1) h rfl) (by decide) (hts _ qbX3_slip_5) (hts _ qbX3_slip_6) (vx_hat (fun w h => hts w (List.mem_cons_of_mem _ (List.mem_append_right _ h))) tw_xb2 hNX.words) tw_xg2 dX3_slip_40 dX3_slip_43 dX3_slip_44 dX3_slip_47 hl.1 (tw_rt (fun r => va_P G vwCl (tw_wW cI cQ a na pa ta qa xa z r.2.2) H) h hP) hS
    · replace h := tw_fn c20 h
      exact hq H locs 23 ls tw_E1 58 60 (tw_rt (fun r => tw_E1 = tw_en r.1) h rfl) (by decide) (hts _ qbX3_slip_7) (hts _ qbX3_slip_8) (vx_hat (fun w h => hts w (List.mem_cons_of_mem _ (List.mem_append_left _ (List.mem_append_right _ h)))) tw_xb1 hNX.words) tw_xg1 dX3_slip_23 dX3_slip_26 dX3_slip_27 dX3_slip_30 hl.1 (tw_rt (fun r => va_P G vwCl (tw_wW cI cQ a na pa ta qa xa z r.2.2) H) h hP) hS
  · replace h := tw_fn c5 h
    exact hq H locs 8 ls tw_E3 81 83 (tw_rt (fun r => tw_E3 = tw_en r.1) h rfl) (by decide) (hts _ qbX3_slip_9) (hts _ qbX3_slip_10) (vx_hat (fun w h => hts w (List.mem_cons_of_mem _ (List.mem_append_left _ (List.mem_append_left _ (List.mem_append_right _ h))))) tw_xb3 hNX.words) tw_xg3 dX3_slip_8 dX3_slip_11 dX3_slip_12 dX3_slip_15 hl.1 (tw_rt (fun r => va_P G vwCl (tw_wW cI cQ a na pa ta qa xa z r.2.2) H) h hP) hS
