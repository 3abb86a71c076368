abbrev rmX3_borrow : Room := { frames := 4, cells := 0, slots := 0, locals := 103 }
set_option maxRecDepth 20000 in
theorem qX3_borrow_0 : (Cond.fieldLink RX3 10 "TheatreWall" "now" "LTheatreWall$State;") ∈ wsX3_borrow := (List.mem_cons_of_mem _ (List.mem_append_left _ (List.mem_append_left _ (List.mem_append_left _ (List.mem_append_left _ (List.mem_append_left _ (List.mem_append_left _ (List.mem_of_getElem? (i := 4) rfl))))))))
set_option maxRecDepth 20000 in
theorem qX3_borrow_1 : (Cond.fieldLink RX3 127 "TheatreWall$State" "firstDays" "[I") ∈ wsX3_borrow := (List.mem_cons_of_mem _ (List.mem_append_left _ (List.mem_append_left _ (List.mem_append_left _ (List.mem_append_left _ (List.mem_append_left _ (List.mem_append_left _ (List.mem_of_getElem? (i := 5) rfl))))))))
set_option maxRecDepth 20000 in
theorem qX3_borrow_2 : (Cond.fieldLink RX3 130 "TheatreWall$State" "lastDays" "[I") ∈ wsX3_borrow := (List.mem_cons_of_mem _ (List.mem_append_left _ (List.mem_append_left _ (List.mem_append_left _ (List.mem_append_left _ (List.mem_append_left _ (List.mem_append_left _ (List.mem_of_getElem? (i := 6) rfl))))))))
set_option maxRecDepth 20000 in
theorem qX3_borrow_3 : (Cond.fieldLink RX3 19 "TheatreWall" "plan" "LTheatreWall$Plan;") ∈ wsX3_borrow := (List.mem_cons_of_mem _ (List.mem_append_left _ (List.mem_append_left _ (List.mem_append_left _ (List.mem_append_left _ (List.mem_append_left _ (List.mem_append_left _ (List.mem_of_getElem? (i := 7) rfl))))))))
set_option maxRecDepth 20000 in
theorem qX3_borrow_4 : (Cond.fieldLink RX3 133 "TheatreWall$Plan" "laidCount" "I") ∈ wsX3_borrow := (List.mem_cons_of_mem _ (List.mem_append_left _ (List.mem_append_left _ (List.mem_append_left _ (List.mem_append_left _ (List.mem_append_left _ (List.mem_append_left _ (List.mem_of_getElem? (i := 8) rfl))))))))
set_option maxRecDepth 20000 in
theorem iX3_borrow_X3 : ∀ w ∈ u_ws RX3 TX3 8, w ∈ wsX3_borrow := fun w h => (List.mem_cons_of_mem _ (List.mem_append_left _ (List.mem_append_left _ (List.mem_append_left _ (List.mem_append_left _ (List.mem_append_right _ h))))))
set_option maxRecDepth 20000 in
theorem iX3_borrow_X1 : ∀ w ∈ u_ws RX1 TX1 9, w ∈ wsX3_borrow := fun w h => (List.mem_cons_of_mem _ (List.mem_append_left _ (List.mem_append_left _ (List.mem_append_left _ (List.mem_append_right _ h)))))
set_option maxRecDepth 20000 in
theorem iX3_borrow_X0 : ∀ w ∈ u_ws RX0 TX0 5, w ∈ wsX3_borrow := fun w h => (List.mem_cons_of_mem _ (List.mem_append_left _ (List.mem_append_left _ (List.mem_append_right _ h))))
set_option maxHeartbeats 4000000 in
set_option maxRecDepth 100000 in
theorem mX3_borrow (l : Launch) (G : va_G) (cI : ClassId) (cQ : ClassId) (a na pa ta qa xa : Nat → Nat) (z : Nat → Nat → Nat) (Y : tw_Wl) (sz : Nat) (p1 : Int32) (p2 : Int32) (p3 : Int32) {rv : Nat × Int32 × tw_Wl} (h : fX3_borrow Y p1 p2 p3 = some rv) (hk : rv.1 = 0) : tw_Mi l yX3_borrow wsX3_borrow rmX3_borrow G [(cI, .int), (cQ, .object RX1)] (tw_wW cI cQ a na pa ta qa xa z Y) [.ref (a 0), .int p1, .int p2, .int p3] sz rv.2.1 (tw_wW cI cQ a na pa ta qa xa z rv.2.2) := by
  refine tw_ofi (ty := .int) (cc := cX3_borrow) (maxL := 4) (own := RX3) (by decide) rfl rfl (Nat.le_of_ble_eq_true rfl) ?_
  intro p e s m args below meth c Q A ls H locs F hN hK hP hD hS hA hl hq
  obtain ⟨hx, hb, hml, hown, hts⟩ := id F
  have hl : lv_has ls 4 [(0, .ref (a 0)), (1, .int p1), (2, .int p2), (3, .int p3)] := hl
  unfold fX3_borrow at h
  refine lv_iload_n hx hb dX3_borrow_0 rfl (lv_at hl 1 rfl) ?_
  obtain ⟨r1, e1, h⟩ := tw_bs h
  refine tw_callSi (ws' := (tw_wW cI cQ a na pa ta qa xa z Y)) (As := [.int p1]) (rest := []) F hN hK hP hD hS hA (mX3_isHall l G cI H.size p1 e1) (va_cwS 1 hts gX3_borrow_X3_isHall rfl rfl rfl (by decide +kernel) ⟨(Nat.le_of_ble_eq_true rfl), (Nat.le_of_ble_eq_true rfl)⟩) [0] rfl [] (by decide) rfl rfl rfl rfl hl.1 rfl (Nat.le_of_ble_eq_true rfl) dX3_borrow_1 ⟨Nat.zero_le _, Nat.zero_le _⟩ (fun H locs hP hD hS => ?_)
  refine lv_if_ne (tgt := 15) hx hb dX3_borrow_4 (by decide) (fun c4 => ?_) (fun c4 => ?_)
  · replace h := tw_t c4 h
    refine lv_iload_n hx hb dX3_borrow_15 rfl (lv_at hl 2 rfl) ?_
    obtain ⟨r16, e16, h⟩ := tw_bs h
    refine tw_callSi (ws' := (tw_wW cI cQ a na pa ta qa xa z Y)) (As := [.int p2]) (rest := []) F hN hK hP hD hS hA (mX3_isDay l G cI H.size p2 e16) (va_cwS 1 hts gX3_borrow_X3_isDay rfl rfl rfl (by decide +kernel) ⟨(Nat.le_of_ble_eq_true rfl), (Nat.le_of_ble_eq_true rfl)⟩) [0] rfl [] (by decide) rfl rfl rfl rfl hl.1 rfl (Nat.le_of_ble_eq_true rfl) dX3_borrow_16 ⟨Nat.zero_le _, Nat.zero_le _⟩ (fun H locs hP hD hS => ?_)
    refine lv_if_eq (tgt := 34) hx hb dX3_borrow_19 (by decide) (fun c19 => ?_) (fun c19 => ?_)
    · replace h := tw_t c19 h
      exact tw_thr h hk (by decide)
    · replace h := tw_f c19 h
      refine lv_iload_n hx hb dX3_borrow_22 rfl (lv_at hl 3 rfl) ?_
      obtain ⟨r23, e23, h⟩ := tw_bs h
      refine tw_callSi (ws' := (tw_wW cI cQ a na pa ta qa xa z Y)) (As := [.int p3]) (rest := []) F hN hK hP hD hS hA (mX3_isDay l G cI H.size p3 e23) (va_cwS 1 hts gX3_borrow_X3_isDay rfl rfl rfl (by decide +kernel) ⟨(Nat.le_of_ble_eq_true rfl), (Nat.le_of_ble_eq_true rfl)⟩) [0] rfl [] (by decide) rfl rfl rfl rfl hl.1 rfl (Nat.le_of_ble_eq_true rfl) dX3_borrow_23 ⟨Nat.zero_le _, Nat.zero_le _⟩ (fun H locs hP hD hS => ?_)
      refine lv_if_eq (tgt := 34) hx hb dX3_borrow_26 (by decide) (fun c26 => ?_) (fun c26 => ?_)
      · replace h := tw_t c26 h
        exact tw_thr h hk (by decide)
      · replace h := tw_f c26 h
        refine lv_iload_n hx hb dX3_borrow_29 rfl (lv_at hl 3 rfl) ?_
        refine lv_iload_n hx hb dX3_borrow_30 rfl (lv_at hl 2 rfl) ?_
        refine lv_icmp_ge (tgt := 42) hx hb dX3_borrow_31 (by decide) (fun c31 => ?_) (fun c31 => ?_)
        · replace h := tw_t c31 h
          refine lv_aload_n hx hb dX3_borrow_42 rfl (lv_at hl 0 rfl) ?_
          obtain ⟨r43, e43, h⟩ := tw_bs h
          refine tw_callVvF (ws' := (tw_wW cI cQ a na pa ta qa xa z r43)) (As := []) (rest := []) F hN hK hP hD hS hA (mX3_saveState l G cI cQ a na pa ta qa xa z Y H.size e43) (cwV 0 hts gX3_borrow_X3_saveState rfl rfl rfl (by decide +kernel) ⟨(Nat.le_of_ble_eq_true rfl), (Nat.le_of_ble_eq_true rfl)⟩) rfl (r0 := 0) (ci := 3) rfl rfl rfl rfl hl.1 rfl (Nat.le_of_ble_eq_true rfl) dX3_borrow_43 ⟨Nat.zero_le _, Nat.zero_le _⟩ (fun H locs hP hD hS => ?_)
          refine lv_aload_n hx hb dX3_borrow_46 rfl (lv_at hl 0 rfl) ?_
          refine va_get (D := G) (ci := 3) (v := .ref (na 0)) (C := RX3) (T := TX3) (N := 8) hx hb hts iX3_borrow_X3 hown hK hP 0 rfl rfl 0 (by decide) (hts _ qX3_borrow_0) (fun _ h9 => h9) rfl dX3_borrow_47 ?_
          refine va_get (D := G) (ci := 1) (v := .ref (na 6)) (C := RX1) (T := TX1) (N := 9) hx hb hts iX3_borrow_X1 hown hK hP 3 rfl rfl 5 (by decide) (hts _ qX3_borrow_1) (fun _ h9 => h9) rfl dX3_borrow_50 ?_
          refine lv_iload_n hx hb dX3_borrow_53 rfl (lv_at hl 1 rfl) ?_
          refine lv_iload_n hx hb dX3_borrow_54 rfl (lv_at hl 2 rfl) ?_
          obtain ⟨g55, h⟩ := tw_gs h
          refine tw_iast (ws' := (tw_wW cI cQ a na pa ta qa xa z ((r43.1.1, r43.1.2.1, r43.1.2.2.1, r43.1.2.2.2.1, r43.1.2.2.2.2.1, (upd r43.1.2.2.2.2.2.1 p1.toNatClampNeg p2), r43.1.2.2.2.2.2.2.1, r43.1.2.2.2.2.2.2.2.1, r43.1.2.2.2.2.2.2.2.2), r43.2.1, r43.2.2.1, r43.2.2.2.1, r43.2.2.2.2.1, r43.2.2.2.2.2.1, r43.2.2.2.2.2.2.1, r43.2.2.2.2.2.2.2.1, r43.2.2.2.2.2.2.2.2))) (f := r43.1.2.2.2.2.2.1) (n := 4) hx hb hK hP hD hS 9 0 rfl rfl g55 dX3_borrow_55 rfl (fun H locs hP hD hS => ?_)
          refine lv_aload_n hx hb dX3_borrow_56 rfl (lv_at hl 0 rfl) ?_
          refine va_get (D := G) (ci := 3) (v := .ref (na 0)) (C := RX3) (T := TX3) (N := 8) hx hb hts iX3_borrow_X3 hown hK hP 0 rfl rfl 0 (by decide) (hts _ qX3_borrow_0) (fun _ h9 => h9) rfl dX3_borrow_57 ?_
          refine va_get (D := G) (ci := 1) (v := .ref (na 7)) (C := RX1) (T := TX1) (N := 9) hx hb hts iX3_borrow_X1 hown hK hP 3 rfl rfl 6 (by decide) (hts _ qX3_borrow_2) (fun _ h9 => h9) rfl dX3_borrow_60 ?_
          refine lv_iload_n hx hb dX3_borrow_63 rfl (lv_at hl 1 rfl) ?_
          refine lv_iload_n hx hb dX3_borrow_64 rfl (lv_at hl 3 rfl) ?_
          obtain ⟨g65, h⟩ := tw_gs h
          refine tw_iast (ws' := (tw_wW cI cQ a na pa ta qa xa z ((r43.1.1, r43.1.2.1, r43.1.2.2.1, r43.1.2.2.2.1, r43.1.2.2.2.2.1, (upd r43.1.2.2.2.2.2.1 p1.toNatClampNeg p2), (upd r43.1.2.2.2.2.2.2.1 p1.toNatClampNeg p3), r43.1.2.2.2.2.2.2.2.1, r43.1.2.2.2.2.2.2.2.2), r43.2.1, r43.2.2.1, r43.2.2.2.1, r43.2.2.2.2.1, r43.2.2.2.2.2.1, r43.2.2.2.2.2.2.1, r43.2.2.2.2.2.2.2.1, r43.2.2.2.2.2.2.2.2))) (f := r43.1.2.2.2.2.2.2.1) (n := 4) hx hb hK hP hD hS 10 0 rfl rfl g65 dX3_borrow_65 rfl (fun H locs hP hD hS => ?_)
          refine lv_aload_n hx hb dX3_borrow_66 rfl (lv_at hl 0 rfl) ?_
          refine va_get (D := G) (ci := 3) (v := .ref (pa 0)) (C := RX3) (T := TX3) (N := 8) hx hb hts iX3_borrow_X3 hown hK hP 0 rfl rfl 1 (by decide) (hts _ qX3_borrow_3) (fun _ h9 => h9) rfl dX3_borrow_67 ?_
          refine lv_aload_n hx hb dX3_borrow_70 rfl (lv_at hl 0 rfl) ?_
          refine va_get (D := G) (ci := 3) (v := .ref (na 0)) (C := RX3) (T := TX3) (N := 8) hx hb hts iX3_borrow_X3 hown hK hP 0 rfl rfl 0 (by decide) (hts _ qX3_borrow_0) (fun _ h9 => h9) rfl dX3_borrow_71 ?_
          obtain ⟨r74, e74, h⟩ := tw_bs h
          refine tw_callVv (ws' := (tw_wW cI cQ a na pa ta qa xa z ((r43.1.1, r43.1.2.1, r43.1.2.2.1, r43.1.2.2.2.1, r43.1.2.2.2.2.1, (upd r43.1.2.2.2.2.2.1 p1.toNatClampNeg p2), (upd r43.1.2.2.2.2.2.2.1 p1.toNatClampNeg p3), r43.1.2.2.2.2.2.2.2.1, r43.1.2.2.2.2.2.2.2.2), r74, r43.2.2.1, r43.2.2.2.1, r43.2.2.2.2.1, r43.2.2.2.2.2.1, r43.2.2.2.2.2.2.1, r43.2.2.2.2.2.2.2.1, r43.2.2.2.2.2.2.2.2))) (As := [.ref (na 0)]) (rest := []) F hN hK hP hD hS hA (mX0_lay l G cI pa na r43.2.1 (r43.1.1, r43.1.2.1, r43.1.2.2.1, r43.1.2.2.2.1, r43.1.2.2.2.2.1, (upd r43.1.2.2.2.2.2.1 p1.toNatClampNeg p2), (upd r43.1.2.2.2.2.2.2.1 p1.toNatClampNeg p3), r43.1.2.2.2.2.2.2.2.1, r43.1.2.2.2.2.2.2.2.2) H.size e74) (cwV 1 hts gX3_borrow_X0_lay rfl rfl rfl (by decide +kernel) ⟨(Nat.le_of_ble_eq_true rfl), (Nat.le_of_ble_eq_true rfl)⟩) [0] rfl [11, 12, 13, 3, 4, 5, 6, 7, 8, 9, 10] tw_cPN_nd tw_cPN_C rfl tw_cPN_M (r0 := 0) (ci := 0) rfl rfl rfl rfl hl.1 rfl (Nat.le_of_ble_eq_true rfl) dX3_borrow_74 ⟨Nat.zero_le _, Nat.zero_le _⟩ (fun H locs hP hD hS => ?_)
          refine lv_aload_n hx hb dX3_borrow_77 rfl (lv_at hl 0 rfl) ?_
          refine va_get (D := G) (ci := 3) (v := .ref (pa 0)) (C := RX3) (T := TX3) (N := 8) hx hb hts iX3_borrow_X3 hown hK hP 0 rfl rfl 1 (by decide) (hts _ qX3_borrow_3) (fun _ h9 => h9) rfl dX3_borrow_78 ?_
          refine va_get (D := G) (ci := 0) (v := .int r74.2.2.2.1) (C := RX0) (T := TX0) (N := 5) hx hb hts iX3_borrow_X0 hown hK hP 11 rfl rfl 3 (by decide) (hts _ qX3_borrow_4) (fun _ h9 => h9) rfl dX3_borrow_81 ?_
          exact hq H locs _ ls r74.2.2.2.1 (tw_rt (fun r => r.2.1 = r74.2.2.2.1) h rfl) rfl (tw_rt (fun r => va_P G vwCl (tw_wW cI cQ a na pa ta qa xa z r.2.2) H) h hP) hS dX3_borrow_84
        · replace h := tw_f c31 h
          exact tw_thr h hk (by decide)
  · replace h := tw_fn c4 h
    exact tw_thr h hk (by decide)
abbrev rmX3_rule : Room := { frames := 4, cells := 0, slots := 0, locals := 103 }
set_option maxRecDepth 20000 in
theorem qX3_rule_0 : (Cond.fieldLink RX3 10 "TheatreWall" "now" "LTheatreWall$State;") ∈ wsX3_rule := (List.mem_cons_of_mem _ (List.mem_append_left _ (List.mem_append_left _ (List.mem_append_left _ (List.mem_append_left _ (List.mem_append_left _ (List.mem_of_getElem? (i := 2) rfl)))))))
set_option maxRecDepth 20000 in
theorem qX3_rule_1 : (Cond.fieldLink RX3 139 "TheatreWall$State" "order" "I") ∈ wsX3_rule := (List.mem_cons_of_mem _ (List.mem_append_left _ (List.mem_append_left _ (List.mem_append_left _ (List.mem_append_left _ (List.mem_append_left _ (List.mem_of_getElem? (i := 3) rfl)))))))
set_option maxRecDepth 20000 in
theorem qX3_rule_2 : (Cond.fieldLink RX3 19 "TheatreWall" "plan" "LTheatreWall$Plan;") ∈ wsX3_rule := (List.mem_cons_of_mem _ (List.mem_append_left _ (List.mem_append_left _ (List.mem_append_left _ (List.mem_append_left _ (List.mem_append_left _ (List.mem_of_getElem? (i := 4) rfl)))))))
set_option maxRecDepth 20000 in
theorem iX3_rule_X3 : ∀ w ∈ u_ws RX3 TX3 8, w ∈ wsX3_rule := fun w h => (List.mem_cons_of_mem _ (List.mem_append_left _ (List.mem_append_left _ (List.mem_append_left _ (List.mem_append_right _ h)))))
set_option maxRecDepth 20000 in
theorem iX3_rule_X1 : ∀ w ∈ u_ws RX1 TX1 9, w ∈ wsX3_rule := fun w h => (List.mem_cons_of_mem _ (List.mem_append_left _ (List.mem_append_left _ (List.mem_append_right _ h))))
set_option maxHeartbeats 4000000 in
set_option maxRecDepth 100000 in
theorem mX3_rule (l : Launch) (G : va_G) (cI : ClassId) (cQ : ClassId) (a na pa ta qa xa : Nat → Nat) (z : Nat → Nat → Nat) (Y : tw_Wl) (sz : Nat) (p1 : Int32) {rv : Nat × Int32 × tw_Wl} (h : fX3_rule Y p1 = some rv) (hk : rv.1 = 0) : tw_Mi l yX3_rule wsX3_rule rmX3_rule G [(cI, .int), (cQ, .object RX1)] (tw_wW cI cQ a na pa ta qa xa z Y) [.ref (a 0), .int p1] sz rv.2.1 (tw_wW cI cQ a na pa ta qa xa z rv.2.2) := by
  refine tw_ofi (ty := .int) (cc := cX3_rule) (maxL := 3) (own := RX3) (by decide) rfl rfl (Nat.le_of_ble_eq_true rfl) ?_
  intro p e s m args below meth c Q A ls H locs F hN hK hP hD hS hA hl hq
  obtain ⟨hx, hb, hml, hown, hts⟩ := id F
  have hl : lv_has ls 3 [(0, .ref (a 0)), (1, .int p1)] := hl
  unfold fX3_rule at h
  refine lv_iload_n hx hb dX3_rule_0 rfl (lv_at hl 1 rfl) ?_
  obtain ⟨r1, e1, h⟩ := tw_bs h
  refine tw_callSi (ws' := (tw_wW cI cQ a na pa ta qa xa z Y)) (As := [.int p1]) (rest := []) F hN hK hP hD hS hA (mX3_isRule l G cI H.size p1 e1) (va_cwS 1 hts gX3_rule_X3_isRule rfl rfl rfl (by decide +kernel) ⟨(Nat.le_of_ble_eq_true rfl), (Nat.le_of_ble_eq_true rfl)⟩) [0] rfl [] (by decide) rfl rfl rfl rfl hl.1 rfl (Nat.le_of_ble_eq_true rfl) dX3_rule_1 ⟨Nat.zero_le _, Nat.zero_le _⟩ (fun H locs hP hD hS => ?_)
  refine lv_if_ne (tgt := 15) hx hb dX3_rule_4 (by decide) (fun c4 => ?_) (fun c4 => ?_)
  · replace h := tw_t c4 h
    refine lv_aload_n hx hb dX3_rule_15 rfl (lv_at hl 0 rfl) ?_
    refine va_get (D := G) (ci := 3) (v := .ref (na 0)) (C := RX3) (T := TX3) (N := 8) hx hb hts iX3_rule_X3 hown hK hP 0 rfl rfl 0 (by decide) (hts _ qX3_rule_0) (fun _ h9 => h9) rfl dX3_rule_16 ?_
    refine va_get (D := G) (ci := 1) (v := .int Y.1.2.2.2.2.2.2.2.2) (C := RX1) (T := TX1) (N := 9) hx hb hts iX3_rule_X1 hown hK hP 3 rfl rfl 8 (by decide) (hts _ qX3_rule_1) (fun _ h9 => h9) rfl dX3_rule_19 ?_
    refine lv_istore_n (lv' := [(2, .int Y.1.2.2.2.2.2.2.2.2), (0, .ref (a 0)), (1, .int p1)]) hx hb dX3_rule_22 rfl hl (by decide) rfl (fun ls hl => ?_)
    refine lv_aload_n hx hb dX3_rule_23 rfl (lv_at hl 1 rfl) ?_
    obtain ⟨r24, e24, h⟩ := tw_bs h
    refine tw_callVvF (ws' := (tw_wW cI cQ a na pa ta qa xa z r24)) (As := []) (rest := []) F hN hK hP hD hS hA (mX3_saveState l G cI cQ a na pa ta qa xa z Y H.size e24) (cwV 0 hts gX3_rule_X3_saveState rfl rfl rfl (by decide +kernel) ⟨(Nat.le_of_ble_eq_true rfl), (Nat.le_of_ble_eq_true rfl)⟩) rfl (r0 := 0) (ci := 3) rfl rfl rfl rfl hl.1 rfl (Nat.le_of_ble_eq_true rfl) dX3_rule_24 ⟨Nat.zero_le _, Nat.zero_le _⟩ (fun H locs hP hD hS => ?_)
    refine lv_aload_n hx hb dX3_rule_27 rfl (lv_at hl 1 rfl) ?_
    refine va_get (D := G) (ci := 3) (v := .ref (na 0)) (C := RX3) (T := TX3) (N := 8) hx hb hts iX3_rule_X3 hown hK hP 0 rfl rfl 0 (by decide) (hts _ qX3_rule_0) (fun _ h9 => h9) rfl dX3_rule_28 ?_
    refine lv_iload_n hx hb dX3_rule_31 rfl (lv_at hl 2 rfl) ?_
    refine tw_put (ws' := (tw_wW cI cQ a na pa ta qa xa z ((r24.1.1, r24.1.2.1, r24.1.2.2.1, r24.1.2.2.2.1, r24.1.2.2.2.2.1, r24.1.2.2.2.2.2.1, r24.1.2.2.2.2.2.2.1, r24.1.2.2.2.2.2.2.2.1, p1), r24.2.1, r24.2.2.1, r24.2.2.2.1, r24.2.2.2.2.1, r24.2.2.2.2.2.1, r24.2.2.2.2.2.2.1, r24.2.2.2.2.2.2.2.1, r24.2.2.2.2.2.2.2.2))) (D := G) (ci := 1) (v := .int p1) (ty := .int) (C := RX1) (T := TX1) (N := 9) hx hb hts iX3_rule_X1 tyX1 tyX1_ok nmX1 hown hK hP hD hS 3 rfl rfl 8 (by decide) (hts _ qX3_rule_1) (fun _ h9 => h9) rfl (by decide +kernel) rfl rfl (Nat.le_of_ble_eq_true rfl) dX3_rule_32 rfl (fun H locs hP hD hS => ?_)
    refine lv_aload_n hx hb dX3_rule_35 rfl (lv_at hl 1 rfl) ?_
    refine va_get (D := G) (ci := 3) (v := .ref (pa 0)) (C := RX3) (T := TX3) (N := 8) hx hb hts iX3_rule_X3 hown hK hP 0 rfl rfl 1 (by decide) (hts _ qX3_rule_2) (fun _ h9 => h9) rfl dX3_rule_36 ?_
    refine lv_aload_n hx hb dX3_rule_39 rfl (lv_at hl 1 rfl) ?_
    refine va_get (D := G) (ci := 3) (v := .ref (na 0)) (C := RX3) (T := TX3) (N := 8) hx hb hts iX3_rule_X3 hown hK hP 0 rfl rfl 0 (by decide) (hts _ qX3_rule_0) (fun _ h9 => h9) rfl dX3_rule_40 ?_
    obtain ⟨r43, e43, h⟩ := tw_bs h
    refine tw_callVv (ws' := (tw_wW cI cQ a na pa ta qa xa z ((r24.1.1, r24.1.2.1, r24.1.2.2.1, r24.1.2.2.2.1, r24.1.2.2.2.2.1, r24.1.2.2.2.2.2.1, r24.1.2.2.2.2.2.2.1, r24.1.2.2.2.2.2.2.2.1, p1), r43, r24.2.2.1, r24.2.2.2.1, r24.2.2.2.2.1, r24.2.2.2.2.2.1, r24.2.2.2.2.2.2.1, r24.2.2.2.2.2.2.2.1, r24.2.2.2.2.2.2.2.2))) (As := [.ref (na 0)]) (rest := []) F hN hK hP hD hS hA (mX0_lay l G cI pa na r24.2.1 (r24.1.1, r24.1.2.1, r24.1.2.2.1, r24.1.2.2.2.1, r24.1.2.2.2.2.1, r24.1.2.2.2.2.2.1, r24.1.2.2.2.2.2.2.1, r24.1.2.2.2.2.2.2.2.1, p1) H.size e43) (cwV 1 hts gX3_rule_X0_lay rfl rfl rfl (by decide +kernel) ⟨(Nat.le_of_ble_eq_true rfl), (Nat.le_of_ble_eq_true rfl)⟩) [0] rfl [11, 12, 13, 3, 4, 5, 6, 7, 8, 9, 10] tw_cPN_nd tw_cPN_C rfl tw_cPN_M (r0 := 0) (ci := 0) rfl rfl rfl rfl hl.1 rfl (Nat.le_of_ble_eq_true rfl) dX3_rule_43 ⟨Nat.zero_le _, Nat.zero_le _⟩ (fun H locs hP hD hS => ?_)
    refine lv_iload_n hx hb dX3_rule_46 rfl (lv_at hl 0 rfl) ?_
    exact hq H locs _ ls Y.1.2.2.2.2.2.2.2.2 (tw_rt (fun r => r.2.1 = Y.1.2.2.2.2.2.2.2.2) h rfl) rfl (tw_rt (fun r => va_P G vwCl (tw_wW cI cQ a na pa ta qa xa z r.2.2) H) h hP) hS dX3_rule_47
  · replace h := tw_fn c4 h
    exact tw_thr h hk (by decide)
abbrev rmX3_undo : Room := { frames := 4, cells := 0, slots := 0, locals := 103 }
set_option maxRecDepth 20000 in
theorem qX3_undo_0 : (Cond.fieldLink RX3 44 "TheatreWall" "savedCount" "I") ∈ wsX3_undo := (List.mem_cons_of_mem _ (List.mem_append_left _ (List.mem_append_left _ (List.mem_append_left _ (List.mem_append_left _ (List.mem_append_left _ (List.mem_of_getElem? (i := 2) rfl)))))))
set_option maxRecDepth 20000 in
theorem qX3_undo_1 : (Cond.fieldLink RX3 10 "TheatreWall" "now" "LTheatreWall$State;") ∈ wsX3_undo := (List.mem_cons_of_mem _ (List.mem_append_left _ (List.mem_append_left _ (List.mem_append_left _ (List.mem_append_left _ (List.mem_append_left _ (List.mem_of_getElem? (i := 3) rfl)))))))
set_option maxRecDepth 20000 in
theorem qX3_undo_2 : (Cond.fieldLink RX3 29 "TheatreWall" "saved" "[LTheatreWall$State;") ∈ wsX3_undo := (List.mem_cons_of_mem _ (List.mem_append_left _ (List.mem_append_left _ (List.mem_append_left _ (List.mem_append_left _ (List.mem_append_left _ (List.mem_of_getElem? (i := 4) rfl)))))))
set_option maxRecDepth 20000 in
theorem qX3_undo_3 : (Cond.fieldLink RX3 19 "TheatreWall" "plan" "LTheatreWall$Plan;") ∈ wsX3_undo := (List.mem_cons_of_mem _ (List.mem_append_left _ (List.mem_append_left _ (List.mem_append_left _ (List.mem_append_left _ (List.mem_append_left _ (List.mem_of_getElem? (i := 5) rfl)))))))
set_option maxRecDepth 20000 in
theorem iX3_undo_X3 : ∀ w ∈ u_ws RX3 TX3 8, w ∈ wsX3_undo := fun w h => (List.mem_cons_of_mem _ (List.mem_append_left _ (List.mem_append_left _ (List.mem_append_left _ (List.mem_append_right _ h)))))
set_option maxHeartbeats 4000000 in
set_option maxRecDepth 100000 in
theorem mX3_undo (l : Launch) (G : va_G) (cI : ClassId) (cQ : ClassId) (a na pa ta qa xa : Nat → Nat) (z : Nat → Nat → Nat) (Y : tw_Wl) (sz : Nat)  {rv : Nat × Int32 × tw_Wl} (h : fX3_undo Y = some rv) (hk : rv.1 = 0) : tw_Mi l yX3_undo wsX3_undo rmX3_undo G [(cI, .int), (cQ, .object RX1)] (tw_wW cI cQ a na pa ta qa xa z Y) [.ref (a 0)] sz rv.2.1 (tw_wW cI cQ a na pa ta qa xa z rv.2.2) := by
  refine tw_ofi (ty := .int) (cc := cX3_undo) (maxL := 1) (own := RX3) (by decide) rfl rfl (Nat.le_of_ble_eq_true rfl) ?_
  intro p e s m args below meth c Q A ls H locs F hN hK hP hD hS hA hl hq
  obtain ⟨hx, hb, hml, hown, hts⟩ := id F
  have hl : lv_has ls 1 [(0, .ref (a 0))] := hl
  unfold fX3_undo at h
  refine lv_aload_n hx hb dX3_undo_0 rfl (lv_at hl 0 rfl) ?_
  refine va_get (D := G) (ci := 3) (v := .int Y.2.2.2.2.2.2.1) (C := RX3) (T := TX3) (N := 8) hx hb hts iX3_undo_X3 hown hK hP 0 rfl rfl 7 (by decide) (hts _ qX3_undo_0) (fun _ h9 => h9) rfl dX3_undo_1 ?_
  refine lv_if_gt (tgt := 15) hx hb dX3_undo_4 (by decide) (fun c4 => ?_) (fun c4 => ?_)
  · replace h := tw_t c4 h
    refine lv_aload_n hx hb dX3_undo_15 rfl (lv_at hl 0 rfl) ?_
    refine lv_dup hx hb dX3_undo_16 rfl ?_
    refine va_get (D := G) (ci := 3) (v := .int Y.2.2.2.2.2.2.1) (C := RX3) (T := TX3) (N := 8) hx hb hts iX3_undo_X3 hown hK hP 0 rfl rfl 7 (by decide) (hts _ qX3_undo_0) (fun _ h9 => h9) rfl dX3_undo_17 ?_
    refine lv_iconst (v := (1 : Int32)) hx hb dX3_undo_20 (by decide) ?_
    refine lv_isub hx hb dX3_undo_21 ?_
    refine tw_put (ws' := (tw_wW cI cQ a na pa ta qa xa z (Y.1, Y.2.1, Y.2.2.1, Y.2.2.2.1, Y.2.2.2.2.1, Y.2.2.2.2.2.1, (Y.2.2.2.2.2.2.1 - (1 : Int32)), Y.2.2.2.2.2.2.2.1, Y.2.2.2.2.2.2.2.2))) (D := G) (ci := 3) (v := .int (Y.2.2.2.2.2.2.1 - (1 : Int32))) (ty := .int) (C := RX3) (T := TX3) (N := 8) hx hb hts iX3_undo_X3 tyX3 tyX3_ok nmX3 hown hK hP hD hS 0 rfl rfl 7 (by decide) (hts _ qX3_undo_0) (fun _ h9 => h9) rfl (by decide +kernel) rfl rfl (Nat.le_of_ble_eq_true rfl) dX3_undo_22 rfl (fun H locs hP hD hS => ?_)
    refine lv_aload_n hx hb dX3_undo_25 rfl (lv_at hl 0 rfl) ?_
    refine va_get (D := G) (ci := 3) (v := .ref (na 0)) (C := RX3) (T := TX3) (N := 8) hx hb hts iX3_undo_X3 hown hK hP 0 rfl rfl 0 (by decide) (hts _ qX3_undo_1) (fun _ h9 => h9) rfl dX3_undo_26 ?_
    refine lv_aload_n hx hb dX3_undo_29 rfl (lv_at hl 0 rfl) ?_
    refine va_get (D := G) (ci := 3) (v := .ref (a 1)) (C := RX3) (T := TX3) (N := 8) hx hb hts iX3_undo_X3 hown hK hP 0 rfl rfl 4 (by decide) (hts _ qX3_undo_2) (fun _ h9 => h9) rfl dX3_undo_30 ?_
    refine lv_aload_n hx hb dX3_undo_33 rfl (lv_at hl 0 rfl) ?_
    refine va_get (D := G) (ci := 3) (v := .int (Y.2.2.2.2.2.2.1 - (1 : Int32))) (C := RX3) (T := TX3) (N := 8) hx hb hts iX3_undo_X3 hown hK hP 0 rfl rfl 7 (by decide) (hts _ qX3_undo_0) (fun _ h9 => h9) rfl dX3_undo_34 ?_
    obtain ⟨g37, h⟩ := tw_gs h
    obtain ⟨j37, h⟩ := tw_qs h
    refine tw_aldq (v := z (Y.2.2.2.2.2.2.2.2 (Y.2.2.2.2.2.2.1 - (1 : Int32)).toNatClampNeg) 0) (f := fun i => some (z (Y.2.2.2.2.2.2.2.2 i) 0)) hx hb hK hP 1 1 rfl rfl g37 rfl dX3_undo_37 ?_
    obtain ⟨r38, e38, h⟩ := tw_bs h
    refine tw_callVv (ws' := (tw_wW cI cQ a na pa ta qa xa z (r38, Y.2.1, Y.2.2.1, Y.2.2.2.1, Y.2.2.2.2.1, Y.2.2.2.2.2.1, (Y.2.2.2.2.2.2.1 - (1 : Int32)), Y.2.2.2.2.2.2.2.1, Y.2.2.2.2.2.2.2.2))) (As := [.ref (z (Y.2.2.2.2.2.2.2.2 (Y.2.2.2.2.2.2.1 - (1 : Int32)).toNatClampNeg) 0)]) (rest := []) F hN hK hP hD hS hA (mX1_copyFrom l G cI na (z (Y.2.2.2.2.2.2.2.2 (Y.2.2.2.2.2.2.1 - (1 : Int32)).toNatClampNeg)) Y.1 (Y.2.2.2.2.2.2.2.1 (Y.2.2.2.2.2.2.2.2 (Y.2.2.2.2.2.2.1 - (1 : Int32)).toNatClampNeg)) H.size e38) (cwV 1 hts gX3_undo_X1_copyFrom rfl rfl rfl (by decide +kernel) ⟨(Nat.le_of_ble_eq_true rfl), (Nat.le_of_ble_eq_true rfl)⟩) [0] rfl (tw_z2_is (Y.2.2.2.2.2.2.2.2 (Y.2.2.2.2.2.2.1 - (1 : Int32)).toNatClampNeg)) (tw_z2_nd j37) (tw_z2_C j37) rfl (tw_z2_M j37) (r0 := 0) (ci := 1) rfl rfl rfl rfl hl.1 rfl (Nat.le_of_ble_eq_true rfl) dX3_undo_38 ⟨Nat.zero_le _, Nat.zero_le _⟩ (fun H locs hP hD hS => ?_)
    refine lv_aload_n hx hb dX3_undo_41 rfl (lv_at hl 0 rfl) ?_
    refine va_get (D := G) (ci := 3) (v := .ref (pa 0)) (C := RX3) (T := TX3) (N := 8) hx hb hts iX3_undo_X3 hown hK hP 0 rfl rfl 1 (by decide) (hts _ qX3_undo_3) (fun _ h9 => h9) rfl dX3_undo_42 ?_
    refine lv_aload_n hx hb dX3_undo_45 rfl (lv_at hl 0 rfl) ?_
    refine va_get (D := G) (ci := 3) (v := .ref (na 0)) (C := RX3) (T := TX3) (N := 8) hx hb hts iX3_undo_X3 hown hK hP 0 rfl rfl 0 (by decide) (hts _ qX3_undo_1) (fun _ h9 => h9) rfl dX3_undo_46 ?_
    obtain ⟨r49, e49, h⟩ := tw_bs h
    refine tw_callVv (ws' := (tw_wW cI cQ a na pa ta qa xa z (r38, r49, Y.2.2.1, Y.2.2.2.1, Y.2.2.2.2.1, Y.2.2.2.2.2.1, (Y.2.2.2.2.2.2.1 - (1 : Int32)), Y.2.2.2.2.2.2.2.1, Y.2.2.2.2.2.2.2.2))) (As := [.ref (na 0)]) (rest := []) F hN hK hP hD hS hA (mX0_lay l G cI pa na Y.2.1 r38 H.size e49) (cwV 1 hts gX3_undo_X0_lay rfl rfl rfl (by decide +kernel) ⟨(Nat.le_of_ble_eq_true rfl), (Nat.le_of_ble_eq_true rfl)⟩) [0] rfl [11, 12, 13, 3, 4, 5, 6, 7, 8, 9, 10] tw_cPN_nd tw_cPN_C rfl tw_cPN_M (r0 := 0) (ci := 0) rfl rfl rfl rfl hl.1 rfl (Nat.le_of_ble_eq_true rfl) dX3_undo_49 ⟨Nat.zero_le _, Nat.zero_le _⟩ (fun H locs hP hD hS => ?_)
    refine lv_aload_n hx hb dX3_undo_52 rfl (lv_at hl 0 rfl) ?_
    refine va_get (D := G) (ci := 3) (v := .int (Y.2.2.2.2.2.2.1 - (1 : Int32))) (C := RX3) (T := TX3) (N := 8) hx hb hts iX3_undo_X3 hown hK hP 0 rfl rfl 7 (by decide) (hts _ qX3_undo_0) (fun _ h9 => h9) rfl dX3_undo_53 ?_
    exact hq H locs _ ls (Y.2.2.2.2.2.2.1 - (1 : Int32)) (tw_rt (fun r => r.2.1 = (Y.2.2.2.2.2.2.1 - (1 : Int32))) h rfl) rfl (tw_rt (fun r => va_P G vwCl (tw_wW cI cQ a na pa ta qa xa z r.2.2) H) h hP) hS dX3_undo_56
  · replace h := tw_f c4 h
    exact tw_thr h hk (by decide)
abbrev rxX3_undo : Room := { frames := 6, cells := 1, slots := 6, locals := 103 }
set_option maxRecDepth 20000 in
theorem qbX3_undo_0 : (Cond.fieldLink RX3 44 "TheatreWall" "savedCount" "I") ∈ wsX3_undo := (List.mem_cons_of_mem _ (List.mem_append_left _ (List.mem_append_left _ (List.mem_append_left _ (List.mem_append_left _ (List.mem_append_left _ (List.mem_of_getElem? (i := 2) rfl)))))))
set_option maxRecDepth 20000 in
theorem qbX3_undo_1 : (Cond.fieldLink RX3 10 "TheatreWall" "now" "LTheatreWall$State;") ∈ wsX3_undo := (List.mem_cons_of_mem _ (List.mem_append_left _ (List.mem_append_left _ (List.mem_append_left _ (List.mem_append_left _ (List.mem_append_left _ (List.mem_of_getElem? (i := 3) rfl)))))))
set_option maxRecDepth 20000 in
theorem qbX3_undo_2 : (Cond.fieldLink RX3 29 "TheatreWall" "saved" "[LTheatreWall$State;") ∈ wsX3_undo := (List.mem_cons_of_mem _ (List.mem_append_left _ (List.mem_append_left _ (List.mem_append_left _ (List.mem_append_left _ (List.mem_append_left _ (List.mem_of_getElem? (i := 4) rfl)))))))
set_option maxRecDepth 20000 in
theorem qbX3_undo_3 : (Cond.fieldLink RX3 19 "TheatreWall" "plan" "LTheatreWall$Plan;") ∈ wsX3_undo := (List.mem_cons_of_mem _ (List.mem_append_left _ (List.mem_append_left _ (List.mem_append_left _ (List.mem_append_left _ (List.mem_append_left _ (List.mem_of_getElem? (i := 5) rfl)))))))
set_option maxRecDepth 20000 in
theorem qbX3_undo_4 : (Cond.classLink RX3 64 "java/lang/IllegalStateException") ∈ wsX3_undo := (List.mem_cons_of_mem _ (List.mem_append_left _ (List.mem_append_left _ (List.mem_append_left _ (List.mem_append_left _ (List.mem_append_left _ (List.mem_of_getElem? (i := 0) rfl)))))))
set_option maxRecDepth 20000 in
theorem qbX3_undo_5 : (Cond.initialized "java/lang/IllegalStateException") ∈ wsX3_undo := (List.mem_cons_of_mem _ (List.mem_append_left _ (List.mem_append_left _ (List.mem_append_left _ (List.mem_append_left _ (List.mem_append_left _ (List.mem_of_getElem? (i := 1) rfl)))))))
set_option maxRecDepth 20000 in
theorem ibX3_undo_X3 : ∀ w ∈ u_ws RX3 TX3 8, w ∈ wsX3_undo := fun w h => (List.mem_cons_of_mem _ (List.mem_append_left _ (List.mem_append_left _ (List.mem_append_left _ (List.mem_append_right _ h)))))
set_option maxHeartbeats 4000000 in
set_option maxRecDepth 100000 in
theorem xX3_undo (l : Launch) (hst : l.stackTraces = false) (G : va_G) (cI : ClassId) (cQ : ClassId) (a na pa ta qa xa : Nat → Nat) (z : Nat → Nat → Nat) (Y : tw_Wl) (sz : Nat)  {rv : Nat × Int32 × tw_Wl} (h : fX3_undo Y = some rv) (hk : ¬ rv.1 = 0) {Qc : Array Value → State → Outcome → State → Prop} : tw_Mx l yX3_undo wsX3_undo rxX3_undo G [(cI, .int), (cQ, .object RX1)] (tw_wW cI cQ a na pa ta qa xa z Y) [.ref (a 0)] sz (tw_en rv.1) (tw_wW cI cQ a na pa ta qa xa z rv.2.2) Qc := by
  refine tw_ofx hst (cc := cX3_undo) (maxL := 1) (own := RX3) (by decide) rfl rfl (Nat.le_of_ble_eq_true rfl) (Nat.le_of_ble_eq_true rfl) (Nat.le_of_ble_eq_true rfl) (Nat.le_of_ble_eq_true rfl) (Nat.le_of_ble_eq_true rfl) ?_
  intro p e s m args below meth c Q A ls H locs F hN hK hP hD hS hA hl hNX hq
  obtain ⟨hx, hb, hml, hown, hts⟩ := id F
  have hl : lv_has ls 1 [(0, .ref (a 0))] := hl
  unfold fX3_undo at h
  refine lv_aload_n hx hb dX3_undo_0 rfl (lv_at hl 0 rfl) ?_
  refine va_get (D := G) (ci := 3) (v := .int Y.2.2.2.2.2.2.1) (C := RX3) (T := TX3) (N := 8) hx hb hts ibX3_undo_X3 hown hK hP 0 rfl rfl 7 (by decide) (hts _ qbX3_undo_0) (fun _ h9 => h9) rfl dX3_undo_1 ?_
  refine lv_if_gt (tgt := 15) hx hb dX3_undo_4 (by decide) (fun c4 => ?_) (fun c4 => ?_)
  · replace h := tw_t c4 h
    refine lv_aload_n hx hb dX3_undo_15 rfl (lv_at hl 0 rfl) ?_
    refine lv_dup hx hb dX3_undo_16 rfl ?_
    refine va_get (D := G) (ci := 3) (v := .int Y.2.2.2.2.2.2.1) (C := RX3) (T := TX3) (N := 8) hx hb hts ibX3_undo_X3 hown hK hP 0 rfl rfl 7 (by decide) (hts _ qbX3_undo_0) (fun _ h9 => h9) rfl dX3_undo_17 ?_
    refine lv_iconst (v := (1 : Int32)) hx hb dX3_undo_20 (by decide) ?_
    refine lv_isub hx hb dX3_undo_21 ?_
    refine tw_put (ws' := (tw_wW cI cQ a na pa ta qa xa z (Y.1, Y.2.1, Y.2.2.1, Y.2.2.2.1, Y.2.2.2.2.1, Y.2.2.2.2.2.1, (Y.2.2.2.2.2.2.1 - (1 : Int32)), Y.2.2.2.2.2.2.2.1, Y.2.2.2.2.2.2.2.2))) (D := G) (ci := 3) (v := .int (Y.2.2.2.2.2.2.1 - (1 : Int32))) (ty := .int) (C := RX3) (T := TX3) (N := 8) hx hb hts ibX3_undo_X3 tyX3 tyX3_ok nmX3 hown hK hP hD hS 0 rfl rfl 7 (by decide) (hts _ qbX3_undo_0) (fun _ h9 => h9) rfl (by decide +kernel) rfl rfl (Nat.le_of_ble_eq_true rfl) dX3_undo_22 rfl (fun H locs hP hD hS => ?_)
    refine lv_aload_n hx hb dX3_undo_25 rfl (lv_at hl 0 rfl) ?_
    refine va_get (D := G) (ci := 3) (v := .ref (na 0)) (C := RX3) (T := TX3) (N := 8) hx hb hts ibX3_undo_X3 hown hK hP 0 rfl rfl 0 (by decide) (hts _ qbX3_undo_1) (fun _ h9 => h9) rfl dX3_undo_26 ?_
    refine lv_aload_n hx hb dX3_undo_29 rfl (lv_at hl 0 rfl) ?_
    refine va_get (D := G) (ci := 3) (v := .ref (a 1)) (C := RX3) (T := TX3) (N := 8) hx hb hts ibX3_undo_X3 hown hK hP 0 rfl rfl 4 (by decide) (hts _ qbX3_undo_2) (fun _ h9 => h9) rfl dX3_undo_30 ?_
    refine lv_aload_n hx hb dX3_undo_33 rfl (lv_at hl 0 rfl) ?_
    refine va_get (D := G) (ci := 3) (v := .int (Y.2.2.2.2.2.2.1 - (1 : Int32))) (C := RX3) (T := TX3) (N := 8) hx hb hts ibX3_undo_X3 hown hK hP 0 rfl rfl 7 (by decide) (hts _ qbX3_undo_0) (fun _ h9 => h9) rfl dX3_undo_34 ?_
    obtain ⟨g37, h⟩ := tw_gs h
    obtain ⟨j37, h⟩ := tw_qs h
    refine tw_aldq (v := z (Y.2.2.2.2.2.2.2.2 (Y.2.2.2.2.2.2.1 - (1 : Int32)).toNatClampNeg) 0) (f := fun i => some (z (Y.2.2.2.2.2.2.2.2 i) 0)) hx hb hK hP 1 1 rfl rfl g37 rfl dX3_undo_37 ?_
    obtain ⟨r38, e38, h⟩ := tw_bs h
    refine tw_callVv (ws' := (tw_wW cI cQ a na pa ta qa xa z (r38, Y.2.1, Y.2.2.1, Y.2.2.2.1, Y.2.2.2.2.1, Y.2.2.2.2.2.1, (Y.2.2.2.2.2.2.1 - (1 : Int32)), Y.2.2.2.2.2.2.2.1, Y.2.2.2.2.2.2.2.2))) (As := [.ref (z (Y.2.2.2.2.2.2.2.2 (Y.2.2.2.2.2.2.1 - (1 : Int32)).toNatClampNeg) 0)]) (rest := []) F hN hK hP hD hS hA (mX1_copyFrom l G cI na (z (Y.2.2.2.2.2.2.2.2 (Y.2.2.2.2.2.2.1 - (1 : Int32)).toNatClampNeg)) Y.1 (Y.2.2.2.2.2.2.2.1 (Y.2.2.2.2.2.2.2.2 (Y.2.2.2.2.2.2.1 - (1 : Int32)).toNatClampNeg)) H.size e38) (cwV 1 hts gX3_undo_X1_copyFrom rfl rfl rfl (by decide +kernel) ⟨(Nat.le_of_ble_eq_true rfl), (Nat.le_of_ble_eq_true rfl)⟩) [0] rfl (tw_z2_is (Y.2.2.2.2.2.2.2.2 (Y.2.2.2.2.2.2.1 - (1 : Int32)).toNatClampNeg)) (tw_z2_nd j37) (tw_z2_C j37) rfl (tw_z2_M j37) (r0 := 0) (ci := 1) rfl rfl rfl rfl hl.1 rfl (Nat.le_of_ble_eq_true rfl) dX3_undo_38 ⟨Nat.zero_le _, Nat.zero_le _⟩ (fun H locs hP hD hS => ?_)
    refine lv_aload_n hx hb dX3_undo_41 rfl (lv_at hl 0 rfl) ?_
    refine va_get (D := G) (ci := 3) (v := .ref (pa 0)) (C := RX3) (T := TX3) (N := 8) hx hb hts ibX3_undo_X3 hown hK hP 0 rfl rfl 1 (by decide) (hts _ qbX3_undo_3) (fun _ h9 => h9) rfl dX3_undo_42 ?_
    refine lv_aload_n hx hb dX3_undo_45 rfl (lv_at hl 0 rfl) ?_
    refine va_get (D := G) (ci := 3) (v := .ref (na 0)) (C := RX3) (T := TX3) (N := 8) hx hb hts ibX3_undo_X3 hown hK hP 0 rfl rfl 0 (by decide) (hts _ qbX3_undo_1) (fun _ h9 => h9) rfl dX3_undo_46 ?_
    obtain ⟨r49, e49, h⟩ := tw_bs h
    refine tw_callVv (ws' := (tw_wW cI cQ a na pa ta qa xa z (r38, r49, Y.2.2.1, Y.2.2.2.1, Y.2.2.2.2.1, Y.2.2.2.2.2.1, (Y.2.2.2.2.2.2.1 - (1 : Int32)), Y.2.2.2.2.2.2.2.1, Y.2.2.2.2.2.2.2.2))) (As := [.ref (na 0)]) (rest := []) F hN hK hP hD hS hA (mX0_lay l G cI pa na Y.2.1 r38 H.size e49) (cwV 1 hts gX3_undo_X0_lay rfl rfl rfl (by decide +kernel) ⟨(Nat.le_of_ble_eq_true rfl), (Nat.le_of_ble_eq_true rfl)⟩) [0] rfl [11, 12, 13, 3, 4, 5, 6, 7, 8, 9, 10] tw_cPN_nd tw_cPN_C rfl tw_cPN_M (r0 := 0) (ci := 0) rfl rfl rfl rfl hl.1 rfl (Nat.le_of_ble_eq_true rfl) dX3_undo_49 ⟨Nat.zero_le _, Nat.zero_le _⟩ (fun H locs hP hD hS => ?_)
    refine lv_aload_n hx hb dX3_undo_52 rfl (lv_at hl 0 rfl) ?_
    refine va_get (D := G) (ci := 3) (v := .int (Y.2.2.2.2.2.2.1 - (1 : Int32))) (C := RX3) (T := TX3) (N := 8) hx hb hts ibX3_undo_X3 hown hK hP 0 rfl rfl 7 (by decide) (hts _ qbX3_undo_0) (fun _ h9 => h9) rfl dX3_undo_53 ?_
    exact absurd (tw_rt (fun r => r.1 = 0) h rfl) hk
  · replace h := tw_f c4 h
    exact hq H locs 7 ls tw_E2 64 66 (tw_rt (fun r => tw_E2 = tw_en r.1) h rfl) (by decide) (hts _ qbX3_undo_4) (hts _ qbX3_undo_5) (vx_hat (fun w h => hts w (List.mem_cons_of_mem _ (List.mem_append_right _ h))) tw_xb2 hNX.words) tw_xg2 dX3_undo_7 dX3_undo_10 dX3_undo_11 dX3_undo_14 hl.1 (tw_rt (fun r => va_P G vwCl (tw_wW cI cQ a na pa ta qa xa z r.2.2) H) h hP) hS
abbrev rmX3_task : Room := { frames := 5, cells := 0, slots := 0, locals := 126 }
set_option maxRecDepth 20000 in
theorem qX3_task_0 : (Cond.fieldLink RX3 10 "TheatreWall" "now" "LTheatreWall$State;") ∈ wsX3_task := (List.mem_cons_of_mem _ (List.mem_append_left _ (List.mem_append_left _ (List.mem_append_left _ (List.mem_append_left _ (List.mem_append_left _ (List.mem_append_left _ (List.mem_of_getElem? (i := 4) rfl))))))))
set_option maxRecDepth 20000 in
theorem qX3_task_1 : (Cond.fieldLink RX3 19 "TheatreWall" "plan" "LTheatreWall$Plan;") ∈ wsX3_task := (List.mem_cons_of_mem _ (List.mem_append_left _ (List.mem_append_left _ (List.mem_append_left _ (List.mem_append_left _ (List.mem_append_left _ (List.mem_append_left _ (List.mem_of_getElem? (i := 5) rfl))))))))
set_option maxRecDepth 20000 in
theorem qX3_task_2 : (Cond.fieldLink RX3 118 "TheatreWall$Plan" "begins" "[I") ∈ wsX3_task := (List.mem_cons_of_mem _ (List.mem_append_left _ (List.mem_append_left _ (List.mem_append_left _ (List.mem_append_left _ (List.mem_append_left _ (List.mem_append_left _ (List.mem_of_getElem? (i := 6) rfl))))))))
set_option maxRecDepth 20000 in
theorem iX3_task_X3 : ∀ w ∈ u_ws RX3 TX3 8, w ∈ wsX3_task := fun w h => (List.mem_cons_of_mem _ (List.mem_append_left _ (List.mem_append_left _ (List.mem_append_left _ (List.mem_append_left _ (List.mem_append_right _ h))))))
set_option maxRecDepth 20000 in
theorem iX3_task_X0 : ∀ w ∈ u_ws RX0 TX0 5, w ∈ wsX3_task := fun w h => (List.mem_cons_of_mem _ (List.mem_append_left _ (List.mem_append_left _ (List.mem_append_left _ (List.mem_append_right _ h)))))
set_option maxHeartbeats 4000000 in
set_option maxRecDepth 100000 in
theorem mX3_task (l : Launch) (G : va_G) (cI : ClassId) (cQ : ClassId) (a na pa ta qa xa : Nat → Nat) (z : Nat → Nat → Nat) (Y : tw_Wl) (sz : Nat) (p1 : Int32) (p2 : Int32) {rv : Nat × Int32 × tw_Wl} (h : fX3_task Y p1 p2 = some rv) (hk : rv.1 = 0) : tw_Mi l yX3_task wsX3_task rmX3_task G [(cI, .int), (cQ, .object RX1)] (tw_wW cI cQ a na pa ta qa xa z Y) [.ref (a 0), .int p1, .int p2] sz rv.2.1 (tw_wW cI cQ a na pa ta qa xa z rv.2.2) := by
  refine tw_ofi (ty := .int) (cc := cX3_task) (maxL := 3) (own := RX3) (by decide) rfl rfl (Nat.le_of_ble_eq_true rfl) ?_
  intro p e s m args below meth c Q A ls H locs F hN hK hP hD hS hA hl hq
  obtain ⟨hx, hb, hml, hown, hts⟩ := id F
  have hl : lv_has ls 3 [(0, .ref (a 0)), (1, .int p1), (2, .int p2)] := hl
  unfold fX3_task at h
  refine lv_aload_n hx hb dX3_task_0 rfl (lv_at hl 0 rfl) ?_
  refine lv_iload_n hx hb dX3_task_1 rfl (lv_at hl 1 rfl) ?_
  obtain ⟨r2, e2, h⟩ := tw_bs h
  refine tw_callViF (ws' := (tw_wW cI cQ a na pa ta qa xa z Y)) (As := [.int p1]) (rest := []) F hN hK hP hD hS hA (mX3_isTask l G cI cQ a na pa ta qa xa z Y H.size p1 e2) (cwV 1 hts gX3_task_X3_isTask rfl rfl rfl (by decide +kernel) ⟨(Nat.le_of_ble_eq_true rfl), (Nat.le_of_ble_eq_true rfl)⟩) rfl (r0 := 0) (ci := 3) rfl rfl rfl rfl hl.1 rfl (Nat.le_of_ble_eq_true rfl) dX3_task_2 ⟨Nat.zero_le _, Nat.zero_le _⟩ (fun H locs hP hD hS => ?_)
  refine lv_if_ne (tgt := 16) hx hb dX3_task_5 (by decide) (fun c5 => ?_) (fun c5 => ?_)
  · replace h := tw_t c5 h
    refine lv_iload_n hx hb dX3_task_16 rfl (lv_at hl 2 rfl) ?_
    refine lv_if_lt (tgt := 26) hx hb dX3_task_17 (by decide) (fun c17 => ?_) (fun c17 => ?_)
    · replace h := tw_t c17 h
      exact tw_thr h hk (by decide)
    · replace h := tw_f c17 h
      refine lv_iload_n hx hb dX3_task_20 rfl (lv_at hl 2 rfl) ?_
      refine lv_bipush (v := (9 : Int32)) hx hb dX3_task_21 (by decide) ?_
      refine lv_icmp_lt (tgt := 34) hx hb dX3_task_23 (by decide) (fun c23 => ?_) (fun c23 => ?_)
      · replace h := tw_t c23 h
        refine lv_iload_n hx hb dX3_task_34 rfl (lv_at hl 2 rfl) ?_
        by_cases c35_5 : p2 = 5
        · replace h := tw_t c35_5 h
          refine tw_tab (v := 5) (tgt := 64) hx hb dX3_task_35 c35_5 (by decide) (by decide) rfl (by decide) ?_
          refine lv_aload_n hx hb dX3_task_64 rfl (lv_at hl 0 rfl) ?_
          refine va_get (D := G) (ci := 3) (v := .ref (na 0)) (C := RX3) (T := TX3) (N := 8) hx hb hts iX3_task_X3 hown hK hP 0 rfl rfl 0 (by decide) (hts _ qX3_task_0) (fun _ h9 => h9) rfl dX3_task_65 ?_
          refine lv_iload_n hx hb dX3_task_68 rfl (lv_at hl 1 rfl) ?_
          obtain ⟨r69, e69, h⟩ := tw_bs h
          refine tw_callVi (ws' := (tw_wW cI cQ a na pa ta qa xa z Y)) (As := [.int p1]) (rest := []) F hN hK hP hD hS hA (mX1_followers l G cI na Y.1 H.size p1 e69) (cwV 1 hts gX3_task_X1_followers rfl rfl rfl (by decide +kernel) ⟨(Nat.le_of_ble_eq_true rfl), (Nat.le_of_ble_eq_true rfl)⟩) [0] rfl [3, 4, 5, 6, 7, 8, 9, 10] tw_cN_nd tw_cN_C rfl tw_cN_M (r0 := 0) (ci := 1) rfl rfl rfl rfl hl.1 rfl (Nat.le_of_ble_eq_true rfl) dX3_task_69 ⟨Nat.zero_le _, Nat.zero_le _⟩ (fun H locs hP hD hS => ?_)
          exact hq H locs _ ls r69 (tw_rt (fun r => r.2.1 = r69) h rfl) rfl (tw_rt (fun r => va_P G vwCl (tw_wW cI cQ a na pa ta qa xa z r.2.2) H) h hP) hS dX3_task_72
        · replace h := tw_f c35_5 h
          by_cases c35_6 : p2 = 6
          · replace h := tw_t c35_6 h
            refine tw_tab (v := 6) (tgt := 73) hx hb dX3_task_35 c35_6 (by decide) (by decide) rfl (by decide) ?_
            refine lv_aload_n hx hb dX3_task_73 rfl (lv_at hl 0 rfl) ?_
            refine va_get (D := G) (ci := 3) (v := .ref (pa 0)) (C := RX3) (T := TX3) (N := 8) hx hb hts iX3_task_X3 hown hK hP 0 rfl rfl 1 (by decide) (hts _ qX3_task_1) (fun _ h9 => h9) rfl dX3_task_74 ?_
            refine va_get (D := G) (ci := 0) (v := .ref (pa 1)) (C := RX0) (T := TX0) (N := 5) hx hb hts iX3_task_X0 hown hK hP 11 rfl rfl 0 (by decide) (hts _ qX3_task_2) (fun _ h9 => h9) rfl dX3_task_77 ?_
            refine lv_iload_n hx hb dX3_task_80 rfl (lv_at hl 1 rfl) ?_
            obtain ⟨g81, h⟩ := tw_gs h
            refine va_iald (f := Y.2.1.1) (n := 12) hx hb hK hP 12 0 rfl rfl g81 dX3_task_81 ?_
            exact hq H locs _ ls (Y.2.1.1 p1.toNatClampNeg) (tw_rt (fun r => r.2.1 = (Y.2.1.1 p1.toNatClampNeg)) h rfl) rfl (tw_rt (fun r => va_P G vwCl (tw_wW cI cQ a na pa ta qa xa z r.2.2) H) h hP) hS dX3_task_82
          · replace h := tw_f c35_6 h
            by_cases c35_7 : p2 = 7
            · replace h := tw_t c35_7 h
              refine tw_tab (v := 7) (tgt := 83) hx hb dX3_task_35 c35_7 (by decide) (by decide) rfl (by decide) ?_
              refine lv_aload_n hx hb dX3_task_83 rfl (lv_at hl 0 rfl) ?_
              refine lv_iload_n hx hb dX3_task_84 rfl (lv_at hl 1 rfl) ?_
              obtain ⟨r85, e85, h⟩ := tw_bs h
              refine tw_callViF (ws' := (tw_wW cI cQ a na pa ta qa xa z r85.2)) (As := [.int p1]) (rest := []) F hN hK hP hD hS hA (mX3_slackOf l G cI cQ a na pa ta qa xa z Y H.size p1 e85) (cwV 1 hts gX3_task_X3_slackOf rfl rfl rfl (by decide +kernel) ⟨(Nat.le_of_ble_eq_true rfl), (Nat.le_of_ble_eq_true rfl)⟩) rfl (r0 := 0) (ci := 3) rfl rfl rfl rfl hl.1 rfl (Nat.le_of_ble_eq_true rfl) dX3_task_85 ⟨Nat.zero_le _, Nat.zero_le _⟩ (fun H locs hP hD hS => ?_)
              exact hq H locs _ ls r85.1 (tw_rt (fun r => r.2.1 = r85.1) h rfl) rfl (tw_rt (fun r => va_P G vwCl (tw_wW cI cQ a na pa ta qa xa z r.2.2) H) h hP) hS dX3_task_88
            · replace h := tw_f c35_7 h
              by_cases c35_8 : p2 = 8
              · replace h := tw_t c35_8 h
                refine tw_tab (v := 8) (tgt := 89) hx hb dX3_task_35 c35_8 (by decide) (by decide) rfl (by decide) ?_
                refine lv_aload_n hx hb dX3_task_89 rfl (lv_at hl 0 rfl) ?_
                refine va_get (D := G) (ci := 3) (v := .ref (pa 0)) (C := RX3) (T := TX3) (N := 8) hx hb hts iX3_task_X3 hown hK hP 0 rfl rfl 1 (by decide) (hts _ qX3_task_1) (fun _ h9 => h9) rfl dX3_task_90 ?_
                refine lv_aload_n hx hb dX3_task_93 rfl (lv_at hl 0 rfl) ?_
                refine va_get (D := G) (ci := 3) (v := .ref (na 0)) (C := RX3) (T := TX3) (N := 8) hx hb hts iX3_task_X3 hown hK hP 0 rfl rfl 0 (by decide) (hts _ qX3_task_0) (fun _ h9 => h9) rfl dX3_task_94 ?_
                refine lv_iload_n hx hb dX3_task_97 rfl (lv_at hl 1 rfl) ?_
                obtain ⟨r98, e98, h⟩ := tw_bs h
                refine tw_callVi (ws' := (tw_wW cI cQ a na pa ta qa xa z Y)) (As := [.ref (na 0), .int p1]) (rest := []) F hN hK hP hD hS hA (mX0_waitOf l G cI pa na Y.2.1 Y.1 H.size p1 e98) (cwV 2 hts gX3_task_X0_waitOf rfl rfl rfl (by decide +kernel) ⟨(Nat.le_of_ble_eq_true rfl), (Nat.le_of_ble_eq_true rfl)⟩) [0] rfl [11, 12, 13, 3, 4, 5, 6, 7, 8, 9, 10] tw_cPN_nd tw_cPN_C rfl tw_cPN_M (r0 := 0) (ci := 0) rfl rfl rfl rfl hl.1 rfl (Nat.le_of_ble_eq_true rfl) dX3_task_98 ⟨Nat.zero_le _, Nat.zero_le _⟩ (fun H locs hP hD hS => ?_)
                exact hq H locs _ ls r98 (tw_rt (fun r => r.2.1 = r98) h rfl) rfl (tw_rt (fun r => va_P G vwCl (tw_wW cI cQ a na pa ta qa xa z r.2.2) H) h hP) hS dX3_task_101
              · replace h := tw_f c35_8 h
                have z5 := lv_neT c35_5 (a := 5) rfl
                have z6 := lv_neT c35_6 (a := 6) rfl
                have z7 := lv_neT c35_7 (a := 7) rfl
                have z8 := lv_neT c35_8 (a := 8) rfl
                refine lv_tableOut (tgt := 102) hx hb dX3_task_35 (by omega) (by decide) ?_
                refine lv_aload_n hx hb dX3_task_102 rfl (lv_at hl 0 rfl) ?_
                refine va_get (D := G) (ci := 3) (v := .ref (na 0)) (C := RX3) (T := TX3) (N := 8) hx hb hts iX3_task_X3 hown hK hP 0 rfl rfl 0 (by decide) (hts _ qX3_task_0) (fun _ h9 => h9) rfl dX3_task_103 ?_
                refine lv_iload_n hx hb dX3_task_106 rfl (lv_at hl 2 rfl) ?_
                obtain ⟨r107, e107, h⟩ := tw_bs h
                refine tw_callVr (ws' := (tw_wW cI cQ a na pa ta qa xa z Y)) (As := [.int p2]) (rest := []) F hN hK hP hD hS hA (mX1_property l G cI na Y.1 H.size p2 e107) (cwV 1 hts gX3_task_X1_property rfl rfl rfl (by decide +kernel) ⟨(Nat.le_of_ble_eq_true rfl), (Nat.le_of_ble_eq_true rfl)⟩) [0] rfl [3, 4, 5, 6, 7, 8, 9, 10] tw_cN_nd tw_cN_C rfl tw_cN_M (r0 := 0) (ci := 1) rfl rfl rfl rfl hl.1 rfl (Nat.le_of_ble_eq_true rfl) dX3_task_107 ⟨Nat.zero_le _, Nat.zero_le _⟩ (fun H locs hP hD hS => ?_)
                by_cases c107_1 : r107 = 1
                · replace h := tw_t c107_1 h
                  rw [c107_1]
                  refine lv_iload_n hx hb dX3_task_110 rfl (lv_at hl 1 rfl) ?_
                  obtain ⟨g111, h⟩ := tw_gs h
                  refine va_iald (f := Y.1.1) (n := 12) hx hb hK hP 4 0 rfl rfl g111 dX3_task_111 ?_
                  exact hq H locs _ ls (Y.1.1 p1.toNatClampNeg) (tw_rt (fun r => r.2.1 = (Y.1.1 p1.toNatClampNeg)) h rfl) rfl (tw_rt (fun r => va_P G vwCl (tw_wW cI cQ a na pa ta qa xa z r.2.2) H) h hP) hS dX3_task_112
                · replace h := tw_f c107_1 h
                  by_cases c107_2 : r107 = 2
                  · replace h := tw_t c107_2 h
                    rw [c107_2]
                    refine lv_iload_n hx hb dX3_task_110 rfl (lv_at hl 1 rfl) ?_
                    obtain ⟨g111, h⟩ := tw_gs h
                    refine va_iald (f := Y.1.2.1) (n := 12) hx hb hK hP 5 0 rfl rfl g111 dX3_task_111 ?_
                    exact hq H locs _ ls (Y.1.2.1 p1.toNatClampNeg) (tw_rt (fun r => r.2.1 = (Y.1.2.1 p1.toNatClampNeg)) h rfl) rfl (tw_rt (fun r => va_P G vwCl (tw_wW cI cQ a na pa ta qa xa z r.2.2) H) h hP) hS dX3_task_112
                  · replace h := tw_f c107_2 h
                    by_cases c107_3 : r107 = 3
                    · replace h := tw_t c107_3 h
                      rw [c107_3]
                      refine lv_iload_n hx hb dX3_task_110 rfl (lv_at hl 1 rfl) ?_
                      obtain ⟨g111, h⟩ := tw_gs h
                      refine va_iald (f := Y.1.2.2.1) (n := 12) hx hb hK hP 6 0 rfl rfl g111 dX3_task_111 ?_
                      exact hq H locs _ ls (Y.1.2.2.1 p1.toNatClampNeg) (tw_rt (fun r => r.2.1 = (Y.1.2.2.1 p1.toNatClampNeg)) h rfl) rfl (tw_rt (fun r => va_P G vwCl (tw_wW cI cQ a na pa ta qa xa z r.2.2) H) h hP) hS dX3_task_112
                    · replace h := tw_f c107_3 h
                      by_cases c107_4 : r107 = 4
                      · replace h := tw_t c107_4 h
                        rw [c107_4]
                        refine lv_iload_n hx hb dX3_task_110 rfl (lv_at hl 1 rfl) ?_
                        obtain ⟨g111, h⟩ := tw_gs h
                        refine va_iald (f := Y.1.2.2.2.1) (n := 12) hx hb hK hP 7 0 rfl rfl g111 dX3_task_111 ?_
                        exact hq H locs _ ls (Y.1.2.2.2.1 p1.toNatClampNeg) (tw_rt (fun r => r.2.1 = (Y.1.2.2.2.1 p1.toNatClampNeg)) h rfl) rfl (tw_rt (fun r => va_P G vwCl (tw_wW cI cQ a na pa ta qa xa z r.2.2) H) h hP) hS dX3_task_112
                      · replace h := tw_f c107_4 h
                        by_cases c107_5 : r107 = 5
                        · replace h := tw_t c107_5 h
                          rw [c107_5]
                          refine lv_iload_n hx hb dX3_task_110 rfl (lv_at hl 1 rfl) ?_
                          obtain ⟨g111, h⟩ := tw_gs h
                          refine va_iald (f := Y.1.2.2.2.2.1) (n := 12) hx hb hK hP 8 0 rfl rfl g111 dX3_task_111 ?_
                          exact hq H locs _ ls (Y.1.2.2.2.2.1 p1.toNatClampNeg) (tw_rt (fun r => r.2.1 = (Y.1.2.2.2.2.1 p1.toNatClampNeg)) h rfl) rfl (tw_rt (fun r => va_P G vwCl (tw_wW cI cQ a na pa ta qa xa z r.2.2) H) h hP) hS dX3_task_112
                        · replace h := tw_f c107_5 h
                          cases h
      · replace h := tw_f c23 h
        exact tw_thr h hk (by decide)
  · replace h := tw_fn c5 h
    exact tw_thr h hk (by decide)
abbrev rmX3_personOn : Room := { frames := 1, cells := 0, slots := 0, locals := 26 }
set_option maxRecDepth 20000 in
theorem qX3_personOn_0 : (Cond.fieldLink RX3 19 "TheatreWall" "plan" "LTheatreWall$Plan;") ∈ wsX3_personOn := (List.mem_cons_of_mem _ (List.mem_append_left _ (List.mem_append_left _ (List.mem_append_left _ (List.mem_append_left _ (List.mem_of_getElem? (i := 2) rfl))))))
set_option maxRecDepth 20000 in
theorem qX3_personOn_1 : (Cond.fieldLink RX3 10 "TheatreWall" "now" "LTheatreWall$State;") ∈ wsX3_personOn := (List.mem_cons_of_mem _ (List.mem_append_left _ (List.mem_append_left _ (List.mem_append_left _ (List.mem_append_left _ (List.mem_of_getElem? (i := 3) rfl))))))
set_option maxRecDepth 20000 in
theorem qX3_personOn_2 : (Cond.fieldLink RX3 171 "TheatreWall$State" "persons" "[I") ∈ wsX3_personOn := (List.mem_cons_of_mem _ (List.mem_append_left _ (List.mem_append_left _ (List.mem_append_left _ (List.mem_append_left _ (List.mem_of_getElem? (i := 4) rfl))))))
set_option maxRecDepth 20000 in
theorem iX3_personOn_X3 : ∀ w ∈ u_ws RX3 TX3 8, w ∈ wsX3_personOn := fun w h => (List.mem_cons_of_mem _ (List.mem_append_left _ (List.mem_append_left _ (List.mem_append_left _ (List.mem_append_right _ h)))))
set_option maxRecDepth 20000 in
theorem iX3_personOn_X1 : ∀ w ∈ u_ws RX1 TX1 9, w ∈ wsX3_personOn := fun w h => (List.mem_cons_of_mem _ (List.mem_append_left _ (List.mem_append_left _ (List.mem_append_right _ h))))
set_option maxHeartbeats 4000000 in
set_option maxRecDepth 100000 in
theorem mX3_personOn (l : Launch) (G : va_G) (cI : ClassId) (cQ : ClassId) (a na pa ta qa xa : Nat → Nat) (z : Nat → Nat → Nat) (Y : tw_Wl) (sz : Nat) (p1 : Int32) (p2 : Int32) {rv : Nat × Int32} (h : fX3_personOn Y p1 p2 = some rv) (hk : rv.1 = 0) : tw_Mi l yX3_personOn wsX3_personOn rmX3_personOn G [(cI, .int), (cQ, .object RX1)] (tw_wW cI cQ a na pa ta qa xa z Y) [.ref (a 0), .int p1, .int p2] sz rv.2 (tw_wW cI cQ a na pa ta qa xa z Y) := by
  refine tw_ofi (ty := .int) (cc := cX3_personOn) (maxL := 3) (own := RX3) (by decide) rfl rfl (Nat.le_of_ble_eq_true rfl) ?_
  intro p e s m args below meth c Q A ls H locs F hN hK hP hD hS hA hl hq
  obtain ⟨hx, hb, hml, hown, hts⟩ := id F
  have hl : lv_has ls 3 [(0, .ref (a 0)), (1, .int p1), (2, .int p2)] := hl
  unfold fX3_personOn at h
  refine lv_iload_n hx hb dX3_personOn_0 rfl (lv_at hl 1 rfl) ?_
  obtain ⟨r1, e1, h⟩ := tw_bs h
  refine tw_callSi (ws' := (tw_wW cI cQ a na pa ta qa xa z Y)) (As := [.int p1]) (rest := []) F hN hK hP hD hS hA (mX3_isPerson l G cI H.size p1 e1) (va_cwS 1 hts gX3_personOn_X3_isPerson rfl rfl rfl (by decide +kernel) ⟨(Nat.le_of_ble_eq_true rfl), (Nat.le_of_ble_eq_true rfl)⟩) [0] rfl [] (by decide) rfl rfl rfl rfl hl.1 rfl (Nat.le_of_ble_eq_true rfl) dX3_personOn_1 ⟨Nat.zero_le _, Nat.zero_le _⟩ (fun H locs hP hD hS => ?_)
  refine lv_if_eq (tgt := 14) hx hb dX3_personOn_4 (by decide) (fun c4 => ?_) (fun c4 => ?_)
  · replace h := tw_t c4 h
    exact tw_thr h hk (by decide)
  · replace h := tw_f c4 h
    refine lv_iload_n hx hb dX3_personOn_7 rfl (lv_at hl 2 rfl) ?_
    obtain ⟨r8, e8, h⟩ := tw_bs h
    refine tw_callSi (ws' := (tw_wW cI cQ a na pa ta qa xa z Y)) (As := [.int p2]) (rest := []) F hN hK hP hD hS hA (mX3_isDay l G cI H.size p2 e8) (va_cwS 1 hts gX3_personOn_X3_isDay rfl rfl rfl (by decide +kernel) ⟨(Nat.le_of_ble_eq_true rfl), (Nat.le_of_ble_eq_true rfl)⟩) [0] rfl [] (by decide) rfl rfl rfl rfl hl.1 rfl (Nat.le_of_ble_eq_true rfl) dX3_personOn_8 ⟨Nat.zero_le _, Nat.zero_le _⟩ (fun H locs hP hD hS => ?_)
    refine lv_if_ne (tgt := 22) hx hb dX3_personOn_11 (by decide) (fun c11 => ?_) (fun c11 => ?_)
    · replace h := tw_t c11 h
      refine lv_aload_n hx hb dX3_personOn_22 rfl (lv_at hl 0 rfl) ?_
      refine va_get (D := G) (ci := 3) (v := .ref (pa 0)) (C := RX3) (T := TX3) (N := 8) hx hb hts iX3_personOn_X3 hown hK hP 0 rfl rfl 1 (by decide) (hts _ qX3_personOn_0) (fun _ h9 => h9) rfl dX3_personOn_23 ?_
      refine lv_aload_n hx hb dX3_personOn_26 rfl (lv_at hl 0 rfl) ?_
      refine va_get (D := G) (ci := 3) (v := .ref (na 0)) (C := RX3) (T := TX3) (N := 8) hx hb hts iX3_personOn_X3 hown hK hP 0 rfl rfl 0 (by decide) (hts _ qX3_personOn_1) (fun _ h9 => h9) rfl dX3_personOn_27 ?_
      refine lv_aload_n hx hb dX3_personOn_30 rfl (lv_at hl 0 rfl) ?_
      refine va_get (D := G) (ci := 3) (v := .ref (na 0)) (C := RX3) (T := TX3) (N := 8) hx hb hts iX3_personOn_X3 hown hK hP 0 rfl rfl 0 (by decide) (hts _ qX3_personOn_1) (fun _ h9 => h9) rfl dX3_personOn_31 ?_
      refine va_get (D := G) (ci := 1) (v := .ref (na 2)) (C := RX1) (T := TX1) (N := 9) hx hb hts iX3_personOn_X1 hown hK hP 3 rfl rfl 1 (by decide) (hts _ qX3_personOn_2) (fun _ h9 => h9) rfl dX3_personOn_34 ?_
      refine lv_iload_n hx hb dX3_personOn_37 rfl (lv_at hl 1 rfl) ?_
      refine lv_iload_n hx hb dX3_personOn_38 rfl (lv_at hl 2 rfl) ?_
      obtain ⟨r39, e39, h⟩ := tw_bs h
      refine tw_callVi (ws' := (tw_wW cI cQ a na pa ta qa xa z Y)) (As := [.ref (na 0), .ref (na 2), .int p1, .int p2]) (rest := []) F hN hK hP hD hS hA (mX0_taskOnP l G cI pa na Y.2.1 Y.1 H.size p1 p2 e39) (cwV 4 hts gX3_personOn_X0_taskOn rfl rfl rfl (by decide +kernel) ⟨(Nat.le_of_ble_eq_true rfl), (Nat.le_of_ble_eq_true rfl)⟩) [0] rfl [11, 12, 13, 3, 4, 5, 6, 7, 8, 9, 10] tw_cPN_nd tw_cPN_C rfl tw_cPN_M (r0 := 0) (ci := 0) rfl rfl rfl rfl hl.1 rfl (Nat.le_of_ble_eq_true rfl) dX3_personOn_39 ⟨Nat.zero_le _, Nat.zero_le _⟩ (fun H locs hP hD hS => ?_)
      exact hq H locs _ ls r39 (tw_rt (fun r => r.2 = r39) h rfl) rfl hP hS dX3_personOn_42
    · replace h := tw_fn c11 h
      exact tw_thr h hk (by decide)
abbrev rmX3_hallOn : Room := { frames := 1, cells := 0, slots := 0, locals := 26 }
set_option maxRecDepth 20000 in
theorem qX3_hallOn_0 : (Cond.fieldLink RX3 19 "TheatreWall" "plan" "LTheatreWall$Plan;") ∈ wsX3_hallOn := (List.mem_cons_of_mem _ (List.mem_append_left _ (List.mem_append_left _ (List.mem_append_left _ (List.mem_append_left _ (List.mem_of_getElem? (i := 2) rfl))))))
set_option maxRecDepth 20000 in
theorem qX3_hallOn_1 : (Cond.fieldLink RX3 10 "TheatreWall" "now" "LTheatreWall$State;") ∈ wsX3_hallOn := (List.mem_cons_of_mem _ (List.mem_append_left _ (List.mem_append_left _ (List.mem_append_left _ (List.mem_append_left _ (List.mem_of_getElem? (i := 3) rfl))))))
set_option maxRecDepth 20000 in
theorem qX3_hallOn_2 : (Cond.fieldLink RX3 178 "TheatreWall$State" "halls" "[I") ∈ wsX3_hallOn := (List.mem_cons_of_mem _ (List.mem_append_left _ (List.mem_append_left _ (List.mem_append_left _ (List.mem_append_left _ (List.mem_of_getElem? (i := 4) rfl))))))
set_option maxRecDepth 20000 in
theorem iX3_hallOn_X3 : ∀ w ∈ u_ws RX3 TX3 8, w ∈ wsX3_hallOn := fun w h => (List.mem_cons_of_mem _ (List.mem_append_left _ (List.mem_append_left _ (List.mem_append_left _ (List.mem_append_right _ h)))))
set_option maxRecDepth 20000 in
theorem iX3_hallOn_X1 : ∀ w ∈ u_ws RX1 TX1 9, w ∈ wsX3_hallOn := fun w h => (List.mem_cons_of_mem _ (List.mem_append_left _ (List.mem_append_left _ (List.mem_append_right _ h))))
set_option maxHeartbeats 4000000 in
set_option maxRecDepth 100000 in
theorem mX3_hallOn (l : Launch) (G : va_G) (cI : ClassId) (cQ : ClassId) (a na pa ta qa xa : Nat → Nat) (z : Nat → Nat → Nat) (Y : tw_Wl) (sz : Nat) (p1 : Int32) (p2 : Int32) {rv : Nat × Int32} (h : fX3_hallOn Y p1 p2 = some rv) (hk : rv.1 = 0) : tw_Mi l yX3_hallOn wsX3_hallOn rmX3_hallOn G [(cI, .int), (cQ, .object RX1)] (tw_wW cI cQ a na pa ta qa xa z Y) [.ref (a 0), .int p1, .int p2] sz rv.2 (tw_wW cI cQ a na pa ta qa xa z Y) := by
  refine tw_ofi (ty := .int) (cc := cX3_hallOn) (maxL := 3) (own := RX3) (by decide) rfl rfl (Nat.le_of_ble_eq_true rfl) ?_
  intro p e s m args below meth c Q A ls H locs F hN hK hP hD hS hA hl hq
  obtain ⟨hx, hb, hml, hown, hts⟩ := id F
  have hl : lv_has ls 3 [(0, .ref (a 0)), (1, .int p1), (2, .int p2)] := hl
  unfold fX3_hallOn at h
  refine lv_iload_n hx hb dX3_hallOn_0 rfl (lv_at hl 1 rfl) ?_
  obtain ⟨r1, e1, h⟩ := tw_bs h
  refine tw_callSi (ws' := (tw_wW cI cQ a na pa ta qa xa z Y)) (As := [.int p1]) (rest := []) F hN hK hP hD hS hA (mX3_isHall l G cI H.size p1 e1) (va_cwS 1 hts gX3_hallOn_X3_isHall rfl rfl rfl (by decide +kernel) ⟨(Nat.le_of_ble_eq_true rfl), (Nat.le_of_ble_eq_true rfl)⟩) [0] rfl [] (by decide) rfl rfl rfl rfl hl.1 rfl (Nat.le_of_ble_eq_true rfl) dX3_hallOn_1 ⟨Nat.zero_le _, Nat.zero_le _⟩ (fun H locs hP hD hS => ?_)
  refine lv_if_eq (tgt := 14) hx hb dX3_hallOn_4 (by decide) (fun c4 => ?_) (fun c4 => ?_)
  · replace h := tw_t c4 h
    exact tw_thr h hk (by decide)
  · replace h := tw_f c4 h
    refine lv_iload_n hx hb dX3_hallOn_7 rfl (lv_at hl 2 rfl) ?_
    obtain ⟨r8, e8, h⟩ := tw_bs h
    refine tw_callSi (ws' := (tw_wW cI cQ a na pa ta qa xa z Y)) (As := [.int p2]) (rest := []) F hN hK hP hD hS hA (mX3_isDay l G cI H.size p2 e8) (va_cwS 1 hts gX3_hallOn_X3_isDay rfl rfl rfl (by decide +kernel) ⟨(Nat.le_of_ble_eq_true rfl), (Nat.le_of_ble_eq_true rfl)⟩) [0] rfl [] (by decide) rfl rfl rfl rfl hl.1 rfl (Nat.le_of_ble_eq_true rfl) dX3_hallOn_8 ⟨Nat.zero_le _, Nat.zero_le _⟩ (fun H locs hP hD hS => ?_)
    refine lv_if_ne (tgt := 22) hx hb dX3_hallOn_11 (by decide) (fun c11 => ?_) (fun c11 => ?_)
    · replace h := tw_t c11 h
      refine lv_aload_n hx hb dX3_hallOn_22 rfl (lv_at hl 0 rfl) ?_
      refine va_get (D := G) (ci := 3) (v := .ref (pa 0)) (C := RX3) (T := TX3) (N := 8) hx hb hts iX3_hallOn_X3 hown hK hP 0 rfl rfl 1 (by decide) (hts _ qX3_hallOn_0) (fun _ h9 => h9) rfl dX3_hallOn_23 ?_
      refine lv_aload_n hx hb dX3_hallOn_26 rfl (lv_at hl 0 rfl) ?_
      refine va_get (D := G) (ci := 3) (v := .ref (na 0)) (C := RX3) (T := TX3) (N := 8) hx hb hts iX3_hallOn_X3 hown hK hP 0 rfl rfl 0 (by decide) (hts _ qX3_hallOn_1) (fun _ h9 => h9) rfl dX3_hallOn_27 ?_
      refine lv_aload_n hx hb dX3_hallOn_30 rfl (lv_at hl 0 rfl) ?_
      refine va_get (D := G) (ci := 3) (v := .ref (na 0)) (C := RX3) (T := TX3) (N := 8) hx hb hts iX3_hallOn_X3 hown hK hP 0 rfl rfl 0 (by decide) (hts _ qX3_hallOn_1) (fun _ h9 => h9) rfl dX3_hallOn_31 ?_
      refine va_get (D := G) (ci := 1) (v := .ref (na 3)) (C := RX1) (T := TX1) (N := 9) hx hb hts iX3_hallOn_X1 hown hK hP 3 rfl rfl 2 (by decide) (hts _ qX3_hallOn_2) (fun _ h9 => h9) rfl dX3_hallOn_34 ?_
      refine lv_iload_n hx hb dX3_hallOn_37 rfl (lv_at hl 1 rfl) ?_
      refine lv_iload_n hx hb dX3_hallOn_38 rfl (lv_at hl 2 rfl) ?_
      obtain ⟨r39, e39, h⟩ := tw_bs h
      refine tw_callVi (ws' := (tw_wW cI cQ a na pa ta qa xa z Y)) (As := [.ref (na 0), .ref (na 3), .int p1, .int p2]) (rest := []) F hN hK hP hD hS hA (mX0_taskOnH l G cI pa na Y.2.1 Y.1 H.size p1 p2 e39) (cwV 4 hts gX3_hallOn_X0_taskOn rfl rfl rfl (by decide +kernel) ⟨(Nat.le_of_ble_eq_true rfl), (Nat.le_of_ble_eq_true rfl)⟩) [0] rfl [11, 12, 13, 3, 4, 5, 6, 7, 8, 9, 10] tw_cPN_nd tw_cPN_C rfl tw_cPN_M (r0 := 0) (ci := 0) rfl rfl rfl rfl hl.1 rfl (Nat.le_of_ble_eq_true rfl) dX3_hallOn_39 ⟨Nat.zero_le _, Nat.zero_le _⟩ (fun H locs hP hD hS => ?_)
      exact hq H locs _ ls r39 (tw_rt (fun r => r.2 = r39) h rfl) rfl hP hS dX3_hallOn_42
    · replace h := tw_fn c11 h
      exact tw_thr h hk (by decide)
abbrev rmX3_hall : Room := { frames := 1, cells := 0, slots := 0, locals := 24 }
set_option maxRecDepth 20000 in
theorem qX3_hall_0 : (Cond.fieldLink RX3 10 "TheatreWall" "now" "LTheatreWall$State;") ∈ wsX3_hall := (List.mem_cons_of_mem _ (List.mem_append_left _ (List.mem_append_left _ (List.mem_append_left _ (List.mem_append_left _ (List.mem_append_left _ (List.mem_append_left _ (List.mem_of_getElem? (i := 4) rfl))))))))
set_option maxRecDepth 20000 in
theorem qX3_hall_1 : (Cond.fieldLink RX3 127 "TheatreWall$State" "firstDays" "[I") ∈ wsX3_hall := (List.mem_cons_of_mem _ (List.mem_append_left _ (List.mem_append_left _ (List.mem_append_left _ (List.mem_append_left _ (List.mem_append_left _ (List.mem_append_left _ (List.mem_of_getElem? (i := 5) rfl))))))))
set_option maxRecDepth 20000 in
theorem qX3_hall_2 : (Cond.fieldLink RX3 130 "TheatreWall$State" "lastDays" "[I") ∈ wsX3_hall := (List.mem_cons_of_mem _ (List.mem_append_left _ (List.mem_append_left _ (List.mem_append_left _ (List.mem_append_left _ (List.mem_append_left _ (List.mem_append_left _ (List.mem_of_getElem? (i := 6) rfl))))))))
set_option maxRecDepth 20000 in
theorem qX3_hall_3 : (Cond.fieldLink RX3 19 "TheatreWall" "plan" "LTheatreWall$Plan;") ∈ wsX3_hall := (List.mem_cons_of_mem _ (List.mem_append_left _ (List.mem_append_left _ (List.mem_append_left _ (List.mem_append_left _ (List.mem_append_left _ (List.mem_append_left _ (List.mem_of_getElem? (i := 7) rfl))))))))
set_option maxRecDepth 20000 in
theorem iX3_hall_X3 : ∀ w ∈ u_ws RX3 TX3 8, w ∈ wsX3_hall := fun w h => (List.mem_cons_of_mem _ (List.mem_append_left _ (List.mem_append_left _ (List.mem_append_left _ (List.mem_append_left _ (List.mem_append_right _ h))))))
set_option maxRecDepth 20000 in
theorem iX3_hall_X1 : ∀ w ∈ u_ws RX1 TX1 9, w ∈ wsX3_hall := fun w h => (List.mem_cons_of_mem _ (List.mem_append_left _ (List.mem_append_left _ (List.mem_append_left _ (List.mem_append_right _ h)))))
set_option maxHeartbeats 4000000 in
set_option maxRecDepth 100000 in
theorem mX3_hall (l : Launch) (G : va_G) (cI : ClassId) (cQ : ClassId) (a na pa ta qa xa : Nat → Nat) (z : Nat → Nat → Nat) (Y : tw_Wl) (sz : Nat) (p1 : Int32) (p2 : Int32) {rv : Nat × Int32} (h : fX3_hall Y p1 p2 = some rv) (hk : rv.1 = 0) : tw_Mi l yX3_hall wsX3_hall rmX3_hall G [(cI, .int), (cQ, .object RX1)] (tw_wW cI cQ a na pa ta qa xa z Y) [.ref (a 0), .int p1, .int p2] sz rv.2 (tw_wW cI cQ a na pa ta qa xa z Y) := by
  refine tw_ofi (ty := .int) (cc := cX3_hall) (maxL := 3) (own := RX3) (by decide) rfl rfl (Nat.le_of_ble_eq_true rfl) ?_
  intro p e s m args below meth c Q A ls H locs F hN hK hP hD hS hA hl hq
  obtain ⟨hx, hb, hml, hown, hts⟩ := id F
  have hl : lv_has ls 3 [(0, .ref (a 0)), (1, .int p1), (2, .int p2)] := hl
  unfold fX3_hall at h
  refine lv_iload_n hx hb dX3_hall_0 rfl (lv_at hl 1 rfl) ?_
  obtain ⟨r1, e1, h⟩ := tw_bs h
  refine tw_callSi (ws' := (tw_wW cI cQ a na pa ta qa xa z Y)) (As := [.int p1]) (rest := []) F hN hK hP hD hS hA (mX3_isHall l G cI H.size p1 e1) (va_cwS 1 hts gX3_hall_X3_isHall rfl rfl rfl (by decide +kernel) ⟨(Nat.le_of_ble_eq_true rfl), (Nat.le_of_ble_eq_true rfl)⟩) [0] rfl [] (by decide) rfl rfl rfl rfl hl.1 rfl (Nat.le_of_ble_eq_true rfl) dX3_hall_1 ⟨Nat.zero_le _, Nat.zero_le _⟩ (fun H locs hP hD hS => ?_)
  refine lv_if_ne (tgt := 15) hx hb dX3_hall_4 (by decide) (fun c4 => ?_) (fun c4 => ?_)
  · replace h := tw_t c4 h
    refine lv_iload_n hx hb dX3_hall_15 rfl (lv_at hl 2 rfl) ?_
    refine lv_if_lt (tgt := 24) hx hb dX3_hall_16 (by decide) (fun c16 => ?_) (fun c16 => ?_)
    · replace h := tw_t c16 h
      exact tw_thr h hk (by decide)
    · replace h := tw_f c16 h
      refine lv_iload_n hx hb dX3_hall_19 rfl (lv_at hl 2 rfl) ?_
      refine lv_iconst (v := (4 : Int32)) hx hb dX3_hall_20 (by decide) ?_
      refine lv_icmp_lt (tgt := 32) hx hb dX3_hall_21 (by decide) (fun c21 => ?_) (fun c21 => ?_)
      · replace h := tw_t c21 h
        refine lv_iload_n hx hb dX3_hall_32 rfl (lv_at hl 2 rfl) ?_
        by_cases c33_0 : p2 = 0
        · replace h := tw_t c33_0 h
          refine tw_tab (v := 0) (tgt := 60) hx hb dX3_hall_33 c33_0 (by decide) (by decide) rfl (by decide) ?_
          refine lv_aload_n hx hb dX3_hall_60 rfl (lv_at hl 0 rfl) ?_
          refine va_get (D := G) (ci := 3) (v := .ref (na 0)) (C := RX3) (T := TX3) (N := 8) hx hb hts iX3_hall_X3 hown hK hP 0 rfl rfl 0 (by decide) (hts _ qX3_hall_0) (fun _ h9 => h9) rfl dX3_hall_61 ?_
          refine va_get (D := G) (ci := 1) (v := .ref (na 6)) (C := RX1) (T := TX1) (N := 9) hx hb hts iX3_hall_X1 hown hK hP 3 rfl rfl 5 (by decide) (hts _ qX3_hall_1) (fun _ h9 => h9) rfl dX3_hall_64 ?_
          refine lv_iload_n hx hb dX3_hall_67 rfl (lv_at hl 1 rfl) ?_
          obtain ⟨g68, h⟩ := tw_gs h
          refine va_iald (f := Y.1.2.2.2.2.2.1) (n := 4) hx hb hK hP 9 0 rfl rfl g68 dX3_hall_68 ?_
          exact hq H locs _ ls (Y.1.2.2.2.2.2.1 p1.toNatClampNeg) (tw_rt (fun r => r.2 = (Y.1.2.2.2.2.2.1 p1.toNatClampNeg)) h rfl) rfl hP hS dX3_hall_69
        · replace h := tw_f c33_0 h
          by_cases c33_1 : p2 = 1
          · replace h := tw_t c33_1 h
            refine tw_tab (v := 1) (tgt := 70) hx hb dX3_hall_33 c33_1 (by decide) (by decide) rfl (by decide) ?_
            refine lv_aload_n hx hb dX3_hall_70 rfl (lv_at hl 0 rfl) ?_
            refine va_get (D := G) (ci := 3) (v := .ref (na 0)) (C := RX3) (T := TX3) (N := 8) hx hb hts iX3_hall_X3 hown hK hP 0 rfl rfl 0 (by decide) (hts _ qX3_hall_0) (fun _ h9 => h9) rfl dX3_hall_71 ?_
            refine va_get (D := G) (ci := 1) (v := .ref (na 7)) (C := RX1) (T := TX1) (N := 9) hx hb hts iX3_hall_X1 hown hK hP 3 rfl rfl 6 (by decide) (hts _ qX3_hall_2) (fun _ h9 => h9) rfl dX3_hall_74 ?_
            refine lv_iload_n hx hb dX3_hall_77 rfl (lv_at hl 1 rfl) ?_
            obtain ⟨g78, h⟩ := tw_gs h
            refine va_iald (f := Y.1.2.2.2.2.2.2.1) (n := 4) hx hb hK hP 10 0 rfl rfl g78 dX3_hall_78 ?_
            exact hq H locs _ ls (Y.1.2.2.2.2.2.2.1 p1.toNatClampNeg) (tw_rt (fun r => r.2 = (Y.1.2.2.2.2.2.2.1 p1.toNatClampNeg)) h rfl) rfl hP hS dX3_hall_79
          · replace h := tw_f c33_1 h
            by_cases c33_2 : p2 = 2
            · replace h := tw_t c33_2 h
              refine tw_tab (v := 2) (tgt := 80) hx hb dX3_hall_33 c33_2 (by decide) (by decide) rfl (by decide) ?_
              refine lv_aload_n hx hb dX3_hall_80 rfl (lv_at hl 0 rfl) ?_
              refine va_get (D := G) (ci := 3) (v := .ref (pa 0)) (C := RX3) (T := TX3) (N := 8) hx hb hts iX3_hall_X3 hown hK hP 0 rfl rfl 1 (by decide) (hts _ qX3_hall_3) (fun _ h9 => h9) rfl dX3_hall_81 ?_
              refine lv_aload_n hx hb dX3_hall_84 rfl (lv_at hl 0 rfl) ?_
              refine va_get (D := G) (ci := 3) (v := .ref (na 0)) (C := RX3) (T := TX3) (N := 8) hx hb hts iX3_hall_X3 hown hK hP 0 rfl rfl 0 (by decide) (hts _ qX3_hall_0) (fun _ h9 => h9) rfl dX3_hall_85 ?_
              refine lv_iload_n hx hb dX3_hall_88 rfl (lv_at hl 1 rfl) ?_
              obtain ⟨r89, e89, h⟩ := tw_bs h
              refine tw_callVi (ws' := (tw_wW cI cQ a na pa ta qa xa z Y)) (As := [.ref (na 0), .int p1]) (rest := []) F hN hK hP hD hS hA (mX0_daysIn l G cI pa na Y.2.1 Y.1 H.size p1 e89) (cwV 2 hts gX3_hall_X0_daysIn rfl rfl rfl (by decide +kernel) ⟨(Nat.le_of_ble_eq_true rfl), (Nat.le_of_ble_eq_true rfl)⟩) [0] rfl [11, 12, 13, 3, 4, 5, 6, 7, 8, 9, 10] tw_cPN_nd tw_cPN_C rfl tw_cPN_M (r0 := 0) (ci := 0) rfl rfl rfl rfl hl.1 rfl (Nat.le_of_ble_eq_true rfl) dX3_hall_89 ⟨Nat.zero_le _, Nat.zero_le _⟩ (fun H locs hP hD hS => ?_)
              exact hq H locs _ ls r89 (tw_rt (fun r => r.2 = r89) h rfl) rfl hP hS dX3_hall_92
            · replace h := tw_f c33_2 h
              have z0 := lv_neT c33_0 (a := 0) rfl
              have z1 := lv_neT c33_1 (a := 1) rfl
              have z2 := lv_neT c33_2 (a := 2) rfl
              refine lv_tableOut (tgt := 93) hx hb dX3_hall_33 (by omega) (by decide) ?_
              refine lv_aload_n hx hb dX3_hall_93 rfl (lv_at hl 0 rfl) ?_
              refine va_get (D := G) (ci := 3) (v := .ref (pa 0)) (C := RX3) (T := TX3) (N := 8) hx hb hts iX3_hall_X3 hown hK hP 0 rfl rfl 1 (by decide) (hts _ qX3_hall_3) (fun _ h9 => h9) rfl dX3_hall_94 ?_
              refine lv_aload_n hx hb dX3_hall_97 rfl (lv_at hl 0 rfl) ?_
              refine va_get (D := G) (ci := 3) (v := .ref (na 0)) (C := RX3) (T := TX3) (N := 8) hx hb hts iX3_hall_X3 hown hK hP 0 rfl rfl 0 (by decide) (hts _ qX3_hall_0) (fun _ h9 => h9) rfl dX3_hall_98 ?_
              refine lv_iload_n hx hb dX3_hall_101 rfl (lv_at hl 1 rfl) ?_
              obtain ⟨r102, e102, h⟩ := tw_bs h
              refine tw_callVi (ws' := (tw_wW cI cQ a na pa ta qa xa z Y)) (As := [.ref (na 0), .int p1]) (rest := []) F hN hK hP hD hS hA (mX0_tasksIn l G cI pa na Y.2.1 Y.1 H.size p1 e102) (cwV 2 hts gX3_hall_X0_tasksIn rfl rfl rfl (by decide +kernel) ⟨(Nat.le_of_ble_eq_true rfl), (Nat.le_of_ble_eq_true rfl)⟩) [0] rfl [11, 12, 13, 3, 4, 5, 6, 7, 8, 9, 10] tw_cPN_nd tw_cPN_C rfl tw_cPN_M (r0 := 0) (ci := 0) rfl rfl rfl rfl hl.1 rfl (Nat.le_of_ble_eq_true rfl) dX3_hall_102 ⟨Nat.zero_le _, Nat.zero_le _⟩ (fun H locs hP hD hS => ?_)
              exact hq H locs _ ls r102 (tw_rt (fun r => r.2 = r102) h rfl) rfl hP hS dX3_hall_105
      · replace h := tw_f c21 h
        exact tw_thr h hk (by decide)
  · replace h := tw_fn c4 h
    exact tw_thr h hk (by decide)
abbrev rmX3_count : Room := { frames := 6, cells := 0, slots := 0, locals := 148 }
set_option maxRecDepth 20000 in
theorem qX3_count_0 : (Cond.fieldLink RX3 10 "TheatreWall" "now" "LTheatreWall$State;") ∈ wsX3_count := (List.mem_cons_of_mem _ (List.mem_append_left _ (List.mem_append_left _ (List.mem_append_left _ (List.mem_append_left _ (List.mem_append_left _ (List.mem_of_getElem? (i := 2) rfl)))))))
set_option maxRecDepth 20000 in
theorem qX3_count_1 : (Cond.fieldLink RX3 61 "TheatreWall$State" "size" "I") ∈ wsX3_count := (List.mem_cons_of_mem _ (List.mem_append_left _ (List.mem_append_left _ (List.mem_append_left _ (List.mem_append_left _ (List.mem_append_left _ (List.mem_of_getElem? (i := 3) rfl)))))))
set_option maxRecDepth 20000 in
theorem qX3_count_2 : (Cond.fieldLink RX3 19 "TheatreWall" "plan" "LTheatreWall$Plan;") ∈ wsX3_count := (List.mem_cons_of_mem _ (List.mem_append_left _ (List.mem_append_left _ (List.mem_append_left _ (List.mem_append_left _ (List.mem_append_left _ (List.mem_of_getElem? (i := 4) rfl)))))))
set_option maxRecDepth 20000 in
theorem qX3_count_3 : (Cond.fieldLink RX3 133 "TheatreWall$Plan" "laidCount" "I") ∈ wsX3_count := (List.mem_cons_of_mem _ (List.mem_append_left _ (List.mem_append_left _ (List.mem_append_left _ (List.mem_append_left _ (List.mem_append_left _ (List.mem_of_getElem? (i := 5) rfl)))))))
set_option maxRecDepth 20000 in
theorem qX3_count_4 : (Cond.fieldLink RX3 112 "TheatreWall$Plan" "end" "I") ∈ wsX3_count := (List.mem_cons_of_mem _ (List.mem_append_left _ (List.mem_append_left _ (List.mem_append_left _ (List.mem_append_left _ (List.mem_append_left _ (List.mem_of_getElem? (i := 6) rfl)))))))
set_option maxRecDepth 20000 in
theorem qX3_count_5 : (Cond.fieldLink RX3 44 "TheatreWall" "savedCount" "I") ∈ wsX3_count := (List.mem_cons_of_mem _ (List.mem_append_left _ (List.mem_append_left _ (List.mem_append_left _ (List.mem_append_left _ (List.mem_append_left _ (List.mem_of_getElem? (i := 7) rfl)))))))
set_option maxRecDepth 20000 in
theorem iX3_count_X3 : ∀ w ∈ u_ws RX3 TX3 8, w ∈ wsX3_count := fun w h => (List.mem_cons_of_mem _ (List.mem_append_left _ (List.mem_append_left _ (List.mem_append_left _ (List.mem_append_right _ h)))))
set_option maxRecDepth 20000 in
theorem iX3_count_X1 : ∀ w ∈ u_ws RX1 TX1 9, w ∈ wsX3_count := fun w h => (List.mem_cons_of_mem _ (List.mem_append_left _ (List.mem_append_left _ (List.mem_append_right _ h))))
set_option maxRecDepth 20000 in
theorem iX3_count_X0 : ∀ w ∈ u_ws RX0 TX0 5, w ∈ wsX3_count := fun w h => (List.mem_cons_of_mem _ (List.mem_append_left _ (List.mem_append_right _ h)))
set_option maxHeartbeats 4000000 in
set_option maxRecDepth 100000 in
theorem mX3_count (l : Launch) (G : va_G) (cI : ClassId) (cQ : ClassId) (a na pa ta qa xa : Nat → Nat) (z : Nat → Nat → Nat) (Y : tw_Wl) (sz : Nat) (p1 : Int32) {rv : Nat × Int32 × tw_Wl} (h : fX3_count Y p1 = some rv) (hk : rv.1 = 0) : tw_Mi l yX3_count wsX3_count rmX3_count G [(cI, .int), (cQ, .object RX1)] (tw_wW cI cQ a na pa ta qa xa z Y) [.ref (a 0), .int p1] sz rv.2.1 (tw_wW cI cQ a na pa ta qa xa z rv.2.2) := by
  refine tw_ofi (ty := .int) (cc := cX3_count) (maxL := 2) (own := RX3) (by decide) rfl rfl (Nat.le_of_ble_eq_true rfl) ?_
  intro p e s m args below meth c Q A ls H locs F hN hK hP hD hS hA hl hq
  obtain ⟨hx, hb, hml, hown, hts⟩ := id F
  have hl : lv_has ls 2 [(0, .ref (a 0)), (1, .int p1)] := hl
  unfold fX3_count at h
  refine lv_iload_n hx hb dX3_count_0 rfl (lv_at hl 1 rfl) ?_
  refine lv_if_lt (tgt := 10) hx hb dX3_count_1 (by decide) (fun c1 => ?_) (fun c1 => ?_)
  · replace h := tw_t c1 h
    exact tw_thr h hk (by decide)
  · replace h := tw_f c1 h
    refine lv_iload_n hx hb dX3_count_4 rfl (lv_at hl 1 rfl) ?_
    refine lv_bipush (v := (9 : Int32)) hx hb dX3_count_5 (by decide) ?_
    refine lv_icmp_lt (tgt := 18) hx hb dX3_count_7 (by decide) (fun c7 => ?_) (fun c7 => ?_)
    · replace h := tw_t c7 h
      refine lv_iload_n hx hb dX3_count_18 rfl (lv_at hl 1 rfl) ?_
      by_cases c19_0 : p1 = 0
      · replace h := tw_t c19_0 h
        refine tw_tab (v := 0) (tgt := 64) hx hb dX3_count_19 c19_0 (by decide) (by decide) rfl (by decide) ?_
        refine lv_aload_n hx hb dX3_count_64 rfl (lv_at hl 0 rfl) ?_
        refine va_get (D := G) (ci := 3) (v := .ref (na 0)) (C := RX3) (T := TX3) (N := 8) hx hb hts iX3_count_X3 hown hK hP 0 rfl rfl 0 (by decide) (hts _ qX3_count_0) (fun _ h9 => h9) rfl dX3_count_65 ?_
        refine va_get (D := G) (ci := 1) (v := .int Y.1.2.2.2.2.2.2.2.1) (C := RX1) (T := TX1) (N := 9) hx hb hts iX3_count_X1 hown hK hP 3 rfl rfl 7 (by decide) (hts _ qX3_count_1) (fun _ h9 => h9) rfl dX3_count_68 ?_
        exact hq H locs _ ls Y.1.2.2.2.2.2.2.2.1 (tw_rt (fun r => r.2.1 = Y.1.2.2.2.2.2.2.2.1) h rfl) rfl (tw_rt (fun r => va_P G vwCl (tw_wW cI cQ a na pa ta qa xa z r.2.2) H) h hP) hS dX3_count_71
      · replace h := tw_f c19_0 h
        by_cases c19_1 : p1 = 1
        · replace h := tw_t c19_1 h
          refine tw_tab (v := 1) (tgt := 72) hx hb dX3_count_19 c19_1 (by decide) (by decide) rfl (by decide) ?_
          refine lv_aload_n hx hb dX3_count_72 rfl (lv_at hl 0 rfl) ?_
          refine va_get (D := G) (ci := 3) (v := .ref (pa 0)) (C := RX3) (T := TX3) (N := 8) hx hb hts iX3_count_X3 hown hK hP 0 rfl rfl 1 (by decide) (hts _ qX3_count_2) (fun _ h9 => h9) rfl dX3_count_73 ?_
          refine va_get (D := G) (ci := 0) (v := .int Y.2.1.2.2.2.1) (C := RX0) (T := TX0) (N := 5) hx hb hts iX3_count_X0 hown hK hP 11 rfl rfl 3 (by decide) (hts _ qX3_count_3) (fun _ h9 => h9) rfl dX3_count_76 ?_
          exact hq H locs _ ls Y.2.1.2.2.2.1 (tw_rt (fun r => r.2.1 = Y.2.1.2.2.2.1) h rfl) rfl (tw_rt (fun r => va_P G vwCl (tw_wW cI cQ a na pa ta qa xa z r.2.2) H) h hP) hS dX3_count_79
        · replace h := tw_f c19_1 h
          by_cases c19_2 : p1 = 2
          · replace h := tw_t c19_2 h
            refine tw_tab (v := 2) (tgt := 80) hx hb dX3_count_19 c19_2 (by decide) (by decide) rfl (by decide) ?_
            refine lv_aload_n hx hb dX3_count_80 rfl (lv_at hl 0 rfl) ?_
            refine va_get (D := G) (ci := 3) (v := .ref (na 0)) (C := RX3) (T := TX3) (N := 8) hx hb hts iX3_count_X3 hown hK hP 0 rfl rfl 0 (by decide) (hts _ qX3_count_0) (fun _ h9 => h9) rfl dX3_count_81 ?_
            refine va_get (D := G) (ci := 1) (v := .int Y.1.2.2.2.2.2.2.2.1) (C := RX1) (T := TX1) (N := 9) hx hb hts iX3_count_X1 hown hK hP 3 rfl rfl 7 (by decide) (hts _ qX3_count_1) (fun _ h9 => h9) rfl dX3_count_84 ?_
            refine lv_aload_n hx hb dX3_count_87 rfl (lv_at hl 0 rfl) ?_
            refine va_get (D := G) (ci := 3) (v := .ref (pa 0)) (C := RX3) (T := TX3) (N := 8) hx hb hts iX3_count_X3 hown hK hP 0 rfl rfl 1 (by decide) (hts _ qX3_count_2) (fun _ h9 => h9) rfl dX3_count_88 ?_
            refine va_get (D := G) (ci := 0) (v := .int Y.2.1.2.2.2.1) (C := RX0) (T := TX0) (N := 5) hx hb hts iX3_count_X0 hown hK hP 11 rfl rfl 3 (by decide) (hts _ qX3_count_3) (fun _ h9 => h9) rfl dX3_count_91 ?_
            refine lv_isub hx hb dX3_count_94 ?_
            exact hq H locs _ ls (Y.1.2.2.2.2.2.2.2.1 - Y.2.1.2.2.2.1) (tw_rt (fun r => r.2.1 = (Y.1.2.2.2.2.2.2.2.1 - Y.2.1.2.2.2.1)) h rfl) rfl (tw_rt (fun r => va_P G vwCl (tw_wW cI cQ a na pa ta qa xa z r.2.2) H) h hP) hS dX3_count_95
          · replace h := tw_f c19_2 h
            by_cases c19_3 : p1 = 3
            · replace h := tw_t c19_3 h
              refine tw_tab (v := 3) (tgt := 96) hx hb dX3_count_19 c19_3 (by decide) (by decide) rfl (by decide) ?_
              refine lv_aload_n hx hb dX3_count_96 rfl (lv_at hl 0 rfl) ?_
              refine va_get (D := G) (ci := 3) (v := .ref (pa 0)) (C := RX3) (T := TX3) (N := 8) hx hb hts iX3_count_X3 hown hK hP 0 rfl rfl 1 (by decide) (hts _ qX3_count_2) (fun _ h9 => h9) rfl dX3_count_97 ?_
              refine va_get (D := G) (ci := 0) (v := .int Y.2.1.2.2.2.2) (C := RX0) (T := TX0) (N := 5) hx hb hts iX3_count_X0 hown hK hP 11 rfl rfl 4 (by decide) (hts _ qX3_count_4) (fun _ h9 => h9) rfl dX3_count_100 ?_
              exact hq H locs _ ls Y.2.1.2.2.2.2 (tw_rt (fun r => r.2.1 = Y.2.1.2.2.2.2) h rfl) rfl (tw_rt (fun r => va_P G vwCl (tw_wW cI cQ a na pa ta qa xa z r.2.2) H) h hP) hS dX3_count_103
            · replace h := tw_f c19_3 h
              by_cases c19_4 : p1 = 4
              · replace h := tw_t c19_4 h
                refine tw_tab (v := 4) (tgt := 104) hx hb dX3_count_19 c19_4 (by decide) (by decide) rfl (by decide) ?_
                refine lv_aload_n hx hb dX3_count_104 rfl (lv_at hl 0 rfl) ?_
                refine va_get (D := G) (ci := 3) (v := .ref (na 0)) (C := RX3) (T := TX3) (N := 8) hx hb hts iX3_count_X3 hown hK hP 0 rfl rfl 0 (by decide) (hts _ qX3_count_0) (fun _ h9 => h9) rfl dX3_count_105 ?_
                obtain ⟨r108, e108, h⟩ := tw_bs h
                refine tw_callVi (ws' := (tw_wW cI cQ a na pa ta qa xa z Y)) (As := []) (rest := []) F hN hK hP hD hS hA (mX1_lengthOfAll l G cI na Y.1 H.size e108) (cwV 0 hts gX3_count_X1_lengthOfAll rfl rfl rfl (by decide +kernel) ⟨(Nat.le_of_ble_eq_true rfl), (Nat.le_of_ble_eq_true rfl)⟩) [0] rfl [3, 4, 5, 6, 7, 8, 9, 10] tw_cN_nd tw_cN_C rfl tw_cN_M (r0 := 0) (ci := 1) rfl rfl rfl rfl hl.1 rfl (Nat.le_of_ble_eq_true rfl) dX3_count_108 ⟨Nat.zero_le _, Nat.zero_le _⟩ (fun H locs hP hD hS => ?_)
                exact hq H locs _ ls r108 (tw_rt (fun r => r.2.1 = r108) h rfl) rfl (tw_rt (fun r => va_P G vwCl (tw_wW cI cQ a na pa ta qa xa z r.2.2) H) h hP) hS dX3_count_111
              · replace h := tw_f c19_4 h
                by_cases c19_5 : p1 = 5
                · replace h := tw_t c19_5 h
                  refine tw_tab (v := 5) (tgt := 112) hx hb dX3_count_19 c19_5 (by decide) (by decide) rfl (by decide) ?_
                  refine lv_aload_n hx hb dX3_count_112 rfl (lv_at hl 0 rfl) ?_
                  obtain ⟨r113, e113, h⟩ := tw_bs h
                  refine tw_callViF (ws' := (tw_wW cI cQ a na pa ta qa xa z r113.2)) (As := []) (rest := []) F hN hK hP hD hS hA (mX3_criticalTasks l G cI cQ a na pa ta qa xa z Y H.size e113) (cwV 0 hts gX3_count_X3_criticalTasks rfl rfl rfl (by decide +kernel) ⟨(Nat.le_of_ble_eq_true rfl), (Nat.le_of_ble_eq_true rfl)⟩) rfl (r0 := 0) (ci := 3) rfl rfl rfl rfl hl.1 rfl (Nat.le_of_ble_eq_true rfl) dX3_count_113 ⟨Nat.zero_le _, Nat.zero_le _⟩ (fun H locs hP hD hS => ?_)
                  exact hq H locs _ ls r113.1 (tw_rt (fun r => r.2.1 = r113.1) h rfl) rfl (tw_rt (fun r => va_P G vwCl (tw_wW cI cQ a na pa ta qa xa z r.2.2) H) h hP) hS dX3_count_116
                · replace h := tw_f c19_5 h
                  by_cases c19_6 : p1 = 6
                  · replace h := tw_t c19_6 h
                    refine tw_tab (v := 6) (tgt := 117) hx hb dX3_count_19 c19_6 (by decide) (by decide) rfl (by decide) ?_
                    refine lv_aload_n hx hb dX3_count_117 rfl (lv_at hl 0 rfl) ?_
                    refine va_get (D := G) (ci := 3) (v := .ref (pa 0)) (C := RX3) (T := TX3) (N := 8) hx hb hts iX3_count_X3 hown hK hP 0 rfl rfl 1 (by decide) (hts _ qX3_count_2) (fun _ h9 => h9) rfl dX3_count_118 ?_
                    refine lv_aload_n hx hb dX3_count_121 rfl (lv_at hl 0 rfl) ?_
                    refine va_get (D := G) (ci := 3) (v := .ref (na 0)) (C := RX3) (T := TX3) (N := 8) hx hb hts iX3_count_X3 hown hK hP 0 rfl rfl 0 (by decide) (hts _ qX3_count_0) (fun _ h9 => h9) rfl dX3_count_122 ?_
                    obtain ⟨r125, e125, h⟩ := tw_bs h
                    refine tw_callVi (ws' := (tw_wW cI cQ a na pa ta qa xa z Y)) (As := [.ref (na 0)]) (rest := []) F hN hK hP hD hS hA (mX0_waitOfAll l G cI pa na Y.2.1 Y.1 H.size e125) (cwV 1 hts gX3_count_X0_waitOfAll rfl rfl rfl (by decide +kernel) ⟨(Nat.le_of_ble_eq_true rfl), (Nat.le_of_ble_eq_true rfl)⟩) [0] rfl [11, 12, 13, 3, 4, 5, 6, 7, 8, 9, 10] tw_cPN_nd tw_cPN_C rfl tw_cPN_M (r0 := 0) (ci := 0) rfl rfl rfl rfl hl.1 rfl (Nat.le_of_ble_eq_true rfl) dX3_count_125 ⟨Nat.zero_le _, Nat.zero_le _⟩ (fun H locs hP hD hS => ?_)
                    exact hq H locs _ ls r125 (tw_rt (fun r => r.2.1 = r125) h rfl) rfl (tw_rt (fun r => va_P G vwCl (tw_wW cI cQ a na pa ta qa xa z r.2.2) H) h hP) hS dX3_count_128
                  · replace h := tw_f c19_6 h
                    by_cases c19_7 : p1 = 7
                    · replace h := tw_t c19_7 h
                      refine tw_tab (v := 7) (tgt := 129) hx hb dX3_count_19 c19_7 (by decide) (by decide) rfl (by decide) ?_
                      refine lv_aload_n hx hb dX3_count_129 rfl (lv_at hl 0 rfl) ?_
                      obtain ⟨r130, e130, h⟩ := tw_bs h
                      refine tw_callViF (ws' := (tw_wW cI cQ a na pa ta qa xa z r130.2)) (As := []) (rest := []) F hN hK hP hD hS hA (mX3_longestRow l G cI cQ a na pa ta qa xa z Y H.size e130) (cwV 0 hts gX3_count_X3_longestRow rfl rfl rfl (by decide +kernel) ⟨(Nat.le_of_ble_eq_true rfl), (Nat.le_of_ble_eq_true rfl)⟩) rfl (r0 := 0) (ci := 3) rfl rfl rfl rfl hl.1 rfl (Nat.le_of_ble_eq_true rfl) dX3_count_130 ⟨Nat.zero_le _, Nat.zero_le _⟩ (fun H locs hP hD hS => ?_)
                      exact hq H locs _ ls r130.1 (tw_rt (fun r => r.2.1 = r130.1) h rfl) rfl (tw_rt (fun r => va_P G vwCl (tw_wW cI cQ a na pa ta qa xa z r.2.2) H) h hP) hS dX3_count_133
                    · replace h := tw_f c19_7 h
                      have z0 := lv_neT c19_0 (a := 0) rfl
                      have z1 := lv_neT c19_1 (a := 1) rfl
                      have z2 := lv_neT c19_2 (a := 2) rfl
                      have z3 := lv_neT c19_3 (a := 3) rfl
                      have z4 := lv_neT c19_4 (a := 4) rfl
                      have z5 := lv_neT c19_5 (a := 5) rfl
                      have z6 := lv_neT c19_6 (a := 6) rfl
                      have z7 := lv_neT c19_7 (a := 7) rfl
                      refine lv_tableOut (tgt := 134) hx hb dX3_count_19 (by omega) (by decide) ?_
                      refine lv_aload_n hx hb dX3_count_134 rfl (lv_at hl 0 rfl) ?_
                      refine va_get (D := G) (ci := 3) (v := .int Y.2.2.2.2.2.2.1) (C := RX3) (T := TX3) (N := 8) hx hb hts iX3_count_X3 hown hK hP 0 rfl rfl 7 (by decide) (hts _ qX3_count_5) (fun _ h9 => h9) rfl dX3_count_135 ?_
                      exact hq H locs _ ls Y.2.2.2.2.2.2.1 (tw_rt (fun r => r.2.1 = Y.2.2.2.2.2.2.1) h rfl) rfl (tw_rt (fun r => va_P G vwCl (tw_wW cI cQ a na pa ta qa xa z r.2.2) H) h hP) hS dX3_count_138
    · replace h := tw_f c7 h
      exact tw_thr h hk (by decide)
abbrev rmX3_setting : Room := { frames := 0, cells := 0, slots := 0, locals := 0 }
set_option maxRecDepth 20000 in
theorem qX3_setting_0 : (Cond.fieldLink RX3 10 "TheatreWall" "now" "LTheatreWall$State;") ∈ wsX3_setting := (List.mem_cons_of_mem _ (List.mem_append_left _ (List.mem_append_left _ (List.mem_of_getElem? (i := 0) rfl))))
set_option maxRecDepth 20000 in
theorem qX3_setting_1 : (Cond.fieldLink RX3 139 "TheatreWall$State" "order" "I") ∈ wsX3_setting := (List.mem_cons_of_mem _ (List.mem_append_left _ (List.mem_append_left _ (List.mem_of_getElem? (i := 1) rfl))))
set_option maxRecDepth 20000 in
theorem iX3_setting_X3 : ∀ w ∈ u_ws RX3 TX3 8, w ∈ wsX3_setting := fun w h => (List.mem_cons_of_mem _ (List.mem_append_left _ (List.mem_append_right _ h)))
set_option maxRecDepth 20000 in
theorem iX3_setting_X1 : ∀ w ∈ u_ws RX1 TX1 9, w ∈ wsX3_setting := fun w h => (List.mem_cons_of_mem _ (List.mem_append_right _ h))
set_option maxHeartbeats 4000000 in
set_option maxRecDepth 100000 in
theorem mX3_setting (l : Launch) (G : va_G) (cI : ClassId) (cQ : ClassId) (a na pa ta qa xa : Nat → Nat) (z : Nat → Nat → Nat) (Y : tw_Wl) (sz : Nat)  {rv : Int32} (h : fX3_setting Y = some rv) : tw_Mi l yX3_setting wsX3_setting rmX3_setting G [(cI, .int), (cQ, .object RX1)] (tw_wW cI cQ a na pa ta qa xa z Y) [.ref (a 0)] sz rv (tw_wW cI cQ a na pa ta qa xa z Y) := by
  refine tw_ofi (ty := .int) (cc := cX3_setting) (maxL := 1) (own := RX3) (by decide) rfl rfl (Nat.le_of_ble_eq_true rfl) ?_
  intro p e s m args below meth c Q A ls H locs F hN hK hP hD hS hA hl hq
  obtain ⟨hx, hb, hml, hown, hts⟩ := id F
  have hl : lv_has ls 1 [(0, .ref (a 0))] := hl
  unfold fX3_setting at h
  refine lv_aload_n hx hb dX3_setting_0 rfl (lv_at hl 0 rfl) ?_
  refine va_get (D := G) (ci := 3) (v := .ref (na 0)) (C := RX3) (T := TX3) (N := 8) hx hb hts iX3_setting_X3 hown hK hP 0 rfl rfl 0 (by decide) (hts _ qX3_setting_0) (fun _ h9 => h9) rfl dX3_setting_1 ?_
  refine va_get (D := G) (ci := 1) (v := .int Y.1.2.2.2.2.2.2.2.2) (C := RX1) (T := TX1) (N := 9) hx hb hts iX3_setting_X1 hown hK hP 3 rfl rfl 8 (by decide) (hts _ qX3_setting_1) (fun _ h9 => h9) rfl dX3_setting_4 ?_
  exact hq H locs _ ls Y.1.2.2.2.2.2.2.2.2 (tw_rt (fun r => r = Y.1.2.2.2.2.2.2.2.2) h rfl) rfl hP hS dX3_setting_7
abbrev rmX3_ifRule : Room := { frames := 5, cells := 0, slots := 0, locals := 124 }
set_option maxRecDepth 20000 in
theorem qX3_ifRule_0 : (Cond.fieldLink RX3 26 "TheatreWall" "trialPlan" "LTheatreWall$Plan;") ∈ wsX3_ifRule := (List.mem_cons_of_mem _ (List.mem_append_left _ (List.mem_append_left _ (List.mem_append_left _ (List.mem_append_left _ (List.mem_append_left _ (List.mem_of_getElem? (i := 2) rfl)))))))
set_option maxRecDepth 20000 in
theorem qX3_ifRule_1 : (Cond.fieldLink RX3 112 "TheatreWall$Plan" "end" "I") ∈ wsX3_ifRule := (List.mem_cons_of_mem _ (List.mem_append_left _ (List.mem_append_left _ (List.mem_append_left _ (List.mem_append_left _ (List.mem_append_left _ (List.mem_of_getElem? (i := 3) rfl)))))))
set_option maxRecDepth 20000 in
theorem qX3_ifRule_2 : (Cond.fieldLink RX3 133 "TheatreWall$Plan" "laidCount" "I") ∈ wsX3_ifRule := (List.mem_cons_of_mem _ (List.mem_append_left _ (List.mem_append_left _ (List.mem_append_left _ (List.mem_append_left _ (List.mem_append_left _ (List.mem_of_getElem? (i := 4) rfl)))))))
set_option maxRecDepth 20000 in
theorem qX3_ifRule_3 : (Cond.fieldLink RX3 23 "TheatreWall" "trial" "LTheatreWall$State;") ∈ wsX3_ifRule := (List.mem_cons_of_mem _ (List.mem_append_left _ (List.mem_append_left _ (List.mem_append_left _ (List.mem_append_left _ (List.mem_append_left _ (List.mem_of_getElem? (i := 5) rfl)))))))
set_option maxRecDepth 20000 in
theorem iX3_ifRule_X3 : ∀ w ∈ u_ws RX3 TX3 8, w ∈ wsX3_ifRule := fun w h => (List.mem_cons_of_mem _ (List.mem_append_left _ (List.mem_append_left _ (List.mem_append_left _ (List.mem_append_right _ h)))))
set_option maxRecDepth 20000 in
theorem iX3_ifRule_X0 : ∀ w ∈ u_ws RX0 TX0 5, w ∈ wsX3_ifRule := fun w h => (List.mem_cons_of_mem _ (List.mem_append_left _ (List.mem_append_left _ (List.mem_append_right _ h))))
set_option maxHeartbeats 4000000 in
set_option maxRecDepth 100000 in
theorem mX3_ifRule (l : Launch) (G : va_G) (cI : ClassId) (cQ : ClassId) (a na pa ta qa xa : Nat → Nat) (z : Nat → Nat → Nat) (Y : tw_Wl) (sz : Nat) (p1 : Int32) (p2 : Int32) {rv : Nat × Int32 × tw_Wl} (h : fX3_ifRule Y p1 p2 = some rv) (hk : rv.1 = 0) : tw_Mi l yX3_ifRule wsX3_ifRule rmX3_ifRule G [(cI, .int), (cQ, .object RX1)] (tw_wW cI cQ a na pa ta qa xa z Y) [.ref (a 0), .int p1, .int p2] sz rv.2.1 (tw_wW cI cQ a na pa ta qa xa z rv.2.2) := by
  refine tw_ofi (ty := .int) (cc := cX3_ifRule) (maxL := 3) (own := RX3) (by decide) rfl rfl (Nat.le_of_ble_eq_true rfl) ?_
  intro p e s m args below meth c Q A ls H locs F hN hK hP hD hS hA hl hq
  obtain ⟨hx, hb, hml, hown, hts⟩ := id F
  have hl : lv_has ls 3 [(0, .ref (a 0)), (1, .int p1), (2, .int p2)] := hl
  unfold fX3_ifRule at h
  refine lv_iload_n hx hb dX3_ifRule_0 rfl (lv_at hl 1 rfl) ?_
  obtain ⟨r1, e1, h⟩ := tw_bs h
  refine tw_callSi (ws' := (tw_wW cI cQ a na pa ta qa xa z Y)) (As := [.int p1]) (rest := []) F hN hK hP hD hS hA (mX3_isRule l G cI H.size p1 e1) (va_cwS 1 hts gX3_ifRule_X3_isRule rfl rfl rfl (by decide +kernel) ⟨(Nat.le_of_ble_eq_true rfl), (Nat.le_of_ble_eq_true rfl)⟩) [0] rfl [] (by decide) rfl rfl rfl rfl hl.1 rfl (Nat.le_of_ble_eq_true rfl) dX3_ifRule_1 ⟨Nat.zero_le _, Nat.zero_le _⟩ (fun H locs hP hD hS => ?_)
  refine lv_if_eq (tgt := 16) hx hb dX3_ifRule_4 (by decide) (fun c4 => ?_) (fun c4 => ?_)
  · replace h := tw_t c4 h
    exact tw_thr h hk (by decide)
  · replace h := tw_f c4 h
    refine lv_iload_n hx hb dX3_ifRule_7 rfl (lv_at hl 2 rfl) ?_
    refine lv_if_lt (tgt := 16) hx hb dX3_ifRule_8 (by decide) (fun c8 => ?_) (fun c8 => ?_)
    · replace h := tw_t c8 h
      exact tw_thr h hk (by decide)
    · replace h := tw_f c8 h
      refine lv_iload_n hx hb dX3_ifRule_11 rfl (lv_at hl 2 rfl) ?_
      refine lv_iconst (v := (3 : Int32)) hx hb dX3_ifRule_12 (by decide) ?_
      refine lv_icmp_lt (tgt := 24) hx hb dX3_ifRule_13 (by decide) (fun c13 => ?_) (fun c13 => ?_)
      · replace h := tw_t c13 h
        refine lv_aload_n hx hb dX3_ifRule_24 rfl (lv_at hl 0 rfl) ?_
        refine lv_iload_n hx hb dX3_ifRule_25 rfl (lv_at hl 1 rfl) ?_
        obtain ⟨r26, e26, h⟩ := tw_bs h
        refine tw_callVvF (ws' := (tw_wW cI cQ a na pa ta qa xa z r26)) (As := [.int p1]) (rest := []) F hN hK hP hD hS hA (mX3_tryRule l G cI cQ a na pa ta qa xa z Y H.size p1 e26) (cwV 1 hts gX3_ifRule_X3_tryRule rfl rfl rfl (by decide +kernel) ⟨(Nat.le_of_ble_eq_true rfl), (Nat.le_of_ble_eq_true rfl)⟩) rfl (r0 := 0) (ci := 3) rfl rfl rfl rfl hl.1 rfl (Nat.le_of_ble_eq_true rfl) dX3_ifRule_26 ⟨Nat.zero_le _, Nat.zero_le _⟩ (fun H locs hP hD hS => ?_)
        refine lv_iload_n hx hb dX3_ifRule_29 rfl (lv_at hl 2 rfl) ?_
        by_cases c30_0 : p2 = 0
        · replace h := tw_t c30_0 h
          refine tw_loo (v := 0) (tgt := 56) hx hb dX3_ifRule_30 c30_0 (by decide) rfl (by decide) ?_
          refine lv_aload_n hx hb dX3_ifRule_56 rfl (lv_at hl 0 rfl) ?_
          refine va_get (D := G) (ci := 3) (v := .ref (qa 0)) (C := RX3) (T := TX3) (N := 8) hx hb hts iX3_ifRule_X3 hown hK hP 0 rfl rfl 3 (by decide) (hts _ qX3_ifRule_0) (fun _ h9 => h9) rfl dX3_ifRule_57 ?_
          refine va_get (D := G) (ci := 0) (v := .int r26.2.2.2.1.2.2.2.2) (C := RX0) (T := TX0) (N := 5) hx hb hts iX3_ifRule_X0 hown hK hP 22 rfl rfl 4 (by decide) (hts _ qX3_ifRule_1) (fun _ h9 => h9) rfl dX3_ifRule_60 ?_
          exact hq H locs _ ls r26.2.2.2.1.2.2.2.2 (tw_rt (fun r => r.2.1 = r26.2.2.2.1.2.2.2.2) h rfl) rfl (tw_rt (fun r => va_P G vwCl (tw_wW cI cQ a na pa ta qa xa z r.2.2) H) h hP) hS dX3_ifRule_63
        · replace h := tw_f c30_0 h
          by_cases c30_1 : p2 = 1
          · replace h := tw_t c30_1 h
            refine tw_loo (v := 1) (tgt := 64) hx hb dX3_ifRule_30 c30_1 (by decide) rfl (by decide) ?_
            refine lv_aload_n hx hb dX3_ifRule_64 rfl (lv_at hl 0 rfl) ?_
            refine va_get (D := G) (ci := 3) (v := .ref (qa 0)) (C := RX3) (T := TX3) (N := 8) hx hb hts iX3_ifRule_X3 hown hK hP 0 rfl rfl 3 (by decide) (hts _ qX3_ifRule_0) (fun _ h9 => h9) rfl dX3_ifRule_65 ?_
            refine va_get (D := G) (ci := 0) (v := .int r26.2.2.2.1.2.2.2.1) (C := RX0) (T := TX0) (N := 5) hx hb hts iX3_ifRule_X0 hown hK hP 22 rfl rfl 3 (by decide) (hts _ qX3_ifRule_2) (fun _ h9 => h9) rfl dX3_ifRule_68 ?_
            exact hq H locs _ ls r26.2.2.2.1.2.2.2.1 (tw_rt (fun r => r.2.1 = r26.2.2.2.1.2.2.2.1) h rfl) rfl (tw_rt (fun r => va_P G vwCl (tw_wW cI cQ a na pa ta qa xa z r.2.2) H) h hP) hS dX3_ifRule_71
          · replace h := tw_f c30_1 h
            refine lv_lookup (off := 42) (tgt := 72) hx hb dX3_ifRule_30 (by decide) (by show Op.lookupswitch.offset [(0, 26), (1, 34)] 42 _ = 42; rw [lv_osw (a := 0) c30_0 (by decide), lv_osw (a := 1) c30_1 (by decide)]; rfl) (by decide) ?_
            refine lv_aload_n hx hb dX3_ifRule_72 rfl (lv_at hl 0 rfl) ?_
            refine va_get (D := G) (ci := 3) (v := .ref (qa 0)) (C := RX3) (T := TX3) (N := 8) hx hb hts iX3_ifRule_X3 hown hK hP 0 rfl rfl 3 (by decide) (hts _ qX3_ifRule_0) (fun _ h9 => h9) rfl dX3_ifRule_73 ?_
            refine lv_aload_n hx hb dX3_ifRule_76 rfl (lv_at hl 0 rfl) ?_
            refine va_get (D := G) (ci := 3) (v := .ref (ta 0)) (C := RX3) (T := TX3) (N := 8) hx hb hts iX3_ifRule_X3 hown hK hP 0 rfl rfl 2 (by decide) (hts _ qX3_ifRule_3) (fun _ h9 => h9) rfl dX3_ifRule_77 ?_
            obtain ⟨r80, e80, h⟩ := tw_bs h
            refine tw_callVi (ws' := (tw_wW cI cQ a na pa ta qa xa z r26)) (As := [.ref (ta 0)]) (rest := []) F hN hK hP hD hS hA (mX0_waitOfAll l G cI qa ta r26.2.2.2.1 r26.2.2.1 H.size e80) (cwV 1 hts gX3_ifRule_X0_waitOfAll rfl rfl rfl (by decide +kernel) ⟨(Nat.le_of_ble_eq_true rfl), (Nat.le_of_ble_eq_true rfl)⟩) [0] rfl [22, 23, 24, 14, 15, 16, 17, 18, 19, 20, 21] tw_cQT_nd tw_cQT_C rfl tw_cQT_M (r0 := 0) (ci := 0) rfl rfl rfl rfl hl.1 rfl (Nat.le_of_ble_eq_true rfl) dX3_ifRule_80 ⟨Nat.zero_le _, Nat.zero_le _⟩ (fun H locs hP hD hS => ?_)
            exact hq H locs _ ls r80 (tw_rt (fun r => r.2.1 = r80) h rfl) rfl (tw_rt (fun r => va_P G vwCl (tw_wW cI cQ a na pa ta qa xa z r.2.2) H) h hP) hS dX3_ifRule_83
      · replace h := tw_f c13 h
        exact tw_thr h hk (by decide)
abbrev rmX3_worstSlip : Room := { frames := 4, cells := 0, slots := 0, locals := 103 }
set_option maxRecDepth 20000 in
theorem qX3_worstSlip_0 : (Cond.fieldLink RX3 10 "TheatreWall" "now" "LTheatreWall$State;") ∈ wsX3_worstSlip := (List.mem_cons_of_mem _ (List.mem_append_left _ (List.mem_append_left _ (List.mem_append_left _ (List.mem_append_left _ (List.mem_append_left _ (List.mem_of_getElem? (i := 2) rfl)))))))
set_option maxRecDepth 20000 in
theorem qX3_worstSlip_1 : (Cond.fieldLink RX3 61 "TheatreWall$State" "size" "I") ∈ wsX3_worstSlip := (List.mem_cons_of_mem _ (List.mem_append_left _ (List.mem_append_left _ (List.mem_append_left _ (List.mem_append_left _ (List.mem_append_left _ (List.mem_of_getElem? (i := 3) rfl)))))))
set_option maxRecDepth 20000 in
theorem qX3_worstSlip_2 : (Cond.fieldLink RX3 23 "TheatreWall" "trial" "LTheatreWall$State;") ∈ wsX3_worstSlip := (List.mem_cons_of_mem _ (List.mem_append_left _ (List.mem_append_left _ (List.mem_append_left _ (List.mem_append_left _ (List.mem_append_left _ (List.mem_of_getElem? (i := 4) rfl)))))))
set_option maxRecDepth 20000 in
theorem qX3_worstSlip_3 : (Cond.fieldLink RX3 115 "TheatreWall$State" "earliest" "[I") ∈ wsX3_worstSlip := (List.mem_cons_of_mem _ (List.mem_append_left _ (List.mem_append_left _ (List.mem_append_left _ (List.mem_append_left _ (List.mem_append_left _ (List.mem_of_getElem? (i := 5) rfl)))))))
set_option maxRecDepth 20000 in
theorem qX3_worstSlip_4 : (Cond.fieldLink RX3 19 "TheatreWall" "plan" "LTheatreWall$Plan;") ∈ wsX3_worstSlip := (List.mem_cons_of_mem _ (List.mem_append_left _ (List.mem_append_left _ (List.mem_append_left _ (List.mem_append_left _ (List.mem_append_left _ (List.mem_of_getElem? (i := 6) rfl)))))))
set_option maxRecDepth 20000 in
theorem qX3_worstSlip_5 : (Cond.fieldLink RX3 118 "TheatreWall$Plan" "begins" "[I") ∈ wsX3_worstSlip := (List.mem_cons_of_mem _ (List.mem_append_left _ (List.mem_append_left _ (List.mem_append_left _ (List.mem_append_left _ (List.mem_append_left _ (List.mem_of_getElem? (i := 7) rfl)))))))
set_option maxRecDepth 20000 in
theorem qX3_worstSlip_6 : (Cond.fieldLink RX3 26 "TheatreWall" "trialPlan" "LTheatreWall$Plan;") ∈ wsX3_worstSlip := (List.mem_cons_of_mem _ (List.mem_append_left _ (List.mem_append_left _ (List.mem_append_left _ (List.mem_append_left _ (List.mem_append_left _ (List.mem_of_getElem? (i := 8) rfl)))))))
set_option maxRecDepth 20000 in
theorem qX3_worstSlip_7 : (Cond.fieldLink RX3 112 "TheatreWall$Plan" "end" "I") ∈ wsX3_worstSlip := (List.mem_cons_of_mem _ (List.mem_append_left _ (List.mem_append_left _ (List.mem_append_left _ (List.mem_append_left _ (List.mem_append_left _ (List.mem_of_getElem? (i := 9) rfl)))))))
set_option maxRecDepth 20000 in
theorem iX3_worstSlip_X3 : ∀ w ∈ u_ws RX3 TX3 8, w ∈ wsX3_worstSlip := fun w h => (List.mem_cons_of_mem _ (List.mem_append_left _ (List.mem_append_left _ (List.mem_append_left _ (List.mem_append_right _ h)))))
set_option maxRecDepth 20000 in
theorem iX3_worstSlip_X1 : ∀ w ∈ u_ws RX1 TX1 9, w ∈ wsX3_worstSlip := fun w h => (List.mem_cons_of_mem _ (List.mem_append_left _ (List.mem_append_left _ (List.mem_append_right _ h))))
set_option maxRecDepth 20000 in
theorem iX3_worstSlip_X0 : ∀ w ∈ u_ws RX0 TX0 5, w ∈ wsX3_worstSlip := fun w h => (List.mem_cons_of_mem _ (List.mem_append_left _ (List.mem_append_right _ h)))
set_option maxHeartbeats 4000000 in
set_option maxRecDepth 100000 in
theorem mX3_worstSlip (l : Launch) (G : va_G) (cI : ClassId) (cQ : ClassId) (a na pa ta qa xa : Nat → Nat) (z : Nat → Nat → Nat) (Y : tw_Wl) (sz : Nat) (p1 : Int32) {rv : Nat × Int32 × tw_Wl} (h : fX3_worstSlip Y p1 = some rv) (hk : rv.1 = 0) : tw_Mi l yX3_worstSlip wsX3_worstSlip rmX3_worstSlip G [(cI, .int), (cQ, .object RX1)] (tw_wW cI cQ a na pa ta qa xa z Y) [.ref (a 0), .int p1] sz rv.2.1 (tw_wW cI cQ a na pa ta qa xa z rv.2.2) := by
  refine tw_ofi (ty := .int) (cc := cX3_worstSlip) (maxL := 5) (own := RX3) (by decide) rfl rfl (Nat.le_of_ble_eq_true rfl) ?_
  intro p e s m args below meth c Q A ls H locs F hN hK hP hD hS hA hl hq
  obtain ⟨hx, hb, hml, hown, hts⟩ := id F
  have hl : lv_has ls 5 [(0, .ref (a 0)), (1, .int p1)] := hl
  unfold fX3_worstSlip at h
  have L22 : ∀ (n22 : Nat) (v2 : Int32) (v3 : Int32) (v4 : Int32) (Y : tw_Wl) (H : Heap) (locs : List Loc) (ls : Array Slot), fX3_worstSlip_22 p1 n22 v2 v3 v4 Y = some rv → lv_has ls 5 [(0, .ref (a 0)), (1, .int p1), (2, .int v2), (3, .int v3), (4, .int v4)] → va_P G vwCl (tw_wW cI cQ a na pa ta qa xa z Y) H → va_D A (tw_wW cI cQ a na pa ta qa xa z Y) → va_S A s.heap H locs → W p l e rmX3_worstSlip s m args below meth c H locs 0 0 Q (F0 m 22 ls []) := by
    intro n22
    induction n22 with
    | zero =>
      intro v2 v3 v4 Y H locs ls h
      rw [fX3_worstSlip_22] at h
      cases h
    | succ n22 ih22 =>
      intro v2 v3 v4 Y H locs ls h hl hP hD hS
      rw [fX3_worstSlip_22] at h
      refine lv_iload hx hb dX3_worstSlip_22 (lv_at hl 4 rfl) ?_
      refine lv_aload_n hx hb dX3_worstSlip_24 rfl (lv_at hl 0 rfl) ?_
      refine va_get (D := G) (ci := 3) (v := .ref (na 0)) (C := RX3) (T := TX3) (N := 8) hx hb hts iX3_worstSlip_X3 hown hK hP 0 rfl rfl 0 (by decide) (hts _ qX3_worstSlip_0) (fun _ h9 => h9) rfl dX3_worstSlip_25 ?_
      refine va_get (D := G) (ci := 1) (v := .int Y.1.2.2.2.2.2.2.2.1) (C := RX1) (T := TX1) (N := 9) hx hb hts iX3_worstSlip_X1 hown hK hP 3 rfl rfl 7 (by decide) (hts _ qX3_worstSlip_1) (fun _ h9 => h9) rfl dX3_worstSlip_28 ?_
      refine lv_icmp_ge (tgt := 116) hx hb dX3_worstSlip_31 (by decide) (fun c31 => ?_) (fun c31 => ?_)
      · replace h := tw_t c31 h
        refine lv_iload_n hx hb dX3_worstSlip_116 rfl (lv_at hl 2 rfl) ?_
        exact hq H locs _ ls v2 (tw_rt (fun r => r.2.1 = v2) h rfl) rfl (tw_rt (fun r => va_P G vwCl (tw_wW cI cQ a na pa ta qa xa z r.2.2) H) h hP) hS dX3_worstSlip_117
      · replace h := tw_f c31 h
        refine lv_aload_n hx hb dX3_worstSlip_34 rfl (lv_at hl 0 rfl) ?_
        refine lv_iload hx hb dX3_worstSlip_35 (lv_at hl 4 rfl) ?_
        refine lv_iload_n hx hb dX3_worstSlip_37 rfl (lv_at hl 1 rfl) ?_
        obtain ⟨r38, e38, h⟩ := tw_bs h
        refine tw_callViF (ws' := (tw_wW cI cQ a na pa ta qa xa z Y)) (As := [.int v4, .int p1]) (rest := []) F hN hK hP hD hS hA (mX3_couldSlip l G cI cQ a na pa ta qa xa z Y H.size v4 p1 e38) (cwV 2 hts gX3_worstSlip_X3_couldSlip rfl rfl rfl (by decide +kernel) ⟨(Nat.le_of_ble_eq_true rfl), (Nat.le_of_ble_eq_true rfl)⟩) rfl (r0 := 0) (ci := 3) rfl rfl rfl rfl hl.1 rfl (Nat.le_of_ble_eq_true rfl) dX3_worstSlip_38 ⟨Nat.zero_le _, Nat.zero_le _⟩ (fun H locs hP hD hS => ?_)
        refine lv_if_eq (tgt := 110) hx hb dX3_worstSlip_41 (by decide) (fun c41 => ?_) (fun c41 => ?_)
        · replace h := tw_t c41 h
          refine lv_iinc (v := (v4 + 1)) (lv' := [(4, .int (v4 + 1)), (0, .ref (a 0)), (1, .int p1), (2, .int v2), (3, .int v3)]) hx hb dX3_worstSlip_110 hl (k := 4) rfl rfl (by decide) rfl (fun ls hl => ?_)
          refine lv_goto (tgt := 22) hx hb dX3_worstSlip_113 (by decide) ?_
          exact ih22 v2 v3 (v4 + 1) Y H locs ls h (lv_sub hl [1, 2, 3, 4, 0] rfl) hP hD hS
        · replace h := tw_f c41 h
          refine lv_aload_n hx hb dX3_worstSlip_44 rfl (lv_at hl 0 rfl) ?_
          refine va_get (D := G) (ci := 3) (v := .ref (ta 0)) (C := RX3) (T := TX3) (N := 8) hx hb hts iX3_worstSlip_X3 hown hK hP 0 rfl rfl 2 (by decide) (hts _ qX3_worstSlip_2) (fun _ h9 => h9) rfl dX3_worstSlip_45 ?_
          refine lv_aload_n hx hb dX3_worstSlip_48 rfl (lv_at hl 0 rfl) ?_
          refine va_get (D := G) (ci := 3) (v := .ref (na 0)) (C := RX3) (T := TX3) (N := 8) hx hb hts iX3_worstSlip_X3 hown hK hP 0 rfl rfl 0 (by decide) (hts _ qX3_worstSlip_0) (fun _ h9 => h9) rfl dX3_worstSlip_49 ?_
          obtain ⟨r52, e52, h⟩ := tw_bs h
          refine tw_callVv (ws' := (tw_wW cI cQ a na pa ta qa xa z (Y.1, Y.2.1, r52, Y.2.2.2.1, Y.2.2.2.2.1, Y.2.2.2.2.2.1, Y.2.2.2.2.2.2.1, Y.2.2.2.2.2.2.2.1, Y.2.2.2.2.2.2.2.2))) (As := [.ref (na 0)]) (rest := []) F hN hK hP hD hS hA (mX1_copyFrom l G cI ta na Y.2.2.1 Y.1 H.size e52) (cwV 1 hts gX3_worstSlip_X1_copyFrom rfl rfl rfl (by decide +kernel) ⟨(Nat.le_of_ble_eq_true rfl), (Nat.le_of_ble_eq_true rfl)⟩) [0] rfl [14, 15, 16, 17, 18, 19, 20, 21, 3, 4, 5, 6, 7, 8, 9, 10] tw_cTN_nd tw_cTN_C rfl tw_cTN_M (r0 := 0) (ci := 1) rfl rfl rfl rfl hl.1 rfl (Nat.le_of_ble_eq_true rfl) dX3_worstSlip_52 ⟨Nat.zero_le _, Nat.zero_le _⟩ (fun H locs hP hD hS => ?_)
          refine lv_aload_n hx hb dX3_worstSlip_55 rfl (lv_at hl 0 rfl) ?_
          refine va_get (D := G) (ci := 3) (v := .ref (ta 0)) (C := RX3) (T := TX3) (N := 8) hx hb hts iX3_worstSlip_X3 hown hK hP 0 rfl rfl 2 (by decide) (hts _ qX3_worstSlip_2) (fun _ h9 => h9) rfl dX3_worstSlip_56 ?_
          refine va_get (D := G) (ci := 1) (v := .ref (ta 4)) (C := RX1) (T := TX1) (N := 9) hx hb hts iX3_worstSlip_X1 hown hK hP 14 rfl rfl 3 (by decide) (hts _ qX3_worstSlip_3) (fun _ h9 => h9) rfl dX3_worstSlip_59 ?_
          refine lv_iload hx hb dX3_worstSlip_62 (lv_at hl 4 rfl) ?_
          refine lv_aload_n hx hb dX3_worstSlip_64 rfl (lv_at hl 0 rfl) ?_
          refine va_get (D := G) (ci := 3) (v := .ref (pa 0)) (C := RX3) (T := TX3) (N := 8) hx hb hts iX3_worstSlip_X3 hown hK hP 0 rfl rfl 1 (by decide) (hts _ qX3_worstSlip_4) (fun _ h9 => h9) rfl dX3_worstSlip_65 ?_
          refine va_get (D := G) (ci := 0) (v := .ref (pa 1)) (C := RX0) (T := TX0) (N := 5) hx hb hts iX3_worstSlip_X0 hown hK hP 11 rfl rfl 0 (by decide) (hts _ qX3_worstSlip_5) (fun _ h9 => h9) rfl dX3_worstSlip_68 ?_
          refine lv_iload hx hb dX3_worstSlip_71 (lv_at hl 4 rfl) ?_
          obtain ⟨g73, h⟩ := tw_gs h
          refine va_iald (f := Y.2.1.1) (n := 12) hx hb hK hP 12 0 rfl rfl g73 dX3_worstSlip_73 ?_
          refine lv_iload_n hx hb dX3_worstSlip_74 rfl (lv_at hl 1 rfl) ?_
          refine lv_iadd hx hb dX3_worstSlip_75 ?_
          obtain ⟨g76, h⟩ := tw_gs h
          refine tw_iast (ws' := (tw_wW cI cQ a na pa ta qa xa z (Y.1, Y.2.1, (r52.1, r52.2.1, r52.2.2.1, (upd r52.2.2.2.1 v4.toNatClampNeg ((Y.2.1.1 v4.toNatClampNeg) + p1)), r52.2.2.2.2.1, r52.2.2.2.2.2.1, r52.2.2.2.2.2.2.1, r52.2.2.2.2.2.2.2.1, r52.2.2.2.2.2.2.2.2), Y.2.2.2.1, Y.2.2.2.2.1, Y.2.2.2.2.2.1, Y.2.2.2.2.2.2.1, Y.2.2.2.2.2.2.2.1, Y.2.2.2.2.2.2.2.2))) (f := r52.2.2.2.1) (n := 12) hx hb hK hP hD hS 18 0 rfl rfl g76 dX3_worstSlip_76 rfl (fun H locs hP hD hS => ?_)
          refine lv_aload_n hx hb dX3_worstSlip_77 rfl (lv_at hl 0 rfl) ?_
          refine va_get (D := G) (ci := 3) (v := .ref (qa 0)) (C := RX3) (T := TX3) (N := 8) hx hb hts iX3_worstSlip_X3 hown hK hP 0 rfl rfl 3 (by decide) (hts _ qX3_worstSlip_6) (fun _ h9 => h9) rfl dX3_worstSlip_78 ?_
          refine lv_aload_n hx hb dX3_worstSlip_81 rfl (lv_at hl 0 rfl) ?_
          refine va_get (D := G) (ci := 3) (v := .ref (ta 0)) (C := RX3) (T := TX3) (N := 8) hx hb hts iX3_worstSlip_X3 hown hK hP 0 rfl rfl 2 (by decide) (hts _ qX3_worstSlip_2) (fun _ h9 => h9) rfl dX3_worstSlip_82 ?_
          obtain ⟨r85, e85, h⟩ := tw_bs h
          refine tw_callVv (ws' := (tw_wW cI cQ a na pa ta qa xa z (Y.1, Y.2.1, (r52.1, r52.2.1, r52.2.2.1, (upd r52.2.2.2.1 v4.toNatClampNeg ((Y.2.1.1 v4.toNatClampNeg) + p1)), r52.2.2.2.2.1, r52.2.2.2.2.2.1, r52.2.2.2.2.2.2.1, r52.2.2.2.2.2.2.2.1, r52.2.2.2.2.2.2.2.2), r85, Y.2.2.2.2.1, Y.2.2.2.2.2.1, Y.2.2.2.2.2.2.1, Y.2.2.2.2.2.2.2.1, Y.2.2.2.2.2.2.2.2))) (As := [.ref (ta 0)]) (rest := []) F hN hK hP hD hS hA (mX0_lay l G cI qa ta Y.2.2.2.1 (r52.1, r52.2.1, r52.2.2.1, (upd r52.2.2.2.1 v4.toNatClampNeg ((Y.2.1.1 v4.toNatClampNeg) + p1)), r52.2.2.2.2.1, r52.2.2.2.2.2.1, r52.2.2.2.2.2.2.1, r52.2.2.2.2.2.2.2.1, r52.2.2.2.2.2.2.2.2) H.size e85) (cwV 1 hts gX3_worstSlip_X0_lay rfl rfl rfl (by decide +kernel) ⟨(Nat.le_of_ble_eq_true rfl), (Nat.le_of_ble_eq_true rfl)⟩) [0] rfl [22, 23, 24, 14, 15, 16, 17, 18, 19, 20, 21] tw_cQT_nd tw_cQT_C rfl tw_cQT_M (r0 := 0) (ci := 0) rfl rfl rfl rfl hl.1 rfl (Nat.le_of_ble_eq_true rfl) dX3_worstSlip_85 ⟨Nat.zero_le _, Nat.zero_le _⟩ (fun H locs hP hD hS => ?_)
          refine lv_aload_n hx hb dX3_worstSlip_88 rfl (lv_at hl 0 rfl) ?_
          refine va_get (D := G) (ci := 3) (v := .ref (qa 0)) (C := RX3) (T := TX3) (N := 8) hx hb hts iX3_worstSlip_X3 hown hK hP 0 rfl rfl 3 (by decide) (hts _ qX3_worstSlip_6) (fun _ h9 => h9) rfl dX3_worstSlip_89 ?_
          refine va_get (D := G) (ci := 0) (v := .int r85.2.2.2.2) (C := RX0) (T := TX0) (N := 5) hx hb hts iX3_worstSlip_X0 hown hK hP 22 rfl rfl 4 (by decide) (hts _ qX3_worstSlip_7) (fun _ h9 => h9) rfl dX3_worstSlip_92 ?_
          refine lv_iload_n hx hb dX3_worstSlip_95 rfl (lv_at hl 3 rfl) ?_
          refine lv_icmp_le (tgt := 110) hx hb dX3_worstSlip_96 (by decide) (fun c96 => ?_) (fun c96 => ?_)
          · replace h := tw_t c96 h
            refine lv_iinc (v := (v4 + 1)) (lv' := [(4, .int (v4 + 1)), (0, .ref (a 0)), (1, .int p1), (2, .int v2), (3, .int v3)]) hx hb dX3_worstSlip_110 hl (k := 4) rfl rfl (by decide) rfl (fun ls hl => ?_)
            refine lv_goto (tgt := 22) hx hb dX3_worstSlip_113 (by decide) ?_
            exact ih22 v2 v3 (v4 + 1) (Y.1, Y.2.1, (r52.1, r52.2.1, r52.2.2.1, (upd r52.2.2.2.1 v4.toNatClampNeg ((Y.2.1.1 v4.toNatClampNeg) + p1)), r52.2.2.2.2.1, r52.2.2.2.2.2.1, r52.2.2.2.2.2.2.1, r52.2.2.2.2.2.2.2.1, r52.2.2.2.2.2.2.2.2), r85, Y.2.2.2.2.1, Y.2.2.2.2.2.1, Y.2.2.2.2.2.2.1, Y.2.2.2.2.2.2.2.1, Y.2.2.2.2.2.2.2.2) H locs ls h (lv_sub hl [1, 2, 3, 4, 0] rfl) hP hD hS
          · replace h := tw_f c96 h
            refine lv_iload hx hb dX3_worstSlip_99 (lv_at hl 4 rfl) ?_
            refine lv_istore_n (lv' := [(2, .int v4), (0, .ref (a 0)), (1, .int p1), (3, .int v3), (4, .int v4)]) hx hb dX3_worstSlip_101 rfl hl (by decide) rfl (fun ls hl => ?_)
            refine lv_aload_n hx hb dX3_worstSlip_102 rfl (lv_at hl 1 rfl) ?_
            refine va_get (D := G) (ci := 3) (v := .ref (qa 0)) (C := RX3) (T := TX3) (N := 8) hx hb hts iX3_worstSlip_X3 hown hK hP 0 rfl rfl 3 (by decide) (hts _ qX3_worstSlip_6) (fun _ h9 => h9) rfl dX3_worstSlip_103 ?_
            refine va_get (D := G) (ci := 0) (v := .int r85.2.2.2.2) (C := RX0) (T := TX0) (N := 5) hx hb hts iX3_worstSlip_X0 hown hK hP 22 rfl rfl 4 (by decide) (hts _ qX3_worstSlip_7) (fun _ h9 => h9) rfl dX3_worstSlip_106 ?_
            refine lv_istore_n (lv' := [(3, .int r85.2.2.2.2), (2, .int v4), (0, .ref (a 0)), (1, .int p1), (4, .int v4)]) hx hb dX3_worstSlip_109 rfl hl (by decide) rfl (fun ls hl => ?_)
            refine lv_iinc (v := (v4 + 1)) (lv' := [(4, .int (v4 + 1)), (3, .int r85.2.2.2.2), (2, .int v4), (0, .ref (a 0)), (1, .int p1)]) hx hb dX3_worstSlip_110 hl (k := 4) rfl rfl (by decide) rfl (fun ls hl => ?_)
            refine lv_goto (tgt := 22) hx hb dX3_worstSlip_113 (by decide) ?_
            exact ih22 v4 r85.2.2.2.2 (v4 + 1) (Y.1, Y.2.1, (r52.1, r52.2.1, r52.2.2.1, (upd r52.2.2.2.1 v4.toNatClampNeg ((Y.2.1.1 v4.toNatClampNeg) + p1)), r52.2.2.2.2.1, r52.2.2.2.2.2.1, r52.2.2.2.2.2.2.1, r52.2.2.2.2.2.2.2.1, r52.2.2.2.2.2.2.2.2), r85, Y.2.2.2.2.1, Y.2.2.2.2.2.1, Y.2.2.2.2.2.2.1, Y.2.2.2.2.2.2.2.1, Y.2.2.2.2.2.2.2.2) H locs ls h (lv_sub hl [3, 4, 2, 1, 0] rfl) hP hD hS
  refine lv_iload_n hx hb dX3_worstSlip_0 rfl (lv_at hl 1 rfl) ?_
  obtain ⟨r1, e1, h⟩ := tw_bs h
  refine tw_callSi (ws' := (tw_wW cI cQ a na pa ta qa xa z Y)) (As := [.int p1]) (rest := []) F hN hK hP hD hS hA (mX3_isSlip l G cI H.size p1 e1) (va_cwS 1 hts gX3_worstSlip_X3_isSlip rfl rfl rfl (by decide +kernel) ⟨(Nat.le_of_ble_eq_true rfl), (Nat.le_of_ble_eq_true rfl)⟩) [0] rfl [] (by decide) rfl rfl rfl rfl hl.1 rfl (Nat.le_of_ble_eq_true rfl) dX3_worstSlip_1 ⟨Nat.zero_le _, Nat.zero_le _⟩ (fun H locs hP hD hS => ?_)
  refine lv_if_ne (tgt := 15) hx hb dX3_worstSlip_4 (by decide) (fun c4 => ?_) (fun c4 => ?_)
  · replace h := tw_t c4 h
    refine lv_iconst (v := (-1 : Int32)) hx hb dX3_worstSlip_15 (by decide) ?_
    refine lv_istore_n (lv' := [(2, .int (-1 : Int32)), (0, .ref (a 0)), (1, .int p1)]) hx hb dX3_worstSlip_16 rfl hl (by decide) rfl (fun ls hl => ?_)
    refine lv_iconst (v := (-1 : Int32)) hx hb dX3_worstSlip_17 (by decide) ?_
    refine lv_istore_n (lv' := [(3, .int (-1 : Int32)), (2, .int (-1 : Int32)), (0, .ref (a 0)), (1, .int p1)]) hx hb dX3_worstSlip_18 rfl hl (by decide) rfl (fun ls hl => ?_)
    refine lv_iconst (v := (0 : Int32)) hx hb dX3_worstSlip_19 (by decide) ?_
    refine lv_istore (lv' := [(4, .int (0 : Int32)), (3, .int (-1 : Int32)), (2, .int (-1 : Int32)), (0, .ref (a 0)), (1, .int p1)]) hx hb dX3_worstSlip_20 hl (by decide) rfl (fun ls hl => ?_)
    exact L22 512 (-1 : Int32) (-1 : Int32) (0 : Int32) Y H locs ls h (lv_sub hl [3, 4, 2, 1, 0] rfl) hP hD hS
  · replace h := tw_fn c4 h
    exact tw_thr h hk (by decide)
abbrev rmX3_busyness : Room := { frames := 1, cells := 0, slots := 0, locals := 23 }
set_option maxRecDepth 20000 in
theorem qX3_busyness_0 : (Cond.fieldLink RX3 19 "TheatreWall" "plan" "LTheatreWall$Plan;") ∈ wsX3_busyness := (List.mem_cons_of_mem _ (List.mem_append_left _ (List.mem_append_left _ (List.mem_append_left _ (List.mem_of_getElem? (i := 0) rfl)))))
set_option maxRecDepth 20000 in
theorem qX3_busyness_1 : (Cond.fieldLink RX3 112 "TheatreWall$Plan" "end" "I") ∈ wsX3_busyness := (List.mem_cons_of_mem _ (List.mem_append_left _ (List.mem_append_left _ (List.mem_append_left _ (List.mem_of_getElem? (i := 1) rfl)))))
set_option maxRecDepth 20000 in
theorem qX3_busyness_2 : (Cond.fieldLink RX3 10 "TheatreWall" "now" "LTheatreWall$State;") ∈ wsX3_busyness := (List.mem_cons_of_mem _ (List.mem_append_left _ (List.mem_append_left _ (List.mem_append_left _ (List.mem_of_getElem? (i := 2) rfl)))))
set_option maxRecDepth 20000 in
theorem iX3_busyness_X3 : ∀ w ∈ u_ws RX3 TX3 8, w ∈ wsX3_busyness := fun w h => (List.mem_cons_of_mem _ (List.mem_append_left _ (List.mem_append_left _ (List.mem_append_right _ h))))
set_option maxRecDepth 20000 in
theorem iX3_busyness_X0 : ∀ w ∈ u_ws RX0 TX0 5, w ∈ wsX3_busyness := fun w h => (List.mem_cons_of_mem _ (List.mem_append_left _ (List.mem_append_right _ h)))
set_option maxHeartbeats 4000000 in
set_option maxRecDepth 100000 in
theorem mX3_busyness (l : Launch) (G : va_G) (cI : ClassId) (cQ : ClassId) (a na pa ta qa xa : Nat → Nat) (z : Nat → Nat → Nat) (Y : tw_Wl) (sz : Nat)  {rv : UInt64} (h : fX3_busyness Y = some rv) : tw_Mu l yX3_busyness wsX3_busyness rmX3_busyness G [(cI, .int), (cQ, .object RX1)] (tw_wW cI cQ a na pa ta qa xa z Y) [.ref (a 0)] sz rv (tw_wW cI cQ a na pa ta qa xa z Y) := by
  refine tw_ofd (cc := cX3_busyness) (maxL := 2) (own := RX3) (by decide) rfl rfl (Nat.le_of_ble_eq_true rfl) ?_
  intro p e s m args below meth c Q A ls H locs F hN hK hP hD hS hA hl hq
  obtain ⟨hx, hb, hml, hown, hts⟩ := id F
  have hl : lv_has ls 2 [(0, .ref (a 0))] := hl
  unfold fX3_busyness at h
  refine lv_aload_n hx hb dX3_busyness_0 rfl (lv_at hl 0 rfl) ?_
  refine va_get (D := G) (ci := 3) (v := .ref (pa 0)) (C := RX3) (T := TX3) (N := 8) hx hb hts iX3_busyness_X3 hown hK hP 0 rfl rfl 1 (by decide) (hts _ qX3_busyness_0) (fun _ h9 => h9) rfl dX3_busyness_1 ?_
  refine va_get (D := G) (ci := 0) (v := .int Y.2.1.2.2.2.2) (C := RX0) (T := TX0) (N := 5) hx hb hts iX3_busyness_X0 hown hK hP 11 rfl rfl 4 (by decide) (hts _ qX3_busyness_1) (fun _ h9 => h9) rfl dX3_busyness_4 ?_
  refine lv_istore_n (lv' := [(1, .int Y.2.1.2.2.2.2), (0, .ref (a 0))]) hx hb dX3_busyness_7 rfl hl (by decide) rfl (fun ls hl => ?_)
  refine lv_iload_n hx hb dX3_busyness_8 rfl (lv_at hl 0 rfl) ?_
  refine lv_if_gt (tgt := 14) hx hb dX3_busyness_9 (by decide) (fun c9 => ?_) (fun c9 => ?_)
  · replace h := tw_t c9 h
    refine lv_aload_n hx hb dX3_busyness_14 rfl (lv_at hl 1 rfl) ?_
    refine va_get (D := G) (ci := 3) (v := .ref (pa 0)) (C := RX3) (T := TX3) (N := 8) hx hb hts iX3_busyness_X3 hown hK hP 0 rfl rfl 1 (by decide) (hts _ qX3_busyness_0) (fun _ h9 => h9) rfl dX3_busyness_15 ?_
    refine lv_aload_n hx hb dX3_busyness_18 rfl (lv_at hl 1 rfl) ?_
    refine va_get (D := G) (ci := 3) (v := .ref (na 0)) (C := RX3) (T := TX3) (N := 8) hx hb hts iX3_busyness_X3 hown hK hP 0 rfl rfl 0 (by decide) (hts _ qX3_busyness_2) (fun _ h9 => h9) rfl dX3_busyness_19 ?_
    obtain ⟨r22, e22, h⟩ := tw_bs h
    refine tw_callVi (ws' := (tw_wW cI cQ a na pa ta qa xa z Y)) (As := [.ref (na 0)]) (rest := []) F hN hK hP hD hS hA (mX0_lengthOfLaid l G cI pa na Y.2.1 Y.1 H.size e22) (cwV 1 hts gX3_busyness_X0_lengthOfLaid rfl rfl rfl (by decide +kernel) ⟨(Nat.le_of_ble_eq_true rfl), (Nat.le_of_ble_eq_true rfl)⟩) [0] rfl [11, 12, 13, 3, 4, 5, 6, 7, 8, 9, 10] tw_cPN_nd tw_cPN_C rfl tw_cPN_M (r0 := 0) (ci := 0) rfl rfl rfl rfl hl.1 rfl (Nat.le_of_ble_eq_true rfl) dX3_busyness_22 ⟨Nat.zero_le _, Nat.zero_le _⟩ (fun H locs hP hD hS => ?_)
    refine lv_i2d hx hb dX3_busyness_25 ?_
    refine lv_iload_n hx hb dX3_busyness_26 rfl (lv_at hl 0 rfl) ?_
    refine lv_i2d hx hb dX3_busyness_27 ?_
    obtain ⟨g28, h⟩ := tw_qs h
    refine lv_ddiv hx hb dX3_busyness_28 g28 ?_
    exact hq H locs _ ls (FP.ddiv (FP.i2d r22) (FP.i2d Y.2.1.2.2.2.2)) (tw_rt (fun r => r = (FP.ddiv (FP.i2d r22) (FP.i2d Y.2.1.2.2.2.2))) h rfl) hP hS dX3_busyness_29
  · replace h := tw_f c9 h
    refine lv_dconst0 hx hb dX3_busyness_12 ?_
    exact hq H locs _ ls FP.dconst0 (tw_rt (fun r => r = FP.dconst0) h rfl) hP hS dX3_busyness_13
