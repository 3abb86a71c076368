abbrev rmX3_ifRule : Room := { frames := 5, cells := 0, slots := 0, locals := 124 }
set_option maxRecDepth 20000 in
theorem qX3_ifRule_0 : (Cond.fieldLink RX3 26 "TheatreWall" "trialPlan" "LTheatreWall$Plan;") ∈ wsX3_ifRule := (List.mem_cons_of_mem _ (List.mem_append_left _ (List.mem_append_left _ (List.mem_append_left _ (List.mem_append_left _ (List.mem_append_left _ (List.mem_of_getElem? (i := 2) rfl)))))))
set_option maxRecDepth 20000 in
theorem qX3_ifRule_1 : (Cond.fieldLink RX3 112 "TheatreWall$Plan" "end" "I") ∈ wsX3_ifRule := (List.mem_cons_of_mem _ (List.mem_append_left _ (List.mem_append_left _ (List.mem_append_left _ (List.mem_append_left _ (List.mem_append_left _ (List.mem_of_getElem? (i := 3) rfl)))))))
set_option maxRecDepth 20000 in
theorem qX3_ifRule_2 : (Cond.fieldLink RX3 133 "TheatreWall$Plan" "laidCount" "I") ∈ wsX3_ifRule := (List.mem_cons_of_mem _ (List.mem_append_left _ (List.mem_append_left _ (List.mem_append_left _ (List.mem_append_left _ (List.mem_append_left _ (List.mem_of_getElem? (i := 4) rfl)))))))
set_option maxRecDepth 20000 in
theorem qX3_ifRule_3 : (Cond.fieldLink RX3 23 "TheatreWall" "trial" "LTheatreWall$State;") ∈ wsX3_ifRule := (List.mem_cons_of_mem _ (List.mem_append_left _ (List.mem_append_left _ (List.mem_append_left _ (List.mem_append_left _ (List.mem_append_left _ (List.mem_of_getElem? (i := 5) rfl)))))))
set_option maxRecDepth 20000 in
theorem iX3_ifRule_X3 : ∀ w ∈ u_ws RX3 TX3 8, w ∈ wsX3_ifRule := fun w h => (List.mem_cons_of_mem _ (List.mem_append_left _ (List.mem_append_left _ (List.mem_append_left _ (List.mem_append_right _ h)))))
set_option maxRecDepth 20000 in
theorem iX3_ifRule_X0 : ∀ w ∈ u_ws RX0 TX0 5, w ∈ wsX3_ifRule := fun w h => (List.mem_cons_of_mem _ (List.mem_append_left _ (List.mem_append_left _ (List.mem_append_right _ h))))
set_option maxHeartbeats 4000000 in
set_option maxRecDepth 100000 in
theorem mX3_ifRule (l : Launch) (G : va_G) (cI : ClassId) (cQ : ClassId) (a na pa ta qa xa : Nat → Nat) (z : Nat → Nat → Nat) (Y : tw_Wl) (sz : Nat) (p1 : Int32) (p2 : Int32) {rv : Nat × Int32 × tw_Wl} (h : fX3_ifRule Y p1 p2 = some rv) (hk : rv.1 = 0) : tw_Mi l yX3_ifRule wsX3_ifRule rmX3_ifRule G [(cI, .int), (cQ, .object RX1)] (tw_wW cI cQ a na pa ta qa xa z Y) [.ref (a 0), .int p1, .int p2] sz rv.2.1 (tw_wW cI cQ a na pa ta qa xa z rv.2.2) := by
  refine tw_ofi (ty := .int) (cc := cX3_ifRule) (maxL := 3) (own := RX3) (by decide) rfl rfl (Nat.le_of_ble_eq_true rfl) ?_
  intro p e s m args below meth c Q A ls H locs F hN hK hP hD hS hA hl hq
  obtain ⟨hx, hb, hml, hown, hts⟩ := id F
  have hl : lv_has ls 3 [(0, .ref (a 0)), (1, .int p1), (2, .int p2)] := hl
  unfold fX3_ifRule at h
  refine lv_iload_n hx hb dX3_ifRule_0 rfl (lv_at hl 1 rfl) ?_
  obtain ⟨r1, e1, h⟩ := tw_bs h
  refine tw_callSi (ws' := (tw_wW cI cQ a na pa ta qa xa z Y)) (As := [.int p1]) (rest := []) F hN hK hP hD hS hA (mX3_isRule l G cI H.size p1 e1) (va_cwS 1 hts gX3_ifRule_X3_isRule rfl rfl rfl (by decide +kernel) ⟨(Nat.le_of_ble_eq_true rfl), (Nat.le_of_ble_eq_true rfl)⟩) [0] rfl [] (by decide) rfl rfl rfl rfl hl.1 rfl (Nat.le_of_ble_eq_true rfl) dX3_ifRule_1 ⟨Nat.zero_le _, Nat.zero_le _⟩ (fun H locs hP hD hS => ?_)
  refine lv_if_eq (tgt := 16) hx hb dX3_ifRule_4 (by decide) (fun c4 => ?_) (fun c4 => ?_)
  · replace h := tw_t c4 h
    exact tw_thr h hk (by decide)
  · replace h := tw_f c4 h
    refine lv_iload_n hx hb dX3_ifRule_7 rfl (lv_at hl 2 rfl) ?_
    refine lv_if_lt (tgt := 16) hx hb dX3_ifRule_8 (by decide) (fun c8 => ?_) (fun c8 => ?_)
    · replace h := tw_t c8 h
      exact tw_thr h hk (by decide)
    · replace h := tw_f c8 h
      refine lv_iload_n hx hb dX3_ifRule_11 rfl (lv_at hl 2 rfl) ?_
      refine lv_iconst (v := (3 : Int32)) hx hb dX3_ifRule_12 (by decide) ?_
      refine lv_icmp_lt (tgt := 24) hx hb dX3_ifRule_13 (by decide) (fun c13 => ?_) (fun c13 => ?_)
      · replace h := tw_t c13 h
        refine lv_aload_n hx hb dX3_ifRule_24 rfl (lv_at hl 0 rfl) ?_
        refine lv_iload_n hx hb dX3_ifRule_25 rfl (lv_at hl 1 rfl) ?_
        obtain ⟨r26, e26, h⟩ := tw_bs h
        refine tw_callVvF (ws' := (tw_wW cI cQ a na pa ta qa xa z r26)) (As := [.int p1]) (rest := []) F hN hK hP hD hS hA (mX3_tryRule l G cI cQ a na pa ta qa xa z Y H.size p1 e26) (cwV 1 hts gX3_ifRule_X3_tryRule rfl rfl rfl (by decide +kernel) ⟨(Nat.le_of_ble_eq_true rfl), (Nat.le_of_ble_eq_true rfl)⟩) rfl (r0 := 0) (ci := 3) rfl rfl rfl rfl hl.1 rfl (Nat.le_of_ble_eq_true rfl) dX3_ifRule_26 ⟨Nat.zero_le _, Nat.zero_le _⟩ (fun H locs hP hD hS => ?_)
        refine lv_iload_n hx hb dX3_ifRule_29 rfl (lv_at hl 2 rfl) ?_
        by_cases c30_0 : p2 = 0
        · replace h := tw_t c30_0 h
          refine tw_loo (v := 0) (tgt := 56) hx hb dX3_ifRule_30 c30_0 (by decide) rfl (by decide) ?_
          refine lv_aload_n hx hb dX3_ifRule_56 rfl (lv_at hl 0 rfl) ?_
          refine va_get (D := G) (ci := 3) (v := .ref (qa 0)) (C := RX3) (T := TX3) (N := 8) hx hb hts iX3_ifRule_X3 hown hK hP 0 rfl rfl 3 (by decide) (hts _ qX3_ifRule_0) (fun _ h9 => h9) rfl dX3_ifRule_57 ?_
          refine va_get (D := G) (ci := 0) (v := .int r26.2.2.2.1.2.2.2.2) (C := RX0) (T := TX0) (N := 5) hx hb hts iX3_ifRule_X0 hown hK hP 22 rfl rfl 4 (by decide) (hts _ qX3_ifRule_1) (fun _ h9 => h9) rfl dX3_ifRule_60 ?_
          exact hq H locs _ ls r26.2.2.2.1.2.2.2.2 (tw_rt (fun r => r.2.1 = r26.2.2.2.1.2.2.2.2) h rfl) rfl (tw_rt (fun r => va_P G vwCl (tw_wW cI cQ a na pa ta qa xa z r.2.2) H) h hP) hS dX3_ifRule_63
        · replace h := tw_f c30_0 h
          by_cases c30_1 : p2 = 1
          · replace h := tw_t c30_1 h
            refine tw_loo (v := 1) (tgt := 64) hx hb dX3_ifRule_30 c30_1 (by decide) rfl (by decide) ?_
            refine lv_aload_n hx hb dX3_ifRule_64 rfl (lv_at hl 0 rfl) ?_
            refine va_get (D := G) (ci := 3) (v := .ref (qa 0)) (C := RX3) (T := TX3) (N := 8) hx hb hts iX3_ifRule_X3 hown hK hP 0 rfl rfl 3 (by decide) (hts _ qX3_ifRule_0) (fun _ h9 => h9) rfl dX3_ifRule_65 ?_
            refine va_get (D := G) (ci := 0) (v := .int r26.2.2.2.1.2.2.2.1) (C := RX0) (T := TX0) (N := 5) hx hb hts iX3_ifRule_X0 hown hK hP 22 rfl rfl 3 (by decide) (hts _ qX3_ifRule_2) (fun _ h9 => h9) rfl dX3_ifRule_68 ?_
            exact hq H locs _ ls r26.2.2.2.1.2.2.2.1 (tw_rt (fun r => r.2.1 = r26.2.2.2.1.2.2.2.1) h rfl) rfl (tw_rt (fun r => va_P G vwCl (tw_wW cI cQ a na pa ta qa xa z r.2.2) H) h hP) hS dX3_ifRule_71
          · replace h := tw_f c30_1 h
            refine lv_lookup (off := 42) (tgt := 72) hx hb dX3_ifRule_30 (by decide) (by show Op.lookupswitch.offset [(0, 26), (1, 34)] 42 _ = 42; rw [lv_osw (a := 0) c30_0 (by decide), lv_osw (a := 1) c30_1 (by decide)]; rfl) (by decide) ?_
            refine lv_aload_n hx hb dX3_ifRule_72 rfl (lv_at hl 0 rfl) ?_
            refine va_get (D := G) (ci := 3) (v := .ref (qa 0)) (C := RX3) (T := TX3) (N := 8) hx hb hts iX3_ifRule_X3 hown hK hP 0 rfl rfl 3 (by decide) (hts _ qX3_ifRule_0) (fun _ h9 => h9) rfl dX3_ifRule_73 ?_
            refine lv_aload_n hx hb dX3_ifRule_76 rfl (lv_at hl 0 rfl) ?_
            refine va_get (D := G) (ci := 3) (v := .ref (ta 0)) (C := RX3) (T := TX3) (N := 8) hx hb hts iX3_ifRule_X3 hown hK hP 0 rfl rfl 2 (by decide) (hts _ qX3_ifRule_3) (fun _ h9 => h9) rfl dX3_ifRule_77 ?_
            obtain ⟨r80, e80, h⟩ := tw_bs h
            refine tw_callVi (ws' := (tw_wW cI cQ a na pa ta qa xa z r26)) (As := [.ref (ta 0)]) (rest := []) F hN hK hP hD hS hA (mX0_waitOfAll l G cI qa ta r26.2.2.2.1 r26.2.2.1 H.size e80) (cwV 1 hts gX3_ifRule_X0_waitOfAll rfl rfl rfl (by decide +kernel) ⟨(Nat.le_of_ble_eq_true rfl), (Nat.le_of_ble_eq_true rfl)⟩) [0] rfl [22, 23, 24, 14, 15, 16, 17, 18, 19, 20, 21] tw_cQT_nd tw_cQT_C rfl tw_cQT_M (r0 := 0) (ci := 0) rfl rfl rfl rfl hl.1 rfl (Nat.le_of_ble_eq_true rfl) dX3_ifRule_80 ⟨Nat.zero_le _, Nat.zero_le _⟩ (fun H locs hP hD hS => ?_)
            exact hq H locs _ ls r80 (tw_rt (fun r => r.2.1 = r80) h rfl) rfl (tw_rt (fun r => va_P G vwCl (tw_wW cI cQ a na pa ta qa xa z r.2.2) H) h hP) hS dX3_ifRule_83
      · replace h := tw_f c13 h
        exact tw_thr h hk (by decide)
abbrev rxX3_ifRule : Room := { frames := 6, cells := 1, slots := 6, locals := 124 }
set_option maxRecDepth 20000 in
theorem qbX3_ifRule_0 : (Cond.classLink RX3 58 "java/lang/IllegalArgumentException") ∈ wsX3_ifRule := (List.mem_cons_of_mem _ (List.mem_append_left _ (List.mem_append_left _ (List.mem_append_left _ (List.mem_append_left _ (List.mem_append_left _ (List.mem_of_getElem? (i := 0) rfl)))))))
set_option maxRecDepth 20000 in
theorem qbX3_ifRule_1 : (Cond.initialized "java/lang/IllegalArgumentException") ∈ wsX3_ifRule := (List.mem_cons_of_mem _ (List.mem_append_left _ (List.mem_append_left _ (List.mem_append_left _ (List.mem_append_left _ (List.mem_append_left _ (List.mem_of_getElem? (i := 1) rfl)))))))
set_option maxRecDepth 20000 in
theorem qbX3_ifRule_2 : (Cond.fieldLink RX3 26 "TheatreWall" "trialPlan" "LTheatreWall$Plan;") ∈ wsX3_ifRule := (List.mem_cons_of_mem _ (List.mem_append_left _ (List.mem_append_left _ (List.mem_append_left _ (List.mem_append_left _ (List.mem_append_left _ (List.mem_of_getElem? (i := 2) rfl)))))))
set_option maxRecDepth 20000 in
theorem qbX3_ifRule_3 : (Cond.fieldLink RX3 112 "TheatreWall$Plan" "end" "I") ∈ wsX3_ifRule := (List.mem_cons_of_mem _ (List.mem_append_left _ (List.mem_append_left _ (List.mem_append_left _ (List.mem_append_left _ (List.mem_append_left _ (List.mem_of_getElem? (i := 3) rfl)))))))
set_option maxRecDepth 20000 in
theorem qbX3_ifRule_4 : (Cond.fieldLink RX3 133 "TheatreWall$Plan" "laidCount" "I") ∈ wsX3_ifRule := (List.mem_cons_of_mem _ (List.mem_append_left _ (List.mem_append_left _ (List.mem_append_left _ (List.mem_append_left _ (List.mem_append_left _ (List.mem_of_getElem? (i := 4) rfl)))))))
set_option maxRecDepth 20000 in
theorem qbX3_ifRule_5 : (Cond.fieldLink RX3 23 "TheatreWall" "trial" "LTheatreWall$State;") ∈ wsX3_ifRule := (List.mem_cons_of_mem _ (List.mem_append_left _ (List.mem_append_left _ (List.mem_append_left _ (List.mem_append_left _ (List.mem_append_left _ (List.mem_of_getElem? (i := 5) rfl)))))))
set_option maxRecDepth 20000 in
theorem ibX3_ifRule_X3 : ∀ w ∈ u_ws RX3 TX3 8, w ∈ wsX3_ifRule := fun w h => (List.mem_cons_of_mem _ (List.mem_append_left _ (List.mem_append_left _ (List.mem_append_left _ (List.mem_append_right _ h)))))
set_option maxRecDepth 20000 in
theorem ibX3_ifRule_X0 : ∀ w ∈ u_ws RX0 TX0 5, w ∈ wsX3_ifRule := fun w h => (List.mem_cons_of_mem _ (List.mem_append_left _ (List.mem_append_left _ (List.mem_append_right _ h))))
set_option maxHeartbeats 4000000 in
set_option maxRecDepth 100000 in
theorem xX3_ifRule (l : Launch) (hst : l.stackTraces = false) (G : va_G) (cI : ClassId) (cQ : ClassId) (a na pa ta qa xa : Nat → Nat) (z : Nat → Nat → Nat) (Y : tw_Wl) (sz : Nat) (p1 : Int32) (p2 : Int32) {rv : Nat × Int32 × tw_Wl} (h : fX3_ifRule Y p1 p2 = some rv) (hk : ¬ rv.1 = 0) {Qc : Array Value → State → Outcome → State → Prop} : tw_Mx l yX3_ifRule wsX3_ifRule rxX3_ifRule G [(cI, .int), (cQ, .object RX1)] (tw_wW cI cQ a na pa ta qa xa z Y) [.ref (a 0), .int p1, .int p2] sz (tw_en rv.1) (tw_wW cI cQ a na pa ta qa xa z rv.2.2) Qc := by
  refine tw_ofx hst (cc := cX3_ifRule) (maxL := 3) (own := RX3) (by decide) rfl rfl (Nat.le_of_ble_eq_true rfl) (Nat.le_of_ble_eq_true rfl) (Nat.le_of_ble_eq_true rfl) (Nat.le_of_ble_eq_true rfl) (Nat.le_of_ble_eq_true rfl) ?_
  intro p e s m args below meth c Q A ls H locs F hN hK hP hD hS hA hl hNX hq
  obtain ⟨hx, hb, hml, hown, hts⟩ := id F
  have hl : lv_has ls 3 [(0, .ref (a 0)), (1, .int p1), (2, .int p2)] := hl
  unfold fX3_ifRule at h
  refine lv_iload_n hx hb dX3_ifRule_0 rfl (lv_at hl 1 rfl) ?_
  obtain ⟨r1, e1, h⟩ := tw_bs h
  refine tw_callSi (ws' := (tw_wW cI cQ a na pa ta qa xa z Y)) (As := [.int p1]) (rest := []) F hN hK hP hD hS hA (mX3_isRule l G cI H.size p1 e1) (va_cwS 1 hts gX3_ifRule_X3_isRule rfl rfl rfl (by decide +kernel) ⟨(Nat.le_of_ble_eq_true rfl), (Nat.le_of_ble_eq_true rfl)⟩) [0] rfl [] (by decide) rfl rfl rfl rfl hl.1 rfl (Nat.le_of_ble_eq_true rfl) dX3_ifRule_1 ⟨Nat.zero_le _, Nat.zero_le _⟩ (fun H locs hP hD hS => ?_)
  refine lv_if_eq (tgt := 16) hx hb dX3_ifRule_4 (by decide) (fun c4 => ?_) (fun c4 => ?_)
  · replace h := tw_t c4 h
    exact hq H locs 16 ls tw_E1 58 60 (tw_rt (fun r => tw_E1 = tw_en r.1) h rfl) (by decide) (hts _ qbX3_ifRule_0) (hts _ qbX3_ifRule_1) (vx_hat (fun w h => hts w (List.mem_cons_of_mem _ (List.mem_append_right _ h))) tw_xb1 hNX.words) tw_xg1 dX3_ifRule_16 dX3_ifRule_19 dX3_ifRule_20 dX3_ifRule_23 hl.1 (tw_rt (fun r => va_P G vwCl (tw_wW cI cQ a na pa ta qa xa z r.2.2) H) h hP) hS
  · replace h := tw_f c4 h
    refine lv_iload_n hx hb dX3_ifRule_7 rfl (lv_at hl 2 rfl) ?_
    refine lv_if_lt (tgt := 16) hx hb dX3_ifRule_8 (by decide) (fun c8 => ?_) (fun c8 => ?_)
    · replace h := tw_t c8 h
      exact hq H locs 16 ls tw_E1 58 60 (tw_rt (fun r => tw_E1 = tw_en r.1) h rfl) (by decide) (hts _ qbX3_ifRule_0) (hts _ qbX3_ifRule_1) (vx_hat (fun w h => hts w (List.mem_cons_of_mem _ (List.mem_append_right _ h))) tw_xb1 hNX.words) tw_xg1 dX3_ifRule_16 dX3_ifRule_19 dX3_ifRule_20 dX3_ifRule_23 hl.1 (tw_rt (fun r => va_P G vwCl (tw_wW cI cQ a na pa ta qa xa z r.2.2) H) h hP) hS
    · replace h := tw_f c8 h
      refine lv_iload_n hx hb dX3_ifRule_11 rfl (lv_at hl 2 rfl) ?_
      refine lv_iconst (v := (3 : Int32)) hx hb dX3_ifRule_12 (by decide) ?_
      refine lv_icmp_lt (tgt := 24) hx hb dX3_ifRule_13 (by decide) (fun c13 => ?_) (fun c13 => ?_)
      · replace h := tw_t c13 h
        refine lv_aload_n hx hb dX3_ifRule_24 rfl (lv_at hl 0 rfl) ?_
        refine lv_iload_n hx hb dX3_ifRule_25 rfl (lv_at hl 1 rfl) ?_
        obtain ⟨r26, e26, h⟩ := tw_bs h
        refine tw_callVvF (ws' := (tw_wW cI cQ a na pa ta qa xa z r26)) (As := [.int p1]) (rest := []) F hN hK hP hD hS hA (mX3_tryRule l G cI cQ a na pa ta qa xa z Y H.size p1 e26) (cwV 1 hts gX3_ifRule_X3_tryRule rfl rfl rfl (by decide +kernel) ⟨(Nat.le_of_ble_eq_true rfl), (Nat.le_of_ble_eq_true rfl)⟩) rfl (r0 := 0) (ci := 3) rfl rfl rfl rfl hl.1 rfl (Nat.le_of_ble_eq_true rfl) dX3_ifRule_26 ⟨Nat.zero_le _, Nat.zero_le _⟩ (fun H locs hP hD hS => ?_)
        refine lv_iload_n hx hb dX3_ifRule_29 rfl (lv_at hl 2 rfl) ?_
        by_cases c30_0 : p2 = 0
        · replace h := tw_t c30_0 h
          refine tw_loo (v := 0) (tgt := 56) hx hb dX3_ifRule_30 c30_0 (by decide) rfl (by decide) ?_
          refine lv_aload_n hx hb dX3_ifRule_56 rfl (lv_at hl 0 rfl) ?_
          refine va_get (D := G) (ci := 3) (v := .ref (qa 0)) (C := RX3) (T := TX3) (N := 8) hx hb hts ibX3_ifRule_X3 hown hK hP 0 rfl rfl 3 (by decide) (hts _ qbX3_ifRule_2) (fun _ h9 => h9) rfl dX3_ifRule_57 ?_
          refine va_get (D := G) (ci := 0) (v := .int r26.2.2.2.1.2.2.2.2) (C := RX0) (T := TX0) (N := 5) hx hb hts ibX3_ifRule_X0 hown hK hP 22 rfl rfl 4 (by decide) (hts _ qbX3_ifRule_3) (fun _ h9 => h9) rfl dX3_ifRule_60 ?_
          exact absurd (tw_rt (fun r => r.1 = 0) h rfl) hk
        · replace h := tw_f c30_0 h
          by_cases c30_1 : p2 = 1
          · replace h := tw_t c30_1 h
            refine tw_loo (v := 1) (tgt := 64) hx hb dX3_ifRule_30 c30_1 (by decide) rfl (by decide) ?_
            refine lv_aload_n hx hb dX3_ifRule_64 rfl (lv_at hl 0 rfl) ?_
            refine va_get (D := G) (ci := 3) (v := .ref (qa 0)) (C := RX3) (T := TX3) (N := 8) hx hb hts ibX3_ifRule_X3 hown hK hP 0 rfl rfl 3 (by decide) (hts _ qbX3_ifRule_2) (fun _ h9 => h9) rfl dX3_ifRule_65 ?_
            refine va_get (D := G) (ci := 0) (v := .int r26.2.2.2.1.2.2.2.1) (C := RX0) (T := TX0) (N := 5) hx hb hts ibX3_ifRule_X0 hown hK hP 22 rfl rfl 3 (by decide) (hts _ qbX3_ifRule_4) (fun _ h9 => h9) rfl dX3_ifRule_68 ?_
            exact absurd (tw_rt (fun r => r.1 = 0) h rfl) hk
          · replace h := tw_f c30_1 h
            refine lv_lookup (off := 42) (tgt := 72) hx hb dX3_ifRule_30 (by decide) (by show Op.lookupswitch.offset [(0, 26), (1, 34)] 42 _ = 42; rw [lv_osw (a := 0) c30_0 (by decide), lv_osw (a := 1) c30_1 (by decide)]; rfl) (by decide) ?_
            refine lv_aload_n hx hb dX3_ifRule_72 rfl (lv_at hl 0 rfl) ?_
            refine va_get (D := G) (ci := 3) (v := .ref (qa 0)) (C := RX3) (T := TX3) (N := 8) hx hb hts ibX3_ifRule_X3 hown hK hP 0 rfl rfl 3 (by decide) (hts _ qbX3_ifRule_2) (fun _ h9 => h9) rfl dX3_ifRule_73 ?_
            refine lv_aload_n hx hb dX3_ifRule_76 rfl (lv_at hl 0 rfl) ?_
            refine va_get (D := G) (ci := 3) (v := .ref (ta 0)) (C := RX3) (T := TX3) (N := 8) hx hb hts ibX3_ifRule_X3 hown hK hP 0 rfl rfl 2 (by decide) (hts _ qbX3_ifRule_5) (fun _ h9 => h9) rfl dX3_ifRule_77 ?_
            obtain ⟨r80, e80, h⟩ := tw_bs h
            refine tw_callVi (ws' := (tw_wW cI cQ a na pa ta qa xa z r26)) (As := [.ref (ta 0)]) (rest := []) F hN hK hP hD hS hA (mX0_waitOfAll l G cI qa ta r26.2.2.2.1 r26.2.2.1 H.size e80) (cwV 1 hts gX3_ifRule_X0_waitOfAll rfl rfl rfl (by decide +kernel) ⟨(Nat.le_of_ble_eq_true rfl), (Nat.le_of_ble_eq_true rfl)⟩) [0] rfl [22, 23, 24, 14, 15, 16, 17, 18, 19, 20, 21] tw_cQT_nd tw_cQT_C rfl tw_cQT_M (r0 := 0) (ci := 0) rfl rfl rfl rfl hl.1 rfl (Nat.le_of_ble_eq_true rfl) dX3_ifRule_80 ⟨Nat.zero_le _, Nat.zero_le _⟩ (fun H locs hP hD hS => ?_)
            exact absurd (tw_rt (fun r => r.1 = 0) h rfl) hk
      · replace h := tw_f c13 h
        exact hq H locs 16 ls tw_E1 58 60 (tw_rt (fun r => tw_E1 = tw_en r.1) h rfl) (by decide) (hts _ qbX3_ifRule_0) (hts _ qbX3_ifRule_1) (vx_hat (fun w h => hts w (List.mem_cons_of_mem _ (List.mem_append_right _ h))) tw_xb1 hNX.words) tw_xg1 dX3_ifRule_16 dX3_ifRule_19 dX3_ifRule_20 dX3_ifRule_23 hl.1 (tw_rt (fun r => va_P G vwCl (tw_wW cI cQ a na pa ta qa xa z r.2.2) H) h hP) hS
abbrev rmX3_bestRule : Room := { frames := 5, cells := 0, slots := 0, locals := 124 }
set_option maxRecDepth 20000 in
theorem qX3_bestRule_0 : (Cond.fieldLink RX3 26 "TheatreWall" "trialPlan" "LTheatreWall$Plan;") ∈ wsX3_bestRule := (List.mem_cons_of_mem _ (List.mem_append_left _ (List.mem_append_left _ (List.mem_append_left _ (List.mem_append_left _ (List.mem_of_getElem? (i := 0) rfl))))))
set_option maxRecDepth 20000 in
theorem qX3_bestRule_1 : (Cond.fieldLink RX3 133 "TheatreWall$Plan" "laidCount" "I") ∈ wsX3_bestRule := (List.mem_cons_of_mem _ (List.mem_append_left _ (List.mem_append_left _ (List.mem_append_left _ (List.mem_append_left _ (List.mem_of_getElem? (i := 1) rfl))))))
set_option maxRecDepth 20000 in
theorem qX3_bestRule_2 : (Cond.fieldLink RX3 112 "TheatreWall$Plan" "end" "I") ∈ wsX3_bestRule := (List.mem_cons_of_mem _ (List.mem_append_left _ (List.mem_append_left _ (List.mem_append_left _ (List.mem_append_left _ (List.mem_of_getElem? (i := 2) rfl))))))
set_option maxRecDepth 20000 in
theorem iX3_bestRule_X3 : ∀ w ∈ u_ws RX3 TX3 8, w ∈ wsX3_bestRule := fun w h => (List.mem_cons_of_mem _ (List.mem_append_left _ (List.mem_append_left _ (List.mem_append_right _ h))))
set_option maxRecDepth 20000 in
theorem iX3_bestRule_X0 : ∀ w ∈ u_ws RX0 TX0 5, w ∈ wsX3_bestRule := fun w h => (List.mem_cons_of_mem _ (List.mem_append_left _ (List.mem_append_right _ h)))
set_option maxHeartbeats 4000000 in
set_option maxRecDepth 100000 in
theorem mX3_bestRule (l : Launch) (G : va_G) (cI : ClassId) (cQ : ClassId) (a na pa ta qa xa : Nat → Nat) (z : Nat → Nat → Nat) (Y : tw_Wl) (sz : Nat)  {rv : Int32 × tw_Wl} (h : fX3_bestRule Y = some rv) : tw_Mi l yX3_bestRule wsX3_bestRule rmX3_bestRule G [(cI, .int), (cQ, .object RX1)] (tw_wW cI cQ a na pa ta qa xa z Y) [.ref (a 0)] sz rv.1 (tw_wW cI cQ a na pa ta qa xa z rv.2) := by
  refine tw_ofi (ty := .int) (cc := cX3_bestRule) (maxL := 7) (own := RX3) (by decide) rfl rfl (Nat.le_of_ble_eq_true rfl) ?_
  intro p e s m args below meth c Q A ls H locs F hN hK hP hD hS hA hl hq
  obtain ⟨hx, hb, hml, hown, hts⟩ := id F
  have hl : lv_has ls 7 [(0, .ref (a 0))] := hl
  unfold fX3_bestRule at h
  have L9 : ∀ (n9 : Nat) (v1 : Int32) (v2 : Int32) (v3 : Int32) (v4 : Int32) (Y : tw_Wl) (H : Heap) (locs : List Loc) (ls : Array Slot), fX3_bestRule_9 n9 v1 v2 v3 v4 Y = some rv → lv_has ls 7 [(0, .ref (a 0)), (1, .int v1), (2, .int v2), (3, .int v3), (4, .int v4)] → va_P G vwCl (tw_wW cI cQ a na pa ta qa xa z Y) H → va_D A (tw_wW cI cQ a na pa ta qa xa z Y) → va_S A s.heap H locs → W p l e rmX3_bestRule s m args below meth c H locs 0 0 Q (F0 m 9 ls []) := by
    intro n9
    induction n9 with
    | zero =>
      intro v1 v2 v3 v4 Y H locs ls h
      rw [fX3_bestRule_9] at h
      cases h
    | succ n9 ih9 =>
      intro v1 v2 v3 v4 Y H locs ls h hl hP hD hS
      rw [fX3_bestRule_9] at h
      refine lv_iload hx hb dX3_bestRule_9 (lv_at hl 4 rfl) ?_
      refine lv_iconst (v := (4 : Int32)) hx hb dX3_bestRule_11 (by decide) ?_
      refine lv_icmp_ge (tgt := 72) hx hb dX3_bestRule_12 (by decide) (fun c12 => ?_) (fun c12 => ?_)
      · replace h := tw_t c12 h
        refine lv_iload_n hx hb dX3_bestRule_72 rfl (lv_at hl 1 rfl) ?_
        exact hq H locs _ ls v1 (tw_rt (fun r => r.1 = v1) h rfl) rfl (tw_rt (fun r => va_P G vwCl (tw_wW cI cQ a na pa ta qa xa z r.2) H) h hP) hS dX3_bestRule_73
      · replace h := tw_f c12 h
        refine lv_aload_n hx hb dX3_bestRule_15 rfl (lv_at hl 0 rfl) ?_
        refine lv_iload hx hb dX3_bestRule_16 (lv_at hl 4 rfl) ?_
        obtain ⟨r18, e18, h⟩ := tw_bs h
        refine tw_callVvF (ws' := (tw_wW cI cQ a na pa ta qa xa z r18)) (As := [.int v4]) (rest := []) F hN hK hP hD hS hA (mX3_tryRule l G cI cQ a na pa ta qa xa z Y H.size v4 e18) (cwV 1 hts gX3_bestRule_X3_tryRule rfl rfl rfl (by decide +kernel) ⟨(Nat.le_of_ble_eq_true rfl), (Nat.le_of_ble_eq_true rfl)⟩) rfl (r0 := 0) (ci := 3) rfl rfl rfl rfl hl.1 rfl (Nat.le_of_ble_eq_true rfl) dX3_bestRule_18 ⟨Nat.zero_le _, Nat.zero_le _⟩ (fun H locs hP hD hS => ?_)
        refine lv_aload_n hx hb dX3_bestRule_21 rfl (lv_at hl 0 rfl) ?_
        refine va_get (D := G) (ci := 3) (v := .ref (qa 0)) (C := RX3) (T := TX3) (N := 8) hx hb hts iX3_bestRule_X3 hown hK hP 0 rfl rfl 3 (by decide) (hts _ qX3_bestRule_0) (fun _ h9 => h9) rfl dX3_bestRule_22 ?_
        refine va_get (D := G) (ci := 0) (v := .int r18.2.2.2.1.2.2.2.1) (C := RX0) (T := TX0) (N := 5) hx hb hts iX3_bestRule_X0 hown hK hP 22 rfl rfl 3 (by decide) (hts _ qX3_bestRule_1) (fun _ h9 => h9) rfl dX3_bestRule_25 ?_
        refine lv_istore (lv' := [(5, .int r18.2.2.2.1.2.2.2.1), (0, .ref (a 0)), (1, .int v1), (2, .int v2), (3, .int v3), (4, .int v4)]) hx hb dX3_bestRule_28 hl (by decide) rfl (fun ls hl => ?_)
        refine lv_aload_n hx hb dX3_bestRule_30 rfl (lv_at hl 1 rfl) ?_
        refine va_get (D := G) (ci := 3) (v := .ref (qa 0)) (C := RX3) (T := TX3) (N := 8) hx hb hts iX3_bestRule_X3 hown hK hP 0 rfl rfl 3 (by decide) (hts _ qX3_bestRule_0) (fun _ h9 => h9) rfl dX3_bestRule_31 ?_
        refine va_get (D := G) (ci := 0) (v := .int r18.2.2.2.1.2.2.2.2) (C := RX0) (T := TX0) (N := 5) hx hb hts iX3_bestRule_X0 hown hK hP 22 rfl rfl 4 (by decide) (hts _ qX3_bestRule_2) (fun _ h9 => h9) rfl dX3_bestRule_34 ?_
        refine lv_istore (lv' := [(6, .int r18.2.2.2.1.2.2.2.2), (5, .int r18.2.2.2.1.2.2.2.1), (0, .ref (a 0)), (1, .int v1), (2, .int v2), (3, .int v3), (4, .int v4)]) hx hb dX3_bestRule_37 hl (by decide) rfl (fun ls hl => ?_)
        refine lv_iload hx hb dX3_bestRule_39 (lv_at hl 1 rfl) ?_
        refine lv_iload_n hx hb dX3_bestRule_41 rfl (lv_at hl 4 rfl) ?_
        refine lv_icmp_gt (tgt := 57) hx hb dX3_bestRule_42 (by decide) (fun c42 => ?_) (fun c42 => ?_)
        · replace h := tw_t c42 h
          refine lv_iload hx hb dX3_bestRule_57 (lv_at hl 6 rfl) ?_
          refine lv_istore_n (lv' := [(1, .int v4), (6, .int r18.2.2.2.1.2.2.2.2), (5, .int r18.2.2.2.1.2.2.2.1), (0, .ref (a 0)), (2, .int v2), (3, .int v3), (4, .int v4)]) hx hb dX3_bestRule_59 rfl hl (by decide) rfl (fun ls hl => ?_)
          refine lv_iload hx hb dX3_bestRule_60 (lv_at hl 2 rfl) ?_
          refine lv_istore_n (lv' := [(2, .int r18.2.2.2.1.2.2.2.1), (1, .int v4), (6, .int r18.2.2.2.1.2.2.2.2), (5, .int r18.2.2.2.1.2.2.2.1), (0, .ref (a 0)), (3, .int v3), (4, .int v4)]) hx hb dX3_bestRule_62 rfl hl (by decide) rfl (fun ls hl => ?_)
          refine lv_iload hx hb dX3_bestRule_63 (lv_at hl 2 rfl) ?_
          refine lv_istore_n (lv' := [(3, .int r18.2.2.2.1.2.2.2.2), (2, .int r18.2.2.2.1.2.2.2.1), (1, .int v4), (6, .int r18.2.2.2.1.2.2.2.2), (5, .int r18.2.2.2.1.2.2.2.1), (0, .ref (a 0)), (4, .int v4)]) hx hb dX3_bestRule_65 rfl hl (by decide) rfl (fun ls hl => ?_)
          refine lv_iinc (v := (v4 + 1)) (lv' := [(4, .int (v4 + 1)), (3, .int r18.2.2.2.1.2.2.2.2), (2, .int r18.2.2.2.1.2.2.2.1), (1, .int v4), (6, .int r18.2.2.2.1.2.2.2.2), (5, .int r18.2.2.2.1.2.2.2.1), (0, .ref (a 0))]) hx hb dX3_bestRule_66 hl (k := 6) rfl rfl (by decide) rfl (fun ls hl => ?_)
          refine lv_goto (tgt := 9) hx hb dX3_bestRule_69 (by decide) ?_
          exact ih9 v4 r18.2.2.2.1.2.2.2.1 r18.2.2.2.1.2.2.2.2 (v4 + 1) r18 H locs ls h (lv_sub hl [6, 3, 2, 1, 0] rfl) hP hD hS
        · replace h := tw_f c42 h
          refine lv_iload hx hb dX3_bestRule_45 (lv_at hl 1 rfl) ?_
          refine lv_iload_n hx hb dX3_bestRule_47 rfl (lv_at hl 4 rfl) ?_
          refine lv_icmp_ne (tgt := 66) hx hb dX3_bestRule_48 (by decide) (fun c48 => ?_) (fun c48 => ?_)
          · replace h := tw_t c48 h
            refine lv_iinc (v := (v4 + 1)) (lv' := [(4, .int (v4 + 1)), (6, .int r18.2.2.2.1.2.2.2.2), (5, .int r18.2.2.2.1.2.2.2.1), (0, .ref (a 0)), (1, .int v1), (2, .int v2), (3, .int v3)]) hx hb dX3_bestRule_66 hl (k := 6) rfl rfl (by decide) rfl (fun ls hl => ?_)
            refine lv_goto (tgt := 9) hx hb dX3_bestRule_69 (by decide) ?_
            exact ih9 v1 v2 v3 (v4 + 1) r18 H locs ls h (lv_sub hl [3, 4, 5, 6, 0] rfl) hP hD hS
          · replace h := tw_fn c48 h
            refine lv_iload hx hb dX3_bestRule_51 (lv_at hl 0 rfl) ?_
            refine lv_iload_n hx hb dX3_bestRule_53 rfl (lv_at hl 5 rfl) ?_
            refine lv_icmp_ge (tgt := 66) hx hb dX3_bestRule_54 (by decide) (fun c54 => ?_) (fun c54 => ?_)
            · replace h := tw_t c54 h
              refine lv_iinc (v := (v4 + 1)) (lv' := [(4, .int (v4 + 1)), (6, .int r18.2.2.2.1.2.2.2.2), (5, .int r18.2.2.2.1.2.2.2.1), (0, .ref (a 0)), (1, .int v1), (2, .int v2), (3, .int v3)]) hx hb dX3_bestRule_66 hl (k := 6) rfl rfl (by decide) rfl (fun ls hl => ?_)
              refine lv_goto (tgt := 9) hx hb dX3_bestRule_69 (by decide) ?_
              exact ih9 v1 v2 v3 (v4 + 1) r18 H locs ls h (lv_sub hl [3, 4, 5, 6, 0] rfl) hP hD hS
            · replace h := tw_f c54 h
              refine lv_iload hx hb dX3_bestRule_57 (lv_at hl 6 rfl) ?_
              refine lv_istore_n (lv' := [(1, .int v4), (6, .int r18.2.2.2.1.2.2.2.2), (5, .int r18.2.2.2.1.2.2.2.1), (0, .ref (a 0)), (2, .int v2), (3, .int v3), (4, .int v4)]) hx hb dX3_bestRule_59 rfl hl (by decide) rfl (fun ls hl => ?_)
              refine lv_iload hx hb dX3_bestRule_60 (lv_at hl 2 rfl) ?_
              refine lv_istore_n (lv' := [(2, .int r18.2.2.2.1.2.2.2.1), (1, .int v4), (6, .int r18.2.2.2.1.2.2.2.2), (5, .int r18.2.2.2.1.2.2.2.1), (0, .ref (a 0)), (3, .int v3), (4, .int v4)]) hx hb dX3_bestRule_62 rfl hl (by decide) rfl (fun ls hl => ?_)
              refine lv_iload hx hb dX3_bestRule_63 (lv_at hl 2 rfl) ?_
              refine lv_istore_n (lv' := [(3, .int r18.2.2.2.1.2.2.2.2), (2, .int r18.2.2.2.1.2.2.2.1), (1, .int v4), (6, .int r18.2.2.2.1.2.2.2.2), (5, .int r18.2.2.2.1.2.2.2.1), (0, .ref (a 0)), (4, .int v4)]) hx hb dX3_bestRule_65 rfl hl (by decide) rfl (fun ls hl => ?_)
              refine lv_iinc (v := (v4 + 1)) (lv' := [(4, .int (v4 + 1)), (3, .int r18.2.2.2.1.2.2.2.2), (2, .int r18.2.2.2.1.2.2.2.1), (1, .int v4), (6, .int r18.2.2.2.1.2.2.2.2), (5, .int r18.2.2.2.1.2.2.2.1), (0, .ref (a 0))]) hx hb dX3_bestRule_66 hl (k := 6) rfl rfl (by decide) rfl (fun ls hl => ?_)
              refine lv_goto (tgt := 9) hx hb dX3_bestRule_69 (by decide) ?_
              exact ih9 v4 r18.2.2.2.1.2.2.2.1 r18.2.2.2.1.2.2.2.2 (v4 + 1) r18 H locs ls h (lv_sub hl [6, 3, 2, 1, 0] rfl) hP hD hS
  refine lv_iconst (v := (0 : Int32)) hx hb dX3_bestRule_0 (by decide) ?_
  refine lv_istore_n (lv' := [(1, .int (0 : Int32)), (0, .ref (a 0))]) hx hb dX3_bestRule_1 rfl hl (by decide) rfl (fun ls hl => ?_)
  refine lv_iconst (v := (-1 : Int32)) hx hb dX3_bestRule_2 (by decide) ?_
  refine lv_istore_n (lv' := [(2, .int (-1 : Int32)), (1, .int (0 : Int32)), (0, .ref (a 0))]) hx hb dX3_bestRule_3 rfl hl (by decide) rfl (fun ls hl => ?_)
  refine lv_iconst (v := (0 : Int32)) hx hb dX3_bestRule_4 (by decide) ?_
  refine lv_istore_n (lv' := [(3, .int (0 : Int32)), (2, .int (-1 : Int32)), (1, .int (0 : Int32)), (0, .ref (a 0))]) hx hb dX3_bestRule_5 rfl hl (by decide) rfl (fun ls hl => ?_)
  refine lv_iconst (v := (0 : Int32)) hx hb dX3_bestRule_6 (by decide) ?_
  refine lv_istore (lv' := [(4, .int (0 : Int32)), (3, .int (0 : Int32)), (2, .int (-1 : Int32)), (1, .int (0 : Int32)), (0, .ref (a 0))]) hx hb dX3_bestRule_7 hl (by decide) rfl (fun ls hl => ?_)
  exact L9 512 (0 : Int32) (-1 : Int32) (0 : Int32) (0 : Int32) Y H locs ls h (lv_sub hl [4, 3, 2, 1, 0] rfl) hP hD hS
abbrev rmX3_ifFreed : Room := { frames := 4, cells := 0, slots := 0, locals := 103 }
set_option maxRecDepth 20000 in
theorem qX3_ifFreed_0 : (Cond.fieldLink RX3 23 "TheatreWall" "trial" "LTheatreWall$State;") ∈ wsX3_ifFreed := (List.mem_cons_of_mem _ (List.mem_append_left _ (List.mem_append_left _ (List.mem_append_left _ (List.mem_append_left _ (List.mem_append_left _ (List.mem_of_getElem? (i := 2) rfl)))))))
set_option maxRecDepth 20000 in
theorem qX3_ifFreed_1 : (Cond.fieldLink RX3 61 "TheatreWall$State" "size" "I") ∈ wsX3_ifFreed := (List.mem_cons_of_mem _ (List.mem_append_left _ (List.mem_append_left _ (List.mem_append_left _ (List.mem_append_left _ (List.mem_append_left _ (List.mem_of_getElem? (i := 4) rfl)))))))
set_option maxRecDepth 20000 in
theorem qX3_ifFreed_2 : (Cond.fieldLink RX3 26 "TheatreWall" "trialPlan" "LTheatreWall$Plan;") ∈ wsX3_ifFreed := (List.mem_cons_of_mem _ (List.mem_append_left _ (List.mem_append_left _ (List.mem_append_left _ (List.mem_append_left _ (List.mem_append_left _ (List.mem_of_getElem? (i := 6) rfl)))))))
set_option maxRecDepth 20000 in
theorem qX3_ifFreed_3 : (Cond.fieldLink RX3 112 "TheatreWall$Plan" "end" "I") ∈ wsX3_ifFreed := (List.mem_cons_of_mem _ (List.mem_append_left _ (List.mem_append_left _ (List.mem_append_left _ (List.mem_append_left _ (List.mem_append_left _ (List.mem_of_getElem? (i := 7) rfl)))))))
set_option maxRecDepth 20000 in
theorem qX3_ifFreed_4 : (Cond.fieldLink RX3 171 "TheatreWall$State" "persons" "[I") ∈ wsX3_ifFreed := (List.mem_cons_of_mem _ (List.mem_append_left _ (List.mem_append_left _ (List.mem_append_left _ (List.mem_append_left _ (List.mem_append_left _ (List.mem_of_getElem? (i := 5) rfl)))))))
set_option maxRecDepth 20000 in
theorem qX3_ifFreed_5 : (Cond.fieldLink RX3 10 "TheatreWall" "now" "LTheatreWall$State;") ∈ wsX3_ifFreed := (List.mem_cons_of_mem _ (List.mem_append_left _ (List.mem_append_left _ (List.mem_append_left _ (List.mem_append_left _ (List.mem_append_left _ (List.mem_of_getElem? (i := 3) rfl)))))))
set_option maxRecDepth 20000 in
theorem iX3_ifFreed_X3 : ∀ w ∈ u_ws RX3 TX3 8, w ∈ wsX3_ifFreed := fun w h => (List.mem_cons_of_mem _ (List.mem_append_left _ (List.mem_append_left _ (List.mem_append_left _ (List.mem_append_right _ h)))))
set_option maxRecDepth 20000 in
theorem iX3_ifFreed_X1 : ∀ w ∈ u_ws RX1 TX1 9, w ∈ wsX3_ifFreed := fun w h => (List.mem_cons_of_mem _ (List.mem_append_left _ (List.mem_append_left _ (List.mem_append_right _ h))))
set_option maxRecDepth 20000 in
theorem iX3_ifFreed_X0 : ∀ w ∈ u_ws RX0 TX0 5, w ∈ wsX3_ifFreed := fun w h => (List.mem_cons_of_mem _ (List.mem_append_left _ (List.mem_append_right _ h)))
set_option maxHeartbeats 4000000 in
set_option maxRecDepth 100000 in
theorem mX3_ifFreed (l : Launch) (G : va_G) (cI : ClassId) (cQ : ClassId) (a na pa ta qa xa : Nat → Nat) (z : Nat → Nat → Nat) (Y : tw_Wl) (sz : Nat) (p1 : Int32) {rv : Nat × Int32 × tw_Wl} (h : fX3_ifFreed Y p1 = some rv) (hk : rv.1 = 0) : tw_Mi l yX3_ifFreed wsX3_ifFreed rmX3_ifFreed G [(cI, .int), (cQ, .object RX1)] (tw_wW cI cQ a na pa ta qa xa z Y) [.ref (a 0), .int p1] sz rv.2.1 (tw_wW cI cQ a na pa ta qa xa z rv.2.2) := by
  refine tw_ofi (ty := .int) (cc := cX3_ifFreed) (maxL := 3) (own := RX3) (by decide) rfl rfl (Nat.le_of_ble_eq_true rfl) ?_
  intro p e s m args below meth c Q A ls H locs F hN hK hP hD hS hA hl hq
  obtain ⟨hx, hb, hml, hown, hts⟩ := id F
  have hl : lv_has ls 3 [(0, .ref (a 0)), (1, .int p1)] := hl
  unfold fX3_ifFreed at h
  have L28 : ∀ (n28 : Nat) (v2 : Int32) (Y : tw_Wl) (H : Heap) (locs : List Loc) (ls : Array Slot), fX3_ifFreed_28 p1 n28 v2 Y = some rv → lv_has ls 3 [(0, .ref (a 0)), (1, .int p1), (2, .int v2)] → va_P G vwCl (tw_wW cI cQ a na pa ta qa xa z Y) H → va_D A (tw_wW cI cQ a na pa ta qa xa z Y) → va_S A s.heap H locs → W p l e rmX3_ifFreed s m args below meth c H locs 0 0 Q (F0 m 28 ls []) := by
    intro n28
    induction n28 with
    | zero =>
      intro v2 Y H locs ls h
      rw [fX3_ifFreed_28] at h
      cases h
    | succ n28 ih28 =>
      intro v2 Y H locs ls h hl hP hD hS
      rw [fX3_ifFreed_28] at h
      refine lv_iload_n hx hb dX3_ifFreed_28 rfl (lv_at hl 2 rfl) ?_
      refine lv_aload_n hx hb dX3_ifFreed_29 rfl (lv_at hl 0 rfl) ?_
      refine va_get (D := G) (ci := 3) (v := .ref (ta 0)) (C := RX3) (T := TX3) (N := 8) hx hb hts iX3_ifFreed_X3 hown hK hP 0 rfl rfl 2 (by decide) (hts _ qX3_ifFreed_0) (fun _ h9 => h9) rfl dX3_ifFreed_30 ?_
      refine va_get (D := G) (ci := 1) (v := .int Y.2.2.1.2.2.2.2.2.2.2.1) (C := RX1) (T := TX1) (N := 9) hx hb hts iX3_ifFreed_X1 hown hK hP 14 rfl rfl 7 (by decide) (hts _ qX3_ifFreed_1) (fun _ h9 => h9) rfl dX3_ifFreed_33 ?_
      refine lv_icmp_ge (tgt := 68) hx hb dX3_ifFreed_36 (by decide) (fun c36 => ?_) (fun c36 => ?_)
      · replace h := tw_t c36 h
        refine lv_aload_n hx hb dX3_ifFreed_68 rfl (lv_at hl 0 rfl) ?_
        refine va_get (D := G) (ci := 3) (v := .ref (qa 0)) (C := RX3) (T := TX3) (N := 8) hx hb hts iX3_ifFreed_X3 hown hK hP 0 rfl rfl 3 (by decide) (hts _ qX3_ifFreed_2) (fun _ h9 => h9) rfl dX3_ifFreed_69 ?_
        refine lv_aload_n hx hb dX3_ifFreed_72 rfl (lv_at hl 0 rfl) ?_
        refine va_get (D := G) (ci := 3) (v := .ref (ta 0)) (C := RX3) (T := TX3) (N := 8) hx hb hts iX3_ifFreed_X3 hown hK hP 0 rfl rfl 2 (by decide) (hts _ qX3_ifFreed_0) (fun _ h9 => h9) rfl dX3_ifFreed_73 ?_
        obtain ⟨r76, e76, h⟩ := tw_bs h
        refine tw_callVv (ws' := (tw_wW cI cQ a na pa ta qa xa z (Y.1, Y.2.1, Y.2.2.1, r76, Y.2.2.2.2.1, Y.2.2.2.2.2.1, Y.2.2.2.2.2.2.1, Y.2.2.2.2.2.2.2.1, Y.2.2.2.2.2.2.2.2))) (As := [.ref (ta 0)]) (rest := []) F hN hK hP hD hS hA (mX0_lay l G cI qa ta Y.2.2.2.1 Y.2.2.1 H.size e76) (cwV 1 hts gX3_ifFreed_X0_lay rfl rfl rfl (by decide +kernel) ⟨(Nat.le_of_ble_eq_true rfl), (Nat.le_of_ble_eq_true rfl)⟩) [0] rfl [22, 23, 24, 14, 15, 16, 17, 18, 19, 20, 21] tw_cQT_nd tw_cQT_C rfl tw_cQT_M (r0 := 0) (ci := 0) rfl rfl rfl rfl hl.1 rfl (Nat.le_of_ble_eq_true rfl) dX3_ifFreed_76 ⟨Nat.zero_le _, Nat.zero_le _⟩ (fun H locs hP hD hS => ?_)
        refine lv_aload_n hx hb dX3_ifFreed_79 rfl (lv_at hl 0 rfl) ?_
        refine va_get (D := G) (ci := 3) (v := .ref (qa 0)) (C := RX3) (T := TX3) (N := 8) hx hb hts iX3_ifFreed_X3 hown hK hP 0 rfl rfl 3 (by decide) (hts _ qX3_ifFreed_2) (fun _ h9 => h9) rfl dX3_ifFreed_80 ?_
        refine va_get (D := G) (ci := 0) (v := .int r76.2.2.2.2) (C := RX0) (T := TX0) (N := 5) hx hb hts iX3_ifFreed_X0 hown hK hP 22 rfl rfl 4 (by decide) (hts _ qX3_ifFreed_3) (fun _ h9 => h9) rfl dX3_ifFreed_83 ?_
        exact hq H locs _ ls r76.2.2.2.2 (tw_rt (fun r => r.2.1 = r76.2.2.2.2) h rfl) rfl (tw_rt (fun r => va_P G vwCl (tw_wW cI cQ a na pa ta qa xa z r.2.2) H) h hP) hS dX3_ifFreed_86
      · replace h := tw_f c36 h
        refine lv_aload_n hx hb dX3_ifFreed_39 rfl (lv_at hl 0 rfl) ?_
        refine va_get (D := G) (ci := 3) (v := .ref (ta 0)) (C := RX3) (T := TX3) (N := 8) hx hb hts iX3_ifFreed_X3 hown hK hP 0 rfl rfl 2 (by decide) (hts _ qX3_ifFreed_0) (fun _ h9 => h9) rfl dX3_ifFreed_40 ?_
        refine va_get (D := G) (ci := 1) (v := .ref (ta 2)) (C := RX1) (T := TX1) (N := 9) hx hb hts iX3_ifFreed_X1 hown hK hP 14 rfl rfl 1 (by decide) (hts _ qX3_ifFreed_4) (fun _ h9 => h9) rfl dX3_ifFreed_43 ?_
        refine lv_iload_n hx hb dX3_ifFreed_46 rfl (lv_at hl 2 rfl) ?_
        obtain ⟨g47, h⟩ := tw_gs h
        refine va_iald (f := Y.2.2.1.2.1) (n := 12) hx hb hK hP 16 0 rfl rfl g47 dX3_ifFreed_47 ?_
        refine lv_iload_n hx hb dX3_ifFreed_48 rfl (lv_at hl 1 rfl) ?_
        refine lv_icmp_ne (tgt := 62) hx hb dX3_ifFreed_49 (by decide) (fun c49 => ?_) (fun c49 => ?_)
        · replace h := tw_t c49 h
          refine lv_iinc (v := (v2 + 1)) (lv' := [(2, .int (v2 + 1)), (0, .ref (a 0)), (1, .int p1)]) hx hb dX3_ifFreed_62 hl (k := 2) rfl rfl (by decide) rfl (fun ls hl => ?_)
          refine lv_goto (tgt := 28) hx hb dX3_ifFreed_65 (by decide) ?_
          exact ih28 (v2 + 1) Y H locs ls h (lv_sub hl [1, 2, 0] rfl) hP hD hS
        · replace h := tw_fn c49 h
          refine lv_aload_n hx hb dX3_ifFreed_52 rfl (lv_at hl 0 rfl) ?_
          refine va_get (D := G) (ci := 3) (v := .ref (ta 0)) (C := RX3) (T := TX3) (N := 8) hx hb hts iX3_ifFreed_X3 hown hK hP 0 rfl rfl 2 (by decide) (hts _ qX3_ifFreed_0) (fun _ h9 => h9) rfl dX3_ifFreed_53 ?_
          refine va_get (D := G) (ci := 1) (v := .ref (ta 2)) (C := RX1) (T := TX1) (N := 9) hx hb hts iX3_ifFreed_X1 hown hK hP 14 rfl rfl 1 (by decide) (hts _ qX3_ifFreed_4) (fun _ h9 => h9) rfl dX3_ifFreed_56 ?_
          refine lv_iload_n hx hb dX3_ifFreed_59 rfl (lv_at hl 2 rfl) ?_
          refine lv_iconst (v := (-1 : Int32)) hx hb dX3_ifFreed_60 (by decide) ?_
          obtain ⟨g61, h⟩ := tw_gs h
          refine tw_iast (ws' := (tw_wW cI cQ a na pa ta qa xa z (Y.1, Y.2.1, (Y.2.2.1.1, (upd Y.2.2.1.2.1 v2.toNatClampNeg (-1 : Int32)), Y.2.2.1.2.2.1, Y.2.2.1.2.2.2.1, Y.2.2.1.2.2.2.2.1, Y.2.2.1.2.2.2.2.2.1, Y.2.2.1.2.2.2.2.2.2.1, Y.2.2.1.2.2.2.2.2.2.2.1, Y.2.2.1.2.2.2.2.2.2.2.2), Y.2.2.2.1, Y.2.2.2.2.1, Y.2.2.2.2.2.1, Y.2.2.2.2.2.2.1, Y.2.2.2.2.2.2.2.1, Y.2.2.2.2.2.2.2.2))) (f := Y.2.2.1.2.1) (n := 12) hx hb hK hP hD hS 16 0 rfl rfl g61 dX3_ifFreed_61 rfl (fun H locs hP hD hS => ?_)
          refine lv_iinc (v := (v2 + 1)) (lv' := [(2, .int (v2 + 1)), (0, .ref (a 0)), (1, .int p1)]) hx hb dX3_ifFreed_62 hl (k := 2) rfl rfl (by decide) rfl (fun ls hl => ?_)
          refine lv_goto (tgt := 28) hx hb dX3_ifFreed_65 (by decide) ?_
          exact ih28 (v2 + 1) (Y.1, Y.2.1, (Y.2.2.1.1, (upd Y.2.2.1.2.1 v2.toNatClampNeg (-1 : Int32)), Y.2.2.1.2.2.1, Y.2.2.1.2.2.2.1, Y.2.2.1.2.2.2.2.1, Y.2.2.1.2.2.2.2.2.1, Y.2.2.1.2.2.2.2.2.2.1, Y.2.2.1.2.2.2.2.2.2.2.1, Y.2.2.1.2.2.2.2.2.2.2.2), Y.2.2.2.1, Y.2.2.2.2.1, Y.2.2.2.2.2.1, Y.2.2.2.2.2.2.1, Y.2.2.2.2.2.2.2.1, Y.2.2.2.2.2.2.2.2) H locs ls h (lv_sub hl [1, 2, 0] rfl) hP hD hS
  refine lv_iload_n hx hb dX3_ifFreed_0 rfl (lv_at hl 1 rfl) ?_
  obtain ⟨r1, e1, h⟩ := tw_bs h
  refine tw_callSi (ws' := (tw_wW cI cQ a na pa ta qa xa z Y)) (As := [.int p1]) (rest := []) F hN hK hP hD hS hA (mX3_isPerson l G cI H.size p1 e1) (va_cwS 1 hts gX3_ifFreed_X3_isPerson rfl rfl rfl (by decide +kernel) ⟨(Nat.le_of_ble_eq_true rfl), (Nat.le_of_ble_eq_true rfl)⟩) [0] rfl [] (by decide) rfl rfl rfl rfl hl.1 rfl (Nat.le_of_ble_eq_true rfl) dX3_ifFreed_1 ⟨Nat.zero_le _, Nat.zero_le _⟩ (fun H locs hP hD hS => ?_)
  refine lv_if_ne (tgt := 15) hx hb dX3_ifFreed_4 (by decide) (fun c4 => ?_) (fun c4 => ?_)
  · replace h := tw_t c4 h
    refine lv_aload_n hx hb dX3_ifFreed_15 rfl (lv_at hl 0 rfl) ?_
    refine va_get (D := G) (ci := 3) (v := .ref (ta 0)) (C := RX3) (T := TX3) (N := 8) hx hb hts iX3_ifFreed_X3 hown hK hP 0 rfl rfl 2 (by decide) (hts _ qX3_ifFreed_0) (fun _ h9 => h9) rfl dX3_ifFreed_16 ?_
    refine lv_aload_n hx hb dX3_ifFreed_19 rfl (lv_at hl 0 rfl) ?_
    refine va_get (D := G) (ci := 3) (v := .ref (na 0)) (C := RX3) (T := TX3) (N := 8) hx hb hts iX3_ifFreed_X3 hown hK hP 0 rfl rfl 0 (by decide) (hts _ qX3_ifFreed_5) (fun _ h9 => h9) rfl dX3_ifFreed_20 ?_
    obtain ⟨r23, e23, h⟩ := tw_bs h
    refine tw_callVv (ws' := (tw_wW cI cQ a na pa ta qa xa z (Y.1, Y.2.1, r23, Y.2.2.2.1, Y.2.2.2.2.1, Y.2.2.2.2.2.1, Y.2.2.2.2.2.2.1, Y.2.2.2.2.2.2.2.1, Y.2.2.2.2.2.2.2.2))) (As := [.ref (na 0)]) (rest := []) F hN hK hP hD hS hA (mX1_copyFrom l G cI ta na Y.2.2.1 Y.1 H.size e23) (cwV 1 hts gX3_ifFreed_X1_copyFrom rfl rfl rfl (by decide +kernel) ⟨(Nat.le_of_ble_eq_true rfl), (Nat.le_of_ble_eq_true rfl)⟩) [0] rfl [14, 15, 16, 17, 18, 19, 20, 21, 3, 4, 5, 6, 7, 8, 9, 10] tw_cTN_nd tw_cTN_C rfl tw_cTN_M (r0 := 0) (ci := 1) rfl rfl rfl rfl hl.1 rfl (Nat.le_of_ble_eq_true rfl) dX3_ifFreed_23 ⟨Nat.zero_le _, Nat.zero_le _⟩ (fun H locs hP hD hS => ?_)
    refine lv_iconst (v := (0 : Int32)) hx hb dX3_ifFreed_26 (by decide) ?_
    refine lv_istore_n (lv' := [(2, .int (0 : Int32)), (0, .ref (a 0)), (1, .int p1)]) hx hb dX3_ifFreed_27 rfl hl (by decide) rfl (fun ls hl => ?_)
    exact L28 512 (0 : Int32) (Y.1, Y.2.1, r23, Y.2.2.2.1, Y.2.2.2.2.1, Y.2.2.2.2.2.1, Y.2.2.2.2.2.2.1, Y.2.2.2.2.2.2.2.1, Y.2.2.2.2.2.2.2.2) H locs ls h (lv_sub hl [1, 2, 0] rfl) hP hD hS
  · replace h := tw_fn c4 h
    exact tw_thr h hk (by decide)
abbrev rxX3_ifFreed : Room := { frames := 6, cells := 1, slots := 6, locals := 103 }
set_option maxRecDepth 20000 in
theorem qbX3_ifFreed_0 : (Cond.fieldLink RX3 23 "TheatreWall" "trial" "LTheatreWall$State;") ∈ wsX3_ifFreed := (List.mem_cons_of_mem _ (List.mem_append_left _ (List.mem_append_left _ (List.mem_append_left _ (List.mem_append_left _ (List.mem_append_left _ (List.mem_of_getElem? (i := 2) rfl)))))))
set_option maxRecDepth 20000 in
theorem qbX3_ifFreed_1 : (Cond.fieldLink RX3 61 "TheatreWall$State" "size" "I") ∈ wsX3_ifFreed := (List.mem_cons_of_mem _ (List.mem_append_left _ (List.mem_append_left _ (List.mem_append_left _ (List.mem_append_left _ (List.mem_append_left _ (List.mem_of_getElem? (i := 4) rfl)))))))
set_option maxRecDepth 20000 in
theorem qbX3_ifFreed_2 : (Cond.fieldLink RX3 26 "TheatreWall" "trialPlan" "LTheatreWall$Plan;") ∈ wsX3_ifFreed := (List.mem_cons_of_mem _ (List.mem_append_left _ (List.mem_append_left _ (List.mem_append_left _ (List.mem_append_left _ (List.mem_append_left _ (List.mem_of_getElem? (i := 6) rfl)))))))
set_option maxRecDepth 20000 in
theorem qbX3_ifFreed_3 : (Cond.fieldLink RX3 112 "TheatreWall$Plan" "end" "I") ∈ wsX3_ifFreed := (List.mem_cons_of_mem _ (List.mem_append_left _ (List.mem_append_left _ (List.mem_append_left _ (List.mem_append_left _ (List.mem_append_left _ (List.mem_of_getElem? (i := 7) rfl)))))))
set_option maxRecDepth 20000 in
theorem qbX3_ifFreed_4 : (Cond.fieldLink RX3 171 "TheatreWall$State" "persons" "[I") ∈ wsX3_ifFreed := (List.mem_cons_of_mem _ (List.mem_append_left _ (List.mem_append_left _ (List.mem_append_left _ (List.mem_append_left _ (List.mem_append_left _ (List.mem_of_getElem? (i := 5) rfl)))))))
set_option maxRecDepth 20000 in
theorem qbX3_ifFreed_5 : (Cond.fieldLink RX3 10 "TheatreWall" "now" "LTheatreWall$State;") ∈ wsX3_ifFreed := (List.mem_cons_of_mem _ (List.mem_append_left _ (List.mem_append_left _ (List.mem_append_left _ (List.mem_append_left _ (List.mem_append_left _ (List.mem_of_getElem? (i := 3) rfl)))))))
set_option maxRecDepth 20000 in
theorem qbX3_ifFreed_6 : (Cond.classLink RX3 81 "java/lang/IndexOutOfBoundsException") ∈ wsX3_ifFreed := (List.mem_cons_of_mem _ (List.mem_append_left _ (List.mem_append_left _ (List.mem_append_left _ (List.mem_append_left _ (List.mem_append_left _ (List.mem_of_getElem? (i := 0) rfl)))))))
set_option maxRecDepth 20000 in
theorem qbX3_ifFreed_7 : (Cond.initialized "java/lang/IndexOutOfBoundsException") ∈ wsX3_ifFreed := (List.mem_cons_of_mem _ (List.mem_append_left _ (List.mem_append_left _ (List.mem_append_left _ (List.mem_append_left _ (List.mem_append_left _ (List.mem_of_getElem? (i := 1) rfl)))))))
set_option maxRecDepth 20000 in
theorem ibX3_ifFreed_X3 : ∀ w ∈ u_ws RX3 TX3 8, w ∈ wsX3_ifFreed := fun w h => (List.mem_cons_of_mem _ (List.mem_append_left _ (List.mem_append_left _ (List.mem_append_left _ (List.mem_append_right _ h)))))
set_option maxRecDepth 20000 in
theorem ibX3_ifFreed_X1 : ∀ w ∈ u_ws RX1 TX1 9, w ∈ wsX3_ifFreed := fun w h => (List.mem_cons_of_mem _ (List.mem_append_left _ (List.mem_append_left _ (List.mem_append_right _ h))))
set_option maxRecDepth 20000 in
theorem ibX3_ifFreed_X0 : ∀ w ∈ u_ws RX0 TX0 5, w ∈ wsX3_ifFreed := fun w h => (List.mem_cons_of_mem _ (List.mem_append_left _ (List.mem_append_right _ h)))
set_option maxHeartbeats 4000000 in
set_option maxRecDepth 100000 in
theorem xX3_ifFreed (l : Launch) (hst : l.stackTraces = false) (G : va_G) (cI : ClassId) (cQ : ClassId) (a na pa ta qa xa : Nat → Nat) (z : Nat → Nat → Nat) (Y : tw_Wl) (sz : Nat) (p1 : Int32) {rv : Nat × Int32 × tw_Wl} (h : fX3_ifFreed Y p1 = some rv) (hk : ¬ rv.1 = 0) {Qc : Array Value → State → Outcome → State → Prop} : tw_Mx l yX3_ifFreed wsX3_ifFreed rxX3_ifFreed G [(cI, .int), (cQ, .object RX1)] (tw_wW cI cQ a na pa ta qa xa z Y) [.ref (a 0), .int p1] sz (tw_en rv.1) (tw_wW cI cQ a na pa ta qa xa z rv.2.2) Qc := by
  refine tw_ofx hst (cc := cX3_ifFreed) (maxL := 3) (own := RX3) (by decide) rfl rfl (Nat.le_of_ble_eq_true rfl) (Nat.le_of_ble_eq_true rfl) (Nat.le_of_ble_eq_true rfl) (Nat.le_of_ble_eq_true rfl) (Nat.le_of_ble_eq_true rfl) ?_
  intro p e s m args below meth c Q A ls H locs F hN hK hP hD hS hA hl hNX hq
  obtain ⟨hx, hb, hml, hown, hts⟩ := id F
  have hl : lv_has ls 3 [(0, .ref (a 0)), (1, .int p1)] := hl
  unfold fX3_ifFreed at h
  have L28 : ∀ (n28 : Nat) (v2 : Int32) (Y : tw_Wl) (H : Heap) (locs : List Loc) (ls : Array Slot), fX3_ifFreed_28 p1 n28 v2 Y = some rv → lv_has ls 3 [(0, .ref (a 0)), (1, .int p1), (2, .int v2)] → va_P G vwCl (tw_wW cI cQ a na pa ta qa xa z Y) H → va_D A (tw_wW cI cQ a na pa ta qa xa z Y) → va_S A s.heap H locs → W p l e rxX3_ifFreed s m args below meth c H locs 0 0 Q (F0 m 28 ls []) := by
    intro n28
    induction n28 with
    | zero =>
      intro v2 Y H locs ls h
      rw [fX3_ifFreed_28] at h
      cases h
    | succ n28 ih28 =>
      intro v2 Y H locs ls h hl hP hD hS
      rw [fX3_ifFreed_28] at h
      refine lv_iload_n hx hb dX3_ifFreed_28 rfl (lv_at hl 2 rfl) ?_
      refine lv_aload_n hx hb dX3_ifFreed_29 rfl (lv_at hl 0 rfl) ?_
      refine va_get (D := G) (ci := 3) (v := .ref (ta 0)) (C := RX3) (T := TX3) (N := 8) hx hb hts ibX3_ifFreed_X3 hown hK hP 0 rfl rfl 2 (by decide) (hts _ qbX3_ifFreed_0) (fun _ h9 => h9) rfl dX3_ifFreed_30 ?_
      refine va_get (D := G) (ci := 1) (v := .int Y.2.2.1.2.2.2.2.2.2.2.1) (C := RX1) (T := TX1) (N := 9) hx hb hts ibX3_ifFreed_X1 hown hK hP 14 rfl rfl 7 (by decide) (hts _ qbX3_ifFreed_1) (fun _ h9 => h9) rfl dX3_ifFreed_33 ?_
      refine lv_icmp_ge (tgt := 68) hx hb dX3_ifFreed_36 (by decide) (fun c36 => ?_) (fun c36 => ?_)
      · replace h := tw_t c36 h
        refine lv_aload_n hx hb dX3_ifFreed_68 rfl (lv_at hl 0 rfl) ?_
        refine va_get (D := G) (ci := 3) (v := .ref (qa 0)) (C := RX3) (T := TX3) (N := 8) hx hb hts ibX3_ifFreed_X3 hown hK hP 0 rfl rfl 3 (by decide) (hts _ qbX3_ifFreed_2) (fun _ h9 => h9) rfl dX3_ifFreed_69 ?_
        refine lv_aload_n hx hb dX3_ifFreed_72 rfl (lv_at hl 0 rfl) ?_
        refine va_get (D := G) (ci := 3) (v := .ref (ta 0)) (C := RX3) (T := TX3) (N := 8) hx hb hts ibX3_ifFreed_X3 hown hK hP 0 rfl rfl 2 (by decide) (hts _ qbX3_ifFreed_0) (fun _ h9 => h9) rfl dX3_ifFreed_73 ?_
        obtain ⟨r76, e76, h⟩ := tw_bs h
        refine tw_callVv (ws' := (tw_wW cI cQ a na pa ta qa xa z (Y.1, Y.2.1, Y.2.2.1, r76, Y.2.2.2.2.1, Y.2.2.2.2.2.1, Y.2.2.2.2.2.2.1, Y.2.2.2.2.2.2.2.1, Y.2.2.2.2.2.2.2.2))) (As := [.ref (ta 0)]) (rest := []) F hN hK hP hD hS hA (mX0_lay l G cI qa ta Y.2.2.2.1 Y.2.2.1 H.size e76) (cwV 1 hts gX3_ifFreed_X0_lay rfl rfl rfl (by decide +kernel) ⟨(Nat.le_of_ble_eq_true rfl), (Nat.le_of_ble_eq_true rfl)⟩) [0] rfl [22, 23, 24, 14, 15, 16, 17, 18, 19, 20, 21] tw_cQT_nd tw_cQT_C rfl tw_cQT_M (r0 := 0) (ci := 0) rfl rfl rfl rfl hl.1 rfl (Nat.le_of_ble_eq_true rfl) dX3_ifFreed_76 ⟨Nat.zero_le _, Nat.zero_le _⟩ (fun H locs hP hD hS => ?_)
        refine lv_aload_n hx hb dX3_ifFreed_79 rfl (lv_at hl 0 rfl) ?_
        refine va_get (D := G) (ci := 3) (v := .ref (qa 0)) (C := RX3) (T := TX3) (N := 8) hx hb hts ibX3_ifFreed_X3 hown hK hP 0 rfl rfl 3 (by decide) (hts _ qbX3_ifFreed_2) (fun _ h9 => h9) rfl dX3_ifFreed_80 ?_
        refine va_get (D := G) (ci := 0) (v := .int r76.2.2.2.2) (C := RX0) (T := TX0) (N := 5) hx hb hts ibX3_ifFreed_X0 hown hK hP 22 rfl rfl 4 (by decide) (hts _ qbX3_ifFreed_3) (fun _ h9 => h9) rfl dX3_ifFreed_83 ?_
        exact absurd (tw_rt (fun r => r.1 = 0) h rfl) hk
      · replace h := tw_f c36 h
        refine lv_aload_n hx hb dX3_ifFreed_39 rfl (lv_at hl 0 rfl) ?_
        refine va_get (D := G) (ci := 3) (v := .ref (ta 0)) (C := RX3) (T := TX3) (N := 8) hx hb hts ibX3_ifFreed_X3 hown hK hP 0 rfl rfl 2 (by decide) (hts _ qbX3_ifFreed_0) (fun _ h9 => h9) rfl dX3_ifFreed_40 ?_
        refine va_get (D := G) (ci := 1) (v := .ref (ta 2)) (C := RX1) (T := TX1) (N := 9) hx hb hts ibX3_ifFreed_X1 hown hK hP 14 rfl rfl 1 (by decide) (hts _ qbX3_ifFreed_4) (fun _ h9 => h9) rfl dX3_ifFreed_43 ?_
        refine lv_iload_n hx hb dX3_ifFreed_46 rfl (lv_at hl 2 rfl) ?_
        obtain ⟨g47, h⟩ := tw_gs h
        refine va_iald (f := Y.2.2.1.2.1) (n := 12) hx hb hK hP 16 0 rfl rfl g47 dX3_ifFreed_47 ?_
        refine lv_iload_n hx hb dX3_ifFreed_48 rfl (lv_at hl 1 rfl) ?_
        refine lv_icmp_ne (tgt := 62) hx hb dX3_ifFreed_49 (by decide) (fun c49 => ?_) (fun c49 => ?_)
        · replace h := tw_t c49 h
          refine lv_iinc (v := (v2 + 1)) (lv' := [(2, .int (v2 + 1)), (0, .ref (a 0)), (1, .int p1)]) hx hb dX3_ifFreed_62 hl (k := 2) rfl rfl (by decide) rfl (fun ls hl => ?_)
          refine lv_goto (tgt := 28) hx hb dX3_ifFreed_65 (by decide) ?_
          exact ih28 (v2 + 1) Y H locs ls h (lv_sub hl [1, 2, 0] rfl) hP hD hS
        · replace h := tw_fn c49 h
          refine lv_aload_n hx hb dX3_ifFreed_52 rfl (lv_at hl 0 rfl) ?_
          refine va_get (D := G) (ci := 3) (v := .ref (ta 0)) (C := RX3) (T := TX3) (N := 8) hx hb hts ibX3_ifFreed_X3 hown hK hP 0 rfl rfl 2 (by decide) (hts _ qbX3_ifFreed_0) (fun _ h9 => h9) rfl dX3_ifFreed_53 ?_
          refine va_get (D := G) (ci := 1) (v := .ref (ta 2)) (C := RX1) (T := TX1) (N := 9) hx hb hts ibX3_ifFreed_X1 hown hK hP 14 rfl rfl 1 (by decide) (hts _ qbX3_ifFreed_4) (fun _ h9 => h9) rfl dX3_ifFreed_56 ?_
          refine lv_iload_n hx hb dX3_ifFreed_59 rfl (lv_at hl 2 rfl) ?_
          refine lv_iconst (v := (-1 : Int32)) hx hb dX3_ifFreed_60 (by decide) ?_
          obtain ⟨g61, h⟩ := tw_gs h
          refine tw_iast (ws' := (tw_wW cI cQ a na pa ta qa xa z (Y.1, Y.2.1, (Y.2.2.1.1, (upd Y.2.2.1.2.1 v2.toNatClampNeg (-1 : Int32)), Y.2.2.1.2.2.1, Y.2.2.1.2.2.2.1, Y.2.2.1.2.2.2.2.1, Y.2.2.1.2.2.2.2.2.1, Y.2.2.1.2.2.2.2.2.2.1, Y.2.2.1.2.2.2.2.2.2.2.1, Y.2.2.1.2.2.2.2.2.2.2.2), Y.2.2.2.1, Y.2.2.2.2.1, Y.2.2.2.2.2.1, Y.2.2.2.2.2.2.1, Y.2.2.2.2.2.2.2.1, Y.2.2.2.2.2.2.2.2))) (f := Y.2.2.1.2.1) (n := 12) hx hb hK hP hD hS 16 0 rfl rfl g61 dX3_ifFreed_61 rfl (fun H locs hP hD hS => ?_)
          refine lv_iinc (v := (v2 + 1)) (lv' := [(2, .int (v2 + 1)), (0, .ref (a 0)), (1, .int p1)]) hx hb dX3_ifFreed_62 hl (k := 2) rfl rfl (by decide) rfl (fun ls hl => ?_)
          refine lv_goto (tgt := 28) hx hb dX3_ifFreed_65 (by decide) ?_
          exact ih28 (v2 + 1) (Y.1, Y.2.1, (Y.2.2.1.1, (upd Y.2.2.1.2.1 v2.toNatClampNeg (-1 : Int32)), Y.2.2.1.2.2.1, Y.2.2.1.2.2.2.1, Y.2.2.1.2.2.2.2.1, Y.2.2.1.2.2.2.2.2.1, Y.2.2.1.2.2.2.2.2.2.1, Y.2.2.1.2.2.2.2.2.2.2.1, Y.2.2.1.2.2.2.2.2.2.2.2), Y.2.2.2.1, Y.2.2.2.2.1, Y.2.2.2.2.2.1, Y.2.2.2.2.2.2.1, Y.2.2.2.2.2.2.2.1, Y.2.2.2.2.2.2.2.2) H locs ls h (lv_sub hl [1, 2, 0] rfl) hP hD hS
  refine lv_iload_n hx hb dX3_ifFreed_0 rfl (lv_at hl 1 rfl) ?_
  obtain ⟨r1, e1, h⟩ := tw_bs h
  refine tw_callSi (ws' := (tw_wW cI cQ a na pa ta qa xa z Y)) (As := [.int p1]) (rest := []) F hN hK hP hD hS hA (mX3_isPerson l G cI H.size p1 e1) (va_cwS 1 hts gX3_ifFreed_X3_isPerson rfl rfl rfl (by decide +kernel) ⟨(Nat.le_of_ble_eq_true rfl), (Nat.le_of_ble_eq_true rfl)⟩) [0] rfl [] (by decide) rfl rfl rfl rfl hl.1 rfl (Nat.le_of_ble_eq_true rfl) dX3_ifFreed_1 ⟨Nat.zero_le _, Nat.zero_le _⟩ (fun H locs hP hD hS => ?_)
  refine lv_if_ne (tgt := 15) hx hb dX3_ifFreed_4 (by decide) (fun c4 => ?_) (fun c4 => ?_)
  · replace h := tw_t c4 h
    refine lv_aload_n hx hb dX3_ifFreed_15 rfl (lv_at hl 0 rfl) ?_
    refine va_get (D := G) (ci := 3) (v := .ref (ta 0)) (C := RX3) (T := TX3) (N := 8) hx hb hts ibX3_ifFreed_X3 hown hK hP 0 rfl rfl 2 (by decide) (hts _ qbX3_ifFreed_0) (fun _ h9 => h9) rfl dX3_ifFreed_16 ?_
    refine lv_aload_n hx hb dX3_ifFreed_19 rfl (lv_at hl 0 rfl) ?_
    refine va_get (D := G) (ci := 3) (v := .ref (na 0)) (C := RX3) (T := TX3) (N := 8) hx hb hts ibX3_ifFreed_X3 hown hK hP 0 rfl rfl 0 (by decide) (hts _ qbX3_ifFreed_5) (fun _ h9 => h9) rfl dX3_ifFreed_20 ?_
    obtain ⟨r23, e23, h⟩ := tw_bs h
    refine tw_callVv (ws' := (tw_wW cI cQ a na pa ta qa xa z (Y.1, Y.2.1, r23, Y.2.2.2.1, Y.2.2.2.2.1, Y.2.2.2.2.2.1, Y.2.2.2.2.2.2.1, Y.2.2.2.2.2.2.2.1, Y.2.2.2.2.2.2.2.2))) (As := [.ref (na 0)]) (rest := []) F hN hK hP hD hS hA (mX1_copyFrom l G cI ta na Y.2.2.1 Y.1 H.size e23) (cwV 1 hts gX3_ifFreed_X1_copyFrom rfl rfl rfl (by decide +kernel) ⟨(Nat.le_of_ble_eq_true rfl), (Nat.le_of_ble_eq_true rfl)⟩) [0] rfl [14, 15, 16, 17, 18, 19, 20, 21, 3, 4, 5, 6, 7, 8, 9, 10] tw_cTN_nd tw_cTN_C rfl tw_cTN_M (r0 := 0) (ci := 1) rfl rfl rfl rfl hl.1 rfl (Nat.le_of_ble_eq_true rfl) dX3_ifFreed_23 ⟨Nat.zero_le _, Nat.zero_le _⟩ (fun H locs hP hD hS => ?_)
    refine lv_iconst (v := (0 : Int32)) hx hb dX3_ifFreed_26 (by decide) ?_
    refine lv_istore_n (lv' := [(2, .int (0 : Int32)), (0, .ref (a 0)), (1, .int p1)]) hx hb dX3_ifFreed_27 rfl hl (by decide) rfl (fun ls hl => ?_)
    exact L28 512 (0 : Int32) (Y.1, Y.2.1, r23, Y.2.2.2.1, Y.2.2.2.2.1, Y.2.2.2.2.2.1, Y.2.2.2.2.2.2.1, Y.2.2.2.2.2.2.2.1, Y.2.2.2.2.2.2.2.2) H locs ls h (lv_sub hl [1, 2, 0] rfl) hP hD hS
  · replace h := tw_fn c4 h
    exact hq H locs 7 ls tw_E3 81 83 (tw_rt (fun r => tw_E3 = tw_en r.1) h rfl) (by decide) (hts _ qbX3_ifFreed_6) (hts _ qbX3_ifFreed_7) (vx_hat (fun w h => hts w (List.mem_cons_of_mem _ (List.mem_append_right _ h))) tw_xb3 hNX.words) tw_xg3 dX3_ifFreed_7 dX3_ifFreed_10 dX3_ifFreed_11 dX3_ifFreed_14 hl.1 (tw_rt (fun r => va_P G vwCl (tw_wW cI cQ a na pa ta qa xa z r.2.2) H) h hP) hS
abbrev rmX3_worstSlip : Room := { frames := 4, cells := 0, slots := 0, locals := 103 }
set_option maxRecDepth 20000 in
theorem qX3_worstSlip_0 : (Cond.fieldLink RX3 10 "TheatreWall" "now" "LTheatreWall$State;") ∈ wsX3_worstSlip := (List.mem_cons_of_mem _ (List.mem_append_left _ (List.mem_append_left _ (List.mem_append_left _ (List.mem_append_left _ (List.mem_append_left _ (List.mem_of_getElem? (i := 2) rfl)))))))
set_option maxRecDepth 20000 in
theorem qX3_worstSlip_1 : (Cond.fieldLink RX3 61 "TheatreWall$State" "size" "I") ∈ wsX3_worstSlip := (List.mem_cons_of_mem _ (List.mem_append_left _ (List.mem_append_left _ (List.mem_append_left _ (List.mem_append_left _ (List.mem_append_left _ (List.mem_of_getElem? (i := 3) rfl)))))))
set_option maxRecDepth 20000 in
theorem qX3_worstSlip_2 : (Cond.fieldLink RX3 23 "TheatreWall" "trial" "LTheatreWall$State;") ∈ wsX3_worstSlip := (List.mem_cons_of_mem _ (List.mem_append_left _ (List.mem_append_left _ (List.mem_append_left _ (List.mem_append_left _ (List.mem_append_left _ (List.mem_of_getElem? (i := 4) rfl)))))))
set_option maxRecDepth 20000 in
theorem qX3_worstSlip_3 : (Cond.fieldLink RX3 115 "TheatreWall$State" "earliest" "[I") ∈ wsX3_worstSlip := (List.mem_cons_of_mem _ (List.mem_append_left _ (List.mem_append_left _ (List.mem_append_left _ (List.mem_append_left _ (List.mem_append_left _ (List.mem_of_getElem? (i := 5) rfl)))))))
set_option maxRecDepth 20000 in
theorem qX3_worstSlip_4 : (Cond.fieldLink RX3 19 "TheatreWall" "plan" "LTheatreWall$Plan;") ∈ wsX3_worstSlip := (List.mem_cons_of_mem _ (List.mem_append_left _ (List.mem_append_left _ (List.mem_append_left _ (List.mem_append_left _ (List.mem_append_left _ (List.mem_of_getElem? (i := 6) rfl)))))))
set_option maxRecDepth 20000 in
theorem qX3_worstSlip_5 : (Cond.fieldLink RX3 118 "TheatreWall$Plan" "begins" "[I") ∈ wsX3_worstSlip := (List.mem_cons_of_mem _ (List.mem_append_left _ (List.mem_append_left _ (List.mem_append_left _ (List.mem_append_left _ (List.mem_append_left _ (List.mem_of_getElem? (i := 7) rfl)))))))
set_option maxRecDepth 20000 in
theorem qX3_worstSlip_6 : (Cond.fieldLink RX3 26 "TheatreWall" "trialPlan" "LTheatreWall$Plan;") ∈ wsX3_worstSlip := (List.mem_cons_of_mem _ (List.mem_append_left _ (List.mem_append_left _ (List.mem_append_left _ (List.mem_append_left _ (List.mem_append_left _ (List.mem_of_getElem? (i := 8) rfl)))))))
set_option maxRecDepth 20000 in
theorem qX3_worstSlip_7 : (Cond.fieldLink RX3 112 "TheatreWall$Plan" "end" "I") ∈ wsX3_worstSlip := (List.mem_cons_of_mem _ (List.mem_append_left _ (List.mem_append_left _ (List.mem_append_left _ (List.mem_append_left _ (List.mem_append_left _ (List.mem_of_getElem? (i := 9) rfl)))))))
set_option maxRecDepth 20000 in
theorem iX3_worstSlip_X3 : ∀ w ∈ u_ws RX3 TX3 8, w ∈ wsX3_worstSlip := fun w h => (List.mem_cons_of_mem _ (List.mem_append_left _ (List.mem_append_left _ (List.mem_append_left _ (List.mem_append_right _ h)))))
set_option maxRecDepth 20000 in
theorem iX3_worstSlip_X1 : ∀ w ∈ u_ws RX1 TX1 9, w ∈ wsX3_worstSlip := fun w h => (List.mem_cons_of_mem _ (List.mem_append_left _ (List.mem_append_left _ (List.mem_append_right _ h))))
set_option maxRecDepth 20000 in
theorem iX3_worstSlip_X0 : ∀ w ∈ u_ws RX0 TX0 5, w ∈ wsX3_worstSlip := fun w h => (List.mem_cons_of_mem _ (List.mem_append_left _ (List.mem_append_right _ h)))
set_option maxHeartbeats 4000000 in
set_option maxRecDepth 100000 in
theorem mX3_worstSlip (l : Launch) (G : va_G) (cI : ClassId) (cQ : ClassId) (a na pa ta qa xa : Nat → Nat) (z : Nat → Nat → Nat) (Y : tw_Wl) (sz : Nat) (p1 : Int32) {rv : Nat × Int32 × tw_Wl} (h : fX3_worstSlip Y p1 = some rv) (hk : rv.1 = 0) : tw_Mi l yX3_worstSlip wsX3_worstSlip rmX3_worstSlip G [(cI, .int), (cQ, .object RX1)] (tw_wW cI cQ a na pa ta qa xa z Y) [.ref (a 0), .int p1] sz rv.2.1 (tw_wW cI cQ a na pa ta qa xa z rv.2.2) := by
  refine tw_ofi (ty := .int) (cc := cX3_worstSlip) (maxL := 5) (own := RX3) (by decide) rfl rfl (Nat.le_of_ble_eq_true rfl) ?_
  intro p e s m args below meth c Q A ls H locs F hN hK hP hD hS hA hl hq
  obtain ⟨hx, hb, hml, hown, hts⟩ := id F
  have hl : lv_has ls 5 [(0, .ref (a 0)), (1, .int p1)] := hl
  unfold fX3_worstSlip at h
  have L22 : ∀ (n22 : Nat) (v2 : Int32) (v3 : Int32) (v4 : Int32) (Y : tw_Wl) (H : Heap) (locs : List Loc) (ls : Array Slot), fX3_worstSlip_22 p1 n22 v2 v3 v4 Y = some rv → lv_has ls 5 [(0, .ref (a 0)), (1, .int p1), (2, .int v2), (3, .int v3), (4, .int v4)] → va_P G vwCl (tw_wW cI cQ a na pa ta qa xa z Y) H → va_D A (tw_wW cI cQ a na pa ta qa xa z Y) → va_S A s.heap H locs → W p l e rmX3_worstSlip s m args below meth c H locs 0 0 Q (F0 m 22 ls []) := by
    intro n22
    induction n22 with
    | zero =>
      intro v2 v3 v4 Y H locs ls h
      rw [fX3_worstSlip_22] at h
      cases h
    | succ n22 ih22 =>
      intro v2 v3 v4 Y H locs ls h hl hP hD hS
      rw [fX3_worstSlip_22] at h
      refine lv_iload hx hb dX3_worstSlip_22 (lv_at hl 4 rfl) ?_
      refine lv_aload_n hx hb dX3_worstSlip_24 rfl (lv_at hl 0 rfl) ?_
      refine va_get (D := G) (ci := 3) (v := .ref (na 0)) (C := RX3) (T := TX3) (N := 8) hx hb hts iX3_worstSlip_X3 hown hK hP 0 rfl rfl 0 (by decide) (hts _ qX3_worstSlip_0) (fun _ h9 => h9) rfl dX3_worstSlip_25 ?_
      refine va_get (D := G) (ci := 1) (v := .int Y.1.2.2.2.2.2.2.2.1) (C := RX1) (T := TX1) (N := 9) hx hb hts iX3_worstSlip_X1 hown hK hP 3 rfl rfl 7 (by decide) (hts _ qX3_worstSlip_1) (fun _ h9 => h9) rfl dX3_worstSlip_28 ?_
      refine lv_icmp_ge (tgt := 116) hx hb dX3_worstSlip_31 (by decide) (fun c31 => ?_) (fun c31 => ?_)
      · replace h := tw_t c31 h
        refine lv_iload_n hx hb dX3_worstSlip_116 rfl (lv_at hl 2 rfl) ?_
        exact hq H locs _ ls v2 (tw_rt (fun r => r.2.1 = v2) h rfl) rfl (tw_rt (fun r => va_P G vwCl (tw_wW cI cQ a na pa ta qa xa z r.2.2) H) h hP) hS dX3_worstSlip_117
      · replace h := tw_f c31 h
        refine lv_aload_n hx hb dX3_worstSlip_34 rfl (lv_at hl 0 rfl) ?_
        refine lv_iload hx hb dX3_worstSlip_35 (lv_at hl 4 rfl) ?_
        refine lv_iload_n hx hb dX3_worstSlip_37 rfl (lv_at hl 1 rfl) ?_
        obtain ⟨r38, e38, h⟩ := tw_bs h
        refine tw_callViF (ws' := (tw_wW cI cQ a na pa ta qa xa z Y)) (As := [.int v4, .int p1]) (rest := []) F hN hK hP hD hS hA (mX3_couldSlip l G cI cQ a na pa ta qa xa z Y H.size v4 p1 e38) (cwV 2 hts gX3_worstSlip_X3_couldSlip rfl rfl rfl (by decide +kernel) ⟨(Nat.le_of_ble_eq_true rfl), (Nat.le_of_ble_eq_true rfl)⟩) rfl (r0 := 0) (ci := 3) rfl rfl rfl rfl hl.1 rfl (Nat.le_of_ble_eq_true rfl) dX3_worstSlip_38 ⟨Nat.zero_le _, Nat.zero_le _⟩ (fun H locs hP hD hS => ?_)
        refine lv_if_eq (tgt := 110) hx hb dX3_worstSlip_41 (by decide) (fun c41 => ?_) (fun c41 => ?_)
        · replace h := tw_t c41 h
          refine lv_iinc (v := (v4 + 1)) (lv' := [(4, .int (v4 + 1)), (0, .ref (a 0)), (1, .int p1), (2, .int v2), (3, .int v3)]) hx hb dX3_worstSlip_110 hl (k := 4) rfl rfl (by decide) rfl (fun ls hl => ?_)
          refine lv_goto (tgt := 22) hx hb dX3_worstSlip_113 (by decide) ?_
          exact ih22 v2 v3 (v4 + 1) Y H locs ls h (lv_sub hl [1, 2, 3, 4, 0] rfl) hP hD hS
        · replace h := tw_f c41 h
          refine lv_aload_n hx hb dX3_worstSlip_44 rfl (lv_at hl 0 rfl) ?_
          refine va_get (D := G) (ci := 3) (v := .ref (ta 0)) (C := RX3) (T := TX3) (N := 8) hx hb hts iX3_worstSlip_X3 hown hK hP 0 rfl rfl 2 (by decide) (hts _ qX3_worstSlip_2) (fun _ h9 => h9) rfl dX3_worstSlip_45 ?_
          refine lv_aload_n hx hb dX3_worstSlip_48 rfl (lv_at hl 0 rfl) ?_
          refine va_get (D := G) (ci := 3) (v := .ref (na 0)) (C := RX3) (T := TX3) (N := 8) hx hb hts iX3_worstSlip_X3 hown hK hP 0 rfl rfl 0 (by decide) (hts _ qX3_worstSlip_0) (fun _ h9 => h9) rfl dX3_worstSlip_49 ?_
          obtain ⟨r52, e52, h⟩ := tw_bs h
          refine tw_callVv (ws' := (tw_wW cI cQ a na pa ta qa xa z (Y.1, Y.2.1, r52, Y.2.2.2.1, Y.2.2.2.2.1, Y.2.2.2.2.2.1, Y.2.2.2.2.2.2.1, Y.2.2.2.2.2.2.2.1, Y.2.2.2.2.2.2.2.2))) (As := [.ref (na 0)]) (rest := []) F hN hK hP hD hS hA (mX1_copyFrom l G cI ta na Y.2.2.1 Y.1 H.size e52) (cwV 1 hts gX3_worstSlip_X1_copyFrom rfl rfl rfl (by decide +kernel) ⟨(Nat.le_of_ble_eq_true rfl), (Nat.le_of_ble_eq_true rfl)⟩) [0] rfl [14, 15, 16, 17, 18, 19, 20, 21, 3, 4, 5, 6, 7, 8, 9, 10] tw_cTN_nd tw_cTN_C rfl tw_cTN_M (r0 := 0) (ci := 1) rfl rfl rfl rfl hl.1 rfl (Nat.le_of_ble_eq_true rfl) dX3_worstSlip_52 ⟨Nat.zero_le _, Nat.zero_le _⟩ (fun H locs hP hD hS => ?_)
          refine lv_aload_n hx hb dX3_worstSlip_55 rfl (lv_at hl 0 rfl) ?_
          refine va_get (D := G) (ci := 3) (v := .ref (ta 0)) (C := RX3) (T := TX3) (N := 8) hx hb hts iX3_worstSlip_X3 hown hK hP 0 rfl rfl 2 (by decide) (hts _ qX3_worstSlip_2) (fun _ h9 => h9) rfl dX3_worstSlip_56 ?_
          refine va_get (D := G) (ci := 1) (v := .ref (ta 4)) (C := RX1) (T := TX1) (N := 9) hx hb hts iX3_worstSlip_X1 hown hK hP 14 rfl rfl 3 (by decide) (hts _ qX3_worstSlip_3) (fun _ h9 => h9) rfl dX3_worstSlip_59 ?_
          refine lv_iload hx hb dX3_worstSlip_62 (lv_at hl 4 rfl) ?_
          refine lv_aload_n hx hb dX3_worstSlip_64 rfl (lv_at hl 0 rfl) ?_
          refine va_get (D := G) (ci := 3) (v := .ref (pa 0)) (C := RX3) (T := TX3) (N := 8) hx hb hts iX3_worstSlip_X3 hown hK hP 0 rfl rfl 1 (by decide) (hts _ qX3_worstSlip_4) (fun _ h9 => h9) rfl dX3_worstSlip_65 ?_
          refine va_get (D := G) (ci := 0) (v := .ref (pa 1)) (C := RX0) (T := TX0) (N := 5) hx hb hts iX3_worstSlip_X0 hown hK hP 11 rfl rfl 0 (by decide) (hts _ qX3_worstSlip_5) (fun _ h9 => h9) rfl dX3_worstSlip_68 ?_
          refine lv_iload hx hb dX3_worstSlip_71 (lv_at hl 4 rfl) ?_
          obtain ⟨g73, h⟩ := tw_gs h
          refine va_iald (f := Y.2.1.1) (n := 12) hx hb hK hP 12 0 rfl rfl g73 dX3_worstSlip_73 ?_
          refine lv_iload_n hx hb dX3_worstSlip_74 rfl (lv_at hl 1 rfl) ?_
          refine lv_iadd hx hb dX3_worstSlip_75 ?_
          obtain ⟨g76, h⟩ := tw_gs h
          refine tw_iast (ws' := (tw_wW cI cQ a na pa ta qa xa z (Y.1, Y.2.1, (r52.1, r52.2.1, r52.2.2.1, (upd r52.2.2.2.1 v4.toNatClampNeg ((Y.2.1.1 v4.toNatClampNeg) + p1)), r52.2.2.2.2.1, r52.2.2.2.2.2.1, r52.2.2.2.2.2.2.1, r52.2.2.2.2.2.2.2.1, r52.2.2.2.2.2.2.2.2), Y.2.2.2.1, Y.2.2.2.2.1, Y.2.2.2.2.2.1, Y.2.2.2.2.2.2.1, Y.2.2.2.2.2.2.2.1, Y.2.2.2.2.2.2.2.2))) (f := r52.2.2.2.1) (n := 12) hx hb hK hP hD hS 18 0 rfl rfl g76 dX3_worstSlip_76 rfl (fun H locs hP hD hS => ?_)
          refine lv_aload_n hx hb dX3_worstSlip_77 rfl (lv_at hl 0 rfl) ?_
          refine va_get (D := G) (ci := 3) (v := .ref (qa 0)) (C := RX3) (T := TX3) (N := 8) hx hb hts iX3_worstSlip_X3 hown hK hP 0 rfl rfl 3 (by decide) (hts _ qX3_worstSlip_6) (fun _ h9 => h9) rfl dX3_worstSlip_78 ?_
          refine lv_aload_n hx hb dX3_worstSlip_81 rfl (lv_at hl 0 rfl) ?_
          refine va_get (D := G) (ci := 3) (v := .ref (ta 0)) (C := RX3) (T := TX3) (N := 8) hx hb hts iX3_worstSlip_X3 hown hK hP 0 rfl rfl 2 (by decide) (hts _ qX3_worstSlip_2) (fun _ h9 => h9) rfl dX3_worstSlip_82 ?_
          obtain ⟨r85, e85, h⟩ := tw_bs h
          refine tw_callVv (ws' := (tw_wW cI cQ a na pa ta qa xa z (Y.1, Y.2.1, (r52.1, r52.2.1, r52.2.2.1, (upd r52.2.2.2.1 v4.toNatClampNeg ((Y.2.1.1 v4.toNatClampNeg) + p1)), r52.2.2.2.2.1, r52.2.2.2.2.2.1, r52.2.2.2.2.2.2.1, r52.2.2.2.2.2.2.2.1, r52.2.2.2.2.2.2.2.2), r85, Y.2.2.2.2.1, Y.2.2.2.2.2.1, Y.2.2.2.2.2.2.1, Y.2.2.2.2.2.2.2.1, Y.2.2.2.2.2.2.2.2))) (As := [.ref (ta 0)]) (rest := []) F hN hK hP hD hS hA (mX0_lay l G cI qa ta Y.2.2.2.1 (r52.1, r52.2.1, r52.2.2.1, (upd r52.2.2.2.1 v4.toNatClampNeg ((Y.2.1.1 v4.toNatClampNeg) + p1)), r52.2.2.2.2.1, r52.2.2.2.2.2.1, r52.2.2.2.2.2.2.1, r52.2.2.2.2.2.2.2.1, r52.2.2.2.2.2.2.2.2) H.size e85) (cwV 1 hts gX3_worstSlip_X0_lay rfl rfl rfl (by decide +kernel) ⟨(Nat.le_of_ble_eq_true rfl), (Nat.le_of_ble_eq_true rfl)⟩) [0] rfl [22, 23, 24, 14, 15, 16, 17, 18, 19, 20, 21] tw_cQT_nd tw_cQT_C rfl tw_cQT_M (r0 := 0) (ci := 0) rfl rfl rfl rfl hl.1 rfl (Nat.le_of_ble_eq_true rfl) dX3_worstSlip_85 ⟨Nat.zero_le _, Nat.zero_le _⟩ (fun H locs hP hD hS => ?_)
          refine lv_aload_n hx hb dX3_worstSlip_88 rfl (lv_at hl 0 rfl) ?_
          refine va_get (D := G) (ci := 3) (v := .ref (qa 0)) (C := RX3) (T := TX3) (N := 8) hx hb hts iX3_worstSlip_X3 hown hK hP 0 rfl rfl 3 (by decide) (hts _ qX3_worstSlip_6) (fun _ h9 => h9) rfl dX3_worstSlip_89 ?_
          refine va_get (D := G) (ci := 0) (v := .int r85.2.2.2.2) (C := RX0) (T := TX0) (N := 5) hx hb hts iX3_worstSlip_X0 hown hK hP 22 rfl rfl 4 (by decide) (hts _ qX3_worstSlip_7) (fun _ h9 => h9) rfl dX3_worstSlip_92 ?_
          refine lv_iload_n hx hb dX3_worstSlip_95 rfl (lv_at hl 3 rfl) ?_
          refine lv_icmp_le (tgt := 110) hx hb dX3_worstSlip_96 (by decide) (fun c96 => ?_) (fun c96 => ?_)
          · replace h := tw_t c96 h
            refine lv_iinc (v := (v4 + 1)) (lv' := [(4, .int (v4 + 1)), (0, .ref (a 0)), (1, .int p1), (2, .int v2), (3, .int v3)]) hx hb dX3_worstSlip_110 hl (k := 4) rfl rfl (by decide) rfl (fun ls hl => ?_)
            refine lv_goto (tgt := 22) hx hb dX3_worstSlip_113 (by decide) ?_
            exact ih22 v2 v3 (v4 + 1) (Y.1, Y.2.1, (r52.1, r52.2.1, r52.2.2.1, (upd r52.2.2.2.1 v4.toNatClampNeg ((Y.2.1.1 v4.toNatClampNeg) + p1)), r52.2.2.2.2.1, r52.2.2.2.2.2.1, r52.2.2.2.2.2.2.1, r52.2.2.2.2.2.2.2.1, r52.2.2.2.2.2.2.2.2), r85, Y.2.2.2.2.1, Y.2.2.2.2.2.1, Y.2.2.2.2.2.2.1, Y.2.2.2.2.2.2.2.1, Y.2.2.2.2.2.2.2.2) H locs ls h (lv_sub hl [1, 2, 3, 4, 0] rfl) hP hD hS
          · replace h := tw_f c96 h
            refine lv_iload hx hb dX3_worstSlip_99 (lv_at hl 4 rfl) ?_
            refine lv_istore_n (lv' := [(2, .int v4), (0, .ref (a 0)), (1, .int p1), (3, .int v3), (4, .int v4)]) hx hb dX3_worstSlip_101 rfl hl (by decide) rfl (fun ls hl => ?_)
            refine lv_aload_n hx hb dX3_worstSlip_102 rfl (lv_at hl 1 rfl) ?_
            refine va_get (D := G) (ci := 3) (v := .ref (qa 0)) (C := RX3) (T := TX3) (N := 8) hx hb hts iX3_worstSlip_X3 hown hK hP 0 rfl rfl 3 (by decide) (hts _ qX3_worstSlip_6) (fun _ h9 => h9) rfl dX3_worstSlip_103 ?_
            refine va_get (D := G) (ci := 0) (v := .int r85.2.2.2.2) (C := RX0) (T := TX0) (N := 5) hx hb hts iX3_worstSlip_X0 hown hK hP 22 rfl rfl 4 (by decide) (hts _ qX3_worstSlip_7) (fun _ h9 => h9) rfl dX3_worstSlip_106 ?_
            refine lv_istore_n (lv' := [(3, .int r85.2.2.2.2), (2, .int v4), (0, .ref (a 0)), (1, .int p1), (4, .int v4)]) hx hb dX3_worstSlip_109 rfl hl (by decide) rfl (fun ls hl => ?_)
            refine lv_iinc (v := (v4 + 1)) (lv' := [(4, .int (v4 + 1)), (3, .int r85.2.2.2.2), (2, .int v4), (0, .ref (a 0)), (1, .int p1)]) hx hb dX3_worstSlip_110 hl (k := 4) rfl rfl (by decide) rfl (fun ls hl => ?_)
            refine lv_goto (tgt := 22) hx hb dX3_worstSlip_113 (by decide) ?_
            exact ih22 v4 r85.2.2.2.2 (v4 + 1) (Y.1, Y.2.1, (r52.1, r52.2.1, r52.2.2.1, (upd r52.2.2.2.1 v4.toNatClampNeg ((Y.2.1.1 v4.toNatClampNeg) + p1)), r52.2.2.2.2.1, r52.2.2.2.2.2.1, r52.2.2.2.2.2.2.1, r52.2.2.2.2.2.2.2.1, r52.2.2.2.2.2.2.2.2), r85, Y.2.2.2.2.1, Y.2.2.2.2.2.1, Y.2.2.2.2.2.2.1, Y.2.2.2.2.2.2.2.1, Y.2.2.2.2.2.2.2.2) H locs ls h (lv_sub hl [3, 4, 2, 1, 0] rfl) hP hD hS
  refine lv_iload_n hx hb dX3_worstSlip_0 rfl (lv_at hl 1 rfl) ?_
  obtain ⟨r1, e1, h⟩ := tw_bs h
  refine tw_callSi (ws' := (tw_wW cI cQ a na pa ta qa xa z Y)) (As := [.int p1]) (rest := []) F hN hK hP hD hS hA (mX3_isSlip l G cI H.size p1 e1) (va_cwS 1 hts gX3_worstSlip_X3_isSlip rfl rfl rfl (by decide +kernel) ⟨(Nat.le_of_ble_eq_true rfl), (Nat.le_of_ble_eq_true rfl)⟩) [0] rfl [] (by decide) rfl rfl rfl rfl hl.1 rfl (Nat.le_of_ble_eq_true rfl) dX3_worstSlip_1 ⟨Nat.zero_le _, Nat.zero_le _⟩ (fun H locs hP hD hS => ?_)
  refine lv_if_ne (tgt := 15) hx hb dX3_worstSlip_4 (by decide) (fun c4 => ?_) (fun c4 => ?_)
  · replace h := tw_t c4 h
    refine lv_iconst (v := (-1 : Int32)) hx hb dX3_worstSlip_15 (by decide) ?_
    refine lv_istore_n (lv' := [(2, .int (-1 : Int32)), (0, .ref (a 0)), (1, .int p1)]) hx hb dX3_worstSlip_16 rfl hl (by decide) rfl (fun ls hl => ?_)
    refine lv_iconst (v := (-1 : Int32)) hx hb dX3_worstSlip_17 (by decide) ?_
    refine lv_istore_n (lv' := [(3, .int (-1 : Int32)), (2, .int (-1 : Int32)), (0, .ref (a 0)), (1, .int p1)]) hx hb dX3_worstSlip_18 rfl hl (by decide) rfl (fun ls hl => ?_)
    refine lv_iconst (v := (0 : Int32)) hx hb dX3_worstSlip_19 (by decide) ?_
    refine lv_istore (lv' := [(4, .int (0 : Int32)), (3, .int (-1 : Int32)), (2, .int (-1 : Int32)), (0, .ref (a 0)), (1, .int p1)]) hx hb dX3_worstSlip_20 hl (by decide) rfl (fun ls hl => ?_)
    exact L22 512 (-1 : Int32) (-1 : Int32) (0 : Int32) Y H locs ls h (lv_sub hl [3, 4, 2, 1, 0] rfl) hP hD hS
  · replace h := tw_fn c4 h
    exact tw_thr h hk (by decide)
abbrev rxX3_worstSlip : Room := { frames := 6, cells := 1, slots := 6, locals := 103 }
set_option maxRecDepth 20000 in
theorem qbX3_worstSlip_0 : (Cond.fieldLink RX3 10 "TheatreWall" "now" "LTheatreWall$State;") ∈ wsX3_worstSlip := (List.mem_cons_of_mem _ (List.mem_append_left _ (List.mem_append_left _ (List.mem_append_left _ (List.mem_append_left _ (List.mem_append_left _ (List.mem_of_getElem? (i := 2) rfl)))))))
set_option maxRecDepth 20000 in
theorem qbX3_worstSlip_1 : (Cond.fieldLink RX3 61 "TheatreWall$State" "size" "I") ∈ wsX3_worstSlip := (List.mem_cons_of_mem _ (List.mem_append_left _ (List.mem_append_left _ (List.mem_append_left _ (List.mem_append_left _ (List.mem_append_left _ (List.mem_of_getElem? (i := 3) rfl)))))))
set_option maxRecDepth 20000 in
theorem qbX3_worstSlip_2 : (Cond.fieldLink RX3 23 "TheatreWall" "trial" "LTheatreWall$State;") ∈ wsX3_worstSlip := (List.mem_cons_of_mem _ (List.mem_append_left _ (List.mem_append_left _ (List.mem_append_left _ (List.mem_append_left _ (List.mem_append_left _ (List.mem_of_getElem? (i := 4) rfl)))))))
set_option maxRecDepth 20000 in
theorem qbX3_worstSlip_3 : (Cond.fieldLink RX3 115 "TheatreWall$State" "earliest" "[I") ∈ wsX3_worstSlip := (List.mem_cons_of_mem _ (List.mem_append_left _ (List.mem_append_left _ (List.mem_append_left _ (List.mem_append_left _ (List.mem_append_left _ (List.mem_of_getElem? (i := 5) rfl)))))))
set_option maxRecDepth 20000 in
theorem qbX3_worstSlip_4 : (Cond.fieldLink RX3 19 "TheatreWall" "plan" "LTheatreWall$Plan;") ∈ wsX3_worstSlip := (List.mem_cons_of_mem _ (List.mem_append_left _ (List.mem_append_left _ (List.mem_append_left _ (List.mem_append_left _ (List.mem_append_left _ (List.mem_of_getElem? (i := 6) rfl)))))))
set_option maxRecDepth 20000 in
theorem qbX3_worstSlip_5 : (Cond.fieldLink RX3 118 "TheatreWall$Plan" "begins" "[I") ∈ wsX3_worstSlip := (List.mem_cons_of_mem _ (List.mem_append_left _ (List.mem_append_left _ (List.mem_append_left _ (List.mem_append_left _ (List.mem_append_left _ (List.mem_of_getElem? (i := 7) rfl)))))))
set_option maxRecDepth 20000 in
theorem qbX3_worstSlip_6 : (Cond.fieldLink RX3 26 "TheatreWall" "trialPlan" "LTheatreWall$Plan;") ∈ wsX3_worstSlip := (List.mem_cons_of_mem _ (List.mem_append_left _ (List.mem_append_left _ (List.mem_append_left _ (List.mem_append_left _ (List.mem_append_left _ (List.mem_of_getElem? (i := 8) rfl)))))))
set_option maxRecDepth 20000 in
theorem qbX3_worstSlip_7 : (Cond.fieldLink RX3 112 "TheatreWall$Plan" "end" "I") ∈ wsX3_worstSlip := (List.mem_cons_of_mem _ (List.mem_append_left _ (List.mem_append_left _ (List.mem_append_left _ (List.mem_append_left _ (List.mem_append_left _ (List.mem_of_getElem? (i := 9) rfl)))))))
set_option maxRecDepth 20000 in
theorem qbX3_worstSlip_8 : (Cond.classLink RX3 58 "java/lang/IllegalArgumentException") ∈ wsX3_worstSlip := (List.mem_cons_of_mem _ (List.mem_append_left _ (List.mem_append_left _ (List.mem_append_left _ (List.mem_append_left _ (List.mem_append_left _ (List.mem_of_getElem? (i := 0) rfl)))))))
set_option maxRecDepth 20000 in
theorem qbX3_worstSlip_9 : (Cond.initialized "java/lang/IllegalArgumentException") ∈ wsX3_worstSlip := (List.mem_cons_of_mem _ (List.mem_append_left _ (List.mem_append_left _ (List.mem_append_left _ (List.mem_append_left _ (List.mem_append_left _ (List.mem_of_getElem? (i := 1) rfl)))))))
set_option maxRecDepth 20000 in
theorem ibX3_worstSlip_X3 : ∀ w ∈ u_ws RX3 TX3 8, w ∈ wsX3_worstSlip := fun w h => (List.mem_cons_of_mem _ (List.mem_append_left _ (List.mem_append_left _ (List.mem_append_left _ (List.mem_append_right _ h)))))
set_option maxRecDepth 20000 in
theorem ibX3_worstSlip_X1 : ∀ w ∈ u_ws RX1 TX1 9, w ∈ wsX3_worstSlip := fun w h => (List.mem_cons_of_mem _ (List.mem_append_left _ (List.mem_append_left _ (List.mem_append_right _ h))))
set_option maxRecDepth 20000 in
theorem ibX3_worstSlip_X0 : ∀ w ∈ u_ws RX0 TX0 5, w ∈ wsX3_worstSlip := fun w h => (List.mem_cons_of_mem _ (List.mem_append_left _ (List.mem_append_right _ h)))
set_option maxHeartbeats 4000000 in
set_option maxRecDepth 100000 in
theorem xX3_worstSlip (l : Launch) (hst : l.stackTraces = false) (G : va_G) (cI : ClassId) (cQ : ClassId) (a na pa ta qa xa : Nat → Nat) (z : Nat → Nat → Nat) (Y : tw_Wl) (sz : Nat) (p1 : Int32) {rv : Nat × Int32 × tw_Wl} (h : fX3_worstSlip Y p1 = some rv) (hk : ¬ rv.1 = 0) {Qc : Array Value → State → Outcome → State → Prop} : tw_Mx l yX3_worstSlip wsX3_worstSlip rxX3_worstSlip G [(cI, .int), (cQ, .object RX1)] (tw_wW cI cQ a na pa ta qa xa z Y) [.ref (a 0), .int p1] sz (tw_en rv.1) (tw_wW cI cQ a na pa ta qa xa z rv.2.2) Qc := by
  refine tw_ofx hst (cc := cX3_worstSlip) (maxL := 5) (own := RX3) (by decide) rfl rfl (Nat.le_of_ble_eq_true rfl) (Nat.le_of_ble_eq_true rfl) (Nat.le_of_ble_eq_true rfl) (Nat.le_of_ble_eq_true rfl) (Nat.le_of_ble_eq_true rfl) ?_
  intro p e s m args below meth c Q A ls H locs F hN hK hP hD hS hA hl hNX hq
  obtain ⟨hx, hb, hml, hown, hts⟩ := id F
  have hl : lv_has ls 5 [(0, .ref (a 0)), (1, .int p1)] := hl
  unfold fX3_worstSlip at h
  have L22 : ∀ (n22 : Nat) (v2 : Int32) (v3 : Int32) (v4 : Int32) (Y : tw_Wl) (H : Heap) (locs : List Loc) (ls : Array Slot), fX3_worstSlip_22 p1 n22 v2 v3 v4 Y = some rv → lv_has ls 5 [(0, .ref (a 0)), (1, .int p1), (2, .int v2), (3, .int v3), (4, .int v4)] → va_P G vwCl (tw_wW cI cQ a na pa ta qa xa z Y) H → va_D A (tw_wW cI cQ a na pa ta qa xa z Y) → va_S A s.heap H locs → W p l e rxX3_worstSlip s m args below meth c H locs 0 0 Q (F0 m 22 ls []) := by
    intro n22
    induction n22 with
    | zero =>
      intro v2 v3 v4 Y H locs ls h
      rw [fX3_worstSlip_22] at h
      cases h
    | succ n22 ih22 =>
      intro v2 v3 v4 Y H locs ls h hl hP hD hS
      rw [fX3_worstSlip_22] at h
      refine lv_iload hx hb dX3_worstSlip_22 (lv_at hl 4 rfl) ?_
      refine lv_aload_n hx hb dX3_worstSlip_24 rfl (lv_at hl 0 rfl) ?_
      refine va_get (D := G) (ci := 3) (v := .ref (na 0)) (C := RX3) (T := TX3) (N := 8) hx hb hts ibX3_worstSlip_X3 hown hK hP 0 rfl rfl 0 (by decide) (hts _ qbX3_worstSlip_0) (fun _ h9 => h9) rfl dX3_worstSlip_25 ?_
      refine va_get (D := G) (ci := 1) (v := .int Y.1.2.2.2.2.2.2.2.1) (C := RX1) (T := TX1) (N := 9) hx hb hts ibX3_worstSlip_X1 hown hK hP 3 rfl rfl 7 (by decide) (hts _ qbX3_worstSlip_1) (fun _ h9 => h9) rfl dX3_worstSlip_28 ?_
      refine lv_icmp_ge (tgt := 116) hx hb dX3_worstSlip_31 (by decide) (fun c31 => ?_) (fun c31 => ?_)
      · replace h := tw_t c31 h
        refine lv_iload_n hx hb dX3_worstSlip_116 rfl (lv_at hl 2 rfl) ?_
        exact absurd (tw_rt (fun r => r.1 = 0) h rfl) hk
      · replace h := tw_f c31 h
        refine lv_aload_n hx hb dX3_worstSlip_34 rfl (lv_at hl 0 rfl) ?_
        refine lv_iload hx hb dX3_worstSlip_35 (lv_at hl 4 rfl) ?_
        refine lv_iload_n hx hb dX3_worstSlip_37 rfl (lv_at hl 1 rfl) ?_
        obtain ⟨r38, e38, h⟩ := tw_bs h
        refine tw_callViF (ws' := (tw_wW cI cQ a na pa ta qa xa z Y)) (As := [.int v4, .int p1]) (rest := []) F hN hK hP hD hS hA (mX3_couldSlip l G cI cQ a na pa ta qa xa z Y H.size v4 p1 e38) (cwV 2 hts gX3_worstSlip_X3_couldSlip rfl rfl rfl (by decide +kernel) ⟨(Nat.le_of_ble_eq_true rfl), (Nat.le_of_ble_eq_true rfl)⟩) rfl (r0 := 0) (ci := 3) rfl rfl rfl rfl hl.1 rfl (Nat.le_of_ble_eq_true rfl) dX3_worstSlip_38 ⟨Nat.zero_le _, Nat.zero_le _⟩ (fun H locs hP hD hS => ?_)
        refine lv_if_eq (tgt := 110) hx hb dX3_worstSlip_41 (by decide) (fun c41 => ?_) (fun c41 => ?_)
        · replace h := tw_t c41 h
          refine lv_iinc (v := (v4 + 1)) (lv' := [(4, .int (v4 + 1)), (0, .ref (a 0)), (1, .int p1), (2, .int v2), (3, .int v3)]) hx hb dX3_worstSlip_110 hl (k := 4) rfl rfl (by decide) rfl (fun ls hl => ?_)
          refine lv_goto (tgt := 22) hx hb dX3_worstSlip_113 (by decide) ?_
          exact ih22 v2 v3 (v4 + 1) Y H locs ls h (lv_sub hl [1, 2, 3, 4, 0] rfl) hP hD hS
        · replace h := tw_f c41 h
          refine lv_aload_n hx hb dX3_worstSlip_44 rfl (lv_at hl 0 rfl) ?_
          refine va_get (D := G) (ci := 3) (v := .ref (ta 0)) (C := RX3) (T := TX3) (N := 8) hx hb hts ibX3_worstSlip_X3 hown hK hP 0 rfl rfl 2 (by decide) (hts _ qbX3_worstSlip_2) (fun _ h9 => h9) rfl dX3_worstSlip_45 ?_
          refine lv_aload_n hx hb dX3_worstSlip_48 rfl (lv_at hl 0 rfl) ?_
          refine va_get (D := G) (ci := 3) (v := .ref (na 0)) (C := RX3) (T := TX3) (N := 8) hx hb hts ibX3_worstSlip_X3 hown hK hP 0 rfl rfl 0 (by decide) (hts _ qbX3_worstSlip_0) (fun _ h9 => h9) rfl dX3_worstSlip_49 ?_
          obtain ⟨r52, e52, h⟩ := tw_bs h
          refine tw_callVv (ws' := (tw_wW cI cQ a na pa ta qa xa z (Y.1, Y.2.1, r52, Y.2.2.2.1, Y.2.2.2.2.1, Y.2.2.2.2.2.1, Y.2.2.2.2.2.2.1, Y.2.2.2.2.2.2.2.1, Y.2.2.2.2.2.2.2.2))) (As := [.ref (na 0)]) (rest := []) F hN hK hP hD hS hA (mX1_copyFrom l G cI ta na Y.2.2.1 Y.1 H.size e52) (cwV 1 hts gX3_worstSlip_X1_copyFrom rfl rfl rfl (by decide +kernel) ⟨(Nat.le_of_ble_eq_true rfl), (Nat.le_of_ble_eq_true rfl)⟩) [0] rfl [14, 15, 16, 17, 18, 19, 20, 21, 3, 4, 5, 6, 7, 8, 9, 10] tw_cTN_nd tw_cTN_C rfl tw_cTN_M (r0 := 0) (ci := 1) rfl rfl rfl rfl hl.1 rfl (Nat.le_of_ble_eq_true rfl) dX3_worstSlip_52 ⟨Nat.zero_le _, Nat.zero_le _⟩ (fun H locs hP hD hS => ?_)
          refine lv_aload_n hx hb dX3_worstSlip_55 rfl (lv_at hl 0 rfl) ?_
          refine va_get (D := G) (ci := 3) (v := .ref (ta 0)) (C := RX3) (T := TX3) (N := 8) hx hb hts ibX3_worstSlip_X3 hown hK hP 0 rfl rfl 2 (by decide) (hts _ qbX3_worstSlip_2) (fun _ h9 => h9) rfl dX3_worstSlip_56 ?_
          refine va_get (D := G) (ci := 1) (v := .ref (ta 4)) (C := RX1) (T := TX1) (N := 9) hx hb hts ibX3_worstSlip_X1 hown hK hP 14 rfl rfl 3 (by decide) (hts _ qbX3_worstSlip_3) (fun _ h9 => h9) rfl dX3_worstSlip_59 ?_
          refine lv_iload hx hb dX3_worstSlip_62 (lv_at hl 4 rfl) ?_
          refine lv_aload_n hx hb dX3_worstSlip_64 rfl (lv_at hl 0 rfl) ?_
          refine va_get (D := G) (ci := 3) (v := .ref (pa 0)) (C := RX3) (T := TX3) (N := 8) hx hb hts ibX3_worstSlip_X3 hown hK hP 0 rfl rfl 1 (by decide) (hts _ qbX3_worstSlip_4) (fun _ h9 => h9) rfl dX3_worstSlip_65 ?_
          refine va_get (D := G) (ci := 0) (v := .ref (pa 1)) (C := RX0) (T := TX0) (N := 5) hx hb hts ibX3_worstSlip_X0 hown hK hP 11 rfl rfl 0 (by decide) (hts _ qbX3_worstSlip_5) (fun _ h9 => h9) rfl dX3_worstSlip_68 ?_
          refine lv_iload hx hb dX3_worstSlip_71 (lv_at hl 4 rfl) ?_
          obtain ⟨g73, h⟩ := tw_gs h
          refine va_iald (f := Y.2.1.1) (n := 12) hx hb hK hP 12 0 rfl rfl g73 dX3_worstSlip_73 ?_
          refine lv_iload_n hx hb dX3_worstSlip_74 rfl (lv_at hl 1 rfl) ?_
          refine lv_iadd hx hb dX3_worstSlip_75 ?_
          obtain ⟨g76, h⟩ := tw_gs h
          refine tw_iast (ws' := (tw_wW cI cQ a na pa ta qa xa z (Y.1, Y.2.1, (r52.1, r52.2.1, r52.2.2.1, (upd r52.2.2.2.1 v4.toNatClampNeg ((Y.2.1.1 v4.toNatClampNeg) + p1)), r52.2.2.2.2.1, r52.2.2.2.2.2.1, r52.2.2.2.2.2.2.1, r52.2.2.2.2.2.2.2.1, r52.2.2.2.2.2.2.2.2), Y.2.2.2.1, Y.2.2.2.2.1, Y.2.2.2.2.2.1, Y.2.2.2.2.2.2.1, Y.2.2.2.2.2.2.2.1, Y.2.2.2.2.2.2.2.2))) (f := r52.2.2.2.1) (n := 12) hx hb hK hP hD hS 18 0 rfl rfl g76 dX3_worstSlip_76 rfl (fun H locs hP hD hS => ?_)
          refine lv_aload_n hx hb dX3_worstSlip_77 rfl (lv_at hl 0 rfl) ?_
          refine va_get (D := G) (ci := 3) (v := .ref (qa 0)) (C := RX3) (T := TX3) (N := 8) hx hb hts ibX3_worstSlip_X3 hown hK hP 0 rfl rfl 3 (by decide) (hts _ qbX3_worstSlip_6) (fun _ h9 => h9) rfl dX3_worstSlip_78 ?_
          refine lv_aload_n hx hb dX3_worstSlip_81 rfl (lv_at hl 0 rfl) ?_
          refine va_get (D := G) (ci := 3) (v := .ref (ta 0)) (C := RX3) (T := TX3) (N := 8) hx hb hts ibX3_worstSlip_X3 hown hK hP 0 rfl rfl 2 (by decide) (hts _ qbX3_worstSlip_2) (fun _ h9 => h9) rfl dX3_worstSlip_82 ?_
          obtain ⟨r85, e85, h⟩ := tw_bs h
          refine tw_callVv (ws' := (tw_wW cI cQ a na pa ta qa xa z (Y.1, Y.2.1, (r52.1, r52.2.1, r52.2.2.1, (upd r52.2.2.2.1 v4.toNatClampNeg ((Y.2.1.1 v4.toNatClampNeg) + p1)), r52.2.2.2.2.1, r52.2.2.2.2.2.1, r52.2.2.2.2.2.2.1, r52.2.2.2.2.2.2.2.1, r52.2.2.2.2.2.2.2.2), r85, Y.2.2.2.2.1, Y.2.2.2.2.2.1, Y.2.2.2.2.2.2.1, Y.2.2.2.2.2.2.2.1, Y.2.2.2.2.2.2.2.2))) (As := [.ref (ta 0)]) (rest := []) F hN hK hP hD hS hA (mX0_lay l G cI qa ta Y.2.2.2.1 (r52.1, r52.2.1, r52.2.2.1, (upd r52.2.2.2.1 v4.toNatClampNeg ((Y.2.1.1 v4.toNatClampNeg) + p1)), r52.2.2.2.2.1, r52.2.2.2.2.2.1, r52.2.2.2.2.2.2.1, r52.2.2.2.2.2.2.2.1, r52.2.2.2.2.2.2.2.2) H.size e85) (cwV 1 hts gX3_worstSlip_X0_lay rfl rfl rfl (by decide +kernel) ⟨(Nat.le_of_ble_eq_true rfl), (Nat.le_of_ble_eq_true rfl)⟩) [0] rfl [22, 23, 24, 14, 15, 16, 17, 18, 19, 20, 21] tw_cQT_nd tw_cQT_C rfl tw_cQT_M (r0 := 0) (ci := 0) rfl rfl rfl rfl hl.1 rfl (Nat.le_of_ble_eq_true rfl) dX3_worstSlip_85 ⟨Nat.zero_le _, Nat.zero_le _⟩ (fun H locs hP hD hS => ?_)
          refine lv_aload_n hx hb dX3_worstSlip_88 rfl (lv_at hl 0 rfl) ?_
          refine va_get (D := G) (ci := 3) (v := .ref (qa 0)) (C := RX3) (T := TX3) (N := 8) hx hb hts ibX3_worstSlip_X3 hown hK hP 0 rfl rfl 3 (by decide) (hts _ qbX3_worstSlip_6) (fun _ h9 => h9) rfl dX3_worstSlip_89 ?_
          refine va_get (D := G) (ci := 0) (v := .int r85.2.2.2.2) (C := RX0) (T := TX0) (N := 5) hx hb hts ibX3_worstSlip_X0 hown hK hP 22 rfl rfl 4 (by decide) (hts _ qbX3_worstSlip_7) (fun _ h9 => h9) rfl dX3_worstSlip_92 ?_
          refine lv_iload_n hx hb dX3_worstSlip_95 rfl (lv_at hl 3 rfl) ?_
          refine lv_icmp_le (tgt := 110) hx hb dX3_worstSlip_96 (by decide) (fun c96 => ?_) (fun c96 => ?_)
          · replace h := tw_t c96 h
            refine lv_iinc (v := (v4 + 1)) (lv' := [(4, .int (v4 + 1)), (0, .ref (a 0)), (1, .int p1), (2, .int v2), (3, .int v3)]) hx hb dX3_worstSlip_110 hl (k := 4) rfl rfl (by decide) rfl (fun ls hl => ?_)
            refine lv_goto (tgt := 22) hx hb dX3_worstSlip_113 (by decide) ?_
            exact ih22 v2 v3 (v4 + 1) (Y.1, Y.2.1, (r52.1, r52.2.1, r52.2.2.1, (upd r52.2.2.2.1 v4.toNatClampNeg ((Y.2.1.1 v4.toNatClampNeg) + p1)), r52.2.2.2.2.1, r52.2.2.2.2.2.1, r52.2.2.2.2.2.2.1, r52.2.2.2.2.2.2.2.1, r52.2.2.2.2.2.2.2.2), r85, Y.2.2.2.2.1, Y.2.2.2.2.2.1, Y.2.2.2.2.2.2.1, Y.2.2.2.2.2.2.2.1, Y.2.2.2.2.2.2.2.2) H locs ls h (lv_sub hl [1, 2, 3, 4, 0] rfl) hP hD hS
          · replace h := tw_f c96 h
            refine lv_iload hx hb dX3_worstSlip_99 (lv_at hl 4 rfl) ?_
            refine lv_istore_n (lv' := [(2, .int v4), (0, .ref (a 0)), (1, .int p1), (3, .int v3), (4, .int v4)]) hx hb dX3_worstSlip_101 rfl hl (by decide) rfl (fun ls hl => ?_)
            refine lv_aload_n hx hb dX3_worstSlip_102 rfl (lv_at hl 1 rfl) ?_
            refine va_get (D := G) (ci := 3) (v := .ref (qa 0)) (C := RX3) (T := TX3) (N := 8) hx hb hts ibX3_worstSlip_X3 hown hK hP 0 rfl rfl 3 (by decide) (hts _ qbX3_worstSlip_6) (fun _ h9 => h9) rfl dX3_worstSlip_103 ?_
            refine va_get (D := G) (ci := 0) (v := .int r85.2.2.2.2) (C := RX0) (T := TX0) (N := 5) hx hb hts ibX3_worstSlip_X0 hown hK hP 22 rfl rfl 4 (by decide) (hts _ qbX3_worstSlip_7) (fun _ h9 => h9) rfl dX3_worstSlip_106 ?_
            refine lv_istore_n (lv' := [(3, .int r85.2.2.2.2), (2, .int v4), (0, .ref (a 0)), (1, .int p1), (4, .int v4)]) hx hb dX3_worstSlip_109 rfl hl (by decide) rfl (fun ls hl => ?_)
            refine lv_iinc (v := (v4 + 1)) (lv' := [(4, .int (v4 + 1)), (3, .int r85.2.2.2.2), (2, .int v4), (0, .ref (a 0)), (1, .int p1)]) hx hb dX3_worstSlip_110 hl (k := 4) rfl rfl (by decide) rfl (fun ls hl => ?_)
            refine lv_goto (tgt := 22) hx hb dX3_worstSlip_113 (by decide) ?_
            exact ih22 v4 r85.2.2.2.2 (v4 + 1) (Y.1, Y.2.1, (r52.1, r52.2.1, r52.2.2.1, (upd r52.2.2.2.1 v4.toNatClampNeg ((Y.2.1.1 v4.toNatClampNeg) + p1)), r52.2.2.2.2.1, r52.2.2.2.2.2.1, r52.2.2.2.2.2.2.1, r52.2.2.2.2.2.2.2.1, r52.2.2.2.2.2.2.2.2), r85, Y.2.2.2.2.1, Y.2.2.2.2.2.1, Y.2.2.2.2.2.2.1, Y.2.2.2.2.2.2.2.1, Y.2.2.2.2.2.2.2.2) H locs ls h (lv_sub hl [3, 4, 2, 1, 0] rfl) hP hD hS
  refine lv_iload_n hx hb dX3_worstSlip_0 rfl (lv_at hl 1 rfl) ?_
  obtain ⟨r1, e1, h⟩ := tw_bs h
  refine tw_callSi (ws' := (tw_wW cI cQ a na pa ta qa xa z Y)) (As := [.int p1]) (rest := []) F hN hK hP hD hS hA (mX3_isSlip l G cI H.size p1 e1) (va_cwS 1 hts gX3_worstSlip_X3_isSlip rfl rfl rfl (by decide +kernel) ⟨(Nat.le_of_ble_eq_true rfl), (Nat.le_of_ble_eq_true rfl)⟩) [0] rfl [] (by decide) rfl rfl rfl rfl hl.1 rfl (Nat.le_of_ble_eq_true rfl) dX3_worstSlip_1 ⟨Nat.zero_le _, Nat.zero_le _⟩ (fun H locs hP hD hS => ?_)
  refine lv_if_ne (tgt := 15) hx hb dX3_worstSlip_4 (by decide) (fun c4 => ?_) (fun c4 => ?_)
  · replace h := tw_t c4 h
    refine lv_iconst (v := (-1 : Int32)) hx hb dX3_worstSlip_15 (by decide) ?_
    refine lv_istore_n (lv' := [(2, .int (-1 : Int32)), (0, .ref (a 0)), (1, .int p1)]) hx hb dX3_worstSlip_16 rfl hl (by decide) rfl (fun ls hl => ?_)
    refine lv_iconst (v := (-1 : Int32)) hx hb dX3_worstSlip_17 (by decide) ?_
    refine lv_istore_n (lv' := [(3, .int (-1 : Int32)), (2, .int (-1 : Int32)), (0, .ref (a 0)), (1, .int p1)]) hx hb dX3_worstSlip_18 rfl hl (by decide) rfl (fun ls hl => ?_)
    refine lv_iconst (v := (0 : Int32)) hx hb dX3_worstSlip_19 (by decide) ?_
    refine lv_istore (lv' := [(4, .int (0 : Int32)), (3, .int (-1 : Int32)), (2, .int (-1 : Int32)), (0, .ref (a 0)), (1, .int p1)]) hx hb dX3_worstSlip_20 hl (by decide) rfl (fun ls hl => ?_)
    exact L22 512 (-1 : Int32) (-1 : Int32) (0 : Int32) Y H locs ls h (lv_sub hl [3, 4, 2, 1, 0] rfl) hP hD hS
  · replace h := tw_fn c4 h
    exact hq H locs 7 ls tw_E1 58 60 (tw_rt (fun r => tw_E1 = tw_en r.1) h rfl) (by decide) (hts _ qbX3_worstSlip_8) (hts _ qbX3_worstSlip_9) (vx_hat (fun w h => hts w (List.mem_cons_of_mem _ (List.mem_append_right _ h))) tw_xb1 hNX.words) tw_xg1 dX3_worstSlip_7 dX3_worstSlip_10 dX3_worstSlip_11 dX3_worstSlip_14 hl.1 (tw_rt (fun r => va_P G vwCl (tw_wW cI cQ a na pa ta qa xa z r.2.2) H) h hP) hS
abbrev rmX3_busyness : Room := { frames := 1, cells := 0, slots := 0, locals := 23 }
set_option maxRecDepth 20000 in
theorem qX3_busyness_0 : (Cond.fieldLink RX3 19 "TheatreWall" "plan" "LTheatreWall$Plan;") ∈ wsX3_busyness := (List.mem_cons_of_mem _ (List.mem_append_left _ (List.mem_append_left _ (List.mem_append_left _ (List.mem_of_getElem? (i := 0) rfl)))))
set_option maxRecDepth 20000 in
theorem qX3_busyness_1 : (Cond.fieldLink RX3 112 "TheatreWall$Plan" "end" "I") ∈ wsX3_busyness := (List.mem_cons_of_mem _ (List.mem_append_left _ (List.mem_append_left _ (List.mem_append_left _ (List.mem_of_getElem? (i := 1) rfl)))))
set_option maxRecDepth 20000 in
theorem qX3_busyness_2 : (Cond.fieldLink RX3 10 "TheatreWall" "now" "LTheatreWall$State;") ∈ wsX3_busyness := (List.mem_cons_of_mem _ (List.mem_append_left _ (List.mem_append_left _ (List.mem_append_left _ (List.mem_of_getElem? (i := 2) rfl)))))
set_option maxRecDepth 20000 in
theorem iX3_busyness_X3 : ∀ w ∈ u_ws RX3 TX3 8, w ∈ wsX3_busyness := fun w h => (List.mem_cons_of_mem _ (List.mem_append_left _ (List.mem_append_left _ (List.mem_append_right _ h))))
set_option maxRecDepth 20000 in
theorem iX3_busyness_X0 : ∀ w ∈ u_ws RX0 TX0 5, w ∈ wsX3_busyness := fun w h => (List.mem_cons_of_mem _ (List.mem_append_left _ (List.mem_append_right _ h)))
set_option maxHeartbeats 4000000 in
set_option maxRecDepth 100000 in
theorem mX3_busyness (l : Launch) (G : va_G) (cI : ClassId) (cQ : ClassId) (a na pa ta qa xa : Nat → Nat) (z : Nat → Nat → Nat) (Y : tw_Wl) (sz : Nat)  {rv : UInt64} (h : fX3_busyness Y = some rv) : tw_Mu l yX3_busyness wsX3_busyness rmX3_busyness G [(cI, .int), (cQ, .object RX1)] (tw_wW cI cQ a na pa ta qa xa z Y) [.ref (a 0)] sz rv (tw_wW cI cQ a na pa ta qa xa z Y) := by
  refine tw_ofd (cc := cX3_busyness) (maxL := 2) (own := RX3) (by decide) rfl rfl (Nat.le_of_ble_eq_true rfl) ?_
  intro p e s m args below meth c Q A ls H locs F hN hK hP hD hS hA hl hq
  obtain ⟨hx, hb, hml, hown, hts⟩ := id F
  have hl : lv_has ls 2 [(0, .ref (a 0))] := hl
  unfold fX3_busyness at h
  refine lv_aload_n hx hb dX3_busyness_0 rfl (lv_at hl 0 rfl) ?_
  refine va_get (D := G) (ci := 3) (v := .ref (pa 0)) (C := RX3) (T := TX3) (N := 8) hx hb hts iX3_busyness_X3 hown hK hP 0 rfl rfl 1 (by decide) (hts _ qX3_busyness_0) (fun _ h9 => h9) rfl dX3_busyness_1 ?_
  refine va_get (D := G) (ci := 0) (v := .int Y.2.1.2.2.2.2) (C := RX0) (T := TX0) (N := 5) hx hb hts iX3_busyness_X0 hown hK hP 11 rfl rfl 4 (by decide) (hts _ qX3_busyness_1) (fun _ h9 => h9) rfl dX3_busyness_4 ?_
  refine lv_istore_n (lv' := [(1, .int Y.2.1.2.2.2.2), (0, .ref (a 0))]) hx hb dX3_busyness_7 rfl hl (by decide) rfl (fun ls hl => ?_)
  refine lv_iload_n hx hb dX3_busyness_8 rfl (lv_at hl 0 rfl) ?_
  refine lv_if_gt (tgt := 14) hx hb dX3_busyness_9 (by decide) (fun c9 => ?_) (fun c9 => ?_)
  · replace h := tw_t c9 h
    refine lv_aload_n hx hb dX3_busyness_14 rfl (lv_at hl 1 rfl) ?_
    refine va_get (D := G) (ci := 3) (v := .ref (pa 0)) (C := RX3) (T := TX3) (N := 8) hx hb hts iX3_busyness_X3 hown hK hP 0 rfl rfl 1 (by decide) (hts _ qX3_busyness_0) (fun _ h9 => h9) rfl dX3_busyness_15 ?_
    refine lv_aload_n hx hb dX3_busyness_18 rfl (lv_at hl 1 rfl) ?_
    refine va_get (D := G) (ci := 3) (v := .ref (na 0)) (C := RX3) (T := TX3) (N := 8) hx hb hts iX3_busyness_X3 hown hK hP 0 rfl rfl 0 (by decide) (hts _ qX3_busyness_2) (fun _ h9 => h9) rfl dX3_busyness_19 ?_
    obtain ⟨r22, e22, h⟩ := tw_bs h
    refine tw_callVi (ws' := (tw_wW cI cQ a na pa ta qa xa z Y)) (As := [.ref (na 0)]) (rest := []) F hN hK hP hD hS hA (mX0_lengthOfLaid l G cI pa na Y.2.1 Y.1 H.size e22) (cwV 1 hts gX3_busyness_X0_lengthOfLaid rfl rfl rfl (by decide +kernel) ⟨(Nat.le_of_ble_eq_true rfl), (Nat.le_of_ble_eq_true rfl)⟩) [0] rfl [11, 12, 13, 3, 4, 5, 6, 7, 8, 9, 10] tw_cPN_nd tw_cPN_C rfl tw_cPN_M (r0 := 0) (ci := 0) rfl rfl rfl rfl hl.1 rfl (Nat.le_of_ble_eq_true rfl) dX3_busyness_22 ⟨Nat.zero_le _, Nat.zero_le _⟩ (fun H locs hP hD hS => ?_)
    refine lv_i2d hx hb dX3_busyness_25 ?_
    refine lv_iload_n hx hb dX3_busyness_26 rfl (lv_at hl 0 rfl) ?_
    refine lv_i2d hx hb dX3_busyness_27 ?_
    obtain ⟨g28, h⟩ := tw_qs h
    refine lv_ddiv hx hb dX3_busyness_28 g28 ?_
    exact hq H locs _ ls (FP.ddiv (FP.i2d r22) (FP.i2d Y.2.1.2.2.2.2)) (tw_rt (fun r => r = (FP.ddiv (FP.i2d r22) (FP.i2d Y.2.1.2.2.2.2))) h rfl) hP hS dX3_busyness_29
  · replace h := tw_f c9 h
    refine lv_dconst0 hx hb dX3_busyness_12 ?_
    exact hq H locs _ ls FP.dconst0 (tw_rt (fun r => r = FP.dconst0) h rfl) hP hS dX3_busyness_13
abbrev rmX3_withTasks : Room := { frames := 6, cells := 0, slots := 0, locals := 148 }
set_option maxRecDepth 20000 in
theorem qX3_withTasks_0 : (Cond.constantLong RX3 208 31) ∈ wsX3_withTasks := (List.mem_cons_of_mem _ (List.mem_append_left _ (List.mem_append_left _ (List.mem_append_left _ (List.mem_append_left _ (List.mem_append_left _ (List.mem_append_left _ (List.mem_of_getElem? (i := 2) rfl))))))))
set_option maxRecDepth 20000 in
theorem qX3_withTasks_1 : (Cond.fieldLink RX3 10 "TheatreWall" "now" "LTheatreWall$State;") ∈ wsX3_withTasks := (List.mem_cons_of_mem _ (List.mem_append_left _ (List.mem_append_left _ (List.mem_append_left _ (List.mem_append_left _ (List.mem_append_left _ (List.mem_append_left _ (List.mem_of_getElem? (i := 0) rfl))))))))
set_option maxRecDepth 20000 in
theorem qX3_withTasks_2 : (Cond.fieldLink RX3 61 "TheatreWall$State" "size" "I") ∈ wsX3_withTasks := (List.mem_cons_of_mem _ (List.mem_append_left _ (List.mem_append_left _ (List.mem_append_left _ (List.mem_append_left _ (List.mem_append_left _ (List.mem_append_left _ (List.mem_of_getElem? (i := 1) rfl))))))))
set_option maxRecDepth 20000 in
theorem iX3_withTasks_X3 : ∀ w ∈ u_ws RX3 TX3 8, w ∈ wsX3_withTasks := fun w h => (List.mem_cons_of_mem _ (List.mem_append_left _ (List.mem_append_left _ (List.mem_append_left _ (List.mem_append_left _ (List.mem_append_right _ h))))))
set_option maxRecDepth 20000 in
theorem iX3_withTasks_X1 : ∀ w ∈ u_ws RX1 TX1 9, w ∈ wsX3_withTasks := fun w h => (List.mem_cons_of_mem _ (List.mem_append_left _ (List.mem_append_left _ (List.mem_append_left _ (List.mem_append_right _ h)))))
set_option maxHeartbeats 4000000 in
set_option maxRecDepth 100000 in
theorem mX3_withTasks (l : Launch) (G : va_G) (cI : ClassId) (cQ : ClassId) (a na pa ta qa xa : Nat → Nat) (z : Nat → Nat → Nat) (Y : tw_Wl) (sz : Nat) (p1 : Int64) {rv : Int64 × tw_Wl} (h : fX3_withTasks Y p1 = some rv) : tw_Ml l yX3_withTasks wsX3_withTasks rmX3_withTasks G [(cI, .int), (cQ, .object RX1)] (tw_wW cI cQ a na pa ta qa xa z Y) [.ref (a 0), .long p1] sz rv.1 (tw_wW cI cQ a na pa ta qa xa z rv.2) := by
  refine tw_ofl (cc := cX3_withTasks) (maxL := 7) (own := RX3) (by decide) rfl rfl (Nat.le_of_ble_eq_true rfl) ?_
  intro p e s m args below meth c Q A ls H locs F hN hK hP hD hS hA hl hq
  obtain ⟨hx, hb, hml, hown, hts⟩ := id F
  have hl : lv_has ls 7 [(0, .ref (a 0)), (1, .long p1)] := hl
  unfold fX3_withTasks at h
  have L5 : ∀ (n5 : Nat) (v3 : Int64) (v5 : Int32) (Y : tw_Wl) (H : Heap) (locs : List Loc) (ls : Array Slot), fX3_withTasks_5 p1 n5 v3 v5 Y = some rv → lv_has ls 7 [(0, .ref (a 0)), (3, .long v3), (5, .int v5)] → va_P G vwCl (tw_wW cI cQ a na pa ta qa xa z Y) H → va_D A (tw_wW cI cQ a na pa ta qa xa z Y) → va_S A s.heap H locs → W p l e rmX3_withTasks s m args below meth c H locs 0 0 Q (F0 m 5 ls []) := by
    intro n5
    induction n5 with
    | zero =>
      intro v3 v5 Y H locs ls h
      rw [fX3_withTasks_5] at h
      cases h
    | succ n5 ih5 =>
      intro v3 v5 Y H locs ls h hl hP hD hS
      rw [fX3_withTasks_5] at h
      have L20 : ∀ (n20 : Nat) (v3 : Int64) (v5 : Int32) (v6 : Int32) (Y : tw_Wl) (H : Heap) (locs : List Loc) (ls : Array Slot), fX3_withTasks_20 p1 (fX3_withTasks_5 p1 n5) n20 v3 v5 v6 Y = some rv → lv_has ls 7 [(0, .ref (a 0)), (3, .long v3), (5, .int v5), (6, .int v6)] → va_P G vwCl (tw_wW cI cQ a na pa ta qa xa z Y) H → va_D A (tw_wW cI cQ a na pa ta qa xa z Y) → va_S A s.heap H locs → W p l e rmX3_withTasks s m args below meth c H locs 0 0 Q (F0 m 20 ls []) := by
        intro n20
        induction n20 with
        | zero =>
          intro v3 v5 v6 Y H locs ls h
          rw [fX3_withTasks_20] at h
          cases h
        | succ n20 ih20 =>
          intro v3 v5 v6 Y H locs ls h hl hP hD hS
          rw [fX3_withTasks_20] at h
          refine lv_iload hx hb dX3_withTasks_20 (lv_at hl 3 rfl) ?_
          refine lv_bipush (v := (9 : Int32)) hx hb dX3_withTasks_22 (by decide) ?_
          refine lv_icmp_ge (tgt := 49) hx hb dX3_withTasks_24 (by decide) (fun c24 => ?_) (fun c24 => ?_)
          · replace h := tw_t c24 h
            refine lv_iinc (v := (v5 + 1)) (lv' := [(5, .int (v5 + 1)), (0, .ref (a 0)), (3, .long v3), (6, .int v6)]) hx hb dX3_withTasks_49 hl (k := 2) rfl rfl (by decide) rfl (fun ls hl => ?_)
            refine lv_goto (tgt := 5) hx hb dX3_withTasks_52 (by decide) ?_
            exact ih5 v3 (v5 + 1) Y H locs ls h (lv_sub hl [1, 2, 0] rfl) hP hD hS
          · replace h := tw_f c24 h
            refine lv_ldc2 hx hb hown (hts _ qX3_withTasks_0) dX3_withTasks_27 ?_
            refine lv_lload_n hx hb dX3_withTasks_30 rfl (lv_at hl 1 rfl) ?_
            refine lv_lmul hx hb dX3_withTasks_31 ?_
            refine lv_aload_n hx hb dX3_withTasks_32 rfl (lv_at hl 0 rfl) ?_
            refine lv_iload hx hb dX3_withTasks_33 (lv_at hl 2 rfl) ?_
            refine lv_iload hx hb dX3_withTasks_35 (lv_at hl 3 rfl) ?_
            obtain ⟨r37, e37, h⟩ := tw_bs h
            obtain ⟨k37, h⟩ := tw_qs h
            refine tw_callViF (ws' := (tw_wW cI cQ a na pa ta qa xa z r37.2.2)) (As := [.int v5, .int v6]) (rest := [.long ((31 : Int64) * v3)]) F hN hK hP hD hS hA (mX3_task l G cI cQ a na pa ta qa xa z Y H.size v5 v6 e37 k37) (cwV 2 hts gX3_withTasks_X3_task rfl rfl rfl (by decide +kernel) ⟨(Nat.le_of_ble_eq_true rfl), (Nat.le_of_ble_eq_true rfl)⟩) rfl (r0 := 0) (ci := 3) rfl rfl rfl rfl hl.1 rfl (Nat.le_of_ble_eq_true rfl) dX3_withTasks_37 ⟨Nat.zero_le _, Nat.zero_le _⟩ (fun H locs hP hD hS => ?_)
            refine lv_i2l hx hb dX3_withTasks_40 rfl ?_
            refine lv_ladd hx hb dX3_withTasks_41 ?_
            refine lv_lstore_n (lv' := [(3, .long (((31 : Int64) * v3) + r37.2.1.toInt64)), (0, .ref (a 0)), (5, .int v5), (6, .int v6)]) hx hb dX3_withTasks_42 rfl hl (by decide) rfl (fun ls hl => ?_)
            refine lv_iinc (v := (v6 + 1)) (lv' := [(6, .int (v6 + 1)), (3, .long (((31 : Int64) * v3) + r37.2.1.toInt64)), (0, .ref (a 0)), (5, .int v5)]) hx hb dX3_withTasks_43 hl (k := 3) rfl rfl (by decide) rfl (fun ls hl => ?_)
            refine lv_goto (tgt := 20) hx hb dX3_withTasks_46 (by decide) ?_
            exact ih20 (((31 : Int64) * v3) + r37.2.1.toInt64) v5 (v6 + 1) r37.2.2 H locs ls h (lv_sub hl [2, 1, 3, 0] rfl) hP hD hS
      refine lv_iload hx hb dX3_withTasks_5 (lv_at hl 2 rfl) ?_
      refine lv_aload_n hx hb dX3_withTasks_7 rfl (lv_at hl 0 rfl) ?_
      refine va_get (D := G) (ci := 3) (v := .ref (na 0)) (C := RX3) (T := TX3) (N := 8) hx hb hts iX3_withTasks_X3 hown hK hP 0 rfl rfl 0 (by decide) (hts _ qX3_withTasks_1) (fun _ h9 => h9) rfl dX3_withTasks_8 ?_
      refine va_get (D := G) (ci := 1) (v := .int Y.1.2.2.2.2.2.2.2.1) (C := RX1) (T := TX1) (N := 9) hx hb hts iX3_withTasks_X1 hown hK hP 3 rfl rfl 7 (by decide) (hts _ qX3_withTasks_2) (fun _ h9 => h9) rfl dX3_withTasks_11 ?_
      refine lv_icmp_ge (tgt := 55) hx hb dX3_withTasks_14 (by decide) (fun c14 => ?_) (fun c14 => ?_)
      · replace h := tw_t c14 h
        refine lv_lload_n hx hb dX3_withTasks_55 rfl (lv_at hl 1 rfl) ?_
        exact hq H locs _ ls v3 (tw_rt (fun r => r.1 = v3) h rfl) (tw_rt (fun r => va_P G vwCl (tw_wW cI cQ a na pa ta qa xa z r.2) H) h hP) hS dX3_withTasks_56
      · replace h := tw_f c14 h
        refine lv_iconst (v := (0 : Int32)) hx hb dX3_withTasks_17 (by decide) ?_
        refine lv_istore (lv' := [(6, .int (0 : Int32)), (0, .ref (a 0)), (3, .long v3), (5, .int v5)]) hx hb dX3_withTasks_18 hl (by decide) rfl (fun ls hl => ?_)
        exact L20 512 v3 v5 (0 : Int32) Y H locs ls h (lv_sub hl [1, 2, 3, 0] rfl) hP hD hS
  refine lv_lload_n hx hb dX3_withTasks_0 rfl (lv_at hl 1 rfl) ?_
  refine lv_lstore_n (lv' := [(3, .long p1), (0, .ref (a 0)), (1, .long p1)]) hx hb dX3_withTasks_1 rfl hl (by decide) rfl (fun ls hl => ?_)
  refine lv_iconst (v := (0 : Int32)) hx hb dX3_withTasks_2 (by decide) ?_
  refine lv_istore (lv' := [(5, .int (0 : Int32)), (3, .long p1), (0, .ref (a 0)), (1, .long p1)]) hx hb dX3_withTasks_3 hl (by decide) rfl (fun ls hl => ?_)
  exact L5 512 p1 (0 : Int32) Y H locs ls h (lv_sub hl [2, 1, 0] rfl) hP hD hS
abbrev rmX3_withHalls : Room := { frames := 2, cells := 0, slots := 0, locals := 46 }
set_option maxRecDepth 20000 in
theorem qX3_withHalls_0 : (Cond.constantLong RX3 208 31) ∈ wsX3_withHalls := (List.mem_cons_of_mem _ (List.mem_append_left _ (List.mem_append_left _ (List.mem_append_left _ (List.mem_append_left _ (List.mem_append_left _ (List.mem_append_left _ (List.mem_of_getElem? (i := 0) rfl))))))))
set_option maxHeartbeats 4000000 in
set_option maxRecDepth 100000 in
theorem mX3_withHalls (l : Launch) (G : va_G) (cI : ClassId) (cQ : ClassId) (a na pa ta qa xa : Nat → Nat) (z : Nat → Nat → Nat) (Y : tw_Wl) (sz : Nat) (p1 : Int64) {rv : Int64} (h : fX3_withHalls Y p1 = some rv) : tw_Ml l yX3_withHalls wsX3_withHalls rmX3_withHalls G [(cI, .int), (cQ, .object RX1)] (tw_wW cI cQ a na pa ta qa xa z Y) [.ref (a 0), .long p1] sz rv (tw_wW cI cQ a na pa ta qa xa z Y) := by
  refine tw_ofl (cc := cX3_withHalls) (maxL := 7) (own := RX3) (by decide) rfl rfl (Nat.le_of_ble_eq_true rfl) ?_
  intro p e s m args below meth c Q A ls H locs F hN hK hP hD hS hA hl hq
  obtain ⟨hx, hb, hml, hown, hts⟩ := id F
  have hl : lv_has ls 7 [(0, .ref (a 0)), (1, .long p1)] := hl
  unfold fX3_withHalls at h
  have L5 : ∀ (n5 : Nat) (v3 : Int64) (v5 : Int32) (H : Heap) (locs : List Loc) (ls : Array Slot), fX3_withHalls_5 Y p1 n5 v3 v5 = some rv → lv_has ls 7 [(0, .ref (a 0)), (3, .long v3), (5, .int v5)] → va_P G vwCl (tw_wW cI cQ a na pa ta qa xa z Y) H → va_D A (tw_wW cI cQ a na pa ta qa xa z Y) → va_S A s.heap H locs → W p l e rmX3_withHalls s m args below meth c H locs 0 0 Q (F0 m 5 ls []) := by
    intro n5
    induction n5 with
    | zero =>
      intro v3 v5 H locs ls h
      rw [fX3_withHalls_5] at h
      cases h
    | succ n5 ih5 =>
      intro v3 v5 H locs ls h hl hP hD hS
      rw [fX3_withHalls_5] at h
      have L14 : ∀ (n14 : Nat) (v3 : Int64) (v5 : Int32) (v6 : Int32) (H : Heap) (locs : List Loc) (ls : Array Slot), fX3_withHalls_14 Y p1 (fX3_withHalls_5 Y p1 n5) n14 v3 v5 v6 = some rv → lv_has ls 7 [(0, .ref (a 0)), (3, .long v3), (5, .int v5), (6, .int v6)] → va_P G vwCl (tw_wW cI cQ a na pa ta qa xa z Y) H → va_D A (tw_wW cI cQ a na pa ta qa xa z Y) → va_S A s.heap H locs → W p l e rmX3_withHalls s m args below meth c H locs 0 0 Q (F0 m 14 ls []) := by
        intro n14
        induction n14 with
        | zero =>
          intro v3 v5 v6 H locs ls h
          rw [fX3_withHalls_14] at h
          cases h
        | succ n14 ih14 =>
          intro v3 v5 v6 H locs ls h hl hP hD hS
          rw [fX3_withHalls_14] at h
          refine lv_iload hx hb dX3_withHalls_14 (lv_at hl 3 rfl) ?_
          refine lv_iconst (v := (4 : Int32)) hx hb dX3_withHalls_16 (by decide) ?_
          refine lv_icmp_ge (tgt := 42) hx hb dX3_withHalls_17 (by decide) (fun c17 => ?_) (fun c17 => ?_)
          · replace h := tw_t c17 h
            refine lv_iinc (v := (v5 + 1)) (lv' := [(5, .int (v5 + 1)), (0, .ref (a 0)), (3, .long v3), (6, .int v6)]) hx hb dX3_withHalls_42 hl (k := 2) rfl rfl (by decide) rfl (fun ls hl => ?_)
            refine lv_goto (tgt := 5) hx hb dX3_withHalls_45 (by decide) ?_
            exact ih5 v3 (v5 + 1) H locs ls h (lv_sub hl [1, 2, 0] rfl) hP hD hS
          · replace h := tw_f c17 h
            refine lv_ldc2 hx hb hown (hts _ qX3_withHalls_0) dX3_withHalls_20 ?_
            refine lv_lload_n hx hb dX3_withHalls_23 rfl (lv_at hl 1 rfl) ?_
            refine lv_lmul hx hb dX3_withHalls_24 ?_
            refine lv_aload_n hx hb dX3_withHalls_25 rfl (lv_at hl 0 rfl) ?_
            refine lv_iload hx hb dX3_withHalls_26 (lv_at hl 2 rfl) ?_
            refine lv_iload hx hb dX3_withHalls_28 (lv_at hl 3 rfl) ?_
            obtain ⟨r30, e30, h⟩ := tw_bs h
            obtain ⟨k30, h⟩ := tw_qs h
            refine tw_callViF (ws' := (tw_wW cI cQ a na pa ta qa xa z Y)) (As := [.int v5, .int v6]) (rest := [.long ((31 : Int64) * v3)]) F hN hK hP hD hS hA (mX3_hall l G cI cQ a na pa ta qa xa z Y H.size v5 v6 e30 k30) (cwV 2 hts gX3_withHalls_X3_hall rfl rfl rfl (by decide +kernel) ⟨(Nat.le_of_ble_eq_true rfl), (Nat.le_of_ble_eq_true rfl)⟩) rfl (r0 := 0) (ci := 3) rfl rfl rfl rfl hl.1 rfl (Nat.le_of_ble_eq_true rfl) dX3_withHalls_30 ⟨Nat.zero_le _, Nat.zero_le _⟩ (fun H locs hP hD hS => ?_)
            refine lv_i2l hx hb dX3_withHalls_33 rfl ?_
            refine lv_ladd hx hb dX3_withHalls_34 ?_
            refine lv_lstore_n (lv' := [(3, .long (((31 : Int64) * v3) + r30.2.toInt64)), (0, .ref (a 0)), (5, .int v5), (6, .int v6)]) hx hb dX3_withHalls_35 rfl hl (by decide) rfl (fun ls hl => ?_)
            refine lv_iinc (v := (v6 + 1)) (lv' := [(6, .int (v6 + 1)), (3, .long (((31 : Int64) * v3) + r30.2.toInt64)), (0, .ref (a 0)), (5, .int v5)]) hx hb dX3_withHalls_36 hl (k := 3) rfl rfl (by decide) rfl (fun ls hl => ?_)
            refine lv_goto (tgt := 14) hx hb dX3_withHalls_39 (by decide) ?_
            exact ih14 (((31 : Int64) * v3) + r30.2.toInt64) v5 (v6 + 1) H locs ls h (lv_sub hl [2, 1, 3, 0] rfl) hP hD hS
      refine lv_iload hx hb dX3_withHalls_5 (lv_at hl 2 rfl) ?_
      refine lv_iconst (v := (4 : Int32)) hx hb dX3_withHalls_7 (by decide) ?_
      refine lv_icmp_ge (tgt := 48) hx hb dX3_withHalls_8 (by decide) (fun c8 => ?_) (fun c8 => ?_)
      · replace h := tw_t c8 h
        refine lv_lload_n hx hb dX3_withHalls_48 rfl (lv_at hl 1 rfl) ?_
        exact hq H locs _ ls v3 (tw_rt (fun r => r = v3) h rfl) hP hS dX3_withHalls_49
      · replace h := tw_f c8 h
        refine lv_iconst (v := (0 : Int32)) hx hb dX3_withHalls_11 (by decide) ?_
        refine lv_istore (lv' := [(6, .int (0 : Int32)), (0, .ref (a 0)), (3, .long v3), (5, .int v5)]) hx hb dX3_withHalls_12 hl (by decide) rfl (fun ls hl => ?_)
        exact L14 512 v3 v5 (0 : Int32) H locs ls h (lv_sub hl [1, 2, 3, 0] rfl) hP hD hS
  refine lv_lload_n hx hb dX3_withHalls_0 rfl (lv_at hl 1 rfl) ?_
  refine lv_lstore_n (lv' := [(3, .long p1), (0, .ref (a 0)), (1, .long p1)]) hx hb dX3_withHalls_1 rfl hl (by decide) rfl (fun ls hl => ?_)
  refine lv_iconst (v := (0 : Int32)) hx hb dX3_withHalls_2 (by decide) ?_
  refine lv_istore (lv' := [(5, .int (0 : Int32)), (3, .long p1), (0, .ref (a 0)), (1, .long p1)]) hx hb dX3_withHalls_3 hl (by decide) rfl (fun ls hl => ?_)
  exact L5 512 p1 (0 : Int32) H locs ls h (lv_sub hl [2, 1, 0] rfl) hP hD hS
abbrev rmX3_withPersons : Room := { frames := 5, cells := 0, slots := 0, locals := 125 }
set_option maxRecDepth 20000 in
theorem qX3_withPersons_0 : (Cond.constantLong RX3 208 31) ∈ wsX3_withPersons := (List.mem_cons_of_mem _ (List.mem_append_left _ (List.mem_append_left _ (List.mem_append_left _ (List.mem_append_left _ (List.mem_append_left _ (List.mem_of_getElem? (i := 0) rfl)))))))
set_option maxHeartbeats 4000000 in
set_option maxRecDepth 100000 in
theorem mX3_withPersons (l : Launch) (G : va_G) (cI : ClassId) (cQ : ClassId) (a na pa ta qa xa : Nat → Nat) (z : Nat → Nat → Nat) (Y : tw_Wl) (sz : Nat) (p1 : Int64) {rv : Int64 × tw_Wl} (h : fX3_withPersons Y p1 = some rv) : tw_Ml l yX3_withPersons wsX3_withPersons rmX3_withPersons G [(cI, .int), (cQ, .object RX1)] (tw_wW cI cQ a na pa ta qa xa z Y) [.ref (a 0), .long p1] sz rv.1 (tw_wW cI cQ a na pa ta qa xa z rv.2) := by
  refine tw_ofl (cc := cX3_withPersons) (maxL := 7) (own := RX3) (by decide) rfl rfl (Nat.le_of_ble_eq_true rfl) ?_
  intro p e s m args below meth c Q A ls H locs F hN hK hP hD hS hA hl hq
  obtain ⟨hx, hb, hml, hown, hts⟩ := id F
  have hl : lv_has ls 7 [(0, .ref (a 0)), (1, .long p1)] := hl
  unfold fX3_withPersons at h
  have L5 : ∀ (n5 : Nat) (v3 : Int64) (v5 : Int32) (Y : tw_Wl) (H : Heap) (locs : List Loc) (ls : Array Slot), fX3_withPersons_5 p1 n5 v3 v5 Y = some rv → lv_has ls 7 [(0, .ref (a 0)), (3, .long v3), (5, .int v5)] → va_P G vwCl (tw_wW cI cQ a na pa ta qa xa z Y) H → va_D A (tw_wW cI cQ a na pa ta qa xa z Y) → va_S A s.heap H locs → W p l e rmX3_withPersons s m args below meth c H locs 0 0 Q (F0 m 5 ls []) := by
    intro n5
    induction n5 with
    | zero =>
      intro v3 v5 Y H locs ls h
      rw [fX3_withPersons_5] at h
      cases h
    | succ n5 ih5 =>
      intro v3 v5 Y H locs ls h hl hP hD hS
      rw [fX3_withPersons_5] at h
      have L15 : ∀ (n15 : Nat) (v3 : Int64) (v5 : Int32) (v6 : Int32) (Y : tw_Wl) (H : Heap) (locs : List Loc) (ls : Array Slot), fX3_withPersons_15 p1 (fX3_withPersons_5 p1 n5) n15 v3 v5 v6 Y = some rv → lv_has ls 7 [(0, .ref (a 0)), (3, .long v3), (5, .int v5), (6, .int v6)] → va_P G vwCl (tw_wW cI cQ a na pa ta qa xa z Y) H → va_D A (tw_wW cI cQ a na pa ta qa xa z Y) → va_S A s.heap H locs → W p l e rmX3_withPersons s m args below meth c H locs 0 0 Q (F0 m 15 ls []) := by
        intro n15
        induction n15 with
        | zero =>
          intro v3 v5 v6 Y H locs ls h
          rw [fX3_withPersons_15] at h
          cases h
        | succ n15 ih15 =>
          intro v3 v5 v6 Y H locs ls h hl hP hD hS
          rw [fX3_withPersons_15] at h
          refine lv_iload hx hb dX3_withPersons_15 (lv_at hl 3 rfl) ?_
          refine lv_bipush (v := (10 : Int32)) hx hb dX3_withPersons_17 (by decide) ?_
          refine lv_icmp_ge (tgt := 44) hx hb dX3_withPersons_19 (by decide) (fun c19 => ?_) (fun c19 => ?_)
          · replace h := tw_t c19 h
            refine lv_ldc2 hx hb hown (hts _ qX3_withPersons_0) dX3_withPersons_44 ?_
            refine lv_lload_n hx hb dX3_withPersons_47 rfl (lv_at hl 1 rfl) ?_
            refine lv_lmul hx hb dX3_withPersons_48 ?_
            refine lv_aload_n hx hb dX3_withPersons_49 rfl (lv_at hl 0 rfl) ?_
            refine lv_iload hx hb dX3_withPersons_50 (lv_at hl 2 rfl) ?_
            obtain ⟨r52, e52, h⟩ := tw_bs h
            obtain ⟨k52, h⟩ := tw_qs h
            refine tw_callViF (ws' := (tw_wW cI cQ a na pa ta qa xa z r52.2.2)) (As := [.int v5]) (rest := [.long ((31 : Int64) * v3)]) F hN hK hP hD hS hA (mX3_ifFreed l G cI cQ a na pa ta qa xa z Y H.size v5 e52 k52) (cwV 1 hts gX3_withPersons_X3_ifFreed rfl rfl rfl (by decide +kernel) ⟨(Nat.le_of_ble_eq_true rfl), (Nat.le_of_ble_eq_true rfl)⟩) rfl (r0 := 0) (ci := 3) rfl rfl rfl rfl hl.1 rfl (Nat.le_of_ble_eq_true rfl) dX3_withPersons_52 ⟨Nat.zero_le _, Nat.zero_le _⟩ (fun H locs hP hD hS => ?_)
            refine lv_i2l hx hb dX3_withPersons_55 rfl ?_
            refine lv_ladd hx hb dX3_withPersons_56 ?_
            refine lv_lstore_n (lv' := [(3, .long (((31 : Int64) * v3) + r52.2.1.toInt64)), (0, .ref (a 0)), (5, .int v5), (6, .int v6)]) hx hb dX3_withPersons_57 rfl hl (by decide) rfl (fun ls hl => ?_)
            refine lv_iinc (v := (v5 + 1)) (lv' := [(5, .int (v5 + 1)), (3, .long (((31 : Int64) * v3) + r52.2.1.toInt64)), (0, .ref (a 0)), (6, .int v6)]) hx hb dX3_withPersons_58 hl (k := 2) rfl rfl (by decide) rfl (fun ls hl => ?_)
            refine lv_goto (tgt := 5) hx hb dX3_withPersons_61 (by decide) ?_
            exact ih5 (((31 : Int64) * v3) + r52.2.1.toInt64) (v5 + 1) r52.2.2 H locs ls h (lv_sub hl [2, 1, 0] rfl) hP hD hS
          · replace h := tw_f c19 h
            refine lv_ldc2 hx hb hown (hts _ qX3_withPersons_0) dX3_withPersons_22 ?_
            refine lv_lload_n hx hb dX3_withPersons_25 rfl (lv_at hl 1 rfl) ?_
            refine lv_lmul hx hb dX3_withPersons_26 ?_
            refine lv_aload_n hx hb dX3_withPersons_27 rfl (lv_at hl 0 rfl) ?_
            refine lv_iload hx hb dX3_withPersons_28 (lv_at hl 2 rfl) ?_
            refine lv_iload hx hb dX3_withPersons_30 (lv_at hl 3 rfl) ?_
            obtain ⟨r32, e32, h⟩ := tw_bs h
            obtain ⟨k32, h⟩ := tw_qs h
            refine tw_callViF (ws' := (tw_wW cI cQ a na pa ta qa xa z Y)) (As := [.int v5, .int v6]) (rest := [.long ((31 : Int64) * v3)]) F hN hK hP hD hS hA (mX3_personOn l G cI cQ a na pa ta qa xa z Y H.size v5 v6 e32 k32) (cwV 2 hts gX3_withPersons_X3_personOn rfl rfl rfl (by decide +kernel) ⟨(Nat.le_of_ble_eq_true rfl), (Nat.le_of_ble_eq_true rfl)⟩) rfl (r0 := 0) (ci := 3) rfl rfl rfl rfl hl.1 rfl (Nat.le_of_ble_eq_true rfl) dX3_withPersons_32 ⟨Nat.zero_le _, Nat.zero_le _⟩ (fun H locs hP hD hS => ?_)
            refine lv_i2l hx hb dX3_withPersons_35 rfl ?_
            refine lv_ladd hx hb dX3_withPersons_36 ?_
            refine lv_lstore_n (lv' := [(3, .long (((31 : Int64) * v3) + r32.2.toInt64)), (0, .ref (a 0)), (5, .int v5), (6, .int v6)]) hx hb dX3_withPersons_37 rfl hl (by decide) rfl (fun ls hl => ?_)
            refine lv_iinc (v := (v6 + 1)) (lv' := [(6, .int (v6 + 1)), (3, .long (((31 : Int64) * v3) + r32.2.toInt64)), (0, .ref (a 0)), (5, .int v5)]) hx hb dX3_withPersons_38 hl (k := 3) rfl rfl (by decide) rfl (fun ls hl => ?_)
            refine lv_goto (tgt := 15) hx hb dX3_withPersons_41 (by decide) ?_
            exact ih15 (((31 : Int64) * v3) + r32.2.toInt64) v5 (v6 + 1) Y H locs ls h (lv_sub hl [2, 1, 3, 0] rfl) hP hD hS
      refine lv_iload hx hb dX3_withPersons_5 (lv_at hl 2 rfl) ?_
      refine lv_bipush (v := (6 : Int32)) hx hb dX3_withPersons_7 (by decide) ?_
      refine lv_icmp_ge (tgt := 64) hx hb dX3_withPersons_9 (by decide) (fun c9 => ?_) (fun c9 => ?_)
      · replace h := tw_t c9 h
        refine lv_lload_n hx hb dX3_withPersons_64 rfl (lv_at hl 1 rfl) ?_
        exact hq H locs _ ls v3 (tw_rt (fun r => r.1 = v3) h rfl) (tw_rt (fun r => va_P G vwCl (tw_wW cI cQ a na pa ta qa xa z r.2) H) h hP) hS dX3_withPersons_65
      · replace h := tw_f c9 h
        refine lv_iconst (v := (0 : Int32)) hx hb dX3_withPersons_12 (by decide) ?_
        refine lv_istore (lv' := [(6, .int (0 : Int32)), (0, .ref (a 0)), (3, .long v3), (5, .int v5)]) hx hb dX3_withPersons_13 hl (by decide) rfl (fun ls hl => ?_)
        exact L15 512 v3 v5 (0 : Int32) Y H locs ls h (lv_sub hl [1, 2, 3, 0] rfl) hP hD hS
  refine lv_lload_n hx hb dX3_withPersons_0 rfl (lv_at hl 1 rfl) ?_
  refine lv_lstore_n (lv' := [(3, .long p1), (0, .ref (a 0)), (1, .long p1)]) hx hb dX3_withPersons_1 rfl hl (by decide) rfl (fun ls hl => ?_)
  refine lv_iconst (v := (0 : Int32)) hx hb dX3_withPersons_2 (by decide) ?_
  refine lv_istore (lv' := [(5, .int (0 : Int32)), (3, .long p1), (0, .ref (a 0)), (1, .long p1)]) hx hb dX3_withPersons_3 hl (by decide) rfl (fun ls hl => ?_)
  exact L5 512 p1 (0 : Int32) Y H locs ls h (lv_sub hl [2, 1, 0] rfl) hP hD hS
abbrev rmX3_withRules : Room := { frames := 6, cells := 0, slots := 0, locals := 146 }
set_option maxRecDepth 20000 in
theorem qX3_withRules_0 : (Cond.constantLong RX3 208 31) ∈ wsX3_withRules := (List.mem_cons_of_mem _ (List.mem_append_left _ (List.mem_append_left _ (List.mem_append_left _ (List.mem_append_left _ (List.mem_append_left _ (List.mem_of_getElem? (i := 0) rfl)))))))
set_option maxHeartbeats 4000000 in
set_option maxRecDepth 100000 in
theorem mX3_withRules (l : Launch) (G : va_G) (cI : ClassId) (cQ : ClassId) (a na pa ta qa xa : Nat → Nat) (z : Nat → Nat → Nat) (Y : tw_Wl) (sz : Nat) (p1 : Int64) {rv : Int64 × tw_Wl} (h : fX3_withRules Y p1 = some rv) : tw_Ml l yX3_withRules wsX3_withRules rmX3_withRules G [(cI, .int), (cQ, .object RX1)] (tw_wW cI cQ a na pa ta qa xa z Y) [.ref (a 0), .long p1] sz rv.1 (tw_wW cI cQ a na pa ta qa xa z rv.2) := by
  refine tw_ofl (cc := cX3_withRules) (maxL := 7) (own := RX3) (by decide) rfl rfl (Nat.le_of_ble_eq_true rfl) ?_
  intro p e s m args below meth c Q A ls H locs F hN hK hP hD hS hA hl hq
  obtain ⟨hx, hb, hml, hown, hts⟩ := id F
  have hl : lv_has ls 7 [(0, .ref (a 0)), (1, .long p1)] := hl
  unfold fX3_withRules at h
  have L5 : ∀ (n5 : Nat) (v3 : Int64) (v5 : Int32) (Y : tw_Wl) (H : Heap) (locs : List Loc) (ls : Array Slot), fX3_withRules_5 p1 n5 v3 v5 Y = some rv → lv_has ls 7 [(0, .ref (a 0)), (3, .long v3), (5, .int v5)] → va_P G vwCl (tw_wW cI cQ a na pa ta qa xa z Y) H → va_D A (tw_wW cI cQ a na pa ta qa xa z Y) → va_S A s.heap H locs → W p l e rmX3_withRules s m args below meth c H locs 0 0 Q (F0 m 5 ls []) := by
    intro n5
    induction n5 with
    | zero =>
      intro v3 v5 Y H locs ls h
      rw [fX3_withRules_5] at h
      cases h
    | succ n5 ih5 =>
      intro v3 v5 Y H locs ls h hl hP hD hS
      rw [fX3_withRules_5] at h
      have L14 : ∀ (n14 : Nat) (v3 : Int64) (v5 : Int32) (v6 : Int32) (Y : tw_Wl) (H : Heap) (locs : List Loc) (ls : Array Slot), fX3_withRules_14 p1 (fX3_withRules_5 p1 n5) n14 v3 v5 v6 Y = some rv → lv_has ls 7 [(0, .ref (a 0)), (3, .long v3), (5, .int v5), (6, .int v6)] → va_P G vwCl (tw_wW cI cQ a na pa ta qa xa z Y) H → va_D A (tw_wW cI cQ a na pa ta qa xa z Y) → va_S A s.heap H locs → W p l e rmX3_withRules s m args below meth c H locs 0 0 Q (F0 m 14 ls []) := by
        intro n14
        induction n14 with
        | zero =>
          intro v3 v5 v6 Y H locs ls h
          rw [fX3_withRules_14] at h
          cases h
        | succ n14 ih14 =>
          intro v3 v5 v6 Y H locs ls h hl hP hD hS
          rw [fX3_withRules_14] at h
          refine lv_iload hx hb dX3_withRules_14 (lv_at hl 3 rfl) ?_
          refine lv_iconst (v := (3 : Int32)) hx hb dX3_withRules_16 (by decide) ?_
          refine lv_icmp_ge (tgt := 42) hx hb dX3_withRules_17 (by decide) (fun c17 => ?_) (fun c17 => ?_)
          · replace h := tw_t c17 h
            refine lv_iinc (v := (v5 + 1)) (lv' := [(5, .int (v5 + 1)), (0, .ref (a 0)), (3, .long v3), (6, .int v6)]) hx hb dX3_withRules_42 hl (k := 2) rfl rfl (by decide) rfl (fun ls hl => ?_)
            refine lv_goto (tgt := 5) hx hb dX3_withRules_45 (by decide) ?_
            exact ih5 v3 (v5 + 1) Y H locs ls h (lv_sub hl [1, 2, 0] rfl) hP hD hS
          · replace h := tw_f c17 h
            refine lv_ldc2 hx hb hown (hts _ qX3_withRules_0) dX3_withRules_20 ?_
            refine lv_lload_n hx hb dX3_withRules_23 rfl (lv_at hl 1 rfl) ?_
            refine lv_lmul hx hb dX3_withRules_24 ?_
            refine lv_aload_n hx hb dX3_withRules_25 rfl (lv_at hl 0 rfl) ?_
            refine lv_iload hx hb dX3_withRules_26 (lv_at hl 2 rfl) ?_
            refine lv_iload hx hb dX3_withRules_28 (lv_at hl 3 rfl) ?_
            obtain ⟨r30, e30, h⟩ := tw_bs h
            obtain ⟨k30, h⟩ := tw_qs h
            refine tw_callViF (ws' := (tw_wW cI cQ a na pa ta qa xa z r30.2.2)) (As := [.int v5, .int v6]) (rest := [.long ((31 : Int64) * v3)]) F hN hK hP hD hS hA (mX3_ifRule l G cI cQ a na pa ta qa xa z Y H.size v5 v6 e30 k30) (cwV 2 hts gX3_withRules_X3_ifRule rfl rfl rfl (by decide +kernel) ⟨(Nat.le_of_ble_eq_true rfl), (Nat.le_of_ble_eq_true rfl)⟩) rfl (r0 := 0) (ci := 3) rfl rfl rfl rfl hl.1 rfl (Nat.le_of_ble_eq_true rfl) dX3_withRules_30 ⟨Nat.zero_le _, Nat.zero_le _⟩ (fun H locs hP hD hS => ?_)
            refine lv_i2l hx hb dX3_withRules_33 rfl ?_
            refine lv_ladd hx hb dX3_withRules_34 ?_
            refine lv_lstore_n (lv' := [(3, .long (((31 : Int64) * v3) + r30.2.1.toInt64)), (0, .ref (a 0)), (5, .int v5), (6, .int v6)]) hx hb dX3_withRules_35 rfl hl (by decide) rfl (fun ls hl => ?_)
            refine lv_iinc (v := (v6 + 1)) (lv' := [(6, .int (v6 + 1)), (3, .long (((31 : Int64) * v3) + r30.2.1.toInt64)), (0, .ref (a 0)), (5, .int v5)]) hx hb dX3_withRules_36 hl (k := 3) rfl rfl (by decide) rfl (fun ls hl => ?_)
            refine lv_goto (tgt := 14) hx hb dX3_withRules_39 (by decide) ?_
            exact ih14 (((31 : Int64) * v3) + r30.2.1.toInt64) v5 (v6 + 1) r30.2.2 H locs ls h (lv_sub hl [2, 1, 3, 0] rfl) hP hD hS
      refine lv_iload hx hb dX3_withRules_5 (lv_at hl 2 rfl) ?_
      refine lv_iconst (v := (4 : Int32)) hx hb dX3_withRules_7 (by decide) ?_
      refine lv_icmp_ge (tgt := 48) hx hb dX3_withRules_8 (by decide) (fun c8 => ?_) (fun c8 => ?_)
      · replace h := tw_t c8 h
        refine lv_lload_n hx hb dX3_withRules_48 rfl (lv_at hl 1 rfl) ?_
        exact hq H locs _ ls v3 (tw_rt (fun r => r.1 = v3) h rfl) (tw_rt (fun r => va_P G vwCl (tw_wW cI cQ a na pa ta qa xa z r.2) H) h hP) hS dX3_withRules_49
      · replace h := tw_f c8 h
        refine lv_iconst (v := (0 : Int32)) hx hb dX3_withRules_11 (by decide) ?_
        refine lv_istore (lv' := [(6, .int (0 : Int32)), (0, .ref (a 0)), (3, .long v3), (5, .int v5)]) hx hb dX3_withRules_12 hl (by decide) rfl (fun ls hl => ?_)
        exact L14 512 v3 v5 (0 : Int32) Y H locs ls h (lv_sub hl [1, 2, 3, 0] rfl) hP hD hS
  refine lv_lload_n hx hb dX3_withRules_0 rfl (lv_at hl 1 rfl) ?_
  refine lv_lstore_n (lv' := [(3, .long p1), (0, .ref (a 0)), (1, .long p1)]) hx hb dX3_withRules_1 rfl hl (by decide) rfl (fun ls hl => ?_)
  refine lv_iconst (v := (0 : Int32)) hx hb dX3_withRules_2 (by decide) ?_
  refine lv_istore (lv' := [(5, .int (0 : Int32)), (3, .long p1), (0, .ref (a 0)), (1, .long p1)]) hx hb dX3_withRules_3 hl (by decide) rfl (fun ls hl => ?_)
  exact L5 512 p1 (0 : Int32) Y H locs ls h (lv_sub hl [2, 1, 0] rfl) hP hD hS
abbrev rmX3_withText : Room := { frames := 0, cells := 0, slots := 0, locals := 0 }
set_option maxRecDepth 20000 in
theorem qX3_withText_0 : (Cond.fieldLink RX3 36 "TheatreWall" "text" "LTheatreWall$Text;") ∈ wsX3_withText := (List.mem_cons_of_mem _ (List.mem_append_left _ (List.mem_append_left _ (List.mem_of_getElem? (i := 1) rfl))))
set_option maxRecDepth 20000 in
theorem qX3_withText_1 : (Cond.fieldLink RX3 142 "TheatreWall$Text" "size" "I") ∈ wsX3_withText := (List.mem_cons_of_mem _ (List.mem_append_left _ (List.mem_append_left _ (List.mem_of_getElem? (i := 2) rfl))))
set_option maxRecDepth 20000 in
theorem qX3_withText_2 : (Cond.constantLong RX3 208 31) ∈ wsX3_withText := (List.mem_cons_of_mem _ (List.mem_append_left _ (List.mem_append_left _ (List.mem_of_getElem? (i := 0) rfl))))
set_option maxRecDepth 20000 in
theorem qX3_withText_3 : (Cond.fieldLink RX3 143 "TheatreWall$Text" "codes" "[I") ∈ wsX3_withText := (List.mem_cons_of_mem _ (List.mem_append_left _ (List.mem_append_left _ (List.mem_of_getElem? (i := 3) rfl))))
set_option maxRecDepth 20000 in
theorem iX3_withText_X3 : ∀ w ∈ u_ws RX3 TX3 8, w ∈ wsX3_withText := fun w h => (List.mem_cons_of_mem _ (List.mem_append_left _ (List.mem_append_right _ h)))
set_option maxRecDepth 20000 in
theorem iX3_withText_X2 : ∀ w ∈ u_ws RX2 TX2 2, w ∈ wsX3_withText := fun w h => (List.mem_cons_of_mem _ (List.mem_append_right _ h))
set_option maxHeartbeats 4000000 in
set_option maxRecDepth 100000 in
theorem mX3_withText (l : Launch) (G : va_G) (cI : ClassId) (cQ : ClassId) (a na pa ta qa xa : Nat → Nat) (z : Nat → Nat → Nat) (Y : tw_Wl) (sz : Nat) (p1 : Int64) {rv : Int64} (h : fX3_withText Y p1 = some rv) : tw_Ml l yX3_withText wsX3_withText rmX3_withText G [(cI, .int), (cQ, .object RX1)] (tw_wW cI cQ a na pa ta qa xa z Y) [.ref (a 0), .long p1] sz rv (tw_wW cI cQ a na pa ta qa xa z Y) := by
  refine tw_ofl (cc := cX3_withText) (maxL := 6) (own := RX3) (by decide) rfl rfl (Nat.le_of_ble_eq_true rfl) ?_
  intro p e s m args below meth c Q A ls H locs F hN hK hP hD hS hA hl hq
  obtain ⟨hx, hb, hml, hown, hts⟩ := id F
  have hl : lv_has ls 6 [(0, .ref (a 0)), (1, .long p1)] := hl
  unfold fX3_withText at h
  have L18 : ∀ (n18 : Nat) (v3 : Int64) (v5 : Int32) (H : Heap) (locs : List Loc) (ls : Array Slot), fX3_withText_18 Y p1 n18 v3 v5 = some rv → lv_has ls 6 [(0, .ref (a 0)), (3, .long v3), (5, .int v5)] → va_P G vwCl (tw_wW cI cQ a na pa ta qa xa z Y) H → va_D A (tw_wW cI cQ a na pa ta qa xa z Y) → va_S A s.heap H locs → W p l e rmX3_withText s m args below meth c H locs 0 0 Q (F0 m 18 ls []) := by
    intro n18
    induction n18 with
    | zero =>
      intro v3 v5 H locs ls h
      rw [fX3_withText_18] at h
      cases h
    | succ n18 ih18 =>
      intro v3 v5 H locs ls h hl hP hD hS
      rw [fX3_withText_18] at h
      refine lv_iload hx hb dX3_withText_18 (lv_at hl 2 rfl) ?_
      refine lv_aload_n hx hb dX3_withText_20 rfl (lv_at hl 0 rfl) ?_
      refine va_get (D := G) (ci := 3) (v := .ref (xa 0)) (C := RX3) (T := TX3) (N := 8) hx hb hts iX3_withText_X3 hown hK hP 0 rfl rfl 5 (by decide) (hts _ qX3_withText_0) (fun _ h9 => h9) rfl dX3_withText_21 ?_
      refine va_get (D := G) (ci := 2) (v := .int Y.2.2.2.2.1.2) (C := RX2) (T := TX2) (N := 2) hx hb hts iX3_withText_X2 hown hK hP 25 rfl rfl 1 (by decide) (hts _ qX3_withText_1) (fun _ h9 => h9) rfl dX3_withText_24 ?_
      refine lv_icmp_ge (tgt := 54) hx hb dX3_withText_27 (by decide) (fun c27 => ?_) (fun c27 => ?_)
      · replace h := tw_t c27 h
        refine lv_lload_n hx hb dX3_withText_54 rfl (lv_at hl 1 rfl) ?_
        exact hq H locs _ ls v3 (tw_rt (fun r => r = v3) h rfl) hP hS dX3_withText_55
      · replace h := tw_f c27 h
        refine lv_ldc2 hx hb hown (hts _ qX3_withText_2) dX3_withText_30 ?_
        refine lv_lload_n hx hb dX3_withText_33 rfl (lv_at hl 1 rfl) ?_
        refine lv_lmul hx hb dX3_withText_34 ?_
        refine lv_aload_n hx hb dX3_withText_35 rfl (lv_at hl 0 rfl) ?_
        refine va_get (D := G) (ci := 3) (v := .ref (xa 0)) (C := RX3) (T := TX3) (N := 8) hx hb hts iX3_withText_X3 hown hK hP 0 rfl rfl 5 (by decide) (hts _ qX3_withText_0) (fun _ h9 => h9) rfl dX3_withText_36 ?_
        refine va_get (D := G) (ci := 2) (v := .ref (xa 1)) (C := RX2) (T := TX2) (N := 2) hx hb hts iX3_withText_X2 hown hK hP 25 rfl rfl 0 (by decide) (hts _ qX3_withText_3) (fun _ h9 => h9) rfl dX3_withText_39 ?_
        refine lv_iload hx hb dX3_withText_42 (lv_at hl 2 rfl) ?_
        obtain ⟨g44, h⟩ := tw_gs h
        refine va_iald (f := Y.2.2.2.2.1.1) (n := 60) hx hb hK hP 26 0 rfl rfl g44 dX3_withText_44 ?_
        refine lv_i2l hx hb dX3_withText_45 rfl ?_
        refine lv_ladd hx hb dX3_withText_46 ?_
        refine lv_lstore_n (lv' := [(3, .long (((31 : Int64) * v3) + ((Y.2.2.2.2.1.1 v5.toNatClampNeg).toInt64))), (0, .ref (a 0)), (5, .int v5)]) hx hb dX3_withText_47 rfl hl (by decide) rfl (fun ls hl => ?_)
        refine lv_iinc (v := (v5 + 1)) (lv' := [(5, .int (v5 + 1)), (3, .long (((31 : Int64) * v3) + ((Y.2.2.2.2.1.1 v5.toNatClampNeg).toInt64))), (0, .ref (a 0))]) hx hb dX3_withText_48 hl (k := 2) rfl rfl (by decide) rfl (fun ls hl => ?_)
        refine lv_goto (tgt := 18) hx hb dX3_withText_51 (by decide) ?_
        exact ih18 (((31 : Int64) * v3) + ((Y.2.2.2.2.1.1 v5.toNatClampNeg).toInt64)) (v5 + 1) H locs ls h (lv_sub hl [2, 1, 0] rfl) hP hD hS
  refine lv_ldc2 hx hb hown (hts _ qX3_withText_2) dX3_withText_0 ?_
  refine lv_lload_n hx hb dX3_withText_3 rfl (lv_at hl 1 rfl) ?_
  refine lv_lmul hx hb dX3_withText_4 ?_
  refine lv_aload_n hx hb dX3_withText_5 rfl (lv_at hl 0 rfl) ?_
  refine va_get (D := G) (ci := 3) (v := .ref (xa 0)) (C := RX3) (T := TX3) (N := 8) hx hb hts iX3_withText_X3 hown hK hP 0 rfl rfl 5 (by decide) (hts _ qX3_withText_0) (fun _ h9 => h9) rfl dX3_withText_6 ?_
  refine va_get (D := G) (ci := 2) (v := .int Y.2.2.2.2.1.2) (C := RX2) (T := TX2) (N := 2) hx hb hts iX3_withText_X2 hown hK hP 25 rfl rfl 1 (by decide) (hts _ qX3_withText_1) (fun _ h9 => h9) rfl dX3_withText_9 ?_
  refine lv_i2l hx hb dX3_withText_12 rfl ?_
  refine lv_ladd hx hb dX3_withText_13 ?_
  refine lv_lstore_n (lv' := [(3, .long (((31 : Int64) * p1) + Y.2.2.2.2.1.2.toInt64)), (0, .ref (a 0)), (1, .long p1)]) hx hb dX3_withText_14 rfl hl (by decide) rfl (fun ls hl => ?_)
  refine lv_iconst (v := (0 : Int32)) hx hb dX3_withText_15 (by decide) ?_
  refine lv_istore (lv' := [(5, .int (0 : Int32)), (3, .long (((31 : Int64) * p1) + Y.2.2.2.2.1.2.toInt64)), (0, .ref (a 0)), (1, .long p1)]) hx hb dX3_withText_16 hl (by decide) rfl (fun ls hl => ?_)
  exact L18 512 (((31 : Int64) * p1) + Y.2.2.2.2.1.2.toInt64) (0 : Int32) H locs ls h (lv_sub hl [2, 1, 0] rfl) hP hD hS
abbrev rmX3_digest : Room := { frames := 7, cells := 0, slots := 0, locals := 174 }
set_option maxRecDepth 20000 in
theorem qX3_digest_0 : (Cond.constantLong RX3 208 31) ∈ wsX3_digest := (List.mem_cons_of_mem _ (List.mem_append_left _ (List.mem_append_left _ (List.mem_append_left _ (List.mem_append_left _ (List.mem_append_left _ (List.mem_append_left _ (List.mem_append_left _ (List.mem_of_getElem? (i := 1) rfl)))))))))
set_option maxRecDepth 20000 in
theorem qX3_digest_1 : (Cond.fieldLink RX3 10 "TheatreWall" "now" "LTheatreWall$State;") ∈ wsX3_digest := (List.mem_cons_of_mem _ (List.mem_append_left _ (List.mem_append_left _ (List.mem_append_left _ (List.mem_append_left _ (List.mem_append_left _ (List.mem_append_left _ (List.mem_append_left _ (List.mem_of_getElem? (i := 2) rfl)))))))))
set_option maxRecDepth 20000 in
theorem qX3_digest_2 : (Cond.fieldLink RX3 139 "TheatreWall$State" "order" "I") ∈ wsX3_digest := (List.mem_cons_of_mem _ (List.mem_append_left _ (List.mem_append_left _ (List.mem_append_left _ (List.mem_append_left _ (List.mem_append_left _ (List.mem_append_left _ (List.mem_append_left _ (List.mem_of_getElem? (i := 3) rfl)))))))))
set_option maxRecDepth 20000 in
theorem qX3_digest_3 : (Cond.constantLong RX3 206 2791) ∈ wsX3_digest := (List.mem_cons_of_mem _ (List.mem_append_left _ (List.mem_append_left _ (List.mem_append_left _ (List.mem_append_left _ (List.mem_append_left _ (List.mem_append_left _ (List.mem_append_left _ (List.mem_of_getElem? (i := 0) rfl)))))))))
set_option maxRecDepth 20000 in
theorem iX3_digest_X3 : ∀ w ∈ u_ws RX3 TX3 8, w ∈ wsX3_digest := fun w h => (List.mem_cons_of_mem _ (List.mem_append_left _ (List.mem_append_left _ (List.mem_append_left _ (List.mem_append_left _ (List.mem_append_left _ (List.mem_append_right _ h)))))))
set_option maxRecDepth 20000 in
theorem iX3_digest_X1 : ∀ w ∈ u_ws RX1 TX1 9, w ∈ wsX3_digest := fun w h => (List.mem_cons_of_mem _ (List.mem_append_left _ (List.mem_append_left _ (List.mem_append_left _ (List.mem_append_left _ (List.mem_append_right _ h))))))
set_option maxHeartbeats 4000000 in
set_option maxRecDepth 100000 in
theorem mX3_digest (l : Launch) (G : va_G) (cI : ClassId) (cQ : ClassId) (a na pa ta qa xa : Nat → Nat) (z : Nat → Nat → Nat) (Y : tw_Wl) (sz : Nat)  {rv : Int64 × tw_Wl} (h : fX3_digest Y = some rv) : tw_Ml l yX3_digest wsX3_digest rmX3_digest G [(cI, .int), (cQ, .object RX1)] (tw_wW cI cQ a na pa ta qa xa z Y) [.ref (a 0)] sz rv.1 (tw_wW cI cQ a na pa ta qa xa z rv.2) := by
  refine tw_ofl (cc := cX3_digest) (maxL := 4) (own := RX3) (by decide) rfl rfl (Nat.le_of_ble_eq_true rfl) ?_
  intro p e s m args below meth c Q A ls H locs F hN hK hP hD hS hA hl hq
  obtain ⟨hx, hb, hml, hown, hts⟩ := id F
  have hl : lv_has ls 4 [(0, .ref (a 0))] := hl
  unfold fX3_digest at h
  have L6 : ∀ (n6 : Nat) (v1 : Int64) (v3 : Int32) (Y : tw_Wl) (H : Heap) (locs : List Loc) (ls : Array Slot), fX3_digest_6 n6 v1 v3 Y = some rv → lv_has ls 4 [(0, .ref (a 0)), (1, .long v1), (3, .int v3)] → va_P G vwCl (tw_wW cI cQ a na pa ta qa xa z Y) H → va_D A (tw_wW cI cQ a na pa ta qa xa z Y) → va_S A s.heap H locs → W p l e rmX3_digest s m args below meth c H locs 0 0 Q (F0 m 6 ls []) := by
    intro n6
    induction n6 with
    | zero =>
      intro v1 v3 Y H locs ls h
      rw [fX3_digest_6] at h
      cases h
    | succ n6 ih6 =>
      intro v1 v3 Y H locs ls h hl hP hD hS
      rw [fX3_digest_6] at h
      refine lv_iload_n hx hb dX3_digest_6 rfl (lv_at hl 2 rfl) ?_
      refine lv_bipush (v := (9 : Int32)) hx hb dX3_digest_7 (by decide) ?_
      refine lv_icmp_ge (tgt := 31) hx hb dX3_digest_9 (by decide) (fun c9 => ?_) (fun c9 => ?_)
      · replace h := tw_t c9 h
        refine lv_ldc2 hx hb hown (hts _ qX3_digest_0) dX3_digest_31 ?_
        refine lv_lload_n hx hb dX3_digest_34 rfl (lv_at hl 1 rfl) ?_
        refine lv_lmul hx hb dX3_digest_35 ?_
        refine lv_aload_n hx hb dX3_digest_36 rfl (lv_at hl 0 rfl) ?_
        refine va_get (D := G) (ci := 3) (v := .ref (na 0)) (C := RX3) (T := TX3) (N := 8) hx hb hts iX3_digest_X3 hown hK hP 0 rfl rfl 0 (by decide) (hts _ qX3_digest_1) (fun _ h9 => h9) rfl dX3_digest_37 ?_
        refine va_get (D := G) (ci := 1) (v := .int Y.1.2.2.2.2.2.2.2.2) (C := RX1) (T := TX1) (N := 9) hx hb hts iX3_digest_X1 hown hK hP 3 rfl rfl 8 (by decide) (hts _ qX3_digest_2) (fun _ h9 => h9) rfl dX3_digest_40 ?_
        refine lv_i2l hx hb dX3_digest_43 rfl ?_
        refine lv_ladd hx hb dX3_digest_44 ?_
        refine lv_lstore_n (lv' := [(1, .long (((31 : Int64) * v1) + Y.1.2.2.2.2.2.2.2.2.toInt64)), (0, .ref (a 0)), (3, .int v3)]) hx hb dX3_digest_45 rfl hl (by decide) rfl (fun ls hl => ?_)
        refine lv_aload_n hx hb dX3_digest_46 rfl (lv_at hl 1 rfl) ?_
        refine lv_lload_n hx hb dX3_digest_47 rfl (lv_at hl 0 rfl) ?_
        obtain ⟨r48, e48, h⟩ := tw_bs h
        refine tw_callVlF (ws' := (tw_wW cI cQ a na pa ta qa xa z r48.2)) (As := [.long (((31 : Int64) * v1) + Y.1.2.2.2.2.2.2.2.2.toInt64)]) (rest := []) F hN hK hP hD hS hA (mX3_withTasks l G cI cQ a na pa ta qa xa z Y H.size (((31 : Int64) * v1) + Y.1.2.2.2.2.2.2.2.2.toInt64) e48) (cwV 1 hts gX3_digest_X3_withTasks rfl rfl rfl (by decide +kernel) ⟨(Nat.le_of_ble_eq_true rfl), (Nat.le_of_ble_eq_true rfl)⟩) rfl (r0 := 0) (ci := 3) rfl rfl rfl rfl hl.1 rfl (Nat.le_of_ble_eq_true rfl) dX3_digest_48 ⟨Nat.zero_le _, Nat.zero_le _⟩ (fun H locs hP hD hS => ?_)
        refine lv_lstore_n (lv' := [(1, .long r48.1), (0, .ref (a 0)), (3, .int v3)]) hx hb dX3_digest_51 rfl hl (by decide) rfl (fun ls hl => ?_)
        refine lv_aload_n hx hb dX3_digest_52 rfl (lv_at hl 1 rfl) ?_
        refine lv_lload_n hx hb dX3_digest_53 rfl (lv_at hl 0 rfl) ?_
        obtain ⟨r54, e54, h⟩ := tw_bs h
        refine tw_callVlF (ws' := (tw_wW cI cQ a na pa ta qa xa z r48.2)) (As := [.long r48.1]) (rest := []) F hN hK hP hD hS hA (mX3_withHalls l G cI cQ a na pa ta qa xa z r48.2 H.size r48.1 e54) (cwV 1 hts gX3_digest_X3_withHalls rfl rfl rfl (by decide +kernel) ⟨(Nat.le_of_ble_eq_true rfl), (Nat.le_of_ble_eq_true rfl)⟩) rfl (r0 := 0) (ci := 3) rfl rfl rfl rfl hl.1 rfl (Nat.le_of_ble_eq_true rfl) dX3_digest_54 ⟨Nat.zero_le _, Nat.zero_le _⟩ (fun H locs hP hD hS => ?_)
        refine lv_lstore_n (lv' := [(1, .long r54), (0, .ref (a 0)), (3, .int v3)]) hx hb dX3_digest_57 rfl hl (by decide) rfl (fun ls hl => ?_)
        refine lv_aload_n hx hb dX3_digest_58 rfl (lv_at hl 1 rfl) ?_
        refine lv_lload_n hx hb dX3_digest_59 rfl (lv_at hl 0 rfl) ?_
        obtain ⟨r60, e60, h⟩ := tw_bs h
        refine tw_callVlF (ws' := (tw_wW cI cQ a na pa ta qa xa z r60.2)) (As := [.long r54]) (rest := []) F hN hK hP hD hS hA (mX3_withPersons l G cI cQ a na pa ta qa xa z r48.2 H.size r54 e60) (cwV 1 hts gX3_digest_X3_withPersons rfl rfl rfl (by decide +kernel) ⟨(Nat.le_of_ble_eq_true rfl), (Nat.le_of_ble_eq_true rfl)⟩) rfl (r0 := 0) (ci := 3) rfl rfl rfl rfl hl.1 rfl (Nat.le_of_ble_eq_true rfl) dX3_digest_60 ⟨Nat.zero_le _, Nat.zero_le _⟩ (fun H locs hP hD hS => ?_)
        refine lv_lstore_n (lv' := [(1, .long r60.1), (0, .ref (a 0)), (3, .int v3)]) hx hb dX3_digest_63 rfl hl (by decide) rfl (fun ls hl => ?_)
        refine lv_aload_n hx hb dX3_digest_64 rfl (lv_at hl 1 rfl) ?_
        refine lv_lload_n hx hb dX3_digest_65 rfl (lv_at hl 0 rfl) ?_
        obtain ⟨r66, e66, h⟩ := tw_bs h
        refine tw_callVlF (ws' := (tw_wW cI cQ a na pa ta qa xa z r66.2)) (As := [.long r60.1]) (rest := []) F hN hK hP hD hS hA (mX3_withRules l G cI cQ a na pa ta qa xa z r60.2 H.size r60.1 e66) (cwV 1 hts gX3_digest_X3_withRules rfl rfl rfl (by decide +kernel) ⟨(Nat.le_of_ble_eq_true rfl), (Nat.le_of_ble_eq_true rfl)⟩) rfl (r0 := 0) (ci := 3) rfl rfl rfl rfl hl.1 rfl (Nat.le_of_ble_eq_true rfl) dX3_digest_66 ⟨Nat.zero_le _, Nat.zero_le _⟩ (fun H locs hP hD hS => ?_)
        refine lv_lstore_n (lv' := [(1, .long r66.1), (0, .ref (a 0)), (3, .int v3)]) hx hb dX3_digest_69 rfl hl (by decide) rfl (fun ls hl => ?_)
        refine lv_ldc2 hx hb hown (hts _ qX3_digest_0) dX3_digest_70 ?_
        refine lv_lload_n hx hb dX3_digest_73 rfl (lv_at hl 0 rfl) ?_
        refine lv_lmul hx hb dX3_digest_74 ?_
        refine lv_aload_n hx hb dX3_digest_75 rfl (lv_at hl 1 rfl) ?_
        obtain ⟨r76, e76, h⟩ := tw_bs h
        refine tw_callViF (ws' := (tw_wW cI cQ a na pa ta qa xa z r76.2)) (As := []) (rest := [.long ((31 : Int64) * r66.1)]) F hN hK hP hD hS hA (mX3_bestRule l G cI cQ a na pa ta qa xa z r66.2 H.size e76) (cwV 0 hts gX3_digest_X3_bestRule rfl rfl rfl (by decide +kernel) ⟨(Nat.le_of_ble_eq_true rfl), (Nat.le_of_ble_eq_true rfl)⟩) rfl (r0 := 0) (ci := 3) rfl rfl rfl rfl hl.1 rfl (Nat.le_of_ble_eq_true rfl) dX3_digest_76 ⟨Nat.zero_le _, Nat.zero_le _⟩ (fun H locs hP hD hS => ?_)
        refine lv_i2l hx hb dX3_digest_79 rfl ?_
        refine lv_ladd hx hb dX3_digest_80 ?_
        refine lv_lstore_n (lv' := [(1, .long (((31 : Int64) * r66.1) + r76.1.toInt64)), (0, .ref (a 0)), (3, .int v3)]) hx hb dX3_digest_81 rfl hl (by decide) rfl (fun ls hl => ?_)
        refine lv_ldc2 hx hb hown (hts _ qX3_digest_0) dX3_digest_82 ?_
        refine lv_lload_n hx hb dX3_digest_85 rfl (lv_at hl 0 rfl) ?_
        refine lv_lmul hx hb dX3_digest_86 ?_
        refine lv_aload_n hx hb dX3_digest_87 rfl (lv_at hl 1 rfl) ?_
        refine lv_iconst (v := (3 : Int32)) hx hb dX3_digest_88 (by decide) ?_
        obtain ⟨r89, e89, h⟩ := tw_bs h
        obtain ⟨k89, h⟩ := tw_qs h
        refine tw_callViF (ws' := (tw_wW cI cQ a na pa ta qa xa z r89.2.2)) (As := [.int (3 : Int32)]) (rest := [.long ((31 : Int64) * (((31 : Int64) * r66.1) + r76.1.toInt64))]) F hN hK hP hD hS hA (mX3_worstSlip l G cI cQ a na pa ta qa xa z r76.2 H.size (3 : Int32) e89 k89) (cwV 1 hts gX3_digest_X3_worstSlip rfl rfl rfl (by decide +kernel) ⟨(Nat.le_of_ble_eq_true rfl), (Nat.le_of_ble_eq_true rfl)⟩) rfl (r0 := 0) (ci := 3) rfl rfl rfl rfl hl.1 rfl (Nat.le_of_ble_eq_true rfl) dX3_digest_89 ⟨Nat.zero_le _, Nat.zero_le _⟩ (fun H locs hP hD hS => ?_)
        refine lv_i2l hx hb dX3_digest_92 rfl ?_
        refine lv_ladd hx hb dX3_digest_93 ?_
        refine lv_lstore_n (lv' := [(1, .long (((31 : Int64) * (((31 : Int64) * r66.1) + r76.1.toInt64)) + r89.2.1.toInt64)), (0, .ref (a 0)), (3, .int v3)]) hx hb dX3_digest_94 rfl hl (by decide) rfl (fun ls hl => ?_)
        refine lv_ldc2 hx hb hown (hts _ qX3_digest_0) dX3_digest_95 ?_
        refine lv_lload_n hx hb dX3_digest_98 rfl (lv_at hl 0 rfl) ?_
        refine lv_lmul hx hb dX3_digest_99 ?_
        refine lv_aload_n hx hb dX3_digest_100 rfl (lv_at hl 1 rfl) ?_
        obtain ⟨r101, e101, h⟩ := tw_bs h
        refine tw_callVdF (ws' := (tw_wW cI cQ a na pa ta qa xa z r89.2.2)) (As := []) (rest := [.long ((31 : Int64) * (((31 : Int64) * (((31 : Int64) * r66.1) + r76.1.toInt64)) + r89.2.1.toInt64))]) F hN hK hP hD hS hA (mX3_busyness l G cI cQ a na pa ta qa xa z r89.2.2 H.size e101) (cwV 0 hts gX3_digest_X3_busyness rfl rfl rfl (by decide +kernel) ⟨(Nat.le_of_ble_eq_true rfl), (Nat.le_of_ble_eq_true rfl)⟩) rfl (r0 := 0) (ci := 3) rfl rfl rfl rfl hl.1 rfl (Nat.le_of_ble_eq_true rfl) dX3_digest_101 ⟨Nat.zero_le _, Nat.zero_le _⟩ (fun H locs hP hD hS => ?_)
        obtain ⟨r104, e104, h⟩ := tw_bs h
        refine tw_callSl (ws' := (tw_wW cI cQ a na pa ta qa xa z r89.2.2)) (As := [.double r101]) (rest := [.long ((31 : Int64) * (((31 : Int64) * (((31 : Int64) * r66.1) + r76.1.toInt64)) + r89.2.1.toInt64))]) F hN hK hP hD hS hA (mX3_bitsOf l G cI H.size r101 e104) (va_cwS 1 hts gX3_digest_X3_bitsOf rfl rfl rfl (by decide +kernel) ⟨(Nat.le_of_ble_eq_true rfl), (Nat.le_of_ble_eq_true rfl)⟩) [0] rfl [] (by decide) rfl rfl rfl rfl hl.1 rfl (Nat.le_of_ble_eq_true rfl) dX3_digest_104 ⟨Nat.zero_le _, Nat.zero_le _⟩ (fun H locs hP hD hS => ?_)
        refine lv_ladd hx hb dX3_digest_107 ?_
        refine lv_lstore_n (lv' := [(1, .long (((31 : Int64) * (((31 : Int64) * (((31 : Int64) * r66.1) + r76.1.toInt64)) + r89.2.1.toInt64)) + r104)), (0, .ref (a 0)), (3, .int v3)]) hx hb dX3_digest_108 rfl hl (by decide) rfl (fun ls hl => ?_)
        refine lv_aload_n hx hb dX3_digest_109 rfl (lv_at hl 1 rfl) ?_
        refine lv_lload_n hx hb dX3_digest_110 rfl (lv_at hl 0 rfl) ?_
        obtain ⟨r111, e111, h⟩ := tw_bs h
        refine tw_callVlF (ws' := (tw_wW cI cQ a na pa ta qa xa z r89.2.2)) (As := [.long (((31 : Int64) * (((31 : Int64) * (((31 : Int64) * r66.1) + r76.1.toInt64)) + r89.2.1.toInt64)) + r104)]) (rest := []) F hN hK hP hD hS hA (mX3_withText l G cI cQ a na pa ta qa xa z r89.2.2 H.size (((31 : Int64) * (((31 : Int64) * (((31 : Int64) * r66.1) + r76.1.toInt64)) + r89.2.1.toInt64)) + r104) e111) (cwV 1 hts gX3_digest_X3_withText rfl rfl rfl (by decide +kernel) ⟨(Nat.le_of_ble_eq_true rfl), (Nat.le_of_ble_eq_true rfl)⟩) rfl (r0 := 0) (ci := 3) rfl rfl rfl rfl hl.1 rfl (Nat.le_of_ble_eq_true rfl) dX3_digest_111 ⟨Nat.zero_le _, Nat.zero_le _⟩ (fun H locs hP hD hS => ?_)
        exact hq H locs _ ls r111 (tw_rt (fun r => r.1 = r111) h rfl) (tw_rt (fun r => va_P G vwCl (tw_wW cI cQ a na pa ta qa xa z r.2) H) h hP) hS dX3_digest_114
      · replace h := tw_f c9 h
        refine lv_ldc2 hx hb hown (hts _ qX3_digest_0) dX3_digest_12 ?_
        refine lv_lload_n hx hb dX3_digest_15 rfl (lv_at hl 1 rfl) ?_
        refine lv_lmul hx hb dX3_digest_16 ?_
        refine lv_aload_n hx hb dX3_digest_17 rfl (lv_at hl 0 rfl) ?_
        refine lv_iload_n hx hb dX3_digest_18 rfl (lv_at hl 2 rfl) ?_
        obtain ⟨r19, e19, h⟩ := tw_bs h
        obtain ⟨k19, h⟩ := tw_qs h
        refine tw_callViF (ws' := (tw_wW cI cQ a na pa ta qa xa z r19.2.2)) (As := [.int v3]) (rest := [.long ((31 : Int64) * v1)]) F hN hK hP hD hS hA (mX3_count l G cI cQ a na pa ta qa xa z Y H.size v3 e19 k19) (cwV 1 hts gX3_digest_X3_count rfl rfl rfl (by decide +kernel) ⟨(Nat.le_of_ble_eq_true rfl), (Nat.le_of_ble_eq_true rfl)⟩) rfl (r0 := 0) (ci := 3) rfl rfl rfl rfl hl.1 rfl (Nat.le_of_ble_eq_true rfl) dX3_digest_19 ⟨Nat.zero_le _, Nat.zero_le _⟩ (fun H locs hP hD hS => ?_)
        refine lv_i2l hx hb dX3_digest_22 rfl ?_
        refine lv_ladd hx hb dX3_digest_23 ?_
        refine lv_lstore_n (lv' := [(1, .long (((31 : Int64) * v1) + r19.2.1.toInt64)), (0, .ref (a 0)), (3, .int v3)]) hx hb dX3_digest_24 rfl hl (by decide) rfl (fun ls hl => ?_)
        refine lv_iinc (v := (v3 + 1)) (lv' := [(3, .int (v3 + 1)), (1, .long (((31 : Int64) * v1) + r19.2.1.toInt64)), (0, .ref (a 0))]) hx hb dX3_digest_25 hl (k := 2) rfl rfl (by decide) rfl (fun ls hl => ?_)
        refine lv_goto (tgt := 6) hx hb dX3_digest_28 (by decide) ?_
        exact ih6 (((31 : Int64) * v1) + r19.2.1.toInt64) (v3 + 1) r19.2.2 H locs ls h (lv_sub hl [2, 1, 0] rfl) hP hD hS
  refine lv_ldc2 hx hb hown (hts _ qX3_digest_3) dX3_digest_0 ?_
  refine lv_lstore_n (lv' := [(1, .long (2791 : Int64)), (0, .ref (a 0))]) hx hb dX3_digest_3 rfl hl (by decide) rfl (fun ls hl => ?_)
  refine lv_iconst (v := (0 : Int32)) hx hb dX3_digest_4 (by decide) ?_
  refine lv_istore_n (lv' := [(3, .int (0 : Int32)), (1, .long (2791 : Int64)), (0, .ref (a 0))]) hx hb dX3_digest_5 rfl hl (by decide) rfl (fun ls hl => ?_)
  exact L6 512 (2791 : Int64) (0 : Int32) Y H locs ls h (lv_sub hl [2, 1, 0] rfl) hP hD hS
