abbrev rmX4_in : Room := { frames := 0, cells := 0, slots := 0, locals := 0 }
set_option maxHeartbeats 4000000 in
set_option maxRecDepth 100000 in
theorem mX4_in (l : Launch) (G : va_G) (cI : ClassId)   (sz : Nat) (p0 : Int32) (p1 : Int32) (p2 : Int32) {rv : Int32} (h : fX4_in p0 p1 p2 = some rv) : tw_Mi l yX4_in wsX4_in rmX4_in G [(cI, .int)] ([] : va_W) [.int p0, .int p1, .int p2] sz rv ([] : va_W) := by
  refine tw_ofi (ty := .boolean) (cc := cX4_in) (maxL := 3) (own := RX4) (by decide) rfl rfl (Nat.le_of_ble_eq_true rfl) ?_
  intro p e s m args below meth c Q A ls H locs F hN hK hP hD hS hA hl hq
  obtain ⟨hx, hb, hml, hown, hts⟩ := id F
  have hl : lv_has ls 3 [(0, .int p0), (1, .int p1), (2, .int p2)] := hl
  unfold fX4_in at h
  refine lv_iload_n hx hb dX4_in_0 rfl (lv_at hl 0 rfl) ?_
  refine lv_iload_n hx hb dX4_in_1 rfl (lv_at hl 1 rfl) ?_
  refine lv_icmp_lt (tgt := 14) hx hb dX4_in_2 (by decide) (fun c2 => ?_) (fun c2 => ?_)
  · replace h := tw_t c2 h
    refine lv_iconst (v := (0 : Int32)) hx hb dX4_in_14 (by decide) ?_
    exact hq H locs _ ls (0 : Int32) (tw_rt (fun r => r = (0 : Int32)) h rfl) rfl hP hS dX4_in_15
  · replace h := tw_f c2 h
    refine lv_iload_n hx hb dX4_in_5 rfl (lv_at hl 0 rfl) ?_
    refine lv_iload_n hx hb dX4_in_6 rfl (lv_at hl 2 rfl) ?_
    refine lv_icmp_gt (tgt := 14) hx hb dX4_in_7 (by decide) (fun c7 => ?_) (fun c7 => ?_)
    · replace h := tw_t c7 h
      refine lv_iconst (v := (0 : Int32)) hx hb dX4_in_14 (by decide) ?_
      exact hq H locs _ ls (0 : Int32) (tw_rt (fun r => r = (0 : Int32)) h rfl) rfl hP hS dX4_in_15
    · replace h := tw_f c7 h
      refine lv_iconst (v := (1 : Int32)) hx hb dX4_in_10 (by decide) ?_
      refine lv_goto (tgt := 15) hx hb dX4_in_11 (by decide) ?_
      exact hq H locs _ ls (1 : Int32) (tw_rt (fun r => r = (1 : Int32)) h rfl) rfl hP hS dX4_in_15
abbrev rmX4_isHall : Room := { frames := 1, cells := 0, slots := 0, locals := 22 }
set_option maxHeartbeats 4000000 in
set_option maxRecDepth 100000 in
theorem mX4_isHall (l : Launch) (G : va_G) (cI : ClassId)   (sz : Nat) (p0 : Int32) {rv : Int32} (h : fX4_isHall p0 = some rv) : tw_Mi l yX4_isHall wsX4_isHall rmX4_isHall G [(cI, .int)] ([] : va_W) [.int p0] sz rv ([] : va_W) := by
  refine tw_ofi (ty := .boolean) (cc := cX4_isHall) (maxL := 1) (own := RX4) (by decide) rfl rfl (Nat.le_of_ble_eq_true rfl) ?_
  intro p e s m args below meth c Q A ls H locs F hN hK hP hD hS hA hl hq
  obtain ⟨hx, hb, hml, hown, hts⟩ := id F
  have hl : lv_has ls 1 [(0, .int p0)] := hl
  unfold fX4_isHall at h
  refine lv_iload_n hx hb dX4_isHall_0 rfl (lv_at hl 0 rfl) ?_
  refine lv_iconst (v := (0 : Int32)) hx hb dX4_isHall_1 (by decide) ?_
  refine lv_iconst (v := (3 : Int32)) hx hb dX4_isHall_2 (by decide) ?_
  obtain ⟨r3, e3, h⟩ := tw_bs h
  refine tw_callSiF (ws' := ([] : va_W)) (As := [.int p0, .int (0 : Int32), .int (3 : Int32)]) (rest := []) F hN hK hP hD hS hA (mX4_in l G cI H.size p0 (0 : Int32) (3 : Int32) e3) (va_cwS 3 hts gX4_isHall_X4_in rfl rfl rfl (by decide +kernel) ⟨(Nat.le_of_ble_eq_true rfl), (Nat.le_of_ble_eq_true rfl)⟩) rfl rfl hl.1 rfl (Nat.le_of_ble_eq_true rfl) dX4_isHall_3 ⟨Nat.zero_le _, Nat.zero_le _⟩ (fun H locs hP hD hS => ?_)
  obtain ⟨g6, h⟩ := tw_qs h
  exact hq H locs _ ls r3 (tw_rt (fun r => r = r3) h rfl) (tw_nb g6) hP hS dX4_isHall_6
abbrev rmX4_isPerson : Room := { frames := 1, cells := 0, slots := 0, locals := 22 }
set_option maxHeartbeats 4000000 in
set_option maxRecDepth 100000 in
theorem mX4_isPerson (l : Launch) (G : va_G) (cI : ClassId)   (sz : Nat) (p0 : Int32) {rv : Int32} (h : fX4_isPerson p0 = some rv) : tw_Mi l yX4_isPerson wsX4_isPerson rmX4_isPerson G [(cI, .int)] ([] : va_W) [.int p0] sz rv ([] : va_W) := by
  refine tw_ofi (ty := .boolean) (cc := cX4_isPerson) (maxL := 1) (own := RX4) (by decide) rfl rfl (Nat.le_of_ble_eq_true rfl) ?_
  intro p e s m args below meth c Q A ls H locs F hN hK hP hD hS hA hl hq
  obtain ⟨hx, hb, hml, hown, hts⟩ := id F
  have hl : lv_has ls 1 [(0, .int p0)] := hl
  unfold fX4_isPerson at h
  refine lv_iload_n hx hb dX4_isPerson_0 rfl (lv_at hl 0 rfl) ?_
  refine lv_iconst (v := (0 : Int32)) hx hb dX4_isPerson_1 (by decide) ?_
  refine lv_iconst (v := (5 : Int32)) hx hb dX4_isPerson_2 (by decide) ?_
  obtain ⟨r3, e3, h⟩ := tw_bs h
  refine tw_callSiF (ws' := ([] : va_W)) (As := [.int p0, .int (0 : Int32), .int (5 : Int32)]) (rest := []) F hN hK hP hD hS hA (mX4_in l G cI H.size p0 (0 : Int32) (5 : Int32) e3) (va_cwS 3 hts gX4_isPerson_X4_in rfl rfl rfl (by decide +kernel) ⟨(Nat.le_of_ble_eq_true rfl), (Nat.le_of_ble_eq_true rfl)⟩) rfl rfl hl.1 rfl (Nat.le_of_ble_eq_true rfl) dX4_isPerson_3 ⟨Nat.zero_le _, Nat.zero_le _⟩ (fun H locs hP hD hS => ?_)
  obtain ⟨g6, h⟩ := tw_qs h
  exact hq H locs _ ls r3 (tw_rt (fun r => r = r3) h rfl) (tw_nb g6) hP hS dX4_isPerson_6
abbrev rmX4_isDay : Room := { frames := 1, cells := 0, slots := 0, locals := 22 }
set_option maxHeartbeats 4000000 in
set_option maxRecDepth 100000 in
theorem mX4_isDay (l : Launch) (G : va_G) (cI : ClassId)   (sz : Nat) (p0 : Int32) {rv : Int32} (h : fX4_isDay p0 = some rv) : tw_Mi l yX4_isDay wsX4_isDay rmX4_isDay G [(cI, .int)] ([] : va_W) [.int p0] sz rv ([] : va_W) := by
  refine tw_ofi (ty := .boolean) (cc := cX4_isDay) (maxL := 1) (own := RX4) (by decide) rfl rfl (Nat.le_of_ble_eq_true rfl) ?_
  intro p e s m args below meth c Q A ls H locs F hN hK hP hD hS hA hl hq
  obtain ⟨hx, hb, hml, hown, hts⟩ := id F
  have hl : lv_has ls 1 [(0, .int p0)] := hl
  unfold fX4_isDay at h
  refine lv_iload_n hx hb dX4_isDay_0 rfl (lv_at hl 0 rfl) ?_
  refine lv_iconst (v := (0 : Int32)) hx hb dX4_isDay_1 (by decide) ?_
  refine lv_bipush (v := (99 : Int32)) hx hb dX4_isDay_2 (by decide) ?_
  obtain ⟨r4, e4, h⟩ := tw_bs h
  refine tw_callSiF (ws' := ([] : va_W)) (As := [.int p0, .int (0 : Int32), .int (99 : Int32)]) (rest := []) F hN hK hP hD hS hA (mX4_in l G cI H.size p0 (0 : Int32) (99 : Int32) e4) (va_cwS 3 hts gX4_isDay_X4_in rfl rfl rfl (by decide +kernel) ⟨(Nat.le_of_ble_eq_true rfl), (Nat.le_of_ble_eq_true rfl)⟩) rfl rfl hl.1 rfl (Nat.le_of_ble_eq_true rfl) dX4_isDay_4 ⟨Nat.zero_le _, Nat.zero_le _⟩ (fun H locs hP hD hS => ?_)
  obtain ⟨g7, h⟩ := tw_qs h
  exact hq H locs _ ls r4 (tw_rt (fun r => r = r4) h rfl) (tw_nb g7) hP hS dX4_isDay_7
abbrev rmX4_isFor : Room := { frames := 1, cells := 0, slots := 0, locals := 22 }
set_option maxHeartbeats 4000000 in
set_option maxRecDepth 100000 in
theorem mX4_isFor (l : Launch) (G : va_G) (cI : ClassId)   (sz : Nat) (p0 : Int32) (p1 : Int32) {rv : Int32} (h : fX4_isFor p0 p1 = some rv) : tw_Mi l yX4_isFor wsX4_isFor rmX4_isFor G [(cI, .int)] ([] : va_W) [.int p0, .int p1] sz rv ([] : va_W) := by
  refine tw_ofi (ty := .boolean) (cc := cX4_isFor) (maxL := 2) (own := RX4) (by decide) rfl rfl (Nat.le_of_ble_eq_true rfl) ?_
  intro p e s m args below meth c Q A ls H locs F hN hK hP hD hS hA hl hq
  obtain ⟨hx, hb, hml, hown, hts⟩ := id F
  have hl : lv_has ls 2 [(0, .int p0), (1, .int p1)] := hl
  unfold fX4_isFor at h
  refine lv_iload_n hx hb dX4_isFor_0 rfl (lv_at hl 0 rfl) ?_
  refine lv_if_ne (tgt := 14) hx hb dX4_isFor_1 (by decide) (fun c1 => ?_) (fun c1 => ?_)
  · replace h := tw_t c1 h
    refine lv_iload_n hx hb dX4_isFor_14 rfl (lv_at hl 0 rfl) ?_
    refine lv_iconst (v := (1 : Int32)) hx hb dX4_isFor_15 (by decide) ?_
    refine lv_icmp_ne (tgt := 28) hx hb dX4_isFor_16 (by decide) (fun c16 => ?_) (fun c16 => ?_)
    · replace h := tw_t c16 h
      refine lv_iload_n hx hb dX4_isFor_28 rfl (lv_at hl 0 rfl) ?_
      refine lv_iconst (v := (2 : Int32)) hx hb dX4_isFor_29 (by decide) ?_
      refine lv_icmp_ne (tgt := 42) hx hb dX4_isFor_30 (by decide) (fun c30 => ?_) (fun c30 => ?_)
      · replace h := tw_t c30 h
        refine lv_iload_n hx hb dX4_isFor_42 rfl (lv_at hl 1 rfl) ?_
        refine lv_iconst (v := (0 : Int32)) hx hb dX4_isFor_43 (by decide) ?_
        refine lv_bipush (v := (60 : Int32)) hx hb dX4_isFor_44 (by decide) ?_
        obtain ⟨r46, e46, h⟩ := tw_bs h
        refine tw_callSiF (ws' := ([] : va_W)) (As := [.int p1, .int (0 : Int32), .int (60 : Int32)]) (rest := []) F hN hK hP hD hS hA (mX4_in l G cI H.size p1 (0 : Int32) (60 : Int32) e46) (va_cwS 3 hts gX4_isFor_X4_in rfl rfl rfl (by decide +kernel) ⟨(Nat.le_of_ble_eq_true rfl), (Nat.le_of_ble_eq_true rfl)⟩) rfl rfl hl.1 rfl (Nat.le_of_ble_eq_true rfl) dX4_isFor_46 ⟨Nat.zero_le _, Nat.zero_le _⟩ (fun H locs hP hD hS => ?_)
        obtain ⟨g49, h⟩ := tw_qs h
        exact hq H locs _ ls r46 (tw_rt (fun r => r = r46) h rfl) (tw_nb g49) hP hS dX4_isFor_49
      · replace h := tw_fn c30 h
        refine lv_iload_n hx hb dX4_isFor_33 rfl (lv_at hl 1 rfl) ?_
        refine lv_iconst (v := (-1 : Int32)) hx hb dX4_isFor_34 (by decide) ?_
        refine lv_iconst (v := (3 : Int32)) hx hb dX4_isFor_35 (by decide) ?_
        obtain ⟨r36, e36, h⟩ := tw_bs h
        refine tw_callSiF (ws' := ([] : va_W)) (As := [.int p1, .int (-1 : Int32), .int (3 : Int32)]) (rest := []) F hN hK hP hD hS hA (mX4_in l G cI H.size p1 (-1 : Int32) (3 : Int32) e36) (va_cwS 3 hts gX4_isFor_X4_in rfl rfl rfl (by decide +kernel) ⟨(Nat.le_of_ble_eq_true rfl), (Nat.le_of_ble_eq_true rfl)⟩) rfl rfl hl.1 rfl (Nat.le_of_ble_eq_true rfl) dX4_isFor_36 ⟨Nat.zero_le _, Nat.zero_le _⟩ (fun H locs hP hD hS => ?_)
        refine lv_goto (tgt := 49) hx hb dX4_isFor_39 (by decide) ?_
        obtain ⟨g49, h⟩ := tw_qs h
        exact hq H locs _ ls r36 (tw_rt (fun r => r = r36) h rfl) (tw_nb g49) hP hS dX4_isFor_49
    · replace h := tw_fn c16 h
      refine lv_iload_n hx hb dX4_isFor_19 rfl (lv_at hl 1 rfl) ?_
      refine lv_iconst (v := (-1 : Int32)) hx hb dX4_isFor_20 (by decide) ?_
      refine lv_iconst (v := (5 : Int32)) hx hb dX4_isFor_21 (by decide) ?_
      obtain ⟨r22, e22, h⟩ := tw_bs h
      refine tw_callSiF (ws' := ([] : va_W)) (As := [.int p1, .int (-1 : Int32), .int (5 : Int32)]) (rest := []) F hN hK hP hD hS hA (mX4_in l G cI H.size p1 (-1 : Int32) (5 : Int32) e22) (va_cwS 3 hts gX4_isFor_X4_in rfl rfl rfl (by decide +kernel) ⟨(Nat.le_of_ble_eq_true rfl), (Nat.le_of_ble_eq_true rfl)⟩) rfl rfl hl.1 rfl (Nat.le_of_ble_eq_true rfl) dX4_isFor_22 ⟨Nat.zero_le _, Nat.zero_le _⟩ (fun H locs hP hD hS => ?_)
      refine lv_goto (tgt := 49) hx hb dX4_isFor_25 (by decide) ?_
      obtain ⟨g49, h⟩ := tw_qs h
      exact hq H locs _ ls r22 (tw_rt (fun r => r = r22) h rfl) (tw_nb g49) hP hS dX4_isFor_49
  · replace h := tw_fn c1 h
    refine lv_iload_n hx hb dX4_isFor_4 rfl (lv_at hl 1 rfl) ?_
    refine lv_iconst (v := (1 : Int32)) hx hb dX4_isFor_5 (by decide) ?_
    refine lv_bipush (v := (9 : Int32)) hx hb dX4_isFor_6 (by decide) ?_
    obtain ⟨r8, e8, h⟩ := tw_bs h
    refine tw_callSiF (ws' := ([] : va_W)) (As := [.int p1, .int (1 : Int32), .int (9 : Int32)]) (rest := []) F hN hK hP hD hS hA (mX4_in l G cI H.size p1 (1 : Int32) (9 : Int32) e8) (va_cwS 3 hts gX4_isFor_X4_in rfl rfl rfl (by decide +kernel) ⟨(Nat.le_of_ble_eq_true rfl), (Nat.le_of_ble_eq_true rfl)⟩) rfl rfl hl.1 rfl (Nat.le_of_ble_eq_true rfl) dX4_isFor_8 ⟨Nat.zero_le _, Nat.zero_le _⟩ (fun H locs hP hD hS => ?_)
    refine lv_goto (tgt := 49) hx hb dX4_isFor_11 (by decide) ?_
    obtain ⟨g49, h⟩ := tw_qs h
    exact hq H locs _ ls r8 (tw_rt (fun r => r = r8) h rfl) (tw_nb g49) hP hS dX4_isFor_49
abbrev rmX4_of : Room := { frames := 0, cells := 0, slots := 0, locals := 0 }
set_option maxHeartbeats 4000000 in
set_option maxRecDepth 100000 in
theorem mX4_of (l : Launch) (G : va_G) (cI : ClassId) (sb : Nat) (sx : tw_F) (sz : Nat) (p1 : Int32) (p2 : Int32) {rv : Int32} (h : fX4_of sx p1 p2 = some rv) : tw_Mi l yX4_of wsX4_of rmX4_of G [(cI, .int)] ([tw_ai cI sb 70 sx]) [.ref sb, .int p1, .int p2] sz rv ([tw_ai cI sb 70 sx]) := by
  refine tw_ofi (ty := .int) (cc := cX4_of) (maxL := 3) (own := RX4) (by decide) rfl rfl (Nat.le_of_ble_eq_true rfl) ?_
  intro p e s m args below meth c Q A ls H locs F hN hK hP hD hS hA hl hq
  obtain ⟨hx, hb, hml, hown, hts⟩ := id F
  have hl : lv_has ls 3 [(0, .ref sb), (1, .int p1), (2, .int p2)] := hl
  unfold fX4_of at h
  refine lv_aload_n hx hb dX4_of_0 rfl (lv_at hl 0 rfl) ?_
  refine lv_bipush (v := (10 : Int32)) hx hb dX4_of_1 (by decide) ?_
  refine lv_iconst (v := (5 : Int32)) hx hb dX4_of_3 (by decide) ?_
  refine lv_iload_n hx hb dX4_of_4 rfl (lv_at hl 1 rfl) ?_
  refine lv_imul hx hb dX4_of_5 ?_
  refine lv_iadd hx hb dX4_of_6 ?_
  refine lv_iload_n hx hb dX4_of_7 rfl (lv_at hl 2 rfl) ?_
  refine lv_iadd hx hb dX4_of_8 ?_
  obtain ⟨g9, h⟩ := tw_gs h
  refine va_iald (f := sx) (n := 70) hx hb hK hP 0 0 rfl rfl g9 dX4_of_9 ?_
  exact hq H locs _ ls (sx (((10 : Int32) + ((5 : Int32) * p1)) + p2).toNatClampNeg) (tw_rt (fun r => r = (sx (((10 : Int32) + ((5 : Int32) * p1)) + p2).toNatClampNeg)) h rfl) rfl hP hS dX4_of_10
abbrev rmX4_followers : Room := { frames := 1, cells := 0, slots := 0, locals := 22 }
set_option maxHeartbeats 4000000 in
set_option maxRecDepth 100000 in
theorem mX4_followers (l : Launch) (G : va_G) (cI : ClassId) (sb : Nat) (sx : tw_F) (sz : Nat) (p1 : Int32) {rv : Int32} (h : fX4_followers sx p1 = some rv) : tw_Mi l yX4_followers wsX4_followers rmX4_followers G [(cI, .int)] ([tw_ai cI sb 70 sx]) [.ref sb, .int p1] sz rv ([tw_ai cI sb 70 sx]) := by
  refine tw_ofi (ty := .int) (cc := cX4_followers) (maxL := 4) (own := RX4) (by decide) rfl rfl (Nat.le_of_ble_eq_true rfl) ?_
  intro p e s m args below meth c Q A ls H locs F hN hK hP hD hS hA hl hq
  obtain ⟨hx, hb, hml, hown, hts⟩ := id F
  have hl : lv_has ls 4 [(0, .ref sb), (1, .int p1)] := hl
  unfold fX4_followers at h
  have L4 : ∀ (n4 : Nat) (v2 : Int32) (v3 : Int32) (H : Heap) (locs : List Loc) (ls : Array Slot), fX4_followers_4 sx p1 n4 v2 v3 = some rv → lv_has ls 4 [(0, .ref sb), (1, .int p1), (2, .int v2), (3, .int v3)] → va_P G vwCl ([tw_ai cI sb 70 sx]) H → va_D A ([tw_ai cI sb 70 sx]) → va_S A s.heap H locs → W p l e rmX4_followers s m args below meth c H locs 0 0 Q (F0 m 4 ls []) := by
    intro n4
    induction n4 with
    | zero =>
      intro v2 v3 H locs ls h
      rw [fX4_followers_4] at h
      cases h
    | succ n4 ih4 =>
      intro v2 v3 H locs ls h hl hP hD hS
      rw [fX4_followers_4] at h
      refine lv_iload_n hx hb dX4_followers_4 rfl (lv_at hl 3 rfl) ?_
      refine lv_aload_n hx hb dX4_followers_5 rfl (lv_at hl 0 rfl) ?_
      refine lv_iconst (v := (0 : Int32)) hx hb dX4_followers_6 (by decide) ?_
      refine va_iald (f := sx) (n := 70) hx hb hK hP 0 0 rfl rfl (tw_vin (by decide)) dX4_followers_7 ?_
      refine lv_icmp_ge (tgt := 30) hx hb dX4_followers_8 (by decide) (fun c8 => ?_) (fun c8 => ?_)
      · replace h := tw_t c8 h
        refine lv_iload_n hx hb dX4_followers_30 rfl (lv_at hl 2 rfl) ?_
        exact hq H locs _ ls v2 (tw_rt (fun r => r = v2) h rfl) rfl hP hS dX4_followers_31
      · replace h := tw_f c8 h
        refine lv_iload_n hx hb dX4_followers_11 rfl (lv_at hl 2 rfl) ?_
        refine lv_aload_n hx hb dX4_followers_12 rfl (lv_at hl 0 rfl) ?_
        refine lv_iload_n hx hb dX4_followers_13 rfl (lv_at hl 3 rfl) ?_
        refine lv_iconst (v := (4 : Int32)) hx hb dX4_followers_14 (by decide) ?_
        obtain ⟨r15, e15, h⟩ := tw_bs h
        refine tw_callSiF (ws' := ([tw_ai cI sb 70 sx])) (As := [.ref sb, .int v3, .int (4 : Int32)]) (rest := [.int v2]) F hN hK hP hD hS hA (mX4_of l G cI sb sx H.size v3 (4 : Int32) e15) (va_cwS 3 hts gX4_followers_X4_of rfl rfl rfl (by decide +kernel) ⟨(Nat.le_of_ble_eq_true rfl), (Nat.le_of_ble_eq_true rfl)⟩) rfl rfl hl.1 rfl (Nat.le_of_ble_eq_true rfl) dX4_followers_15 ⟨Nat.zero_le _, Nat.zero_le _⟩ (fun H locs hP hD hS => ?_)
        refine lv_iload_n hx hb dX4_followers_18 rfl (lv_at hl 1 rfl) ?_
        refine lv_ishr hx hb dX4_followers_19 ?_
        refine lv_iconst (v := (1 : Int32)) hx hb dX4_followers_20 (by decide) ?_
        refine lv_iand hx hb dX4_followers_21 ?_
        refine lv_iadd hx hb dX4_followers_22 ?_
        refine lv_istore_n (lv' := [(2, .int (v2 + ((r15 >>> (p1 &&& 31)) &&& (1 : Int32)))), (0, .ref sb), (1, .int p1), (3, .int v3)]) hx hb dX4_followers_23 rfl hl (by decide) rfl (fun ls hl => ?_)
        refine lv_iinc (v := (v3 + 1)) (lv' := [(3, .int (v3 + 1)), (2, .int (v2 + ((r15 >>> (p1 &&& 31)) &&& (1 : Int32)))), (0, .ref sb), (1, .int p1)]) hx hb dX4_followers_24 hl (k := 3) rfl rfl (by decide) rfl (fun ls hl => ?_)
        refine lv_goto (tgt := 4) hx hb dX4_followers_27 (by decide) ?_
        exact ih4 (v2 + ((r15 >>> (p1 &&& 31)) &&& (1 : Int32))) (v3 + 1) H locs ls h (lv_sub hl [2, 3, 1, 0] rfl) hP hD hS
  refine lv_iconst (v := (0 : Int32)) hx hb dX4_followers_0 (by decide) ?_
  refine lv_istore_n (lv' := [(2, .int (0 : Int32)), (0, .ref sb), (1, .int p1)]) hx hb dX4_followers_1 rfl hl (by decide) rfl (fun ls hl => ?_)
  refine lv_iconst (v := (0 : Int32)) hx hb dX4_followers_2 (by decide) ?_
  refine lv_istore_n (lv' := [(3, .int (0 : Int32)), (2, .int (0 : Int32)), (0, .ref sb), (1, .int p1)]) hx hb dX4_followers_3 rfl hl (by decide) rfl (fun ls hl => ?_)
  exact L4 512 (0 : Int32) (0 : Int32) H locs ls h (lv_sub hl [2, 3, 1, 0] rfl) hP hD hS
abbrev rmX4_weight : Room := { frames := 2, cells := 0, slots := 0, locals := 45 }
set_option maxHeartbeats 4000000 in
set_option maxRecDepth 100000 in
theorem mX4_weight (l : Launch) (G : va_G) (cI : ClassId) (sb : Nat) (sx : tw_F) (sz : Nat) (p1 : Int32) {rv : Int32} (h : fX4_weight sx p1 = some rv) : tw_Mi l yX4_weight wsX4_weight rmX4_weight G [(cI, .int)] ([tw_ai cI sb 70 sx]) [.ref sb, .int p1] sz rv ([tw_ai cI sb 70 sx]) := by
  refine tw_ofi (ty := .int) (cc := cX4_weight) (maxL := 2) (own := RX4) (by decide) rfl rfl (Nat.le_of_ble_eq_true rfl) ?_
  intro p e s m args below meth c Q A ls H locs F hN hK hP hD hS hA hl hq
  obtain ⟨hx, hb, hml, hown, hts⟩ := id F
  have hl : lv_has ls 2 [(0, .ref sb), (1, .int p1)] := hl
  unfold fX4_weight at h
  refine lv_aload_n hx hb dX4_weight_0 rfl (lv_at hl 0 rfl) ?_
  refine lv_iconst (v := (1 : Int32)) hx hb dX4_weight_1 (by decide) ?_
  refine va_iald (f := sx) (n := 70) hx hb hK hP 0 0 rfl rfl (tw_vin (by decide)) dX4_weight_2 ?_
  by_cases c3_0 : (sx (1 : Int32).toNatClampNeg) = 0
  · replace h := tw_t c3_0 h
    refine tw_tab (v := 0) (tgt := 28) hx hb dX4_weight_3 c3_0 (by decide) (by decide) rfl (by decide) ?_
    refine lv_iconst (v := (0 : Int32)) hx hb dX4_weight_28 (by decide) ?_
    exact hq H locs _ ls (0 : Int32) (tw_rt (fun r => r = (0 : Int32)) h rfl) rfl hP hS dX4_weight_29
  · replace h := tw_f c3_0 h
    by_cases c3_1 : (sx (1 : Int32).toNatClampNeg) = 1
    · replace h := tw_t c3_1 h
      refine tw_tab (v := 1) (tgt := 30) hx hb dX4_weight_3 c3_1 (by decide) (by decide) rfl (by decide) ?_
      refine lv_aload_n hx hb dX4_weight_30 rfl (lv_at hl 0 rfl) ?_
      refine lv_iload_n hx hb dX4_weight_31 rfl (lv_at hl 1 rfl) ?_
      refine lv_iconst (v := (0 : Int32)) hx hb dX4_weight_32 (by decide) ?_
      obtain ⟨r33, e33, h⟩ := tw_bs h
      refine tw_callSiF (ws' := ([tw_ai cI sb 70 sx])) (As := [.ref sb, .int p1, .int (0 : Int32)]) (rest := []) F hN hK hP hD hS hA (mX4_of l G cI sb sx H.size p1 (0 : Int32) e33) (va_cwS 3 hts gX4_weight_X4_of rfl rfl rfl (by decide +kernel) ⟨(Nat.le_of_ble_eq_true rfl), (Nat.le_of_ble_eq_true rfl)⟩) rfl rfl hl.1 rfl (Nat.le_of_ble_eq_true rfl) dX4_weight_33 ⟨Nat.zero_le _, Nat.zero_le _⟩ (fun H locs hP hD hS => ?_)
      exact hq H locs _ ls r33 (tw_rt (fun r => r = r33) h rfl) rfl hP hS dX4_weight_36
    · replace h := tw_f c3_1 h
      by_cases c3_2 : (sx (1 : Int32).toNatClampNeg) = 2
      · replace h := tw_t c3_2 h
        refine tw_tab (v := 2) (tgt := 37) hx hb dX4_weight_3 c3_2 (by decide) (by decide) rfl (by decide) ?_
        refine lv_aload_n hx hb dX4_weight_37 rfl (lv_at hl 0 rfl) ?_
        refine lv_iload_n hx hb dX4_weight_38 rfl (lv_at hl 1 rfl) ?_
        obtain ⟨r39, e39, h⟩ := tw_bs h
        refine tw_callSiF (ws' := ([tw_ai cI sb 70 sx])) (As := [.ref sb, .int p1]) (rest := []) F hN hK hP hD hS hA (mX4_followers l G cI sb sx H.size p1 e39) (va_cwS 2 hts gX4_weight_X4_followers rfl rfl rfl (by decide +kernel) ⟨(Nat.le_of_ble_eq_true rfl), (Nat.le_of_ble_eq_true rfl)⟩) rfl rfl hl.1 rfl (Nat.le_of_ble_eq_true rfl) dX4_weight_39 ⟨Nat.zero_le _, Nat.zero_le _⟩ (fun H locs hP hD hS => ?_)
        exact hq H locs _ ls r39 (tw_rt (fun r => r = r39) h rfl) rfl hP hS dX4_weight_42
      · replace h := tw_f c3_2 h
        have z0 := lv_neT c3_0 (a := 0) rfl
        have z1 := lv_neT c3_1 (a := 1) rfl
        have z2 := lv_neT c3_2 (a := 2) rfl
        refine lv_tableOut (tgt := 43) hx hb dX4_weight_3 (by omega) (by decide) ?_
        refine lv_aload_n hx hb dX4_weight_43 rfl (lv_at hl 0 rfl) ?_
        refine lv_iload_n hx hb dX4_weight_44 rfl (lv_at hl 1 rfl) ?_
        refine lv_iconst (v := (3 : Int32)) hx hb dX4_weight_45 (by decide) ?_
        obtain ⟨r46, e46, h⟩ := tw_bs h
        refine tw_callSiF (ws' := ([tw_ai cI sb 70 sx])) (As := [.ref sb, .int p1, .int (3 : Int32)]) (rest := []) F hN hK hP hD hS hA (mX4_of l G cI sb sx H.size p1 (3 : Int32) e46) (va_cwS 3 hts gX4_weight_X4_of rfl rfl rfl (by decide +kernel) ⟨(Nat.le_of_ble_eq_true rfl), (Nat.le_of_ble_eq_true rfl)⟩) rfl rfl hl.1 rfl (Nat.le_of_ble_eq_true rfl) dX4_weight_46 ⟨Nat.zero_le _, Nat.zero_le _⟩ (fun H locs hP hD hS => ?_)
        exact hq H locs _ ls r46 (tw_rt (fun r => r = r46) h rfl) rfl hP hS dX4_weight_49
abbrev rmX4_behind : Room := { frames := 1, cells := 0, slots := 0, locals := 22 }
set_option maxHeartbeats 4000000 in
set_option maxRecDepth 100000 in
theorem mX4_behind (l : Launch) (G : va_G) (cI : ClassId) (sb : Nat) (db : Nat) (sx : tw_F) (dx : tw_F) (sz : Nat) (p2 : Int32) {rv : Int32} (h : fX4_behind sx dx p2 = some rv) : tw_Mi l yX4_behind wsX4_behind rmX4_behind G [(cI, .int)] ([tw_ai cI sb 70 sx] ++ [tw_ai cI db 12 dx]) [.ref sb, .ref db, .int p2] sz rv ([tw_ai cI sb 70 sx] ++ [tw_ai cI db 12 dx]) := by
  refine tw_ofi (ty := .int) (cc := cX4_behind) (maxL := 3) (own := RX4) (by decide) rfl rfl (Nat.le_of_ble_eq_true rfl) ?_
  intro p e s m args below meth c Q A ls H locs F hN hK hP hD hS hA hl hq
  obtain ⟨hx, hb, hml, hown, hts⟩ := id F
  have hl : lv_has ls 3 [(0, .ref sb), (1, .ref db), (2, .int p2)] := hl
  unfold fX4_behind at h
  refine lv_aload_n hx hb dX4_behind_0 rfl (lv_at hl 1 rfl) ?_
  refine lv_iload_n hx hb dX4_behind_1 rfl (lv_at hl 2 rfl) ?_
  obtain ⟨g2, h⟩ := tw_gs h
  refine va_iald (f := dx) (n := 12) hx hb hK hP 1 0 rfl rfl g2 dX4_behind_2 ?_
  refine lv_aload_n hx hb dX4_behind_3 rfl (lv_at hl 0 rfl) ?_
  refine lv_iload_n hx hb dX4_behind_4 rfl (lv_at hl 2 rfl) ?_
  refine lv_iconst (v := (0 : Int32)) hx hb dX4_behind_5 (by decide) ?_
  obtain ⟨r6, e6, h⟩ := tw_bs h
  refine tw_callSi (ws' := ([tw_ai cI sb 70 sx] ++ [tw_ai cI db 12 dx])) (As := [.ref sb, .int p2, .int (0 : Int32)]) (rest := [.int (dx p2.toNatClampNeg)]) F hN hK hP hD hS hA (mX4_of l G cI sb sx H.size p2 (0 : Int32) e6) (va_cwS 3 hts gX4_behind_X4_of rfl rfl rfl (by decide +kernel) ⟨(Nat.le_of_ble_eq_true rfl), (Nat.le_of_ble_eq_true rfl)⟩) [0] rfl [0] (by decide) rfl rfl rfl rfl hl.1 rfl (Nat.le_of_ble_eq_true rfl) dX4_behind_6 ⟨Nat.zero_le _, Nat.zero_le _⟩ (fun H locs hP hD hS => ?_)
  refine lv_iadd hx hb dX4_behind_9 ?_
  exact hq H locs _ ls ((dx p2.toNatClampNeg) + r6) (tw_rt (fun r => r = ((dx p2.toNatClampNeg) + r6)) h rfl) rfl hP hS dX4_behind_10
abbrev rmX4_ready : Room := { frames := 2, cells := 0, slots := 0, locals := 44 }
set_option maxHeartbeats 4000000 in
set_option maxRecDepth 100000 in
theorem mX4_ready (l : Launch) (G : va_G) (cI : ClassId) (sb : Nat) (db : Nat) (sx : tw_F) (dx : tw_F) (sz : Nat) (p2 : Int32) {rv : Int32} (h : fX4_ready sx dx p2 = some rv) : tw_Mi l yX4_ready wsX4_ready rmX4_ready G [(cI, .int)] ([tw_ai cI sb 70 sx] ++ [tw_ai cI db 12 dx]) [.ref sb, .ref db, .int p2] sz rv ([tw_ai cI sb 70 sx] ++ [tw_ai cI db 12 dx]) := by
  refine tw_ofi (ty := .int) (cc := cX4_ready) (maxL := 5) (own := RX4) (by decide) rfl rfl (Nat.le_of_ble_eq_true rfl) ?_
  intro p e s m args below meth c Q A ls H locs F hN hK hP hD hS hA hl hq
  obtain ⟨hx, hb, hml, hown, hts⟩ := id F
  have hl : lv_has ls 5 [(0, .ref sb), (1, .ref db), (2, .int p2)] := hl
  unfold fX4_ready at h
  have L10 : ∀ (n10 : Nat) (v3 : Int32) (v4 : Int32) (H : Heap) (locs : List Loc) (ls : Array Slot), fX4_ready_10 sx dx p2 n10 v3 v4 = some rv → lv_has ls 5 [(0, .ref sb), (1, .ref db), (2, .int p2), (3, .int v3), (4, .int v4)] → va_P G vwCl ([tw_ai cI sb 70 sx] ++ [tw_ai cI db 12 dx]) H → va_D A ([tw_ai cI sb 70 sx] ++ [tw_ai cI db 12 dx]) → va_S A s.heap H locs → W p l e rmX4_ready s m args below meth c H locs 0 0 Q (F0 m 10 ls []) := by
    intro n10
    induction n10 with
    | zero =>
      intro v3 v4 H locs ls h
      rw [fX4_ready_10] at h
      cases h
    | succ n10 ih10 =>
      intro v3 v4 H locs ls h hl hP hD hS
      rw [fX4_ready_10] at h
      refine lv_iload hx hb dX4_ready_10 (lv_at hl 4 rfl) ?_
      refine lv_iload_n hx hb dX4_ready_12 rfl (lv_at hl 2 rfl) ?_
      refine lv_icmp_ge (tgt := 56) hx hb dX4_ready_13 (by decide) (fun c13 => ?_) (fun c13 => ?_)
      · replace h := tw_t c13 h
        refine lv_iload_n hx hb dX4_ready_56 rfl (lv_at hl 3 rfl) ?_
        exact hq H locs _ ls v3 (tw_rt (fun r => r = v3) h rfl) rfl hP hS dX4_ready_57
      · replace h := tw_f c13 h
        refine lv_aload_n hx hb dX4_ready_16 rfl (lv_at hl 0 rfl) ?_
        refine lv_iload_n hx hb dX4_ready_17 rfl (lv_at hl 2 rfl) ?_
        refine lv_iconst (v := (4 : Int32)) hx hb dX4_ready_18 (by decide) ?_
        obtain ⟨r19, e19, h⟩ := tw_bs h
        refine tw_callSi (ws' := ([tw_ai cI sb 70 sx] ++ [tw_ai cI db 12 dx])) (As := [.ref sb, .int p2, .int (4 : Int32)]) (rest := []) F hN hK hP hD hS hA (mX4_of l G cI sb sx H.size p2 (4 : Int32) e19) (va_cwS 3 hts gX4_ready_X4_of rfl rfl rfl (by decide +kernel) ⟨(Nat.le_of_ble_eq_true rfl), (Nat.le_of_ble_eq_true rfl)⟩) [0] rfl [0] (by decide) rfl rfl rfl rfl hl.1 rfl (Nat.le_of_ble_eq_true rfl) dX4_ready_19 ⟨Nat.zero_le _, Nat.zero_le _⟩ (fun H locs hP hD hS => ?_)
        refine lv_iload hx hb dX4_ready_22 (lv_at hl 4 rfl) ?_
        refine lv_ishr hx hb dX4_ready_24 ?_
        refine lv_iconst (v := (1 : Int32)) hx hb dX4_ready_25 (by decide) ?_
        refine lv_iand hx hb dX4_ready_26 ?_
        refine lv_iconst (v := (1 : Int32)) hx hb dX4_ready_27 (by decide) ?_
        refine lv_icmp_ne (tgt := 50) hx hb dX4_ready_28 (by decide) (fun c28 => ?_) (fun c28 => ?_)
        · replace h := tw_t c28 h
          refine lv_iinc (v := (v4 + 1)) (lv' := [(4, .int (v4 + 1)), (0, .ref sb), (1, .ref db), (2, .int p2), (3, .int v3)]) hx hb dX4_ready_50 hl (k := 4) rfl rfl (by decide) rfl (fun ls hl => ?_)
          refine lv_goto (tgt := 10) hx hb dX4_ready_53 (by decide) ?_
          exact ih10 v3 (v4 + 1) H locs ls h (lv_sub hl [1, 2, 3, 4, 0] rfl) hP hD hS
        · replace h := tw_fn c28 h
          refine lv_aload_n hx hb dX4_ready_31 rfl (lv_at hl 0 rfl) ?_
          refine lv_aload_n hx hb dX4_ready_32 rfl (lv_at hl 1 rfl) ?_
          refine lv_iload hx hb dX4_ready_33 (lv_at hl 4 rfl) ?_
          obtain ⟨r35, e35, h⟩ := tw_bs h
          refine tw_callSiF (ws' := ([tw_ai cI sb 70 sx] ++ [tw_ai cI db 12 dx])) (As := [.ref sb, .ref db, .int v4]) (rest := []) F hN hK hP hD hS hA (mX4_behind l G cI sb db sx dx H.size v4 e35) (va_cwS 3 hts gX4_ready_X4_behind rfl rfl rfl (by decide +kernel) ⟨(Nat.le_of_ble_eq_true rfl), (Nat.le_of_ble_eq_true rfl)⟩) rfl rfl hl.1 rfl (Nat.le_of_ble_eq_true rfl) dX4_ready_35 ⟨Nat.zero_le _, Nat.zero_le _⟩ (fun H locs hP hD hS => ?_)
          refine lv_iload_n hx hb dX4_ready_38 rfl (lv_at hl 3 rfl) ?_
          refine lv_icmp_le (tgt := 50) hx hb dX4_ready_39 (by decide) (fun c39 => ?_) (fun c39 => ?_)
          · replace h := tw_t c39 h
            refine lv_iinc (v := (v4 + 1)) (lv' := [(4, .int (v4 + 1)), (0, .ref sb), (1, .ref db), (2, .int p2), (3, .int v3)]) hx hb dX4_ready_50 hl (k := 4) rfl rfl (by decide) rfl (fun ls hl => ?_)
            refine lv_goto (tgt := 10) hx hb dX4_ready_53 (by decide) ?_
            exact ih10 v3 (v4 + 1) H locs ls h (lv_sub hl [1, 2, 3, 4, 0] rfl) hP hD hS
          · replace h := tw_f c39 h
            refine lv_aload_n hx hb dX4_ready_42 rfl (lv_at hl 0 rfl) ?_
            refine lv_aload_n hx hb dX4_ready_43 rfl (lv_at hl 1 rfl) ?_
            refine lv_iload hx hb dX4_ready_44 (lv_at hl 4 rfl) ?_
            obtain ⟨r46, e46, h⟩ := tw_bs h
            refine tw_callSiF (ws' := ([tw_ai cI sb 70 sx] ++ [tw_ai cI db 12 dx])) (As := [.ref sb, .ref db, .int v4]) (rest := []) F hN hK hP hD hS hA (mX4_behind l G cI sb db sx dx H.size v4 e46) (va_cwS 3 hts gX4_ready_X4_behind rfl rfl rfl (by decide +kernel) ⟨(Nat.le_of_ble_eq_true rfl), (Nat.le_of_ble_eq_true rfl)⟩) rfl rfl hl.1 rfl (Nat.le_of_ble_eq_true rfl) dX4_ready_46 ⟨Nat.zero_le _, Nat.zero_le _⟩ (fun H locs hP hD hS => ?_)
            refine lv_istore_n (lv' := [(3, .int r46), (0, .ref sb), (1, .ref db), (2, .int p2), (4, .int v4)]) hx hb dX4_ready_49 rfl hl (by decide) rfl (fun ls hl => ?_)
            refine lv_iinc (v := (v4 + 1)) (lv' := [(4, .int (v4 + 1)), (3, .int r46), (0, .ref sb), (1, .ref db), (2, .int p2)]) hx hb dX4_ready_50 hl (k := 4) rfl rfl (by decide) rfl (fun ls hl => ?_)
            refine lv_goto (tgt := 10) hx hb dX4_ready_53 (by decide) ?_
            exact ih10 r46 (v4 + 1) H locs ls h (lv_sub hl [2, 3, 4, 1, 0] rfl) hP hD hS
  refine lv_aload_n hx hb dX4_ready_0 rfl (lv_at hl 0 rfl) ?_
  refine lv_iload_n hx hb dX4_ready_1 rfl (lv_at hl 2 rfl) ?_
  refine lv_iconst (v := (3 : Int32)) hx hb dX4_ready_2 (by decide) ?_
  obtain ⟨r3, e3, h⟩ := tw_bs h
  refine tw_callSi (ws' := ([tw_ai cI sb 70 sx] ++ [tw_ai cI db 12 dx])) (As := [.ref sb, .int p2, .int (3 : Int32)]) (rest := []) F hN hK hP hD hS hA (mX4_of l G cI sb sx H.size p2 (3 : Int32) e3) (va_cwS 3 hts gX4_ready_X4_of rfl rfl rfl (by decide +kernel) ⟨(Nat.le_of_ble_eq_true rfl), (Nat.le_of_ble_eq_true rfl)⟩) [0] rfl [0] (by decide) rfl rfl rfl rfl hl.1 rfl (Nat.le_of_ble_eq_true rfl) dX4_ready_3 ⟨Nat.zero_le _, Nat.zero_le _⟩ (fun H locs hP hD hS => ?_)
  refine lv_istore_n (lv' := [(3, .int r3), (0, .ref sb), (1, .ref db), (2, .int p2)]) hx hb dX4_ready_6 rfl hl (by decide) rfl (fun ls hl => ?_)
  refine lv_iconst (v := (0 : Int32)) hx hb dX4_ready_7 (by decide) ?_
  refine lv_istore (lv' := [(4, .int (0 : Int32)), (3, .int r3), (0, .ref sb), (1, .ref db), (2, .int p2)]) hx hb dX4_ready_8 hl (by decide) rfl (fun ls hl => ?_)
  exact L10 512 r3 (0 : Int32) H locs ls h (lv_sub hl [2, 3, 4, 1, 0] rfl) hP hD hS
abbrev rmX4_isFree : Room := { frames := 2, cells := 0, slots := 0, locals := 44 }
set_option maxHeartbeats 4000000 in
set_option maxRecDepth 100000 in
theorem mX4_isFree (l : Launch) (G : va_G) (cI : ClassId) (sb : Nat) (db : Nat) (sx : tw_F) (dx : tw_F) (sz : Nat) (p2 : Int32) (p3 : Int32) {rv : Int32} (h : fX4_isFree sx dx p2 p3 = some rv) : tw_Mi l yX4_isFree wsX4_isFree rmX4_isFree G [(cI, .int)] ([tw_ai cI sb 70 sx] ++ [tw_ai cI db 12 dx]) [.ref sb, .ref db, .int p2, .int p3] sz rv ([tw_ai cI sb 70 sx] ++ [tw_ai cI db 12 dx]) := by
  refine tw_ofi (ty := .boolean) (cc := cX4_isFree) (maxL := 10) (own := RX4) (by decide) rfl rfl (Nat.le_of_ble_eq_true rfl) ?_
  intro p e s m args below meth c Q A ls H locs F hN hK hP hD hS hA hl hq
  obtain ⟨hx, hb, hml, hown, hts⟩ := id F
  have hl : lv_has ls 10 [(0, .ref sb), (1, .ref db), (2, .int p2), (3, .int p3)] := hl
  unfold fX4_isFree at h
  have L70 : ∀ (n70 : Nat) (v4 : Int32) (v5 : Int32) (v6 : Int32) (v7 : Int32) (H : Heap) (locs : List Loc) (ls : Array Slot), fX4_isFree_70 sx dx p2 p3 n70 v4 v5 v6 v7 = some rv → lv_has ls 10 [(0, .ref sb), (1, .ref db), (2, .int p2), (3, .int p3), (4, .int v4), (5, .int v5), (6, .int v6), (7, .int v7)] → va_P G vwCl ([tw_ai cI sb 70 sx] ++ [tw_ai cI db 12 dx]) H → va_D A ([tw_ai cI sb 70 sx] ++ [tw_ai cI db 12 dx]) → va_S A s.heap H locs → W p l e rmX4_isFree s m args below meth c H locs 0 0 Q (F0 m 70 ls []) := by
    intro n70
    induction n70 with
    | zero =>
      intro v4 v5 v6 v7 H locs ls h
      rw [fX4_isFree_70] at h
      cases h
    | succ n70 ih70 =>
      intro v4 v5 v6 v7 H locs ls h hl hP hD hS
      rw [fX4_isFree_70] at h
      have L166 : ∀ (t0 : Int32) (v4 : Int32) (v5 : Int32) (v7 : Int32) (v8 : Int32) (H : Heap) (locs : List Loc) (ls : Array Slot), fX4_isFree_166 sx dx p2 p3 (fX4_isFree_70 sx dx p2 p3 n70) t0 v4 v5 v7 v8 = some rv → lv_has ls 10 [(0, .ref sb), (1, .ref db), (2, .int p2), (3, .int p3), (4, .int v4), (5, .int v5), (7, .int v7), (8, .int v8)] → va_P G vwCl ([tw_ai cI sb 70 sx] ++ [tw_ai cI db 12 dx]) H → va_D A ([tw_ai cI sb 70 sx] ++ [tw_ai cI db 12 dx]) → va_S A s.heap H locs → W p l e rmX4_isFree s m args below meth c H locs 0 0 Q (F0 m 166 ls [.int t0]) := by
        intro t0 v4 v5 v7 v8 H locs ls h hl hP hD hS
        unfold fX4_isFree_166 at h
        refine lv_istore (lv' := [(9, .int t0), (0, .ref sb), (1, .ref db), (2, .int p2), (3, .int p3), (4, .int v4), (5, .int v5), (7, .int v7), (8, .int v8)]) hx hb dX4_isFree_166 hl (by decide) rfl (fun ls hl => ?_)
        refine lv_iload hx hb dX4_isFree_168 (lv_at hl 8 rfl) ?_
        refine lv_if_eq (tgt := 178) hx hb dX4_isFree_170 (by decide) (fun c170 => ?_) (fun c170 => ?_)
        · replace h := tw_t c170 h
          refine lv_iconst (v := (1 : Int32)) hx hb dX4_isFree_178 (by decide) ?_
          refine lv_goto (tgt := 183) hx hb dX4_isFree_179 (by decide) ?_
          refine lv_istore (lv' := [(6, .int (1 : Int32)), (9, .int t0), (0, .ref sb), (1, .ref db), (2, .int p2), (3, .int p3), (4, .int v4), (5, .int v5), (7, .int v7), (8, .int v8)]) hx hb dX4_isFree_183 hl (by decide) rfl (fun ls hl => ?_)
          refine lv_iinc (v := (v7 + 1)) (lv' := [(7, .int (v7 + 1)), (6, .int (1 : Int32)), (9, .int t0), (0, .ref sb), (1, .ref db), (2, .int p2), (3, .int p3), (4, .int v4), (5, .int v5), (8, .int v8)]) hx hb dX4_isFree_185 hl (k := 8) rfl rfl (by decide) rfl (fun ls hl => ?_)
          refine lv_goto (tgt := 70) hx hb dX4_isFree_188 (by decide) ?_
          exact ih70 v4 v5 (1 : Int32) (v7 + 1) H locs ls h (lv_sub hl [3, 4, 5, 6, 7, 8, 1, 0] rfl) hP hD hS
        · replace h := tw_f c170 h
          refine lv_iload hx hb dX4_isFree_173 (lv_at hl 0 rfl) ?_
          refine lv_if_ne (tgt := 182) hx hb dX4_isFree_175 (by decide) (fun c175 => ?_) (fun c175 => ?_)
          · replace h := tw_t c175 h
            refine lv_iconst (v := (0 : Int32)) hx hb dX4_isFree_182 (by decide) ?_
            refine lv_istore (lv' := [(6, .int (0 : Int32)), (9, .int t0), (0, .ref sb), (1, .ref db), (2, .int p2), (3, .int p3), (4, .int v4), (5, .int v5), (7, .int v7), (8, .int v8)]) hx hb dX4_isFree_183 hl (by decide) rfl (fun ls hl => ?_)
            refine lv_iinc (v := (v7 + 1)) (lv' := [(7, .int (v7 + 1)), (6, .int (0 : Int32)), (9, .int t0), (0, .ref sb), (1, .ref db), (2, .int p2), (3, .int p3), (4, .int v4), (5, .int v5), (8, .int v8)]) hx hb dX4_isFree_185 hl (k := 8) rfl rfl (by decide) rfl (fun ls hl => ?_)
            refine lv_goto (tgt := 70) hx hb dX4_isFree_188 (by decide) ?_
            exact ih70 v4 v5 (0 : Int32) (v7 + 1) H locs ls h (lv_sub hl [3, 4, 5, 6, 7, 8, 1, 0] rfl) hP hD hS
          · replace h := tw_fn c175 h
            refine lv_iconst (v := (1 : Int32)) hx hb dX4_isFree_178 (by decide) ?_
            refine lv_goto (tgt := 183) hx hb dX4_isFree_179 (by decide) ?_
            refine lv_istore (lv' := [(6, .int (1 : Int32)), (9, .int t0), (0, .ref sb), (1, .ref db), (2, .int p2), (3, .int p3), (4, .int v4), (5, .int v5), (7, .int v7), (8, .int v8)]) hx hb dX4_isFree_183 hl (by decide) rfl (fun ls hl => ?_)
            refine lv_iinc (v := (v7 + 1)) (lv' := [(7, .int (v7 + 1)), (6, .int (1 : Int32)), (9, .int t0), (0, .ref sb), (1, .ref db), (2, .int p2), (3, .int p3), (4, .int v4), (5, .int v5), (8, .int v8)]) hx hb dX4_isFree_185 hl (k := 8) rfl rfl (by decide) rfl (fun ls hl => ?_)
            refine lv_goto (tgt := 70) hx hb dX4_isFree_188 (by decide) ?_
            exact ih70 v4 v5 (1 : Int32) (v7 + 1) H locs ls h (lv_sub hl [3, 4, 5, 6, 7, 8, 1, 0] rfl) hP hD hS
      have L143 : ∀ (v4 : Int32) (v5 : Int32) (v7 : Int32) (v8 : Int32) (H : Heap) (locs : List Loc) (ls : Array Slot), fX4_isFree_143 sx dx p2 p3 (fX4_isFree_70 sx dx p2 p3 n70) v4 v5 v7 v8 = some rv → lv_has ls 10 [(0, .ref sb), (1, .ref db), (2, .int p2), (3, .int p3), (4, .int v4), (5, .int v5), (7, .int v7), (8, .int v8)] → va_P G vwCl ([tw_ai cI sb 70 sx] ++ [tw_ai cI db 12 dx]) H → va_D A ([tw_ai cI sb 70 sx] ++ [tw_ai cI db 12 dx]) → va_S A s.heap H locs → W p l e rmX4_isFree s m args below meth c H locs 0 0 Q (F0 m 143 ls []) := by
        intro v4 v5 v7 v8 H locs ls h hl hP hD hS
        unfold fX4_isFree_143 at h
        refine lv_iload hx hb dX4_isFree_143 (lv_at hl 5 rfl) ?_
        refine lv_iconst (v := (-1 : Int32)) hx hb dX4_isFree_145 (by decide) ?_
        refine lv_icmp_eq (tgt := 165) hx hb dX4_isFree_146 (by decide) (fun c146 => ?_) (fun c146 => ?_)
        · replace h := tw_t c146 h
          refine lv_iconst (v := (0 : Int32)) hx hb dX4_isFree_165 (by decide) ?_
          exact L166 (0 : Int32) v4 v5 v7 v8 H locs ls h (lv_sub hl [0, 1, 2, 3, 4, 5, 6, 7] rfl) hP hD hS
        · replace h := tw_f c146 h
          refine lv_iload hx hb dX4_isFree_149 (lv_at hl 5 rfl) ?_
          refine lv_aload_n hx hb dX4_isFree_151 rfl (lv_at hl 0 rfl) ?_
          refine lv_iload hx hb dX4_isFree_152 (lv_at hl 6 rfl) ?_
          refine lv_iconst (v := (2 : Int32)) hx hb dX4_isFree_154 (by decide) ?_
          obtain ⟨r155, e155, h⟩ := tw_bs h
          refine tw_callSi (ws' := ([tw_ai cI sb 70 sx] ++ [tw_ai cI db 12 dx])) (As := [.ref sb, .int v7, .int (2 : Int32)]) (rest := [.int v5]) F hN hK hP hD hS hA (mX4_of l G cI sb sx H.size v7 (2 : Int32) e155) (va_cwS 3 hts gX4_isFree_X4_of rfl rfl rfl (by decide +kernel) ⟨(Nat.le_of_ble_eq_true rfl), (Nat.le_of_ble_eq_true rfl)⟩) [0] rfl [0] (by decide) rfl rfl rfl rfl hl.1 rfl (Nat.le_of_ble_eq_true rfl) dX4_isFree_155 ⟨Nat.zero_le _, Nat.zero_le _⟩ (fun H locs hP hD hS => ?_)
          refine lv_icmp_ne (tgt := 165) hx hb dX4_isFree_158 (by decide) (fun c158 => ?_) (fun c158 => ?_)
          · replace h := tw_t c158 h
            refine lv_iconst (v := (0 : Int32)) hx hb dX4_isFree_165 (by decide) ?_
            exact L166 (0 : Int32) v4 v5 v7 v8 H locs ls h (lv_sub hl [0, 1, 2, 3, 4, 5, 6, 7] rfl) hP hD hS
          · replace h := tw_fn c158 h
            refine lv_iconst (v := (1 : Int32)) hx hb dX4_isFree_161 (by decide) ?_
            refine lv_goto (tgt := 166) hx hb dX4_isFree_162 (by decide) ?_
            exact L166 (1 : Int32) v4 v5 v7 v8 H locs ls h (lv_sub hl [0, 1, 2, 3, 4, 5, 6, 7] rfl) hP hD hS
      have L115 : ∀ (t0 : Int32) (v4 : Int32) (v5 : Int32) (v7 : Int32) (H : Heap) (locs : List Loc) (ls : Array Slot), fX4_isFree_115 sx dx p2 p3 (fX4_isFree_70 sx dx p2 p3 n70) t0 v4 v5 v7 = some rv → lv_has ls 10 [(0, .ref sb), (1, .ref db), (2, .int p2), (3, .int p3), (4, .int v4), (5, .int v5), (7, .int v7)] → va_P G vwCl ([tw_ai cI sb 70 sx] ++ [tw_ai cI db 12 dx]) H → va_D A ([tw_ai cI sb 70 sx] ++ [tw_ai cI db 12 dx]) → va_S A s.heap H locs → W p l e rmX4_isFree s m args below meth c H locs 0 0 Q (F0 m 115 ls [.int t0]) := by
        intro t0 v4 v5 v7 H locs ls h hl hP hD hS
        unfold fX4_isFree_115 at h
        refine lv_istore (lv' := [(8, .int t0), (0, .ref sb), (1, .ref db), (2, .int p2), (3, .int p3), (4, .int v4), (5, .int v5), (7, .int v7)]) hx hb dX4_isFree_115 hl (by decide) rfl (fun ls hl => ?_)
        refine lv_aload_n hx hb dX4_isFree_117 rfl (lv_at hl 1 rfl) ?_
        refine lv_iload_n hx hb dX4_isFree_118 rfl (lv_at hl 3 rfl) ?_
        refine lv_iconst (v := (1 : Int32)) hx hb dX4_isFree_119 (by decide) ?_
        obtain ⟨r120, e120, h⟩ := tw_bs h
        refine tw_callSi (ws' := ([tw_ai cI sb 70 sx] ++ [tw_ai cI db 12 dx])) (As := [.ref sb, .int p2, .int (1 : Int32)]) (rest := []) F hN hK hP hD hS hA (mX4_of l G cI sb sx H.size p2 (1 : Int32) e120) (va_cwS 3 hts gX4_isFree_X4_of rfl rfl rfl (by decide +kernel) ⟨(Nat.le_of_ble_eq_true rfl), (Nat.le_of_ble_eq_true rfl)⟩) [0] rfl [0] (by decide) rfl rfl rfl rfl hl.1 rfl (Nat.le_of_ble_eq_true rfl) dX4_isFree_120 ⟨Nat.zero_le _, Nat.zero_le _⟩ (fun H locs hP hD hS => ?_)
        refine lv_iconst (v := (-1 : Int32)) hx hb dX4_isFree_123 (by decide) ?_
        refine lv_icmp_eq (tgt := 143) hx hb dX4_isFree_124 (by decide) (fun c124 => ?_) (fun c124 => ?_)
        · replace h := tw_t c124 h
          exact L143 v4 v5 v7 t0 H locs ls h (lv_sub hl [1, 2, 3, 4, 5, 6, 7, 0] rfl) hP hD hS
        · replace h := tw_f c124 h
          refine lv_aload_n hx hb dX4_isFree_127 rfl (lv_at hl 1 rfl) ?_
          refine lv_iload_n hx hb dX4_isFree_128 rfl (lv_at hl 3 rfl) ?_
          refine lv_iconst (v := (1 : Int32)) hx hb dX4_isFree_129 (by decide) ?_
          obtain ⟨r130, e130, h⟩ := tw_bs h
          refine tw_callSi (ws' := ([tw_ai cI sb 70 sx] ++ [tw_ai cI db 12 dx])) (As := [.ref sb, .int p2, .int (1 : Int32)]) (rest := []) F hN hK hP hD hS hA (mX4_of l G cI sb sx H.size p2 (1 : Int32) e130) (va_cwS 3 hts gX4_isFree_X4_of rfl rfl rfl (by decide +kernel) ⟨(Nat.le_of_ble_eq_true rfl), (Nat.le_of_ble_eq_true rfl)⟩) [0] rfl [0] (by decide) rfl rfl rfl rfl hl.1 rfl (Nat.le_of_ble_eq_true rfl) dX4_isFree_130 ⟨Nat.zero_le _, Nat.zero_le _⟩ (fun H locs hP hD hS => ?_)
          refine lv_aload_n hx hb dX4_isFree_133 rfl (lv_at hl 1 rfl) ?_
          refine lv_iload hx hb dX4_isFree_134 (lv_at hl 7 rfl) ?_
          refine lv_iconst (v := (1 : Int32)) hx hb dX4_isFree_136 (by decide) ?_
          obtain ⟨r137, e137, h⟩ := tw_bs h
          refine tw_callSi (ws' := ([tw_ai cI sb 70 sx] ++ [tw_ai cI db 12 dx])) (As := [.ref sb, .int v7, .int (1 : Int32)]) (rest := [.int r130]) F hN hK hP hD hS hA (mX4_of l G cI sb sx H.size v7 (1 : Int32) e137) (va_cwS 3 hts gX4_isFree_X4_of rfl rfl rfl (by decide +kernel) ⟨(Nat.le_of_ble_eq_true rfl), (Nat.le_of_ble_eq_true rfl)⟩) [0] rfl [0] (by decide) rfl rfl rfl rfl hl.1 rfl (Nat.le_of_ble_eq_true rfl) dX4_isFree_137 ⟨Nat.zero_le _, Nat.zero_le _⟩ (fun H locs hP hD hS => ?_)
          refine lv_icmp_eq (tgt := 161) hx hb dX4_isFree_140 (by decide) (fun c140 => ?_) (fun c140 => ?_)
          · replace h := tw_t c140 h
            refine lv_iconst (v := (1 : Int32)) hx hb dX4_isFree_161 (by decide) ?_
            refine lv_goto (tgt := 166) hx hb dX4_isFree_162 (by decide) ?_
            exact L166 (1 : Int32) v4 v5 v7 t0 H locs ls h (lv_sub hl [1, 2, 3, 4, 5, 6, 7, 0] rfl) hP hD hS
          · replace h := tw_f c140 h
            exact L143 v4 v5 v7 t0 H locs ls h (lv_sub hl [1, 2, 3, 4, 5, 6, 7, 0] rfl) hP hD hS
      refine lv_iload hx hb dX4_isFree_70 (lv_at hl 7 rfl) ?_
      refine lv_aload_n hx hb dX4_isFree_72 rfl (lv_at hl 0 rfl) ?_
      refine lv_iconst (v := (0 : Int32)) hx hb dX4_isFree_73 (by decide) ?_
      refine va_iald (f := sx) (n := 70) hx hb hK hP 0 0 rfl rfl (tw_vin (by decide)) dX4_isFree_74 ?_
      refine lv_icmp_ge (tgt := 191) hx hb dX4_isFree_75 (by decide) (fun c75 => ?_) (fun c75 => ?_)
      · replace h := tw_t c75 h
        refine lv_iload hx hb dX4_isFree_191 (lv_at hl 6 rfl) ?_
        obtain ⟨g193, h⟩ := tw_qs h
        exact hq H locs _ ls v6 (tw_rt (fun r => r = v6) h rfl) (tw_nb g193) hP hS dX4_isFree_193
      · replace h := tw_f c75 h
        refine lv_iload hx hb dX4_isFree_78 (lv_at hl 6 rfl) ?_
        refine lv_if_eq (tgt := 191) hx hb dX4_isFree_80 (by decide) (fun c80 => ?_) (fun c80 => ?_)
        · replace h := tw_t c80 h
          refine lv_iload hx hb dX4_isFree_191 (lv_at hl 6 rfl) ?_
          obtain ⟨g193, h⟩ := tw_qs h
          exact hq H locs _ ls v6 (tw_rt (fun r => r = v6) h rfl) (tw_nb g193) hP hS dX4_isFree_193
        · replace h := tw_f c80 h
          refine lv_aload_n hx hb dX4_isFree_83 rfl (lv_at hl 1 rfl) ?_
          refine lv_iload hx hb dX4_isFree_84 (lv_at hl 7 rfl) ?_
          obtain ⟨g86, h⟩ := tw_gs h
          refine va_iald (f := dx) (n := 12) hx hb hK hP 1 0 rfl rfl g86 dX4_isFree_86 ?_
          refine lv_if_lt (tgt := 114) hx hb dX4_isFree_87 (by decide) (fun c87 => ?_) (fun c87 => ?_)
          · replace h := tw_t c87 h
            refine lv_iconst (v := (0 : Int32)) hx hb dX4_isFree_114 (by decide) ?_
            exact L115 (0 : Int32) v4 v5 v7 H locs ls h (lv_sub hl [0, 1, 2, 3, 4, 5, 7] rfl) hP hD hS
          · replace h := tw_f c87 h
            refine lv_aload_n hx hb dX4_isFree_90 rfl (lv_at hl 1 rfl) ?_
            refine lv_iload hx hb dX4_isFree_91 (lv_at hl 7 rfl) ?_
            obtain ⟨g93, h⟩ := tw_gs h
            refine va_iald (f := dx) (n := 12) hx hb hK hP 1 0 rfl rfl g93 dX4_isFree_93 ?_
            refine lv_iload hx hb dX4_isFree_94 (lv_at hl 4 rfl) ?_
            refine lv_icmp_gt (tgt := 114) hx hb dX4_isFree_96 (by decide) (fun c96 => ?_) (fun c96 => ?_)
            · replace h := tw_t c96 h
              refine lv_iconst (v := (0 : Int32)) hx hb dX4_isFree_114 (by decide) ?_
              exact L115 (0 : Int32) v4 v5 v7 H locs ls h (lv_sub hl [0, 1, 2, 3, 4, 5, 7] rfl) hP hD hS
            · replace h := tw_f c96 h
              refine lv_aload_n hx hb dX4_isFree_99 rfl (lv_at hl 0 rfl) ?_
              refine lv_aload_n hx hb dX4_isFree_100 rfl (lv_at hl 1 rfl) ?_
              refine lv_iload hx hb dX4_isFree_101 (lv_at hl 7 rfl) ?_
              obtain ⟨r103, e103, h⟩ := tw_bs h
              refine tw_callSiF (ws' := ([tw_ai cI sb 70 sx] ++ [tw_ai cI db 12 dx])) (As := [.ref sb, .ref db, .int v7]) (rest := []) F hN hK hP hD hS hA (mX4_behind l G cI sb db sx dx H.size v7 e103) (va_cwS 3 hts gX4_isFree_X4_behind rfl rfl rfl (by decide +kernel) ⟨(Nat.le_of_ble_eq_true rfl), (Nat.le_of_ble_eq_true rfl)⟩) rfl rfl hl.1 rfl (Nat.le_of_ble_eq_true rfl) dX4_isFree_103 ⟨Nat.zero_le _, Nat.zero_le _⟩ (fun H locs hP hD hS => ?_)
              refine lv_iload_n hx hb dX4_isFree_106 rfl (lv_at hl 3 rfl) ?_
              refine lv_icmp_le (tgt := 114) hx hb dX4_isFree_107 (by decide) (fun c107 => ?_) (fun c107 => ?_)
              · replace h := tw_t c107 h
                refine lv_iconst (v := (0 : Int32)) hx hb dX4_isFree_114 (by decide) ?_
                exact L115 (0 : Int32) v4 v5 v7 H locs ls h (lv_sub hl [0, 1, 2, 3, 4, 5, 7] rfl) hP hD hS
              · replace h := tw_f c107 h
                refine lv_iconst (v := (1 : Int32)) hx hb dX4_isFree_110 (by decide) ?_
                refine lv_goto (tgt := 115) hx hb dX4_isFree_111 (by decide) ?_
                exact L115 (1 : Int32) v4 v5 v7 H locs ls h (lv_sub hl [0, 1, 2, 3, 4, 5, 7] rfl) hP hD hS
  refine lv_iload_n hx hb dX4_isFree_0 rfl (lv_at hl 3 rfl) ?_
  refine lv_aload_n hx hb dX4_isFree_1 rfl (lv_at hl 0 rfl) ?_
  refine lv_iload_n hx hb dX4_isFree_2 rfl (lv_at hl 2 rfl) ?_
  refine lv_iconst (v := (0 : Int32)) hx hb dX4_isFree_3 (by decide) ?_
  obtain ⟨r4, e4, h⟩ := tw_bs h
  refine tw_callSi (ws' := ([tw_ai cI sb 70 sx] ++ [tw_ai cI db 12 dx])) (As := [.ref sb, .int p2, .int (0 : Int32)]) (rest := [.int p3]) F hN hK hP hD hS hA (mX4_of l G cI sb sx H.size p2 (0 : Int32) e4) (va_cwS 3 hts gX4_isFree_X4_of rfl rfl rfl (by decide +kernel) ⟨(Nat.le_of_ble_eq_true rfl), (Nat.le_of_ble_eq_true rfl)⟩) [0] rfl [0] (by decide) rfl rfl rfl rfl hl.1 rfl (Nat.le_of_ble_eq_true rfl) dX4_isFree_4 ⟨Nat.zero_le _, Nat.zero_le _⟩ (fun H locs hP hD hS => ?_)
  refine lv_iadd hx hb dX4_isFree_7 ?_
  refine lv_iconst (v := (1 : Int32)) hx hb dX4_isFree_8 (by decide) ?_
  refine lv_isub hx hb dX4_isFree_9 ?_
  refine lv_istore (lv' := [(4, .int ((p3 + r4) - (1 : Int32))), (0, .ref sb), (1, .ref db), (2, .int p2), (3, .int p3)]) hx hb dX4_isFree_10 hl (by decide) rfl (fun ls hl => ?_)
  refine lv_aload_n hx hb dX4_isFree_12 rfl (lv_at hl 1 rfl) ?_
  refine lv_iload_n hx hb dX4_isFree_13 rfl (lv_at hl 3 rfl) ?_
  refine lv_iconst (v := (2 : Int32)) hx hb dX4_isFree_14 (by decide) ?_
  obtain ⟨r15, e15, h⟩ := tw_bs h
  refine tw_callSi (ws' := ([tw_ai cI sb 70 sx] ++ [tw_ai cI db 12 dx])) (As := [.ref sb, .int p2, .int (2 : Int32)]) (rest := []) F hN hK hP hD hS hA (mX4_of l G cI sb sx H.size p2 (2 : Int32) e15) (va_cwS 3 hts gX4_isFree_X4_of rfl rfl rfl (by decide +kernel) ⟨(Nat.le_of_ble_eq_true rfl), (Nat.le_of_ble_eq_true rfl)⟩) [0] rfl [0] (by decide) rfl rfl rfl rfl hl.1 rfl (Nat.le_of_ble_eq_true rfl) dX4_isFree_15 ⟨Nat.zero_le _, Nat.zero_le _⟩ (fun H locs hP hD hS => ?_)
  refine lv_istore (lv' := [(5, .int r15), (4, .int ((p3 + r4) - (1 : Int32))), (0, .ref sb), (1, .ref db), (2, .int p2), (3, .int p3)]) hx hb dX4_isFree_18 hl (by decide) rfl (fun ls hl => ?_)
  refine lv_iload hx hb dX4_isFree_20 (lv_at hl 1 rfl) ?_
  refine lv_bipush (v := (100 : Int32)) hx hb dX4_isFree_22 (by decide) ?_
  refine lv_icmp_ge (tgt := 64) hx hb dX4_isFree_24 (by decide) (fun c24 => ?_) (fun c24 => ?_)
  · replace h := tw_t c24 h
    refine lv_iconst (v := (0 : Int32)) hx hb dX4_isFree_64 (by decide) ?_
    refine lv_istore (lv' := [(6, .int (0 : Int32)), (5, .int r15), (4, .int ((p3 + r4) - (1 : Int32))), (0, .ref sb), (1, .ref db), (2, .int p2), (3, .int p3)]) hx hb dX4_isFree_65 hl (by decide) rfl (fun ls hl => ?_)
    refine lv_iconst (v := (0 : Int32)) hx hb dX4_isFree_67 (by decide) ?_
    refine lv_istore (lv' := [(7, .int (0 : Int32)), (6, .int (0 : Int32)), (5, .int r15), (4, .int ((p3 + r4) - (1 : Int32))), (0, .ref sb), (1, .ref db), (2, .int p2), (3, .int p3)]) hx hb dX4_isFree_68 hl (by decide) rfl (fun ls hl => ?_)
    exact L70 512 ((p3 + r4) - (1 : Int32)) r15 (0 : Int32) (0 : Int32) H locs ls h (lv_sub hl [4, 5, 6, 7, 3, 2, 1, 0] rfl) hP hD hS
  · replace h := tw_f c24 h
    refine lv_iload hx hb dX4_isFree_27 (lv_at hl 0 rfl) ?_
    refine lv_iconst (v := (-1 : Int32)) hx hb dX4_isFree_29 (by decide) ?_
    refine lv_icmp_eq (tgt := 60) hx hb dX4_isFree_30 (by decide) (fun c30 => ?_) (fun c30 => ?_)
    · replace h := tw_t c30 h
      refine lv_iconst (v := (1 : Int32)) hx hb dX4_isFree_60 (by decide) ?_
      refine lv_goto (tgt := 65) hx hb dX4_isFree_61 (by decide) ?_
      refine lv_istore (lv' := [(6, .int (1 : Int32)), (5, .int r15), (4, .int ((p3 + r4) - (1 : Int32))), (0, .ref sb), (1, .ref db), (2, .int p2), (3, .int p3)]) hx hb dX4_isFree_65 hl (by decide) rfl (fun ls hl => ?_)
      refine lv_iconst (v := (0 : Int32)) hx hb dX4_isFree_67 (by decide) ?_
      refine lv_istore (lv' := [(7, .int (0 : Int32)), (6, .int (1 : Int32)), (5, .int r15), (4, .int ((p3 + r4) - (1 : Int32))), (0, .ref sb), (1, .ref db), (2, .int p2), (3, .int p3)]) hx hb dX4_isFree_68 hl (by decide) rfl (fun ls hl => ?_)
      exact L70 512 ((p3 + r4) - (1 : Int32)) r15 (1 : Int32) (0 : Int32) H locs ls h (lv_sub hl [4, 5, 6, 7, 3, 2, 1, 0] rfl) hP hD hS
    · replace h := tw_f c30 h
      refine lv_iload_n hx hb dX4_isFree_33 rfl (lv_at hl 5 rfl) ?_
      refine lv_aload_n hx hb dX4_isFree_34 rfl (lv_at hl 2 rfl) ?_
      refine lv_iconst (v := (2 : Int32)) hx hb dX4_isFree_35 (by decide) ?_
      refine lv_iconst (v := (2 : Int32)) hx hb dX4_isFree_36 (by decide) ?_
      refine lv_iload hx hb dX4_isFree_37 (lv_at hl 0 rfl) ?_
      refine lv_imul hx hb dX4_isFree_39 ?_
      refine lv_iadd hx hb dX4_isFree_40 ?_
      obtain ⟨g41, h⟩ := tw_gs h
      refine va_iald (f := sx) (n := 70) hx hb hK hP 0 0 rfl rfl g41 dX4_isFree_41 ?_
      refine lv_icmp_lt (tgt := 64) hx hb dX4_isFree_42 (by decide) (fun c42 => ?_) (fun c42 => ?_)
      · replace h := tw_t c42 h
        refine lv_iconst (v := (0 : Int32)) hx hb dX4_isFree_64 (by decide) ?_
        refine lv_istore (lv' := [(6, .int (0 : Int32)), (5, .int r15), (4, .int ((p3 + r4) - (1 : Int32))), (0, .ref sb), (1, .ref db), (2, .int p2), (3, .int p3)]) hx hb dX4_isFree_65 hl (by decide) rfl (fun ls hl => ?_)
        refine lv_iconst (v := (0 : Int32)) hx hb dX4_isFree_67 (by decide) ?_
        refine lv_istore (lv' := [(7, .int (0 : Int32)), (6, .int (0 : Int32)), (5, .int r15), (4, .int ((p3 + r4) - (1 : Int32))), (0, .ref sb), (1, .ref db), (2, .int p2), (3, .int p3)]) hx hb dX4_isFree_68 hl (by decide) rfl (fun ls hl => ?_)
        exact L70 512 ((p3 + r4) - (1 : Int32)) r15 (0 : Int32) (0 : Int32) H locs ls h (lv_sub hl [4, 5, 6, 7, 3, 2, 1, 0] rfl) hP hD hS
      · replace h := tw_f c42 h
        refine lv_iload hx hb dX4_isFree_45 (lv_at hl 1 rfl) ?_
        refine lv_aload_n hx hb dX4_isFree_47 rfl (lv_at hl 2 rfl) ?_
        refine lv_iconst (v := (2 : Int32)) hx hb dX4_isFree_48 (by decide) ?_
        refine lv_iconst (v := (2 : Int32)) hx hb dX4_isFree_49 (by decide) ?_
        refine lv_iload hx hb dX4_isFree_50 (lv_at hl 0 rfl) ?_
        refine lv_imul hx hb dX4_isFree_52 ?_
        refine lv_iadd hx hb dX4_isFree_53 ?_
        refine lv_iconst (v := (1 : Int32)) hx hb dX4_isFree_54 (by decide) ?_
        refine lv_iadd hx hb dX4_isFree_55 ?_
        obtain ⟨g56, h⟩ := tw_gs h
        refine va_iald (f := sx) (n := 70) hx hb hK hP 0 0 rfl rfl g56 dX4_isFree_56 ?_
        refine lv_icmp_gt (tgt := 64) hx hb dX4_isFree_57 (by decide) (fun c57 => ?_) (fun c57 => ?_)
        · replace h := tw_t c57 h
          refine lv_iconst (v := (0 : Int32)) hx hb dX4_isFree_64 (by decide) ?_
          refine lv_istore (lv' := [(6, .int (0 : Int32)), (5, .int r15), (4, .int ((p3 + r4) - (1 : Int32))), (0, .ref sb), (1, .ref db), (2, .int p2), (3, .int p3)]) hx hb dX4_isFree_65 hl (by decide) rfl (fun ls hl => ?_)
          refine lv_iconst (v := (0 : Int32)) hx hb dX4_isFree_67 (by decide) ?_
          refine lv_istore (lv' := [(7, .int (0 : Int32)), (6, .int (0 : Int32)), (5, .int r15), (4, .int ((p3 + r4) - (1 : Int32))), (0, .ref sb), (1, .ref db), (2, .int p2), (3, .int p3)]) hx hb dX4_isFree_68 hl (by decide) rfl (fun ls hl => ?_)
          exact L70 512 ((p3 + r4) - (1 : Int32)) r15 (0 : Int32) (0 : Int32) H locs ls h (lv_sub hl [4, 5, 6, 7, 3, 2, 1, 0] rfl) hP hD hS
        · replace h := tw_f c57 h
          refine lv_iconst (v := (1 : Int32)) hx hb dX4_isFree_60 (by decide) ?_
          refine lv_goto (tgt := 65) hx hb dX4_isFree_61 (by decide) ?_
          refine lv_istore (lv' := [(6, .int (1 : Int32)), (5, .int r15), (4, .int ((p3 + r4) - (1 : Int32))), (0, .ref sb), (1, .ref db), (2, .int p2), (3, .int p3)]) hx hb dX4_isFree_65 hl (by decide) rfl (fun ls hl => ?_)
          refine lv_iconst (v := (0 : Int32)) hx hb dX4_isFree_67 (by decide) ?_
          refine lv_istore (lv' := [(7, .int (0 : Int32)), (6, .int (1 : Int32)), (5, .int r15), (4, .int ((p3 + r4) - (1 : Int32))), (0, .ref sb), (1, .ref db), (2, .int p2), (3, .int p3)]) hx hb dX4_isFree_68 hl (by decide) rfl (fun ls hl => ?_)
          exact L70 512 ((p3 + r4) - (1 : Int32)) r15 (1 : Int32) (0 : Int32) H locs ls h (lv_sub hl [4, 5, 6, 7, 3, 2, 1, 0] rfl) hP hD hS
abbrev rmX4_lays : Room := { frames := 3, cells := 0, slots := 0, locals := 73 }
set_option maxHeartbeats 4000000 in
set_option maxRecDepth 100000 in
theorem mX4_lays (l : Launch) (G : va_G) (cI : ClassId) (sb : Nat) (db : Nat) (sx : tw_F) (dx : tw_F) (sz : Nat)  {rv : tw_F} (h : fX4_lays sx dx = some rv) : tw_Mv l yX4_lays wsX4_lays rmX4_lays G [(cI, .int)] ([tw_ai cI sb 70 sx] ++ [tw_ai cI db 12 dx]) [.ref sb, .ref db] sz ([tw_ai cI sb 70 sx] ++ [tw_ai cI db 12 rv]) := by
  refine tw_ofv (cc := cX4_lays) (maxL := 7) (own := RX4) (by decide) rfl rfl (Nat.le_of_ble_eq_true rfl) ?_
  intro p e s m args below meth c Q A ls H locs F hN hK hP hD hS hA hl hq
  obtain ⟨hx, hb, hml, hown, hts⟩ := id F
  have hl : lv_has ls 7 [(0, .ref sb), (1, .ref db)] := hl
  unfold fX4_lays at h
  have L32 : ∀ (n32 : Nat) (v2 : Int32) (v3 : Int32) (v4 : Int32) (dx : tw_F) (H : Heap) (locs : List Loc) (ls : Array Slot), fX4_lays_32 sx n32 v2 v3 v4 dx = some rv → lv_has ls 7 [(0, .ref sb), (1, .ref db), (2, .int v2), (3, .int v3), (4, .int v4)] → va_P G vwCl ([tw_ai cI sb 70 sx] ++ [tw_ai cI db 12 dx]) H → va_D A ([tw_ai cI sb 70 sx] ++ [tw_ai cI db 12 dx]) → va_S A s.heap H locs → W p l e rmX4_lays s m args below meth c H locs 0 0 Q (F0 m 32 ls []) := by
    intro n32
    induction n32 with
    | zero =>
      intro v2 v3 v4 dx H locs ls h
      rw [fX4_lays_32] at h
      cases h
    | succ n32 ih32 =>
      intro v2 v3 v4 dx H locs ls h hl hP hD hS
      rw [fX4_lays_32] at h
      have L197 : ∀ (t0 : Int32) (t1 : Int32) (v2 : Int32) (v4 : Int32) (dx : tw_F) (H : Heap) (locs : List Loc) (ls : Array Slot), fX4_lays_197 sx (fX4_lays_32 sx n32) t0 t1 v2 v4 dx = some rv → lv_has ls 7 [(0, .ref sb), (1, .ref db), (2, .int v2), (4, .int v4)] → va_P G vwCl ([tw_ai cI sb 70 sx] ++ [tw_ai cI db 12 dx]) H → va_D A ([tw_ai cI sb 70 sx] ++ [tw_ai cI db 12 dx]) → va_S A s.heap H locs → W p l e rmX4_lays s m args below meth c H locs 0 0 Q (F0 m 197 ls [.int t1, .int t0]) := by
        intro t0 t1 v2 v4 dx H locs ls h hl hP hD hS
        unfold fX4_lays_197 at h
        refine lv_ior hx hb dX4_lays_197 ?_
        refine lv_istore_n (lv' := [(3, .int (t0 ||| t1)), (0, .ref sb), (1, .ref db), (2, .int v2), (4, .int v4)]) hx hb dX4_lays_198 rfl hl (by decide) rfl (fun ls hl => ?_)
        refine lv_iload_n hx hb dX4_lays_199 rfl (lv_at hl 3 rfl) ?_
        refine lv_iconst (v := (1 : Int32)) hx hb dX4_lays_200 (by decide) ?_
        refine lv_iload hx hb dX4_lays_201 (lv_at hl 4 rfl) ?_
        refine lv_ishl hx hb dX4_lays_203 ?_
        refine lv_iconst (v := (-1 : Int32)) hx hb dX4_lays_204 (by decide) ?_
        refine lv_ixor hx hb dX4_lays_205 ?_
        refine lv_iand hx hb dX4_lays_206 ?_
        refine lv_istore_n (lv' := [(2, .int (v2 &&& (((1 : Int32) <<< (v4 &&& 31)) ^^^ (-1 : Int32)))), (3, .int (t0 ||| t1)), (0, .ref sb), (1, .ref db), (4, .int v4)]) hx hb dX4_lays_207 rfl hl (by decide) rfl (fun ls hl => ?_)
        refine lv_goto (tgt := 32) hx hb dX4_lays_208 (by decide) ?_
        exact ih32 (v2 &&& (((1 : Int32) <<< (v4 &&& 31)) ^^^ (-1 : Int32))) (t0 ||| t1) v4 dx H locs ls h (lv_sub hl [2, 3, 0, 1, 4] rfl) hP hD hS
      have L164 : ∀ (v2 : Int32) (v3 : Int32) (v4 : Int32) (v5 : Int32) (dx : tw_F) (H : Heap) (locs : List Loc) (ls : Array Slot), fX4_lays_164 sx (fX4_lays_32 sx n32) v2 v3 v4 v5 dx = some rv → lv_has ls 7 [(0, .ref sb), (1, .ref db), (2, .int v2), (3, .int v3), (4, .int v4), (5, .int v5)] → va_P G vwCl ([tw_ai cI sb 70 sx] ++ [tw_ai cI db 12 dx]) H → va_D A ([tw_ai cI sb 70 sx] ++ [tw_ai cI db 12 dx]) → va_S A s.heap H locs → W p l e rmX4_lays s m args below meth c H locs 0 0 Q (F0 m 164 ls []) := by
        intro v2 v3 v4 v5 dx H locs ls h hl hP hD hS
        unfold fX4_lays_164 at h
        refine lv_aload_n hx hb dX4_lays_164 rfl (lv_at hl 1 rfl) ?_
        refine lv_iload hx hb dX4_lays_165 (lv_at hl 4 rfl) ?_
        refine lv_iload hx hb dX4_lays_167 (lv_at hl 5 rfl) ?_
        refine lv_bipush (v := (100 : Int32)) hx hb dX4_lays_169 (by decide) ?_
        refine lv_icmp_ge (tgt := 179) hx hb dX4_lays_171 (by decide) (fun c171 => ?_) (fun c171 => ?_)
        · replace h := tw_t c171 h
          refine lv_iconst (v := (-1 : Int32)) hx hb dX4_lays_179 (by decide) ?_
          obtain ⟨g180, h⟩ := tw_gs h
          refine tw_iast (ws' := ([tw_ai cI sb 70 sx] ++ [tw_ai cI db 12 (upd dx v4.toNatClampNeg (-1 : Int32))])) (f := dx) (n := 12) hx hb hK hP hD hS 1 0 rfl rfl g180 dX4_lays_180 rfl (fun H locs hP hD hS => ?_)
          refine lv_iload_n hx hb dX4_lays_181 rfl (lv_at hl 3 rfl) ?_
          refine lv_iload hx hb dX4_lays_182 (lv_at hl 5 rfl) ?_
          refine lv_bipush (v := (100 : Int32)) hx hb dX4_lays_184 (by decide) ?_
          refine lv_icmp_ge (tgt := 196) hx hb dX4_lays_186 (by decide) (fun c186 => ?_) (fun c186 => ?_)
          · replace h := tw_t c186 h
            refine lv_iconst (v := (0 : Int32)) hx hb dX4_lays_196 (by decide) ?_
            exact L197 v3 (0 : Int32) v2 v4 (upd dx v4.toNatClampNeg (-1 : Int32)) H locs ls h (lv_sub hl [0, 1, 2, 4] rfl) hP hD hS
          · replace h := tw_f c186 h
            refine lv_iconst (v := (1 : Int32)) hx hb dX4_lays_189 (by decide) ?_
            refine lv_iload hx hb dX4_lays_190 (lv_at hl 4 rfl) ?_
            refine lv_ishl hx hb dX4_lays_192 ?_
            refine lv_goto (tgt := 197) hx hb dX4_lays_193 (by decide) ?_
            exact L197 v3 ((1 : Int32) <<< (v4 &&& 31)) v2 v4 (upd dx v4.toNatClampNeg (-1 : Int32)) H locs ls h (lv_sub hl [0, 1, 2, 4] rfl) hP hD hS
        · replace h := tw_f c171 h
          refine lv_iload hx hb dX4_lays_174 (lv_at hl 5 rfl) ?_
          refine lv_goto (tgt := 180) hx hb dX4_lays_176 (by decide) ?_
          obtain ⟨g180, h⟩ := tw_gs h
          refine tw_iast (ws' := ([tw_ai cI sb 70 sx] ++ [tw_ai cI db 12 (upd dx v4.toNatClampNeg v5)])) (f := dx) (n := 12) hx hb hK hP hD hS 1 0 rfl rfl g180 dX4_lays_180 rfl (fun H locs hP hD hS => ?_)
          refine lv_iload_n hx hb dX4_lays_181 rfl (lv_at hl 3 rfl) ?_
          refine lv_iload hx hb dX4_lays_182 (lv_at hl 5 rfl) ?_
          refine lv_bipush (v := (100 : Int32)) hx hb dX4_lays_184 (by decide) ?_
          refine lv_icmp_ge (tgt := 196) hx hb dX4_lays_186 (by decide) (fun c186 => ?_) (fun c186 => ?_)
          · replace h := tw_t c186 h
            refine lv_iconst (v := (0 : Int32)) hx hb dX4_lays_196 (by decide) ?_
            exact L197 v3 (0 : Int32) v2 v4 (upd dx v4.toNatClampNeg v5) H locs ls h (lv_sub hl [0, 1, 2, 4] rfl) hP hD hS
          · replace h := tw_f c186 h
            refine lv_iconst (v := (1 : Int32)) hx hb dX4_lays_189 (by decide) ?_
            refine lv_iload hx hb dX4_lays_190 (lv_at hl 4 rfl) ?_
            refine lv_ishl hx hb dX4_lays_192 ?_
            refine lv_goto (tgt := 197) hx hb dX4_lays_193 (by decide) ?_
            exact L197 v3 ((1 : Int32) <<< (v4 &&& 31)) v2 v4 (upd dx v4.toNatClampNeg v5) H locs ls h (lv_sub hl [0, 1, 2, 4] rfl) hP hD hS
      have L139 : ∀ (n139 : Nat) (v2 : Int32) (v3 : Int32) (v4 : Int32) (v5 : Int32) (dx : tw_F) (H : Heap) (locs : List Loc) (ls : Array Slot), fX4_lays_139 sx (fX4_lays_32 sx n32) n139 v2 v3 v4 v5 dx = some rv → lv_has ls 7 [(0, .ref sb), (1, .ref db), (2, .int v2), (3, .int v3), (4, .int v4), (5, .int v5)] → va_P G vwCl ([tw_ai cI sb 70 sx] ++ [tw_ai cI db 12 dx]) H → va_D A ([tw_ai cI sb 70 sx] ++ [tw_ai cI db 12 dx]) → va_S A s.heap H locs → W p l e rmX4_lays s m args below meth c H locs 0 0 Q (F0 m 139 ls []) := by
        intro n139
        induction n139 with
        | zero =>
          intro v2 v3 v4 v5 dx H locs ls h
          rw [fX4_lays_139] at h
          cases h
        | succ n139 ih139 =>
          intro v2 v3 v4 v5 dx H locs ls h hl hP hD hS
          rw [fX4_lays_139] at h
          refine lv_iload hx hb dX4_lays_139 (lv_at hl 5 rfl) ?_
          refine lv_bipush (v := (100 : Int32)) hx hb dX4_lays_141 (by decide) ?_
          refine lv_icmp_ge (tgt := 164) hx hb dX4_lays_143 (by decide) (fun c143 => ?_) (fun c143 => ?_)
          · replace h := tw_t c143 h
            exact L164 v2 v3 v4 v5 dx H locs ls h (lv_sub hl [0, 1, 2, 3, 4, 5] rfl) hP hD hS
          · replace h := tw_f c143 h
            refine lv_aload_n hx hb dX4_lays_146 rfl (lv_at hl 0 rfl) ?_
            refine lv_aload_n hx hb dX4_lays_147 rfl (lv_at hl 1 rfl) ?_
            refine lv_iload hx hb dX4_lays_148 (lv_at hl 4 rfl) ?_
            refine lv_iload hx hb dX4_lays_150 (lv_at hl 5 rfl) ?_
            obtain ⟨r152, e152, h⟩ := tw_bs h
            refine tw_callSiF (ws' := ([tw_ai cI sb 70 sx] ++ [tw_ai cI db 12 dx])) (As := [.ref sb, .ref db, .int v4, .int v5]) (rest := []) F hN hK hP hD hS hA (mX4_isFree l G cI sb db sx dx H.size v4 v5 e152) (va_cwS 4 hts gX4_lays_X4_isFree rfl rfl rfl (by decide +kernel) ⟨(Nat.le_of_ble_eq_true rfl), (Nat.le_of_ble_eq_true rfl)⟩) rfl rfl hl.1 rfl (Nat.le_of_ble_eq_true rfl) dX4_lays_152 ⟨Nat.zero_le _, Nat.zero_le _⟩ (fun H locs hP hD hS => ?_)
            refine lv_if_ne (tgt := 164) hx hb dX4_lays_155 (by decide) (fun c155 => ?_) (fun c155 => ?_)
            · replace h := tw_t c155 h
              exact L164 v2 v3 v4 v5 dx H locs ls h (lv_sub hl [0, 1, 2, 3, 4, 5] rfl) hP hD hS
            · replace h := tw_fn c155 h
              refine lv_iinc (v := (v5 + 1)) (lv' := [(5, .int (v5 + 1)), (0, .ref sb), (1, .ref db), (2, .int v2), (3, .int v3), (4, .int v4)]) hx hb dX4_lays_158 hl (k := 5) rfl rfl (by decide) rfl (fun ls hl => ?_)
              refine lv_goto (tgt := 139) hx hb dX4_lays_161 (by decide) ?_
              exact ih139 v2 v3 v4 (v5 + 1) dx H locs ls h (lv_sub hl [1, 2, 3, 4, 5, 0] rfl) hP hD hS
      have L44 : ∀ (n44 : Nat) (v2 : Int32) (v3 : Int32) (v4 : Int32) (v5 : Int32) (dx : tw_F) (H : Heap) (locs : List Loc) (ls : Array Slot), fX4_lays_44 sx (fX4_lays_32 sx n32) n44 v2 v3 v4 v5 dx = some rv → lv_has ls 7 [(0, .ref sb), (1, .ref db), (2, .int v2), (3, .int v3), (4, .int v4), (5, .int v5)] → va_P G vwCl ([tw_ai cI sb 70 sx] ++ [tw_ai cI db 12 dx]) H → va_D A ([tw_ai cI sb 70 sx] ++ [tw_ai cI db 12 dx]) → va_S A s.heap H locs → W p l e rmX4_lays s m args below meth c H locs 0 0 Q (F0 m 44 ls []) := by
        intro n44
        induction n44 with
        | zero =>
          intro v2 v3 v4 v5 dx H locs ls h
          rw [fX4_lays_44] at h
          cases h
        | succ n44 ih44 =>
          intro v2 v3 v4 v5 dx H locs ls h hl hP hD hS
          rw [fX4_lays_44] at h
          have L81 : ∀ (t0 : Int32) (v2 : Int32) (v3 : Int32) (v4 : Int32) (v5 : Int32) (dx : tw_F) (H : Heap) (locs : List Loc) (ls : Array Slot), fX4_lays_81 sx (fX4_lays_32 sx n32) (fX4_lays_44 sx (fX4_lays_32 sx n32) n44) t0 v2 v3 v4 v5 dx = some rv → lv_has ls 7 [(0, .ref sb), (1, .ref db), (2, .int v2), (3, .int v3), (4, .int v4), (5, .int v5)] → va_P G vwCl ([tw_ai cI sb 70 sx] ++ [tw_ai cI db 12 dx]) H → va_D A ([tw_ai cI sb 70 sx] ++ [tw_ai cI db 12 dx]) → va_S A s.heap H locs → W p l e rmX4_lays s m args below meth c H locs 0 0 Q (F0 m 81 ls [.int t0]) := by
            intro t0 v2 v3 v4 v5 dx H locs ls h hl hP hD hS
            unfold fX4_lays_81 at h
            refine lv_istore (lv' := [(6, .int t0), (0, .ref sb), (1, .ref db), (2, .int v2), (3, .int v3), (4, .int v4), (5, .int v5)]) hx hb dX4_lays_81 hl (by decide) rfl (fun ls hl => ?_)
            refine lv_iload hx hb dX4_lays_83 (lv_at hl 0 rfl) ?_
            refine lv_if_eq (tgt := 114) hx hb dX4_lays_85 (by decide) (fun c85 => ?_) (fun c85 => ?_)
            · replace h := tw_t c85 h
              refine lv_iload hx hb dX4_lays_114 (lv_at hl 5 rfl) ?_
              refine lv_istore (lv' := [(4, .int v4), (6, .int t0), (0, .ref sb), (1, .ref db), (2, .int v2), (3, .int v3), (5, .int v5)]) hx hb dX4_lays_116 hl (by decide) rfl (fun ls hl => ?_)
              refine lv_iinc (v := (v5 + 1)) (lv' := [(5, .int (v5 + 1)), (4, .int v4), (6, .int t0), (0, .ref sb), (1, .ref db), (2, .int v2), (3, .int v3)]) hx hb dX4_lays_118 hl (k := 6) rfl rfl (by decide) rfl (fun ls hl => ?_)
              refine lv_goto (tgt := 44) hx hb dX4_lays_121 (by decide) ?_
              exact ih44 v2 v3 v4 (v5 + 1) dx H locs ls h (lv_sub hl [3, 4, 5, 6, 1, 0] rfl) hP hD hS
            · replace h := tw_f c85 h
              refine lv_iload hx hb dX4_lays_88 (lv_at hl 5 rfl) ?_
              refine lv_iconst (v := (-1 : Int32)) hx hb dX4_lays_90 (by decide) ?_
              refine lv_icmp_eq (tgt := 109) hx hb dX4_lays_91 (by decide) (fun c91 => ?_) (fun c91 => ?_)
              · replace h := tw_t c91 h
                refine lv_iload hx hb dX4_lays_109 (lv_at hl 6 rfl) ?_
                refine lv_goto (tgt := 116) hx hb dX4_lays_111 (by decide) ?_
                refine lv_istore (lv' := [(4, .int v5), (6, .int t0), (0, .ref sb), (1, .ref db), (2, .int v2), (3, .int v3), (5, .int v5)]) hx hb dX4_lays_116 hl (by decide) rfl (fun ls hl => ?_)
                refine lv_iinc (v := (v5 + 1)) (lv' := [(5, .int (v5 + 1)), (4, .int v5), (6, .int t0), (0, .ref sb), (1, .ref db), (2, .int v2), (3, .int v3)]) hx hb dX4_lays_118 hl (k := 6) rfl rfl (by decide) rfl (fun ls hl => ?_)
                refine lv_goto (tgt := 44) hx hb dX4_lays_121 (by decide) ?_
                exact ih44 v2 v3 v5 (v5 + 1) dx H locs ls h (lv_sub hl [3, 4, 5, 6, 1, 0] rfl) hP hD hS
              · replace h := tw_f c91 h
                refine lv_aload_n hx hb dX4_lays_94 rfl (lv_at hl 1 rfl) ?_
                refine lv_iload hx hb dX4_lays_95 (lv_at hl 6 rfl) ?_
                obtain ⟨r97, e97, h⟩ := tw_bs h
                refine tw_callSi (ws' := ([tw_ai cI sb 70 sx] ++ [tw_ai cI db 12 dx])) (As := [.ref sb, .int v5]) (rest := []) F hN hK hP hD hS hA (mX4_weight l G cI sb sx H.size v5 e97) (va_cwS 2 hts gX4_lays_X4_weight rfl rfl rfl (by decide +kernel) ⟨(Nat.le_of_ble_eq_true rfl), (Nat.le_of_ble_eq_true rfl)⟩) [0] rfl [0] (by decide) rfl rfl rfl rfl hl.1 rfl (Nat.le_of_ble_eq_true rfl) dX4_lays_97 ⟨Nat.zero_le _, Nat.zero_le _⟩ (fun H locs hP hD hS => ?_)
                refine lv_aload_n hx hb dX4_lays_100 rfl (lv_at hl 1 rfl) ?_
                refine lv_iload hx hb dX4_lays_101 (lv_at hl 5 rfl) ?_
                obtain ⟨r103, e103, h⟩ := tw_bs h
                refine tw_callSi (ws' := ([tw_ai cI sb 70 sx] ++ [tw_ai cI db 12 dx])) (As := [.ref sb, .int v4]) (rest := [.int r97]) F hN hK hP hD hS hA (mX4_weight l G cI sb sx H.size v4 e103) (va_cwS 2 hts gX4_lays_X4_weight rfl rfl rfl (by decide +kernel) ⟨(Nat.le_of_ble_eq_true rfl), (Nat.le_of_ble_eq_true rfl)⟩) [0] rfl [0] (by decide) rfl rfl rfl rfl hl.1 rfl (Nat.le_of_ble_eq_true rfl) dX4_lays_103 ⟨Nat.zero_le _, Nat.zero_le _⟩ (fun H locs hP hD hS => ?_)
                refine lv_icmp_le (tgt := 114) hx hb dX4_lays_106 (by decide) (fun c106 => ?_) (fun c106 => ?_)
                · replace h := tw_t c106 h
                  refine lv_iload hx hb dX4_lays_114 (lv_at hl 5 rfl) ?_
                  refine lv_istore (lv' := [(4, .int v4), (6, .int t0), (0, .ref sb), (1, .ref db), (2, .int v2), (3, .int v3), (5, .int v5)]) hx hb dX4_lays_116 hl (by decide) rfl (fun ls hl => ?_)
                  refine lv_iinc (v := (v5 + 1)) (lv' := [(5, .int (v5 + 1)), (4, .int v4), (6, .int t0), (0, .ref sb), (1, .ref db), (2, .int v2), (3, .int v3)]) hx hb dX4_lays_118 hl (k := 6) rfl rfl (by decide) rfl (fun ls hl => ?_)
                  refine lv_goto (tgt := 44) hx hb dX4_lays_121 (by decide) ?_
                  exact ih44 v2 v3 v4 (v5 + 1) dx H locs ls h (lv_sub hl [3, 4, 5, 6, 1, 0] rfl) hP hD hS
                · replace h := tw_f c106 h
                  refine lv_iload hx hb dX4_lays_109 (lv_at hl 6 rfl) ?_
                  refine lv_goto (tgt := 116) hx hb dX4_lays_111 (by decide) ?_
                  refine lv_istore (lv' := [(4, .int v5), (6, .int t0), (0, .ref sb), (1, .ref db), (2, .int v2), (3, .int v3), (5, .int v5)]) hx hb dX4_lays_116 hl (by decide) rfl (fun ls hl => ?_)
                  refine lv_iinc (v := (v5 + 1)) (lv' := [(5, .int (v5 + 1)), (4, .int v5), (6, .int t0), (0, .ref sb), (1, .ref db), (2, .int v2), (3, .int v3)]) hx hb dX4_lays_118 hl (k := 6) rfl rfl (by decide) rfl (fun ls hl => ?_)
                  refine lv_goto (tgt := 44) hx hb dX4_lays_121 (by decide) ?_
                  exact ih44 v2 v3 v5 (v5 + 1) dx H locs ls h (lv_sub hl [3, 4, 5, 6, 1, 0] rfl) hP hD hS
          refine lv_iload hx hb dX4_lays_44 (lv_at hl 5 rfl) ?_
          refine lv_aload_n hx hb dX4_lays_46 rfl (lv_at hl 0 rfl) ?_
          refine lv_iconst (v := (0 : Int32)) hx hb dX4_lays_47 (by decide) ?_
          refine va_iald (f := sx) (n := 70) hx hb hK hP 0 0 rfl rfl (tw_vin (by decide)) dX4_lays_48 ?_
          refine lv_icmp_ge (tgt := 124) hx hb dX4_lays_49 (by decide) (fun c49 => ?_) (fun c49 => ?_)
          · replace h := tw_t c49 h
            refine lv_iload hx hb dX4_lays_124 (lv_at hl 4 rfl) ?_
            refine lv_iconst (v := (-1 : Int32)) hx hb dX4_lays_126 (by decide) ?_
            refine lv_icmp_eq (tgt := 32) hx hb dX4_lays_127 (by decide) (fun c127 => ?_) (fun c127 => ?_)
            · replace h := tw_t c127 h
              exact ih32 v2 v3 v4 dx H locs ls h (lv_sub hl [0, 1, 2, 3, 4] rfl) hP hD hS
            · replace h := tw_f c127 h
              refine lv_aload_n hx hb dX4_lays_130 rfl (lv_at hl 0 rfl) ?_
              refine lv_aload_n hx hb dX4_lays_131 rfl (lv_at hl 1 rfl) ?_
              refine lv_iload hx hb dX4_lays_132 (lv_at hl 4 rfl) ?_
              obtain ⟨r134, e134, h⟩ := tw_bs h
              refine tw_callSiF (ws' := ([tw_ai cI sb 70 sx] ++ [tw_ai cI db 12 dx])) (As := [.ref sb, .ref db, .int v4]) (rest := []) F hN hK hP hD hS hA (mX4_ready l G cI sb db sx dx H.size v4 e134) (va_cwS 3 hts gX4_lays_X4_ready rfl rfl rfl (by decide +kernel) ⟨(Nat.le_of_ble_eq_true rfl), (Nat.le_of_ble_eq_true rfl)⟩) rfl rfl hl.1 rfl (Nat.le_of_ble_eq_true rfl) dX4_lays_134 ⟨Nat.zero_le _, Nat.zero_le _⟩ (fun H locs hP hD hS => ?_)
              refine lv_istore (lv' := [(5, .int r134), (0, .ref sb), (1, .ref db), (2, .int v2), (3, .int v3), (4, .int v4)]) hx hb dX4_lays_137 hl (by decide) rfl (fun ls hl => ?_)
              exact L139 512 v2 v3 v4 r134 dx H locs ls h (lv_sub hl [1, 2, 3, 4, 5, 0] rfl) hP hD hS
          · replace h := tw_f c49 h
            refine lv_iload_n hx hb dX4_lays_52 rfl (lv_at hl 2 rfl) ?_
            refine lv_iload hx hb dX4_lays_53 (lv_at hl 5 rfl) ?_
            refine lv_ishr hx hb dX4_lays_55 ?_
            refine lv_iconst (v := (1 : Int32)) hx hb dX4_lays_56 (by decide) ?_
            refine lv_iand hx hb dX4_lays_57 ?_
            refine lv_iconst (v := (1 : Int32)) hx hb dX4_lays_58 (by decide) ?_
            refine lv_icmp_ne (tgt := 80) hx hb dX4_lays_59 (by decide) (fun c59 => ?_) (fun c59 => ?_)
            · replace h := tw_t c59 h
              refine lv_iconst (v := (0 : Int32)) hx hb dX4_lays_80 (by decide) ?_
              exact L81 (0 : Int32) v2 v3 v4 v5 dx H locs ls h (lv_sub hl [0, 1, 2, 3, 4, 5] rfl) hP hD hS
            · replace h := tw_fn c59 h
              refine lv_aload_n hx hb dX4_lays_62 rfl (lv_at hl 0 rfl) ?_
              refine lv_iload hx hb dX4_lays_63 (lv_at hl 5 rfl) ?_
              refine lv_iconst (v := (4 : Int32)) hx hb dX4_lays_65 (by decide) ?_
              obtain ⟨r66, e66, h⟩ := tw_bs h
              refine tw_callSi (ws' := ([tw_ai cI sb 70 sx] ++ [tw_ai cI db 12 dx])) (As := [.ref sb, .int v5, .int (4 : Int32)]) (rest := []) F hN hK hP hD hS hA (mX4_of l G cI sb sx H.size v5 (4 : Int32) e66) (va_cwS 3 hts gX4_lays_X4_of rfl rfl rfl (by decide +kernel) ⟨(Nat.le_of_ble_eq_true rfl), (Nat.le_of_ble_eq_true rfl)⟩) [0] rfl [0] (by decide) rfl rfl rfl rfl hl.1 rfl (Nat.le_of_ble_eq_true rfl) dX4_lays_66 ⟨Nat.zero_le _, Nat.zero_le _⟩ (fun H locs hP hD hS => ?_)
              refine lv_iload_n hx hb dX4_lays_69 rfl (lv_at hl 3 rfl) ?_
              refine lv_iconst (v := (-1 : Int32)) hx hb dX4_lays_70 (by decide) ?_
              refine lv_ixor hx hb dX4_lays_71 ?_
              refine lv_iand hx hb dX4_lays_72 ?_
              refine lv_if_ne (tgt := 80) hx hb dX4_lays_73 (by decide) (fun c73 => ?_) (fun c73 => ?_)
              · replace h := tw_t c73 h
                refine lv_iconst (v := (0 : Int32)) hx hb dX4_lays_80 (by decide) ?_
                exact L81 (0 : Int32) v2 v3 v4 v5 dx H locs ls h (lv_sub hl [0, 1, 2, 3, 4, 5] rfl) hP hD hS
              · replace h := tw_fn c73 h
                refine lv_iconst (v := (1 : Int32)) hx hb dX4_lays_76 (by decide) ?_
                refine lv_goto (tgt := 81) hx hb dX4_lays_77 (by decide) ?_
                exact L81 (1 : Int32) v2 v3 v4 v5 dx H locs ls h (lv_sub hl [0, 1, 2, 3, 4, 5] rfl) hP hD hS
      refine lv_iload hx hb dX4_lays_32 (lv_at hl 4 rfl) ?_
      refine lv_iconst (v := (-1 : Int32)) hx hb dX4_lays_34 (by decide) ?_
      refine lv_icmp_eq (tgt := 211) hx hb dX4_lays_35 (by decide) (fun c35 => ?_) (fun c35 => ?_)
      · replace h := tw_t c35 h
        exact hq H locs _ ls (tw_rt (fun r => va_P G vwCl ([tw_ai cI sb 70 sx] ++ [tw_ai cI db 12 r]) H) h hP) hS dX4_lays_211
      · replace h := tw_f c35 h
        refine lv_iconst (v := (-1 : Int32)) hx hb dX4_lays_38 (by decide) ?_
        refine lv_istore (lv' := [(4, .int (-1 : Int32)), (0, .ref sb), (1, .ref db), (2, .int v2), (3, .int v3)]) hx hb dX4_lays_39 hl (by decide) rfl (fun ls hl => ?_)
        refine lv_iconst (v := (0 : Int32)) hx hb dX4_lays_41 (by decide) ?_
        refine lv_istore (lv' := [(5, .int (0 : Int32)), (4, .int (-1 : Int32)), (0, .ref sb), (1, .ref db), (2, .int v2), (3, .int v3)]) hx hb dX4_lays_42 hl (by decide) rfl (fun ls hl => ?_)
        exact L44 512 v2 v3 (-1 : Int32) (0 : Int32) dx H locs ls h (lv_sub hl [2, 3, 4, 5, 1, 0] rfl) hP hD hS
  have L4 : ∀ (n4 : Nat) (v2 : Int32) (v3 : Int32) (dx : tw_F) (H : Heap) (locs : List Loc) (ls : Array Slot), fX4_lays_4 sx n4 v2 v3 dx = some rv → lv_has ls 7 [(0, .ref sb), (1, .ref db), (2, .int v2), (3, .int v3)] → va_P G vwCl ([tw_ai cI sb 70 sx] ++ [tw_ai cI db 12 dx]) H → va_D A ([tw_ai cI sb 70 sx] ++ [tw_ai cI db 12 dx]) → va_S A s.heap H locs → W p l e rmX4_lays s m args below meth c H locs 0 0 Q (F0 m 4 ls []) := by
    intro n4
    induction n4 with
    | zero =>
      intro v2 v3 dx H locs ls h
      rw [fX4_lays_4] at h
      cases h
    | succ n4 ih4 =>
      intro v2 v3 dx H locs ls h hl hP hD hS
      rw [fX4_lays_4] at h
      refine lv_iload_n hx hb dX4_lays_4 rfl (lv_at hl 3 rfl) ?_
      refine lv_aload_n hx hb dX4_lays_5 rfl (lv_at hl 0 rfl) ?_
      refine lv_iconst (v := (0 : Int32)) hx hb dX4_lays_6 (by decide) ?_
      refine va_iald (f := sx) (n := 70) hx hb hK hP 0 0 rfl rfl (tw_vin (by decide)) dX4_lays_7 ?_
      refine lv_icmp_ge (tgt := 27) hx hb dX4_lays_8 (by decide) (fun c8 => ?_) (fun c8 => ?_)
      · replace h := tw_t c8 h
        refine lv_iconst (v := (0 : Int32)) hx hb dX4_lays_27 (by decide) ?_
        refine lv_istore_n (lv' := [(3, .int (0 : Int32)), (0, .ref sb), (1, .ref db), (2, .int v2)]) hx hb dX4_lays_28 rfl hl (by decide) rfl (fun ls hl => ?_)
        refine lv_iconst (v := (0 : Int32)) hx hb dX4_lays_29 (by decide) ?_
        refine lv_istore (lv' := [(4, .int (0 : Int32)), (3, .int (0 : Int32)), (0, .ref sb), (1, .ref db), (2, .int v2)]) hx hb dX4_lays_30 hl (by decide) rfl (fun ls hl => ?_)
        exact L32 512 v2 (0 : Int32) (0 : Int32) dx H locs ls h (lv_sub hl [2, 3, 4, 1, 0] rfl) hP hD hS
      · replace h := tw_f c8 h
        refine lv_aload_n hx hb dX4_lays_11 rfl (lv_at hl 1 rfl) ?_
        refine lv_iload_n hx hb dX4_lays_12 rfl (lv_at hl 3 rfl) ?_
        refine lv_iconst (v := (-1 : Int32)) hx hb dX4_lays_13 (by decide) ?_
        obtain ⟨g14, h⟩ := tw_gs h
        refine tw_iast (ws' := ([tw_ai cI sb 70 sx] ++ [tw_ai cI db 12 (upd dx v3.toNatClampNeg (-1 : Int32))])) (f := dx) (n := 12) hx hb hK hP hD hS 1 0 rfl rfl g14 dX4_lays_14 rfl (fun H locs hP hD hS => ?_)
        refine lv_iload_n hx hb dX4_lays_15 rfl (lv_at hl 2 rfl) ?_
        refine lv_iconst (v := (1 : Int32)) hx hb dX4_lays_16 (by decide) ?_
        refine lv_iload_n hx hb dX4_lays_17 rfl (lv_at hl 3 rfl) ?_
        refine lv_ishl hx hb dX4_lays_18 ?_
        refine lv_ior hx hb dX4_lays_19 ?_
        refine lv_istore_n (lv' := [(2, .int (v2 ||| ((1 : Int32) <<< (v3 &&& 31)))), (0, .ref sb), (1, .ref db), (3, .int v3)]) hx hb dX4_lays_20 rfl hl (by decide) rfl (fun ls hl => ?_)
        refine lv_iinc (v := (v3 + 1)) (lv' := [(3, .int (v3 + 1)), (2, .int (v2 ||| ((1 : Int32) <<< (v3 &&& 31)))), (0, .ref sb), (1, .ref db)]) hx hb dX4_lays_21 hl (k := 3) rfl rfl (by decide) rfl (fun ls hl => ?_)
        refine lv_goto (tgt := 4) hx hb dX4_lays_24 (by decide) ?_
        exact ih4 (v2 ||| ((1 : Int32) <<< (v3 &&& 31))) (v3 + 1) (upd dx v3.toNatClampNeg (-1 : Int32)) H locs ls h (lv_sub hl [2, 3, 1, 0] rfl) hP hD hS
  refine lv_iconst (v := (0 : Int32)) hx hb dX4_lays_0 (by decide) ?_
  refine lv_istore_n (lv' := [(2, .int (0 : Int32)), (0, .ref sb), (1, .ref db)]) hx hb dX4_lays_1 rfl hl (by decide) rfl (fun ls hl => ?_)
  refine lv_iconst (v := (0 : Int32)) hx hb dX4_lays_2 (by decide) ?_
  refine lv_istore_n (lv' := [(3, .int (0 : Int32)), (2, .int (0 : Int32)), (0, .ref sb), (1, .ref db)]) hx hb dX4_lays_3 rfl hl (by decide) rfl (fun ls hl => ?_)
  exact L4 512 (0 : Int32) (0 : Int32) dx H locs ls h (lv_sub hl [2, 3, 1, 0] rfl) hP hD hS
abbrev rmX4_laid : Room := { frames := 0, cells := 0, slots := 0, locals := 0 }
set_option maxHeartbeats 4000000 in
set_option maxRecDepth 100000 in
theorem mX4_laid (l : Launch) (G : va_G) (cI : ClassId) (sb : Nat) (db : Nat) (sx : tw_F) (dx : tw_F) (sz : Nat)  {rv : Int32} (h : fX4_laid sx dx = some rv) : tw_Mi l yX4_laid wsX4_laid rmX4_laid G [(cI, .int)] ([tw_ai cI sb 70 sx] ++ [tw_ai cI db 12 dx]) [.ref sb, .ref db] sz rv ([tw_ai cI sb 70 sx] ++ [tw_ai cI db 12 dx]) := by
  refine tw_ofi (ty := .int) (cc := cX4_laid) (maxL := 4) (own := RX4) (by decide) rfl rfl (Nat.le_of_ble_eq_true rfl) ?_
  intro p e s m args below meth c Q A ls H locs F hN hK hP hD hS hA hl hq
  obtain ⟨hx, hb, hml, hown, hts⟩ := id F
  have hl : lv_has ls 4 [(0, .ref sb), (1, .ref db)] := hl
  unfold fX4_laid at h
  have L4 : ∀ (n4 : Nat) (v2 : Int32) (v3 : Int32) (H : Heap) (locs : List Loc) (ls : Array Slot), fX4_laid_4 sx dx n4 v2 v3 = some rv → lv_has ls 4 [(0, .ref sb), (1, .ref db), (2, .int v2), (3, .int v3)] → va_P G vwCl ([tw_ai cI sb 70 sx] ++ [tw_ai cI db 12 dx]) H → va_D A ([tw_ai cI sb 70 sx] ++ [tw_ai cI db 12 dx]) → va_S A s.heap H locs → W p l e rmX4_laid s m args below meth c H locs 0 0 Q (F0 m 4 ls []) := by
    intro n4
    induction n4 with
    | zero =>
      intro v2 v3 H locs ls h
      rw [fX4_laid_4] at h
      cases h
    | succ n4 ih4 =>
      intro v2 v3 H locs ls h hl hP hD hS
      rw [fX4_laid_4] at h
      refine lv_iload_n hx hb dX4_laid_4 rfl (lv_at hl 3 rfl) ?_
      refine lv_aload_n hx hb dX4_laid_5 rfl (lv_at hl 0 rfl) ?_
      refine lv_iconst (v := (0 : Int32)) hx hb dX4_laid_6 (by decide) ?_
      refine va_iald (f := sx) (n := 70) hx hb hK hP 0 0 rfl rfl (tw_vin (by decide)) dX4_laid_7 ?_
      refine lv_icmp_ge (tgt := 32) hx hb dX4_laid_8 (by decide) (fun c8 => ?_) (fun c8 => ?_)
      · replace h := tw_t c8 h
        refine lv_iload_n hx hb dX4_laid_32 rfl (lv_at hl 2 rfl) ?_
        exact hq H locs _ ls v2 (tw_rt (fun r => r = v2) h rfl) rfl hP hS dX4_laid_33
      · replace h := tw_f c8 h
        refine lv_iload_n hx hb dX4_laid_11 rfl (lv_at hl 2 rfl) ?_
        refine lv_aload_n hx hb dX4_laid_12 rfl (lv_at hl 1 rfl) ?_
        refine lv_iload_n hx hb dX4_laid_13 rfl (lv_at hl 3 rfl) ?_
        obtain ⟨g14, h⟩ := tw_gs h
        refine va_iald (f := dx) (n := 12) hx hb hK hP 1 0 rfl rfl g14 dX4_laid_14 ?_
        refine lv_iconst (v := (-1 : Int32)) hx hb dX4_laid_15 (by decide) ?_
        refine lv_icmp_ne (tgt := 23) hx hb dX4_laid_16 (by decide) (fun c16 => ?_) (fun c16 => ?_)
        · replace h := tw_t c16 h
          refine lv_iconst (v := (1 : Int32)) hx hb dX4_laid_23 (by decide) ?_
          refine lv_iadd hx hb dX4_laid_24 ?_
          refine lv_istore_n (lv' := [(2, .int (v2 + (1 : Int32))), (0, .ref sb), (1, .ref db), (3, .int v3)]) hx hb dX4_laid_25 rfl hl (by decide) rfl (fun ls hl => ?_)
          refine lv_iinc (v := (v3 + 1)) (lv' := [(3, .int (v3 + 1)), (2, .int (v2 + (1 : Int32))), (0, .ref sb), (1, .ref db)]) hx hb dX4_laid_26 hl (k := 3) rfl rfl (by decide) rfl (fun ls hl => ?_)
          refine lv_goto (tgt := 4) hx hb dX4_laid_29 (by decide) ?_
          exact ih4 (v2 + (1 : Int32)) (v3 + 1) H locs ls h (lv_sub hl [2, 3, 1, 0] rfl) hP hD hS
        · replace h := tw_fn c16 h
          refine lv_iconst (v := (0 : Int32)) hx hb dX4_laid_19 (by decide) ?_
          refine lv_goto (tgt := 24) hx hb dX4_laid_20 (by decide) ?_
          refine lv_iadd hx hb dX4_laid_24 ?_
          refine lv_istore_n (lv' := [(2, .int (v2 + (0 : Int32))), (0, .ref sb), (1, .ref db), (3, .int v3)]) hx hb dX4_laid_25 rfl hl (by decide) rfl (fun ls hl => ?_)
          refine lv_iinc (v := (v3 + 1)) (lv' := [(3, .int (v3 + 1)), (2, .int (v2 + (0 : Int32))), (0, .ref sb), (1, .ref db)]) hx hb dX4_laid_26 hl (k := 3) rfl rfl (by decide) rfl (fun ls hl => ?_)
          refine lv_goto (tgt := 4) hx hb dX4_laid_29 (by decide) ?_
          exact ih4 (v2 + (0 : Int32)) (v3 + 1) H locs ls h (lv_sub hl [2, 3, 1, 0] rfl) hP hD hS
  refine lv_iconst (v := (0 : Int32)) hx hb dX4_laid_0 (by decide) ?_
  refine lv_istore_n (lv' := [(2, .int (0 : Int32)), (0, .ref sb), (1, .ref db)]) hx hb dX4_laid_1 rfl hl (by decide) rfl (fun ls hl => ?_)
  refine lv_iconst (v := (0 : Int32)) hx hb dX4_laid_2 (by decide) ?_
  refine lv_istore_n (lv' := [(3, .int (0 : Int32)), (2, .int (0 : Int32)), (0, .ref sb), (1, .ref db)]) hx hb dX4_laid_3 rfl hl (by decide) rfl (fun ls hl => ?_)
  exact L4 512 (0 : Int32) (0 : Int32) H locs ls h (lv_sub hl [2, 3, 1, 0] rfl) hP hD hS
abbrev rmX4_end : Room := { frames := 2, cells := 0, slots := 0, locals := 44 }
set_option maxHeartbeats 4000000 in
set_option maxRecDepth 100000 in
theorem mX4_end (l : Launch) (G : va_G) (cI : ClassId) (sb : Nat) (db : Nat) (sx : tw_F) (dx : tw_F) (sz : Nat)  {rv : Int32} (h : fX4_end sx dx = some rv) : tw_Mi l yX4_end wsX4_end rmX4_end G [(cI, .int)] ([tw_ai cI sb 70 sx] ++ [tw_ai cI db 12 dx]) [.ref sb, .ref db] sz rv ([tw_ai cI sb 70 sx] ++ [tw_ai cI db 12 dx]) := by
  refine tw_ofi (ty := .int) (cc := cX4_end) (maxL := 4) (own := RX4) (by decide) rfl rfl (Nat.le_of_ble_eq_true rfl) ?_
  intro p e s m args below meth c Q A ls H locs F hN hK hP hD hS hA hl hq
  obtain ⟨hx, hb, hml, hown, hts⟩ := id F
  have hl : lv_has ls 4 [(0, .ref sb), (1, .ref db)] := hl
  unfold fX4_end at h
  have L4 : ∀ (n4 : Nat) (v2 : Int32) (v3 : Int32) (H : Heap) (locs : List Loc) (ls : Array Slot), fX4_end_4 sx dx n4 v2 v3 = some rv → lv_has ls 4 [(0, .ref sb), (1, .ref db), (2, .int v2), (3, .int v3)] → va_P G vwCl ([tw_ai cI sb 70 sx] ++ [tw_ai cI db 12 dx]) H → va_D A ([tw_ai cI sb 70 sx] ++ [tw_ai cI db 12 dx]) → va_S A s.heap H locs → W p l e rmX4_end s m args below meth c H locs 0 0 Q (F0 m 4 ls []) := by
    intro n4
    induction n4 with
    | zero =>
      intro v2 v3 H locs ls h
      rw [fX4_end_4] at h
      cases h
    | succ n4 ih4 =>
      intro v2 v3 H locs ls h hl hP hD hS
      rw [fX4_end_4] at h
      refine lv_iload_n hx hb dX4_end_4 rfl (lv_at hl 3 rfl) ?_
      refine lv_aload_n hx hb dX4_end_5 rfl (lv_at hl 0 rfl) ?_
      refine lv_iconst (v := (0 : Int32)) hx hb dX4_end_6 (by decide) ?_
      refine va_iald (f := sx) (n := 70) hx hb hK hP 0 0 rfl rfl (tw_vin (by decide)) dX4_end_7 ?_
      refine lv_icmp_ge (tgt := 45) hx hb dX4_end_8 (by decide) (fun c8 => ?_) (fun c8 => ?_)
      · replace h := tw_t c8 h
        refine lv_iload_n hx hb dX4_end_45 rfl (lv_at hl 2 rfl) ?_
        exact hq H locs _ ls v2 (tw_rt (fun r => r = v2) h rfl) rfl hP hS dX4_end_46
      · replace h := tw_f c8 h
        refine lv_aload_n hx hb dX4_end_11 rfl (lv_at hl 1 rfl) ?_
        refine lv_iload_n hx hb dX4_end_12 rfl (lv_at hl 3 rfl) ?_
        obtain ⟨g13, h⟩ := tw_gs h
        refine va_iald (f := dx) (n := 12) hx hb hK hP 1 0 rfl rfl g13 dX4_end_13 ?_
        refine lv_iconst (v := (-1 : Int32)) hx hb dX4_end_14 (by decide) ?_
        refine lv_icmp_eq (tgt := 37) hx hb dX4_end_15 (by decide) (fun c15 => ?_) (fun c15 => ?_)
        · replace h := tw_t c15 h
          refine lv_iload_n hx hb dX4_end_37 rfl (lv_at hl 2 rfl) ?_
          refine lv_istore_n (lv' := [(2, .int v2), (0, .ref sb), (1, .ref db), (3, .int v3)]) hx hb dX4_end_38 rfl hl (by decide) rfl (fun ls hl => ?_)
          refine lv_iinc (v := (v3 + 1)) (lv' := [(3, .int (v3 + 1)), (2, .int v2), (0, .ref sb), (1, .ref db)]) hx hb dX4_end_39 hl (k := 3) rfl rfl (by decide) rfl (fun ls hl => ?_)
          refine lv_goto (tgt := 4) hx hb dX4_end_42 (by decide) ?_
          exact ih4 v2 (v3 + 1) H locs ls h (lv_sub hl [2, 3, 1, 0] rfl) hP hD hS
        · replace h := tw_f c15 h
          refine lv_aload_n hx hb dX4_end_18 rfl (lv_at hl 0 rfl) ?_
          refine lv_aload_n hx hb dX4_end_19 rfl (lv_at hl 1 rfl) ?_
          refine lv_iload_n hx hb dX4_end_20 rfl (lv_at hl 3 rfl) ?_
          obtain ⟨r21, e21, h⟩ := tw_bs h
          refine tw_callSiF (ws' := ([tw_ai cI sb 70 sx] ++ [tw_ai cI db 12 dx])) (As := [.ref sb, .ref db, .int v3]) (rest := []) F hN hK hP hD hS hA (mX4_behind l G cI sb db sx dx H.size v3 e21) (va_cwS 3 hts gX4_end_X4_behind rfl rfl rfl (by decide +kernel) ⟨(Nat.le_of_ble_eq_true rfl), (Nat.le_of_ble_eq_true rfl)⟩) rfl rfl hl.1 rfl (Nat.le_of_ble_eq_true rfl) dX4_end_21 ⟨Nat.zero_le _, Nat.zero_le _⟩ (fun H locs hP hD hS => ?_)
          refine lv_iload_n hx hb dX4_end_24 rfl (lv_at hl 2 rfl) ?_
          refine lv_icmp_le (tgt := 37) hx hb dX4_end_25 (by decide) (fun c25 => ?_) (fun c25 => ?_)
          · replace h := tw_t c25 h
            refine lv_iload_n hx hb dX4_end_37 rfl (lv_at hl 2 rfl) ?_
            refine lv_istore_n (lv' := [(2, .int v2), (0, .ref sb), (1, .ref db), (3, .int v3)]) hx hb dX4_end_38 rfl hl (by decide) rfl (fun ls hl => ?_)
            refine lv_iinc (v := (v3 + 1)) (lv' := [(3, .int (v3 + 1)), (2, .int v2), (0, .ref sb), (1, .ref db)]) hx hb dX4_end_39 hl (k := 3) rfl rfl (by decide) rfl (fun ls hl => ?_)
            refine lv_goto (tgt := 4) hx hb dX4_end_42 (by decide) ?_
            exact ih4 v2 (v3 + 1) H locs ls h (lv_sub hl [2, 3, 1, 0] rfl) hP hD hS
          · replace h := tw_f c25 h
            refine lv_aload_n hx hb dX4_end_28 rfl (lv_at hl 0 rfl) ?_
            refine lv_aload_n hx hb dX4_end_29 rfl (lv_at hl 1 rfl) ?_
            refine lv_iload_n hx hb dX4_end_30 rfl (lv_at hl 3 rfl) ?_
            obtain ⟨r31, e31, h⟩ := tw_bs h
            refine tw_callSiF (ws' := ([tw_ai cI sb 70 sx] ++ [tw_ai cI db 12 dx])) (As := [.ref sb, .ref db, .int v3]) (rest := []) F hN hK hP hD hS hA (mX4_behind l G cI sb db sx dx H.size v3 e31) (va_cwS 3 hts gX4_end_X4_behind rfl rfl rfl (by decide +kernel) ⟨(Nat.le_of_ble_eq_true rfl), (Nat.le_of_ble_eq_true rfl)⟩) rfl rfl hl.1 rfl (Nat.le_of_ble_eq_true rfl) dX4_end_31 ⟨Nat.zero_le _, Nat.zero_le _⟩ (fun H locs hP hD hS => ?_)
            refine lv_goto (tgt := 38) hx hb dX4_end_34 (by decide) ?_
            refine lv_istore_n (lv' := [(2, .int r31), (0, .ref sb), (1, .ref db), (3, .int v3)]) hx hb dX4_end_38 rfl hl (by decide) rfl (fun ls hl => ?_)
            refine lv_iinc (v := (v3 + 1)) (lv' := [(3, .int (v3 + 1)), (2, .int r31), (0, .ref sb), (1, .ref db)]) hx hb dX4_end_39 hl (k := 3) rfl rfl (by decide) rfl (fun ls hl => ?_)
            refine lv_goto (tgt := 4) hx hb dX4_end_42 (by decide) ?_
            exact ih4 r31 (v3 + 1) H locs ls h (lv_sub hl [2, 3, 1, 0] rfl) hP hD hS
  refine lv_iconst (v := (0 : Int32)) hx hb dX4_end_0 (by decide) ?_
  refine lv_istore_n (lv' := [(2, .int (0 : Int32)), (0, .ref sb), (1, .ref db)]) hx hb dX4_end_1 rfl hl (by decide) rfl (fun ls hl => ?_)
  refine lv_iconst (v := (0 : Int32)) hx hb dX4_end_2 (by decide) ?_
  refine lv_istore_n (lv' := [(3, .int (0 : Int32)), (2, .int (0 : Int32)), (0, .ref sb), (1, .ref db)]) hx hb dX4_end_3 rfl hl (by decide) rfl (fun ls hl => ?_)
  exact L4 512 (0 : Int32) (0 : Int32) H locs ls h (lv_sub hl [2, 3, 1, 0] rfl) hP hD hS
abbrev rmX4_waits : Room := { frames := 3, cells := 0, slots := 0, locals := 68 }
set_option maxHeartbeats 4000000 in
set_option maxRecDepth 100000 in
theorem mX4_waits (l : Launch) (G : va_G) (cI : ClassId) (sb : Nat) (db : Nat) (sx : tw_F) (dx : tw_F) (sz : Nat) (p2 : Int32) {rv : Int32} (h : fX4_waits sx dx p2 = some rv) : tw_Mi l yX4_waits wsX4_waits rmX4_waits G [(cI, .int)] ([tw_ai cI sb 70 sx] ++ [tw_ai cI db 12 dx]) [.ref sb, .ref db, .int p2] sz rv ([tw_ai cI sb 70 sx] ++ [tw_ai cI db 12 dx]) := by
  refine tw_ofi (ty := .int) (cc := cX4_waits) (maxL := 3) (own := RX4) (by decide) rfl rfl (Nat.le_of_ble_eq_true rfl) ?_
  intro p e s m args below meth c Q A ls H locs F hN hK hP hD hS hA hl hq
  obtain ⟨hx, hb, hml, hown, hts⟩ := id F
  have hl : lv_has ls 3 [(0, .ref sb), (1, .ref db), (2, .int p2)] := hl
  unfold fX4_waits at h
  refine lv_aload_n hx hb dX4_waits_0 rfl (lv_at hl 1 rfl) ?_
  refine lv_iload_n hx hb dX4_waits_1 rfl (lv_at hl 2 rfl) ?_
  obtain ⟨g2, h⟩ := tw_gs h
  refine va_iald (f := dx) (n := 12) hx hb hK hP 1 0 rfl rfl g2 dX4_waits_2 ?_
  refine lv_iconst (v := (-1 : Int32)) hx hb dX4_waits_3 (by decide) ?_
  refine lv_icmp_ne (tgt := 11) hx hb dX4_waits_4 (by decide) (fun c4 => ?_) (fun c4 => ?_)
  · replace h := tw_t c4 h
    refine lv_aload_n hx hb dX4_waits_11 rfl (lv_at hl 1 rfl) ?_
    refine lv_iload_n hx hb dX4_waits_12 rfl (lv_at hl 2 rfl) ?_
    obtain ⟨g13, h⟩ := tw_gs h
    refine va_iald (f := dx) (n := 12) hx hb hK hP 1 0 rfl rfl g13 dX4_waits_13 ?_
    refine lv_aload_n hx hb dX4_waits_14 rfl (lv_at hl 0 rfl) ?_
    refine lv_aload_n hx hb dX4_waits_15 rfl (lv_at hl 1 rfl) ?_
    refine lv_iload_n hx hb dX4_waits_16 rfl (lv_at hl 2 rfl) ?_
    obtain ⟨r17, e17, h⟩ := tw_bs h
    refine tw_callSiF (ws' := ([tw_ai cI sb 70 sx] ++ [tw_ai cI db 12 dx])) (As := [.ref sb, .ref db, .int p2]) (rest := [.int (dx p2.toNatClampNeg)]) F hN hK hP hD hS hA (mX4_ready l G cI sb db sx dx H.size p2 e17) (va_cwS 3 hts gX4_waits_X4_ready rfl rfl rfl (by decide +kernel) ⟨(Nat.le_of_ble_eq_true rfl), (Nat.le_of_ble_eq_true rfl)⟩) rfl rfl hl.1 rfl (Nat.le_of_ble_eq_true rfl) dX4_waits_17 ⟨Nat.zero_le _, Nat.zero_le _⟩ (fun H locs hP hD hS => ?_)
    refine lv_isub hx hb dX4_waits_20 ?_
    exact hq H locs _ ls ((dx p2.toNatClampNeg) - r17) (tw_rt (fun r => r = ((dx p2.toNatClampNeg) - r17)) h rfl) rfl hP hS dX4_waits_21
  · replace h := tw_fn c4 h
    refine lv_iconst (v := (0 : Int32)) hx hb dX4_waits_7 (by decide) ?_
    refine lv_goto (tgt := 21) hx hb dX4_waits_8 (by decide) ?_
    exact hq H locs _ ls (0 : Int32) (tw_rt (fun r => r = (0 : Int32)) h rfl) rfl hP hS dX4_waits_21
abbrev rmX4_waiting : Room := { frames := 4, cells := 0, slots := 0, locals := 90 }
set_option maxHeartbeats 4000000 in
set_option maxRecDepth 100000 in
theorem mX4_waiting (l : Launch) (G : va_G) (cI : ClassId) (sb : Nat) (db : Nat) (sx : tw_F) (dx : tw_F) (sz : Nat)  {rv : Int32} (h : fX4_waiting sx dx = some rv) : tw_Mi l yX4_waiting wsX4_waiting rmX4_waiting G [(cI, .int)] ([tw_ai cI sb 70 sx] ++ [tw_ai cI db 12 dx]) [.ref sb, .ref db] sz rv ([tw_ai cI sb 70 sx] ++ [tw_ai cI db 12 dx]) := by
  refine tw_ofi (ty := .int) (cc := cX4_waiting) (maxL := 4) (own := RX4) (by decide) rfl rfl (Nat.le_of_ble_eq_true rfl) ?_
  intro p e s m args below meth c Q A ls H locs F hN hK hP hD hS hA hl hq
  obtain ⟨hx, hb, hml, hown, hts⟩ := id F
  have hl : lv_has ls 4 [(0, .ref sb), (1, .ref db)] := hl
  unfold fX4_waiting at h
  have L4 : ∀ (n4 : Nat) (v2 : Int32) (v3 : Int32) (H : Heap) (locs : List Loc) (ls : Array Slot), fX4_waiting_4 sx dx n4 v2 v3 = some rv → lv_has ls 4 [(0, .ref sb), (1, .ref db), (2, .int v2), (3, .int v3)] → va_P G vwCl ([tw_ai cI sb 70 sx] ++ [tw_ai cI db 12 dx]) H → va_D A ([tw_ai cI sb 70 sx] ++ [tw_ai cI db 12 dx]) → va_S A s.heap H locs → W p l e rmX4_waiting s m args below meth c H locs 0 0 Q (F0 m 4 ls []) := by
    intro n4
    induction n4 with
    | zero =>
      intro v2 v3 H locs ls h
      rw [fX4_waiting_4] at h
      cases h
    | succ n4 ih4 =>
      intro v2 v3 H locs ls h hl hP hD hS
      rw [fX4_waiting_4] at h
      refine lv_iload_n hx hb dX4_waiting_4 rfl (lv_at hl 3 rfl) ?_
      refine lv_aload_n hx hb dX4_waiting_5 rfl (lv_at hl 0 rfl) ?_
      refine lv_iconst (v := (0 : Int32)) hx hb dX4_waiting_6 (by decide) ?_
      refine va_iald (f := sx) (n := 70) hx hb hK hP 0 0 rfl rfl (tw_vin (by decide)) dX4_waiting_7 ?_
      refine lv_icmp_ge (tgt := 26) hx hb dX4_waiting_8 (by decide) (fun c8 => ?_) (fun c8 => ?_)
      · replace h := tw_t c8 h
        refine lv_iload_n hx hb dX4_waiting_26 rfl (lv_at hl 2 rfl) ?_
        exact hq H locs _ ls v2 (tw_rt (fun r => r = v2) h rfl) rfl hP hS dX4_waiting_27
      · replace h := tw_f c8 h
        refine lv_iload_n hx hb dX4_waiting_11 rfl (lv_at hl 2 rfl) ?_
        refine lv_aload_n hx hb dX4_waiting_12 rfl (lv_at hl 0 rfl) ?_
        refine lv_aload_n hx hb dX4_waiting_13 rfl (lv_at hl 1 rfl) ?_
        refine lv_iload_n hx hb dX4_waiting_14 rfl (lv_at hl 3 rfl) ?_
        obtain ⟨r15, e15, h⟩ := tw_bs h
        refine tw_callSiF (ws' := ([tw_ai cI sb 70 sx] ++ [tw_ai cI db 12 dx])) (As := [.ref sb, .ref db, .int v3]) (rest := [.int v2]) F hN hK hP hD hS hA (mX4_waits l G cI sb db sx dx H.size v3 e15) (va_cwS 3 hts gX4_waiting_X4_waits rfl rfl rfl (by decide +kernel) ⟨(Nat.le_of_ble_eq_true rfl), (Nat.le_of_ble_eq_true rfl)⟩) rfl rfl hl.1 rfl (Nat.le_of_ble_eq_true rfl) dX4_waiting_15 ⟨Nat.zero_le _, Nat.zero_le _⟩ (fun H locs hP hD hS => ?_)
        refine lv_iadd hx hb dX4_waiting_18 ?_
        refine lv_istore_n (lv' := [(2, .int (v2 + r15)), (0, .ref sb), (1, .ref db), (3, .int v3)]) hx hb dX4_waiting_19 rfl hl (by decide) rfl (fun ls hl => ?_)
        refine lv_iinc (v := (v3 + 1)) (lv' := [(3, .int (v3 + 1)), (2, .int (v2 + r15)), (0, .ref sb), (1, .ref db)]) hx hb dX4_waiting_20 hl (k := 3) rfl rfl (by decide) rfl (fun ls hl => ?_)
        refine lv_goto (tgt := 4) hx hb dX4_waiting_23 (by decide) ?_
        exact ih4 (v2 + r15) (v3 + 1) H locs ls h (lv_sub hl [2, 3, 1, 0] rfl) hP hD hS
  refine lv_iconst (v := (0 : Int32)) hx hb dX4_waiting_0 (by decide) ?_
  refine lv_istore_n (lv' := [(2, .int (0 : Int32)), (0, .ref sb), (1, .ref db)]) hx hb dX4_waiting_1 rfl hl (by decide) rfl (fun ls hl => ?_)
  refine lv_iconst (v := (0 : Int32)) hx hb dX4_waiting_2 (by decide) ?_
  refine lv_istore_n (lv' := [(3, .int (0 : Int32)), (2, .int (0 : Int32)), (0, .ref sb), (1, .ref db)]) hx hb dX4_waiting_3 rfl hl (by decide) rfl (fun ls hl => ?_)
  exact L4 512 (0 : Int32) (0 : Int32) H locs ls h (lv_sub hl [2, 3, 1, 0] rfl) hP hD hS
