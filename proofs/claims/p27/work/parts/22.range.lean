abbrev rmX3_isLength : Room := { frames := 0, cells := 0, slots := 0, locals := 0 }
set_option maxHeartbeats 4000000 in
set_option maxRecDepth 100000 in
theorem mX3_isLength (l : Launch) (G : va_G) (cI : ClassId)   (sz : Nat) (p0 : Int32) {rv : Int32} (h : fX3_isLength p0 = some rv) : tw_Mi l yX3_isLength wsX3_isLength rmX3_isLength G [(cI, .int)] ([] : va_W) [.int p0] sz rv ([] : va_W) := by
  refine tw_ofi (ty := .boolean) (cc := cX3_isLength) (maxL := 1) (own := RX3) (by decide) rfl rfl (Nat.le_of_ble_eq_true rfl) ?_
  intro p e s m args below meth c Q A ls H locs F hN hK hP hD hS hA hl hq
  obtain ⟨hx, hb, hml, hown, hts⟩ := id F
  have hl : lv_has ls 1 [(0, .int p0)] := hl
  unfold fX3_isLength at h
  refine lv_iload_n hx hb dX3_isLength_0 rfl (lv_at hl 0 rfl) ?_
  refine lv_iconst (v := (1 : Int32)) hx hb dX3_isLength_1 (by decide) ?_
  refine lv_icmp_lt (tgt := 15) hx hb dX3_isLength_2 (by decide) (fun c2 => ?_) (fun c2 => ?_)
  · replace h := tw_t c2 h
    refine lv_iconst (v := (0 : Int32)) hx hb dX3_isLength_15 (by decide) ?_
    exact hq H locs _ ls (0 : Int32) (tw_rt (fun r => r = (0 : Int32)) h rfl) rfl hP hS dX3_isLength_16
  · replace h := tw_f c2 h
    refine lv_iload_n hx hb dX3_isLength_5 rfl (lv_at hl 0 rfl) ?_
    refine lv_bipush (v := (9 : Int32)) hx hb dX3_isLength_6 (by decide) ?_
    refine lv_icmp_gt (tgt := 15) hx hb dX3_isLength_8 (by decide) (fun c8 => ?_) (fun c8 => ?_)
    · replace h := tw_t c8 h
      refine lv_iconst (v := (0 : Int32)) hx hb dX3_isLength_15 (by decide) ?_
      exact hq H locs _ ls (0 : Int32) (tw_rt (fun r => r = (0 : Int32)) h rfl) rfl hP hS dX3_isLength_16
    · replace h := tw_f c8 h
      refine lv_iconst (v := (1 : Int32)) hx hb dX3_isLength_11 (by decide) ?_
      refine lv_goto (tgt := 16) hx hb dX3_isLength_12 (by decide) ?_
      exact hq H locs _ ls (1 : Int32) (tw_rt (fun r => r = (1 : Int32)) h rfl) rfl hP hS dX3_isLength_16
abbrev rmX3_isPerson : Room := { frames := 0, cells := 0, slots := 0, locals := 0 }
set_option maxHeartbeats 4000000 in
set_option maxRecDepth 100000 in
theorem mX3_isPerson (l : Launch) (G : va_G) (cI : ClassId)   (sz : Nat) (p0 : Int32) {rv : Int32} (h : fX3_isPerson p0 = some rv) : tw_Mi l yX3_isPerson wsX3_isPerson rmX3_isPerson G [(cI, .int)] ([] : va_W) [.int p0] sz rv ([] : va_W) := by
  refine tw_ofi (ty := .boolean) (cc := cX3_isPerson) (maxL := 1) (own := RX3) (by decide) rfl rfl (Nat.le_of_ble_eq_true rfl) ?_
  intro p e s m args below meth c Q A ls H locs F hN hK hP hD hS hA hl hq
  obtain ⟨hx, hb, hml, hown, hts⟩ := id F
  have hl : lv_has ls 1 [(0, .int p0)] := hl
  unfold fX3_isPerson at h
  refine lv_iload_n hx hb dX3_isPerson_0 rfl (lv_at hl 0 rfl) ?_
  refine lv_if_lt (tgt := 14) hx hb dX3_isPerson_1 (by decide) (fun c1 => ?_) (fun c1 => ?_)
  · replace h := tw_t c1 h
    refine lv_iconst (v := (0 : Int32)) hx hb dX3_isPerson_14 (by decide) ?_
    exact hq H locs _ ls (0 : Int32) (tw_rt (fun r => r = (0 : Int32)) h rfl) rfl hP hS dX3_isPerson_15
  · replace h := tw_f c1 h
    refine lv_iload_n hx hb dX3_isPerson_4 rfl (lv_at hl 0 rfl) ?_
    refine lv_bipush (v := (6 : Int32)) hx hb dX3_isPerson_5 (by decide) ?_
    refine lv_icmp_ge (tgt := 14) hx hb dX3_isPerson_7 (by decide) (fun c7 => ?_) (fun c7 => ?_)
    · replace h := tw_t c7 h
      refine lv_iconst (v := (0 : Int32)) hx hb dX3_isPerson_14 (by decide) ?_
      exact hq H locs _ ls (0 : Int32) (tw_rt (fun r => r = (0 : Int32)) h rfl) rfl hP hS dX3_isPerson_15
    · replace h := tw_f c7 h
      refine lv_iconst (v := (1 : Int32)) hx hb dX3_isPerson_10 (by decide) ?_
      refine lv_goto (tgt := 15) hx hb dX3_isPerson_11 (by decide) ?_
      exact hq H locs _ ls (1 : Int32) (tw_rt (fun r => r = (1 : Int32)) h rfl) rfl hP hS dX3_isPerson_15
abbrev rmX3_isHall : Room := { frames := 0, cells := 0, slots := 0, locals := 0 }
set_option maxHeartbeats 4000000 in
set_option maxRecDepth 100000 in
theorem mX3_isHall (l : Launch) (G : va_G) (cI : ClassId)   (sz : Nat) (p0 : Int32) {rv : Int32} (h : fX3_isHall p0 = some rv) : tw_Mi l yX3_isHall wsX3_isHall rmX3_isHall G [(cI, .int)] ([] : va_W) [.int p0] sz rv ([] : va_W) := by
  refine tw_ofi (ty := .boolean) (cc := cX3_isHall) (maxL := 1) (own := RX3) (by decide) rfl rfl (Nat.le_of_ble_eq_true rfl) ?_
  intro p e s m args below meth c Q A ls H locs F hN hK hP hD hS hA hl hq
  obtain ⟨hx, hb, hml, hown, hts⟩ := id F
  have hl : lv_has ls 1 [(0, .int p0)] := hl
  unfold fX3_isHall at h
  refine lv_iload_n hx hb dX3_isHall_0 rfl (lv_at hl 0 rfl) ?_
  refine lv_if_lt (tgt := 13) hx hb dX3_isHall_1 (by decide) (fun c1 => ?_) (fun c1 => ?_)
  · replace h := tw_t c1 h
    refine lv_iconst (v := (0 : Int32)) hx hb dX3_isHall_13 (by decide) ?_
    exact hq H locs _ ls (0 : Int32) (tw_rt (fun r => r = (0 : Int32)) h rfl) rfl hP hS dX3_isHall_14
  · replace h := tw_f c1 h
    refine lv_iload_n hx hb dX3_isHall_4 rfl (lv_at hl 0 rfl) ?_
    refine lv_iconst (v := (4 : Int32)) hx hb dX3_isHall_5 (by decide) ?_
    refine lv_icmp_ge (tgt := 13) hx hb dX3_isHall_6 (by decide) (fun c6 => ?_) (fun c6 => ?_)
    · replace h := tw_t c6 h
      refine lv_iconst (v := (0 : Int32)) hx hb dX3_isHall_13 (by decide) ?_
      exact hq H locs _ ls (0 : Int32) (tw_rt (fun r => r = (0 : Int32)) h rfl) rfl hP hS dX3_isHall_14
    · replace h := tw_f c6 h
      refine lv_iconst (v := (1 : Int32)) hx hb dX3_isHall_9 (by decide) ?_
      refine lv_goto (tgt := 14) hx hb dX3_isHall_10 (by decide) ?_
      exact hq H locs _ ls (1 : Int32) (tw_rt (fun r => r = (1 : Int32)) h rfl) rfl hP hS dX3_isHall_14
abbrev rmX3_isDay : Room := { frames := 0, cells := 0, slots := 0, locals := 0 }
set_option maxHeartbeats 4000000 in
set_option maxRecDepth 100000 in
theorem mX3_isDay (l : Launch) (G : va_G) (cI : ClassId)   (sz : Nat) (p0 : Int32) {rv : Int32} (h : fX3_isDay p0 = some rv) : tw_Mi l yX3_isDay wsX3_isDay rmX3_isDay G [(cI, .int)] ([] : va_W) [.int p0] sz rv ([] : va_W) := by
  refine tw_ofi (ty := .boolean) (cc := cX3_isDay) (maxL := 1) (own := RX3) (by decide) rfl rfl (Nat.le_of_ble_eq_true rfl) ?_
  intro p e s m args below meth c Q A ls H locs F hN hK hP hD hS hA hl hq
  obtain ⟨hx, hb, hml, hown, hts⟩ := id F
  have hl : lv_has ls 1 [(0, .int p0)] := hl
  unfold fX3_isDay at h
  refine lv_iload_n hx hb dX3_isDay_0 rfl (lv_at hl 0 rfl) ?_
  refine lv_if_lt (tgt := 14) hx hb dX3_isDay_1 (by decide) (fun c1 => ?_) (fun c1 => ?_)
  · replace h := tw_t c1 h
    refine lv_iconst (v := (0 : Int32)) hx hb dX3_isDay_14 (by decide) ?_
    exact hq H locs _ ls (0 : Int32) (tw_rt (fun r => r = (0 : Int32)) h rfl) rfl hP hS dX3_isDay_15
  · replace h := tw_f c1 h
    refine lv_iload_n hx hb dX3_isDay_4 rfl (lv_at hl 0 rfl) ?_
    refine lv_bipush (v := (100 : Int32)) hx hb dX3_isDay_5 (by decide) ?_
    refine lv_icmp_ge (tgt := 14) hx hb dX3_isDay_7 (by decide) (fun c7 => ?_) (fun c7 => ?_)
    · replace h := tw_t c7 h
      refine lv_iconst (v := (0 : Int32)) hx hb dX3_isDay_14 (by decide) ?_
      exact hq H locs _ ls (0 : Int32) (tw_rt (fun r => r = (0 : Int32)) h rfl) rfl hP hS dX3_isDay_15
    · replace h := tw_f c7 h
      refine lv_iconst (v := (1 : Int32)) hx hb dX3_isDay_10 (by decide) ?_
      refine lv_goto (tgt := 15) hx hb dX3_isDay_11 (by decide) ?_
      exact hq H locs _ ls (1 : Int32) (tw_rt (fun r => r = (1 : Int32)) h rfl) rfl hP hS dX3_isDay_15
abbrev rmX3_isRule : Room := { frames := 0, cells := 0, slots := 0, locals := 0 }
set_option maxHeartbeats 4000000 in
set_option maxRecDepth 100000 in
theorem mX3_isRule (l : Launch) (G : va_G) (cI : ClassId)   (sz : Nat) (p0 : Int32) {rv : Int32} (h : fX3_isRule p0 = some rv) : tw_Mi l yX3_isRule wsX3_isRule rmX3_isRule G [(cI, .int)] ([] : va_W) [.int p0] sz rv ([] : va_W) := by
  refine tw_ofi (ty := .boolean) (cc := cX3_isRule) (maxL := 1) (own := RX3) (by decide) rfl rfl (Nat.le_of_ble_eq_true rfl) ?_
  intro p e s m args below meth c Q A ls H locs F hN hK hP hD hS hA hl hq
  obtain ⟨hx, hb, hml, hown, hts⟩ := id F
  have hl : lv_has ls 1 [(0, .int p0)] := hl
  unfold fX3_isRule at h
  refine lv_iload_n hx hb dX3_isRule_0 rfl (lv_at hl 0 rfl) ?_
  refine lv_if_lt (tgt := 13) hx hb dX3_isRule_1 (by decide) (fun c1 => ?_) (fun c1 => ?_)
  · replace h := tw_t c1 h
    refine lv_iconst (v := (0 : Int32)) hx hb dX3_isRule_13 (by decide) ?_
    exact hq H locs _ ls (0 : Int32) (tw_rt (fun r => r = (0 : Int32)) h rfl) rfl hP hS dX3_isRule_14
  · replace h := tw_f c1 h
    refine lv_iload_n hx hb dX3_isRule_4 rfl (lv_at hl 0 rfl) ?_
    refine lv_iconst (v := (4 : Int32)) hx hb dX3_isRule_5 (by decide) ?_
    refine lv_icmp_ge (tgt := 13) hx hb dX3_isRule_6 (by decide) (fun c6 => ?_) (fun c6 => ?_)
    · replace h := tw_t c6 h
      refine lv_iconst (v := (0 : Int32)) hx hb dX3_isRule_13 (by decide) ?_
      exact hq H locs _ ls (0 : Int32) (tw_rt (fun r => r = (0 : Int32)) h rfl) rfl hP hS dX3_isRule_14
    · replace h := tw_f c6 h
      refine lv_iconst (v := (1 : Int32)) hx hb dX3_isRule_9 (by decide) ?_
      refine lv_goto (tgt := 14) hx hb dX3_isRule_10 (by decide) ?_
      exact hq H locs _ ls (1 : Int32) (tw_rt (fun r => r = (1 : Int32)) h rfl) rfl hP hS dX3_isRule_14
abbrev rmX3_isSlip : Room := { frames := 0, cells := 0, slots := 0, locals := 0 }
set_option maxHeartbeats 4000000 in
set_option maxRecDepth 100000 in
theorem mX3_isSlip (l : Launch) (G : va_G) (cI : ClassId)   (sz : Nat) (p0 : Int32) {rv : Int32} (h : fX3_isSlip p0 = some rv) : tw_Mi l yX3_isSlip wsX3_isSlip rmX3_isSlip G [(cI, .int)] ([] : va_W) [.int p0] sz rv ([] : va_W) := by
  refine tw_ofi (ty := .boolean) (cc := cX3_isSlip) (maxL := 1) (own := RX3) (by decide) rfl rfl (Nat.le_of_ble_eq_true rfl) ?_
  intro p e s m args below meth c Q A ls H locs F hN hK hP hD hS hA hl hq
  obtain ⟨hx, hb, hml, hown, hts⟩ := id F
  have hl : lv_has ls 1 [(0, .int p0)] := hl
  unfold fX3_isSlip at h
  refine lv_iload_n hx hb dX3_isSlip_0 rfl (lv_at hl 0 rfl) ?_
  refine lv_iconst (v := (1 : Int32)) hx hb dX3_isSlip_1 (by decide) ?_
  refine lv_icmp_lt (tgt := 15) hx hb dX3_isSlip_2 (by decide) (fun c2 => ?_) (fun c2 => ?_)
  · replace h := tw_t c2 h
    refine lv_iconst (v := (0 : Int32)) hx hb dX3_isSlip_15 (by decide) ?_
    exact hq H locs _ ls (0 : Int32) (tw_rt (fun r => r = (0 : Int32)) h rfl) rfl hP hS dX3_isSlip_16
  · replace h := tw_f c2 h
    refine lv_iload_n hx hb dX3_isSlip_5 rfl (lv_at hl 0 rfl) ?_
    refine lv_bipush (v := (20 : Int32)) hx hb dX3_isSlip_6 (by decide) ?_
    refine lv_icmp_gt (tgt := 15) hx hb dX3_isSlip_8 (by decide) (fun c8 => ?_) (fun c8 => ?_)
    · replace h := tw_t c8 h
      refine lv_iconst (v := (0 : Int32)) hx hb dX3_isSlip_15 (by decide) ?_
      exact hq H locs _ ls (0 : Int32) (tw_rt (fun r => r = (0 : Int32)) h rfl) rfl hP hS dX3_isSlip_16
    · replace h := tw_f c8 h
      refine lv_iconst (v := (1 : Int32)) hx hb dX3_isSlip_11 (by decide) ?_
      refine lv_goto (tgt := 16) hx hb dX3_isSlip_12 (by decide) ?_
      exact hq H locs _ ls (1 : Int32) (tw_rt (fun r => r = (1 : Int32)) h rfl) rfl hP hS dX3_isSlip_16
abbrev rmX3_isPersonOrNone : Room := { frames := 1, cells := 0, slots := 0, locals := 20 }
set_option maxHeartbeats 4000000 in
set_option maxRecDepth 100000 in
theorem mX3_isPersonOrNone (l : Launch) (G : va_G) (cI : ClassId)   (sz : Nat) (p0 : Int32) {rv : Int32} (h : fX3_isPersonOrNone p0 = some rv) : tw_Mi l yX3_isPersonOrNone wsX3_isPersonOrNone rmX3_isPersonOrNone G [(cI, .int)] ([] : va_W) [.int p0] sz rv ([] : va_W) := by
  refine tw_ofi (ty := .boolean) (cc := cX3_isPersonOrNone) (maxL := 1) (own := RX3) (by decide) rfl rfl (Nat.le_of_ble_eq_true rfl) ?_
  intro p e s m args below meth c Q A ls H locs F hN hK hP hD hS hA hl hq
  obtain ⟨hx, hb, hml, hown, hts⟩ := id F
  have hl : lv_has ls 1 [(0, .int p0)] := hl
  unfold fX3_isPersonOrNone at h
  refine lv_iload_n hx hb dX3_isPersonOrNone_0 rfl (lv_at hl 0 rfl) ?_
  refine lv_iconst (v := (-1 : Int32)) hx hb dX3_isPersonOrNone_1 (by decide) ?_
  refine lv_icmp_eq (tgt := 12) hx hb dX3_isPersonOrNone_2 (by decide) (fun c2 => ?_) (fun c2 => ?_)
  · replace h := tw_t c2 h
    refine lv_iconst (v := (1 : Int32)) hx hb dX3_isPersonOrNone_12 (by decide) ?_
    refine lv_goto (tgt := 17) hx hb dX3_isPersonOrNone_13 (by decide) ?_
    exact hq H locs _ ls (1 : Int32) (tw_rt (fun r => r = (1 : Int32)) h rfl) rfl hP hS dX3_isPersonOrNone_17
  · replace h := tw_f c2 h
    refine lv_iload_n hx hb dX3_isPersonOrNone_5 rfl (lv_at hl 0 rfl) ?_
    obtain ⟨r6, e6, h⟩ := tw_bs h
    refine tw_callSiF (ws' := ([] : va_W)) (As := [.int p0]) (rest := []) F hN hK hP hD hS hA (mX3_isPerson l G cI H.size p0 e6) (va_cwS 1 hts gX3_isPersonOrNone_X3_isPerson rfl rfl rfl (by decide +kernel) ⟨(Nat.le_of_ble_eq_true rfl), (Nat.le_of_ble_eq_true rfl)⟩) rfl rfl hl.1 rfl (Nat.le_of_ble_eq_true rfl) dX3_isPersonOrNone_6 ⟨Nat.zero_le _, Nat.zero_le _⟩ (fun H locs hP hD hS => ?_)
    refine lv_if_eq (tgt := 16) hx hb dX3_isPersonOrNone_9 (by decide) (fun c9 => ?_) (fun c9 => ?_)
    · replace h := tw_t c9 h
      refine lv_iconst (v := (0 : Int32)) hx hb dX3_isPersonOrNone_16 (by decide) ?_
      exact hq H locs _ ls (0 : Int32) (tw_rt (fun r => r = (0 : Int32)) h rfl) rfl hP hS dX3_isPersonOrNone_17
    · replace h := tw_f c9 h
      refine lv_iconst (v := (1 : Int32)) hx hb dX3_isPersonOrNone_12 (by decide) ?_
      refine lv_goto (tgt := 17) hx hb dX3_isPersonOrNone_13 (by decide) ?_
      exact hq H locs _ ls (1 : Int32) (tw_rt (fun r => r = (1 : Int32)) h rfl) rfl hP hS dX3_isPersonOrNone_17
abbrev rmX3_isHallOrNone : Room := { frames := 1, cells := 0, slots := 0, locals := 20 }
set_option maxHeartbeats 4000000 in
set_option maxRecDepth 100000 in
theorem mX3_isHallOrNone (l : Launch) (G : va_G) (cI : ClassId)   (sz : Nat) (p0 : Int32) {rv : Int32} (h : fX3_isHallOrNone p0 = some rv) : tw_Mi l yX3_isHallOrNone wsX3_isHallOrNone rmX3_isHallOrNone G [(cI, .int)] ([] : va_W) [.int p0] sz rv ([] : va_W) := by
  refine tw_ofi (ty := .boolean) (cc := cX3_isHallOrNone) (maxL := 1) (own := RX3) (by decide) rfl rfl (Nat.le_of_ble_eq_true rfl) ?_
  intro p e s m args below meth c Q A ls H locs F hN hK hP hD hS hA hl hq
  obtain ⟨hx, hb, hml, hown, hts⟩ := id F
  have hl : lv_has ls 1 [(0, .int p0)] := hl
  unfold fX3_isHallOrNone at h
  refine lv_iload_n hx hb dX3_isHallOrNone_0 rfl (lv_at hl 0 rfl) ?_
  refine lv_iconst (v := (-1 : Int32)) hx hb dX3_isHallOrNone_1 (by decide) ?_
  refine lv_icmp_eq (tgt := 12) hx hb dX3_isHallOrNone_2 (by decide) (fun c2 => ?_) (fun c2 => ?_)
  · replace h := tw_t c2 h
    refine lv_iconst (v := (1 : Int32)) hx hb dX3_isHallOrNone_12 (by decide) ?_
    refine lv_goto (tgt := 17) hx hb dX3_isHallOrNone_13 (by decide) ?_
    exact hq H locs _ ls (1 : Int32) (tw_rt (fun r => r = (1 : Int32)) h rfl) rfl hP hS dX3_isHallOrNone_17
  · replace h := tw_f c2 h
    refine lv_iload_n hx hb dX3_isHallOrNone_5 rfl (lv_at hl 0 rfl) ?_
    obtain ⟨r6, e6, h⟩ := tw_bs h
    refine tw_callSiF (ws' := ([] : va_W)) (As := [.int p0]) (rest := []) F hN hK hP hD hS hA (mX3_isHall l G cI H.size p0 e6) (va_cwS 1 hts gX3_isHallOrNone_X3_isHall rfl rfl rfl (by decide +kernel) ⟨(Nat.le_of_ble_eq_true rfl), (Nat.le_of_ble_eq_true rfl)⟩) rfl rfl hl.1 rfl (Nat.le_of_ble_eq_true rfl) dX3_isHallOrNone_6 ⟨Nat.zero_le _, Nat.zero_le _⟩ (fun H locs hP hD hS => ?_)
    refine lv_if_eq (tgt := 16) hx hb dX3_isHallOrNone_9 (by decide) (fun c9 => ?_) (fun c9 => ?_)
    · replace h := tw_t c9 h
      refine lv_iconst (v := (0 : Int32)) hx hb dX3_isHallOrNone_16 (by decide) ?_
      exact hq H locs _ ls (0 : Int32) (tw_rt (fun r => r = (0 : Int32)) h rfl) rfl hP hS dX3_isHallOrNone_17
    · replace h := tw_f c9 h
      refine lv_iconst (v := (1 : Int32)) hx hb dX3_isHallOrNone_12 (by decide) ?_
      refine lv_goto (tgt := 17) hx hb dX3_isHallOrNone_13 (by decide) ?_
      exact hq H locs _ ls (1 : Int32) (tw_rt (fun r => r = (1 : Int32)) h rfl) rfl hP hS dX3_isHallOrNone_17
abbrev rmX3_isValue : Room := { frames := 2, cells := 0, slots := 0, locals := 40 }
set_option maxHeartbeats 4000000 in
set_option maxRecDepth 100000 in
theorem mX3_isValue (l : Launch) (G : va_G) (cI : ClassId)   (sz : Nat) (p0 : Int32) (p1 : Int32) {rv : Int32} (h : fX3_isValue p0 p1 = some rv) : tw_Mi l yX3_isValue wsX3_isValue rmX3_isValue G [(cI, .int)] ([] : va_W) [.int p0, .int p1] sz rv ([] : va_W) := by
  refine tw_ofi (ty := .boolean) (cc := cX3_isValue) (maxL := 2) (own := RX3) (by decide) rfl rfl (Nat.le_of_ble_eq_true rfl) ?_
  intro p e s m args below meth c Q A ls H locs F hN hK hP hD hS hA hl hq
  obtain ⟨hx, hb, hml, hown, hts⟩ := id F
  have hl : lv_has ls 2 [(0, .int p0), (1, .int p1)] := hl
  unfold fX3_isValue at h
  refine lv_iload_n hx hb dX3_isValue_0 rfl (lv_at hl 0 rfl) ?_
  by_cases c1_0 : p0 = 0
  · replace h := tw_t c1_0 h
    refine tw_tab (v := 0) (tgt := 32) hx hb dX3_isValue_1 c1_0 (by decide) (by decide) rfl (by decide) ?_
    refine lv_iload_n hx hb dX3_isValue_32 rfl (lv_at hl 1 rfl) ?_
    obtain ⟨r33, e33, h⟩ := tw_bs h
    refine tw_callSiF (ws' := ([] : va_W)) (As := [.int p1]) (rest := []) F hN hK hP hD hS hA (mX3_isLength l G cI H.size p1 e33) (va_cwS 1 hts gX3_isValue_X3_isLength rfl rfl rfl (by decide +kernel) ⟨(Nat.le_of_ble_eq_true rfl), (Nat.le_of_ble_eq_true rfl)⟩) rfl rfl hl.1 rfl (Nat.le_of_ble_eq_true rfl) dX3_isValue_33 ⟨Nat.zero_le _, Nat.zero_le _⟩ (fun H locs hP hD hS => ?_)
    obtain ⟨g36, h⟩ := tw_qs h
    exact hq H locs _ ls r33 (tw_rt (fun r => r = r33) h rfl) (tw_nb g36) hP hS dX3_isValue_36
  · replace h := tw_f c1_0 h
    by_cases c1_1 : p0 = 1
    · replace h := tw_t c1_1 h
      refine tw_tab (v := 1) (tgt := 37) hx hb dX3_isValue_1 c1_1 (by decide) (by decide) rfl (by decide) ?_
      refine lv_iload_n hx hb dX3_isValue_37 rfl (lv_at hl 1 rfl) ?_
      obtain ⟨r38, e38, h⟩ := tw_bs h
      refine tw_callSiF (ws' := ([] : va_W)) (As := [.int p1]) (rest := []) F hN hK hP hD hS hA (mX3_isPersonOrNone l G cI H.size p1 e38) (va_cwS 1 hts gX3_isValue_X3_isPersonOrNone rfl rfl rfl (by decide +kernel) ⟨(Nat.le_of_ble_eq_true rfl), (Nat.le_of_ble_eq_true rfl)⟩) rfl rfl hl.1 rfl (Nat.le_of_ble_eq_true rfl) dX3_isValue_38 ⟨Nat.zero_le _, Nat.zero_le _⟩ (fun H locs hP hD hS => ?_)
      obtain ⟨g41, h⟩ := tw_qs h
      exact hq H locs _ ls r38 (tw_rt (fun r => r = r38) h rfl) (tw_nb g41) hP hS dX3_isValue_41
    · replace h := tw_f c1_1 h
      by_cases c1_2 : p0 = 2
      · replace h := tw_t c1_2 h
        refine tw_tab (v := 2) (tgt := 42) hx hb dX3_isValue_1 c1_2 (by decide) (by decide) rfl (by decide) ?_
        refine lv_iload_n hx hb dX3_isValue_42 rfl (lv_at hl 1 rfl) ?_
        obtain ⟨r43, e43, h⟩ := tw_bs h
        refine tw_callSiF (ws' := ([] : va_W)) (As := [.int p1]) (rest := []) F hN hK hP hD hS hA (mX3_isHallOrNone l G cI H.size p1 e43) (va_cwS 1 hts gX3_isValue_X3_isHallOrNone rfl rfl rfl (by decide +kernel) ⟨(Nat.le_of_ble_eq_true rfl), (Nat.le_of_ble_eq_true rfl)⟩) rfl rfl hl.1 rfl (Nat.le_of_ble_eq_true rfl) dX3_isValue_43 ⟨Nat.zero_le _, Nat.zero_le _⟩ (fun H locs hP hD hS => ?_)
        obtain ⟨g46, h⟩ := tw_qs h
        exact hq H locs _ ls r43 (tw_rt (fun r => r = r43) h rfl) (tw_nb g46) hP hS dX3_isValue_46
      · replace h := tw_f c1_2 h
        by_cases c1_3 : p0 = 3
        · replace h := tw_t c1_3 h
          refine tw_tab (v := 3) (tgt := 47) hx hb dX3_isValue_1 c1_3 (by decide) (by decide) rfl (by decide) ?_
          refine lv_iload_n hx hb dX3_isValue_47 rfl (lv_at hl 1 rfl) ?_
          refine lv_if_lt (tgt := 61) hx hb dX3_isValue_48 (by decide) (fun c48 => ?_) (fun c48 => ?_)
          · replace h := tw_t c48 h
            refine lv_iconst (v := (0 : Int32)) hx hb dX3_isValue_61 (by decide) ?_
            exact hq H locs _ ls (0 : Int32) (tw_rt (fun r => r = (0 : Int32)) h rfl) rfl hP hS dX3_isValue_62
          · replace h := tw_f c48 h
            refine lv_iload_n hx hb dX3_isValue_51 rfl (lv_at hl 1 rfl) ?_
            refine lv_bipush (v := (60 : Int32)) hx hb dX3_isValue_52 (by decide) ?_
            refine lv_icmp_gt (tgt := 61) hx hb dX3_isValue_54 (by decide) (fun c54 => ?_) (fun c54 => ?_)
            · replace h := tw_t c54 h
              refine lv_iconst (v := (0 : Int32)) hx hb dX3_isValue_61 (by decide) ?_
              exact hq H locs _ ls (0 : Int32) (tw_rt (fun r => r = (0 : Int32)) h rfl) rfl hP hS dX3_isValue_62
            · replace h := tw_f c54 h
              refine lv_iconst (v := (1 : Int32)) hx hb dX3_isValue_57 (by decide) ?_
              refine lv_goto (tgt := 62) hx hb dX3_isValue_58 (by decide) ?_
              exact hq H locs _ ls (1 : Int32) (tw_rt (fun r => r = (1 : Int32)) h rfl) rfl hP hS dX3_isValue_62
        · replace h := tw_f c1_3 h
          have z0 := lv_neT c1_0 (a := 0) rfl
          have z1 := lv_neT c1_1 (a := 1) rfl
          have z2 := lv_neT c1_2 (a := 2) rfl
          have z3 := lv_neT c1_3 (a := 3) rfl
          refine lv_tableOut (tgt := 63) hx hb dX3_isValue_1 (by omega) (by decide) ?_
          refine lv_iconst (v := (0 : Int32)) hx hb dX3_isValue_63 (by decide) ?_
          exact hq H locs _ ls (0 : Int32) (tw_rt (fun r => r = (0 : Int32)) h rfl) rfl hP hS dX3_isValue_64
