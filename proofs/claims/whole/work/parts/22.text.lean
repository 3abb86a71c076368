abbrev rmX3_isLength : Room := { frames := 0, cells := 0, slots := 0, locals := 0 }
set_option maxHeartbeats 4000000 in
set_option maxRecDepth 100000 in
theorem mX3_isLength (l : Launch) (G : va_G) (cI : ClassId)   (sz : Nat) (p0 : Int32) {rv : Int32} (h : fX3_isLength p0 = some rv) : tw_Mi l yX3_isLength wsX3_isLength rmX3_isLength G [(cI, .int)] ([] : va_W) [.int p0] sz rv ([] : va_W) := by
  refine tw_ofi (ty := .boolean) (cc := cX3_isLength) (maxL := 1) (own := RX3) (by decide) rfl rfl (Nat.le_of_ble_eq_true rfl) ?_
  intro p e s m args below meth c Q A ls H locs F hN hK hP hD hS hA hl hq
  obtain ⟨hx, hb, hml, hown, hts⟩ := id F
  have hl : lv_has ls 1 [(0, .int p0)] := hl
  unfold fX3_isLength at h
  refine lv_iload_n hx hb dX3_isLength_0 rfl (lv_at hl 0 rfl) ?_
  refine lv_iconst (v := (1 : Int32)) hx hb dX3_isLength_1 (by decide) ?_
  refine lv_icmp_lt (tgt := 15) hx hb dX3_isLength_2 (by decide) (fun c2 => ?_) (fun c2 => ?_)
  · replace h := tw_t c2 h
    refine lv_iconst (v := (0 : Int32)) hx hb dX3_isLength_15 (by decide) ?_
    exact hq H locs _ ls (0 : Int32) (tw_rt (fun r => r = (0 : Int32)) h rfl) rfl hP hS dX3_isLength_16
  · replace h := tw_f c2 h
    refine lv_iload_n hx hb dX3_isLength_5 rfl (lv_at hl 0 rfl) ?_
    refine lv_bipush (v := (9 : Int32)) hx hb dX3_isLength_6 (by decide) ?_
    refine lv_icmp_gt (tgt := 15) hx hb dX3_isLength_8 (by decide) (fun c8 => ?_) (fun c8 => ?_)
    · replace h := tw_t c8 h
      refine lv_iconst (v := (0 : Int32)) hx hb dX3_isLength_15 (by decide) ?_
      exact hq H locs _ ls (0 : Int32) (tw_rt (fun r => r = (0 : Int32)) h rfl) rfl hP hS dX3_isLength_16
    · replace h := tw_f c8 h
      refine lv_iconst (v := (1 : Int32)) hx hb dX3_isLength_11 (by decide) ?_
      refine lv_goto (tgt := 16) hx hb dX3_isLength_12 (by decide) ?_
      exact hq H locs _ ls (1 : Int32) (tw_rt (fun r => r = (1 : Int32)) h rfl) rfl hP hS dX3_isLength_16
abbrev rmX3_isPerson : Room := { frames := 0, cells := 0, slots := 0, locals := 0 }
set_option maxHeartbeats 4000000 in
set_option maxRecDepth 100000 in
theorem mX3_isPerson (l : Launch) (G : va_G) (cI : ClassId)   (sz : Nat) (p0 : Int32) {rv : Int32} (h : fX3_isPerson p0 = some rv) : tw_Mi l yX3_isPerson wsX3_isPerson rmX3_isPerson G [(cI, .int)] ([] : va_W) [.int p0] sz rv ([] : va_W) := by
  refine tw_ofi (ty := .boolean) (cc := cX3_isPerson) (maxL := 1) (own := RX3) (by decide) rfl rfl (Nat.le_of_ble_eq_true rfl) ?_
  intro p e s m args below meth c Q A ls H locs F hN hK hP hD hS hA hl hq
  obtain ⟨hx, hb, hml, hown, hts⟩ := id F
  have hl : lv_has ls 1 [(0, .int p0)] := hl
  unfold fX3_isPerson at h
  refine lv_iload_n hx hb dX3_isPerson_0 rfl (lv_at hl 0 rfl) ?_
  refine lv_if_lt (tgt := 14) hx hb dX3_isPerson_1 (by decide) (fun c1 => ?_) (fun c1 => ?_)
  · replace h := tw_t c1 h
    refine lv_iconst (v := (0 : Int32)) hx hb dX3_isPerson_14 (by decide) ?_
    exact hq H locs _ ls (0 : Int32) (tw_rt (fun r => r = (0 : Int32)) h rfl) rfl hP hS dX3_isPerson_15
  · replace h := tw_f c1 h
    refine lv_iload_n hx hb dX3_isPerson_4 rfl (lv_at hl 0 rfl) ?_
    refine lv_bipush (v := (6 : Int32)) hx hb dX3_isPerson_5 (by decide) ?_
    refine lv_icmp_ge (tgt := 14) hx hb dX3_isPerson_7 (by decide) (fun c7 => ?_) (fun c7 => ?_)
    · replace h := tw_t c7 h
      refine lv_iconst (v := (0 : Int32)) hx hb dX3_isPerson_14 (by decide) ?_
      exact hq H locs _ ls (0 : Int32) (tw_rt (fun r => r = (0 : Int32)) h rfl) rfl hP hS dX3_isPerson_15
    · replace h := tw_f c7 h
      refine lv_iconst (v := (1 : Int32)) hx hb dX3_isPerson_10 (by decide) ?_
      refine lv_goto (tgt := 15) hx hb dX3_isPerson_11 (by decide) ?_
      exact hq H locs _ ls (1 : Int32) (tw_rt (fun r => r = (1 : Int32)) h rfl) rfl hP hS dX3_isPerson_15
abbrev rmX3_isHall : Room := { frames := 0, cells := 0, slots := 0, locals := 0 }
set_option maxHeartbeats 4000000 in
set_option maxRecDepth 100000 in
theorem mX3_isHall (l : Launch) (G : va_G) (cI : ClassId)   (sz : Nat) (p0 : Int32) {rv : Int32} (h : fX3_isHall p0 = some rv) : tw_Mi l yX3_isHall wsX3_isHall rmX3_isHall G [(cI, .int)] ([] : va_W) [.int p0] sz rv ([] : va_W) := by
  refine tw_ofi (ty := .boolean) (cc := cX3_isHall) (maxL := 1) (own := RX3) (by decide) rfl rfl (Nat.le_of_ble_eq_true rfl) ?_
  intro p e s m args below meth c Q A ls H locs F hN hK hP hD hS hA hl hq
  obtain ⟨hx, hb, hml, hown, hts⟩ := id F
  have hl : lv_has ls 1 [(0, .int p0)] := hl
  unfold fX3_isHall at h
  refine lv_iload_n hx hb dX3_isHall_0 rfl (lv_at hl 0 rfl) ?_
  refine lv_if_lt (tgt := 13) hx hb dX3_isHall_1 (by decide) (fun c1 => ?_) (fun c1 => ?_)
  · replace h := tw_t c1 h
    refine lv_iconst (v := (0 : Int32)) hx hb dX3_isHall_13 (by decide) ?_
    exact hq H locs _ ls (0 : Int32) (tw_rt (fun r => r = (0 : Int32)) h rfl) rfl hP hS dX3_isHall_14
  · replace h := tw_f c1 h
    refine lv_iload_n hx hb dX3_isHall_4 rfl (lv_at hl 0 rfl) ?_
    refine lv_iconst (v := (4 : Int32)) hx hb dX3_isHall_5 (by decide) ?_
    refine lv_icmp_ge (tgt := 13) hx hb dX3_isHall_6 (by decide) (fun c6 => ?_) (fun c6 => ?_)
    · replace h := tw_t c6 h
      refine lv_iconst (v := (0 : Int32)) hx hb dX3_isHall_13 (by decide) ?_
      exact hq H locs _ ls (0 : Int32) (tw_rt (fun r => r = (0 : Int32)) h rfl) rfl hP hS dX3_isHall_14
    · replace h := tw_f c6 h
      refine lv_iconst (v := (1 : Int32)) hx hb dX3_isHall_9 (by decide) ?_
      refine lv_goto (tgt := 14) hx hb dX3_isHall_10 (by decide) ?_
      exact hq H locs _ ls (1 : Int32) (tw_rt (fun r => r = (1 : Int32)) h rfl) rfl hP hS dX3_isHall_14
abbrev rmX3_isDay : Room := { frames := 0, cells := 0, slots := 0, locals := 0 }
set_option maxHeartbeats 4000000 in
set_option maxRecDepth 100000 in
theorem mX3_isDay (l : Launch) (G : va_G) (cI : ClassId)   (sz : Nat) (p0 : Int32) {rv : Int32} (h : fX3_isDay p0 = some rv) : tw_Mi l yX3_isDay wsX3_isDay rmX3_isDay G [(cI, .int)] ([] : va_W) [.int p0] sz rv ([] : va_W) := by
  refine tw_ofi (ty := .boolean) (cc := cX3_isDay) (maxL := 1) (own := RX3) (by decide) rfl rfl (Nat.le_of_ble_eq_true rfl) ?_
  intro p e s m args below meth c Q A ls H locs F hN hK hP hD hS hA hl hq
  obtain ⟨hx, hb, hml, hown, hts⟩ := id F
  have hl : lv_has ls 1 [(0, .int p0)] := hl
  unfold fX3_isDay at h
  refine lv_iload_n hx hb dX3_isDay_0 rfl (lv_at hl 0 rfl) ?_
  refine lv_if_lt (tgt := 14) hx hb dX3_isDay_1 (by decide) (fun c1 => ?_) (fun c1 => ?_)
  · replace h := tw_t c1 h
    refine lv_iconst (v := (0 : Int32)) hx hb dX3_isDay_14 (by decide) ?_
    exact hq H locs _ ls (0 : Int32) (tw_rt (fun r => r = (0 : Int32)) h rfl) rfl hP hS dX3_isDay_15
  · replace h := tw_f c1 h
    refine lv_iload_n hx hb dX3_isDay_4 rfl (lv_at hl 0 rfl) ?_
    refine lv_bipush (v := (100 : Int32)) hx hb dX3_isDay_5 (by decide) ?_
    refine lv_icmp_ge (tgt := 14) hx hb dX3_isDay_7 (by decide) (fun c7 => ?_) (fun c7 => ?_)
    · replace h := tw_t c7 h
      refine lv_iconst (v := (0 : Int32)) hx hb dX3_isDay_14 (by decide) ?_
      exact hq H locs _ ls (0 : Int32) (tw_rt (fun r => r = (0 : Int32)) h rfl) rfl hP hS dX3_isDay_15
    · replace h := tw_f c7 h
      refine lv_iconst (v := (1 : Int32)) hx hb dX3_isDay_10 (by decide) ?_
      refine lv_goto (tgt := 15) hx hb dX3_isDay_11 (by decide) ?_
      exact hq H locs _ ls (1 : Int32) (tw_rt (fun r => r = (1 : Int32)) h rfl) rfl hP hS dX3_isDay_15
abbrev rmX3_isRule : Room := { frames := 0, cells := 0, slots := 0, locals := 0 }
set_option maxHeartbeats 4000000 in
set_option maxRecDepth 100000 in
theorem mX3_isRule (l : Launch) (G : va_G) (cI : ClassId)   (sz : Nat) (p0 : Int32) {rv : Int32} (h : fX3_isRule p0 = some rv) : tw_Mi l yX3_isRule wsX3_isRule rmX3_isRule G [(cI, .int)] ([] : va_W) [.int p0] sz rv ([] : va_W) := by
  refine tw_ofi (ty := .boolean) (cc := cX3_isRule) (maxL := 1) (own := RX3) (by decide) rfl rfl (Nat.le_of_ble_eq_true rfl) ?_
  intro p e s m args below meth c Q A ls H locs F hN hK hP hD hS hA hl hq
  obtain ⟨hx, hb, hml, hown, hts⟩ := id F
  have hl : lv_has ls 1 [(0, .int p0)] := hl
  unfold fX3_isRule at h
  refine lv_iload_n hx hb dX3_isRule_0 rfl (lv_at hl 0 rfl) ?_
  refine lv_if_lt (tgt := 13) hx hb dX3_isRule_1 (by decide) (fun c1 => ?_) (fun c1 => ?_)
  · replace h := tw_t c1 h
    refine lv_iconst (v := (0 : Int32)) hx hb dX3_isRule_13 (by decide) ?_
    exact hq H locs _ ls (0 : Int32) (tw_rt (fun r => r = (0 : Int32)) h rfl) rfl hP hS dX3_isRule_14
  · replace h := tw_f c1 h
    refine lv_iload_n hx hb dX3_isRule_4 rfl (lv_at hl 0 rfl) ?_
    refine lv_iconst (v := (4 : Int32)) hx hb dX3_isRule_5 (by decide) ?_
    refine lv_icmp_ge (tgt := 13) hx hb dX3_isRule_6 (by decide) (fun c6 => ?_) (fun c6 => ?_)
    · replace h := tw_t c6 h
      refine lv_iconst (v := (0 : Int32)) hx hb dX3_isRule_13 (by decide) ?_
      exact hq H locs _ ls (0 : Int32) (tw_rt (fun r => r = (0 : Int32)) h rfl) rfl hP hS dX3_isRule_14
    · replace h := tw_f c6 h
      refine lv_iconst (v := (1 : Int32)) hx hb dX3_isRule_9 (by decide) ?_
      refine lv_goto (tgt := 14) hx hb dX3_isRule_10 (by decide) ?_
      exact hq H locs _ ls (1 : Int32) (tw_rt (fun r => r = (1 : Int32)) h rfl) rfl hP hS dX3_isRule_14
abbrev rmX3_isSlip : Room := { frames := 0, cells := 0, slots := 0, locals := 0 }
set_option maxHeartbeats 4000000 in
set_option maxRecDepth 100000 in
theorem mX3_isSlip (l : Launch) (G : va_G) (cI : ClassId)   (sz : Nat) (p0 : Int32) {rv : Int32} (h : fX3_isSlip p0 = some rv) : tw_Mi l yX3_isSlip wsX3_isSlip rmX3_isSlip G [(cI, .int)] ([] : va_W) [.int p0] sz rv ([] : va_W) := by
  refine tw_ofi (ty := .boolean) (cc := cX3_isSlip) (maxL := 1) (own := RX3) (by decide) rfl rfl (Nat.le_of_ble_eq_true rfl) ?_
  intro p e s m args below meth c Q A ls H locs F hN hK hP hD hS hA hl hq
  obtain ⟨hx, hb, hml, hown, hts⟩ := id F
  have hl : lv_has ls 1 [(0, .int p0)] := hl
  unfold fX3_isSlip at h
  refine lv_iload_n hx hb dX3_isSlip_0 rfl (lv_at hl 0 rfl) ?_
  refine lv_iconst (v := (1 : Int32)) hx hb dX3_isSlip_1 (by decide) ?_
  refine lv_icmp_lt (tgt := 15) hx hb dX3_isSlip_2 (by decide) (fun c2 => ?_) (fun c2 => ?_)
  · replace h := tw_t c2 h
    refine lv_iconst (v := (0 : Int32)) hx hb dX3_isSlip_15 (by decide) ?_
    exact hq H locs _ ls (0 : Int32) (tw_rt (fun r => r = (0 : Int32)) h rfl) rfl hP hS dX3_isSlip_16
  · replace h := tw_f c2 h
    refine lv_iload_n hx hb dX3_isSlip_5 rfl (lv_at hl 0 rfl) ?_
    refine lv_bipush (v := (20 : Int32)) hx hb dX3_isSlip_6 (by decide) ?_
    refine lv_icmp_gt (tgt := 15) hx hb dX3_isSlip_8 (by decide) (fun c8 => ?_) (fun c8 => ?_)
    · replace h := tw_t c8 h
      refine lv_iconst (v := (0 : Int32)) hx hb dX3_isSlip_15 (by decide) ?_
      exact hq H locs _ ls (0 : Int32) (tw_rt (fun r => r = (0 : Int32)) h rfl) rfl hP hS dX3_isSlip_16
    · replace h := tw_f c8 h
      refine lv_iconst (v := (1 : Int32)) hx hb dX3_isSlip_11 (by decide) ?_
      refine lv_goto (tgt := 16) hx hb dX3_isSlip_12 (by decide) ?_
      exact hq H locs _ ls (1 : Int32) (tw_rt (fun r => r = (1 : Int32)) h rfl) rfl hP hS dX3_isSlip_16
abbrev rmX3_isPersonOrNone : Room := { frames := 1, cells := 0, slots := 0, locals := 20 }
set_option maxHeartbeats 4000000 in
set_option maxRecDepth 100000 in
theorem mX3_isPersonOrNone (l : Launch) (G : va_G) (cI : ClassId)   (sz : Nat) (p0 : Int32) {rv : Int32} (h : fX3_isPersonOrNone p0 = some rv) : tw_Mi l yX3_isPersonOrNone wsX3_isPersonOrNone rmX3_isPersonOrNone G [(cI, .int)] ([] : va_W) [.int p0] sz rv ([] : va_W) := by
  refine tw_ofi (ty := .boolean) (cc := cX3_isPersonOrNone) (maxL := 1) (own := RX3) (by decide) rfl rfl (Nat.le_of_ble_eq_true rfl) ?_
  intro p e s m args below meth c Q A ls H locs F hN hK hP hD hS hA hl hq
  obtain ⟨hx, hb, hml, hown, hts⟩ := id F
  have hl : lv_has ls 1 [(0, .int p0)] := hl
  unfold fX3_isPersonOrNone at h
  refine lv_iload_n hx hb dX3_isPersonOrNone_0 rfl (lv_at hl 0 rfl) ?_
  refine lv_iconst (v := (-1 : Int32)) hx hb dX3_isPersonOrNone_1 (by decide) ?_
  refine lv_icmp_eq (tgt := 12) hx hb dX3_isPersonOrNone_2 (by decide) (fun c2 => ?_) (fun c2 => ?_)
  · replace h := tw_t c2 h
    refine lv_iconst (v := (1 : Int32)) hx hb dX3_isPersonOrNone_12 (by decide) ?_
    refine lv_goto (tgt := 17) hx hb dX3_isPersonOrNone_13 (by decide) ?_
    exact hq H locs _ ls (1 : Int32) (tw_rt (fun r => r = (1 : Int32)) h rfl) rfl hP hS dX3_isPersonOrNone_17
  · replace h := tw_f c2 h
    refine lv_iload_n hx hb dX3_isPersonOrNone_5 rfl (lv_at hl 0 rfl) ?_
    obtain ⟨r6, e6, h⟩ := tw_bs h
    refine tw_callSiF (ws' := ([] : va_W)) (As := [.int p0]) (rest := []) F hN hK hP hD hS hA (mX3_isPerson l G cI H.size p0 e6) (va_cwS 1 hts gX3_isPersonOrNone_X3_isPerson rfl rfl rfl (by decide +kernel) ⟨(Nat.le_of_ble_eq_true rfl), (Nat.le_of_ble_eq_true rfl)⟩) rfl rfl hl.1 rfl (Nat.le_of_ble_eq_true rfl) dX3_isPersonOrNone_6 ⟨Nat.zero_le _, Nat.zero_le _⟩ (fun H locs hP hD hS => ?_)
    refine lv_if_eq (tgt := 16) hx hb dX3_isPersonOrNone_9 (by decide) (fun c9 => ?_) (fun c9 => ?_)
    · replace h := tw_t c9 h
      refine lv_iconst (v := (0 : Int32)) hx hb dX3_isPersonOrNone_16 (by decide) ?_
      exact hq H locs _ ls (0 : Int32) (tw_rt (fun r => r = (0 : Int32)) h rfl) rfl hP hS dX3_isPersonOrNone_17
    · replace h := tw_f c9 h
      refine lv_iconst (v := (1 : Int32)) hx hb dX3_isPersonOrNone_12 (by decide) ?_
      refine lv_goto (tgt := 17) hx hb dX3_isPersonOrNone_13 (by decide) ?_
      exact hq H locs _ ls (1 : Int32) (tw_rt (fun r => r = (1 : Int32)) h rfl) rfl hP hS dX3_isPersonOrNone_17
abbrev rmX3_isHallOrNone : Room := { frames := 1, cells := 0, slots := 0, locals := 20 }
set_option maxHeartbeats 4000000 in
set_option maxRecDepth 100000 in
theorem mX3_isHallOrNone (l : Launch) (G : va_G) (cI : ClassId)   (sz : Nat) (p0 : Int32) {rv : Int32} (h : fX3_isHallOrNone p0 = some rv) : tw_Mi l yX3_isHallOrNone wsX3_isHallOrNone rmX3_isHallOrNone G [(cI, .int)] ([] : va_W) [.int p0] sz rv ([] : va_W) := by
  refine tw_ofi (ty := .boolean) (cc := cX3_isHallOrNone) (maxL := 1) (own := RX3) (by decide) rfl rfl (Nat.le_of_ble_eq_true rfl) ?_
  intro p e s m args below meth c Q A ls H locs F hN hK hP hD hS hA hl hq
  obtain ⟨hx, hb, hml, hown, hts⟩ := id F
  have hl : lv_has ls 1 [(0, .int p0)] := hl
  unfold fX3_isHallOrNone at h
  refine lv_iload_n hx hb dX3_isHallOrNone_0 rfl (lv_at hl 0 rfl) ?_
  refine lv_iconst (v := (-1 : Int32)) hx hb dX3_isHallOrNone_1 (by decide) ?_
  refine lv_icmp_eq (tgt := 12) hx hb dX3_isHallOrNone_2 (by decide) (fun c2 => ?_) (fun c2 => ?_)
  · replace h := tw_t c2 h
    refine lv_iconst (v := (1 : Int32)) hx hb dX3_isHallOrNone_12 (by decide) ?_
    refine lv_goto (tgt := 17) hx hb dX3_isHallOrNone_13 (by decide) ?_
    exact hq H locs _ ls (1 : Int32) (tw_rt (fun r => r = (1 : Int32)) h rfl) rfl hP hS dX3_isHallOrNone_17
  · replace h := tw_f c2 h
    refine lv_iload_n hx hb dX3_isHallOrNone_5 rfl (lv_at hl 0 rfl) ?_
    obtain ⟨r6, e6, h⟩ := tw_bs h
    refine tw_callSiF (ws' := ([] : va_W)) (As := [.int p0]) (rest := []) F hN hK hP hD hS hA (mX3_isHall l G cI H.size p0 e6) (va_cwS 1 hts gX3_isHallOrNone_X3_isHall rfl rfl rfl (by decide +kernel) ⟨(Nat.le_of_ble_eq_true rfl), (Nat.le_of_ble_eq_true rfl)⟩) rfl rfl hl.1 rfl (Nat.le_of_ble_eq_true rfl) dX3_isHallOrNone_6 ⟨Nat.zero_le _, Nat.zero_le _⟩ (fun H locs hP hD hS => ?_)
    refine lv_if_eq (tgt := 16) hx hb dX3_isHallOrNone_9 (by decide) (fun c9 => ?_) (fun c9 => ?_)
    · replace h := tw_t c9 h
      refine lv_iconst (v := (0 : Int32)) hx hb dX3_isHallOrNone_16 (by decide) ?_
      exact hq H locs _ ls (0 : Int32) (tw_rt (fun r => r = (0 : Int32)) h rfl) rfl hP hS dX3_isHallOrNone_17
    · replace h := tw_f c9 h
      refine lv_iconst (v := (1 : Int32)) hx hb dX3_isHallOrNone_12 (by decide) ?_
      refine lv_goto (tgt := 17) hx hb dX3_isHallOrNone_13 (by decide) ?_
      exact hq H locs _ ls (1 : Int32) (tw_rt (fun r => r = (1 : Int32)) h rfl) rfl hP hS dX3_isHallOrNone_17
abbrev rmX3_isValue : Room := { frames := 2, cells := 0, slots := 0, locals := 40 }
set_option maxHeartbeats 4000000 in
set_option maxRecDepth 100000 in
theorem mX3_isValue (l : Launch) (G : va_G) (cI : ClassId)   (sz : Nat) (p0 : Int32) (p1 : Int32) {rv : Int32} (h : fX3_isValue p0 p1 = some rv) : tw_Mi l yX3_isValue wsX3_isValue rmX3_isValue G [(cI, .int)] ([] : va_W) [.int p0, .int p1] sz rv ([] : va_W) := by
  refine tw_ofi (ty := .boolean) (cc := cX3_isValue) (maxL := 2) (own := RX3) (by decide) rfl rfl (Nat.le_of_ble_eq_true rfl) ?_
  intro p e s m args below meth c Q A ls H locs F hN hK hP hD hS hA hl hq
  obtain ⟨hx, hb, hml, hown, hts⟩ := id F
  have hl : lv_has ls 2 [(0, .int p0), (1, .int p1)] := hl
  unfold fX3_isValue at h
  refine lv_iload_n hx hb dX3_isValue_0 rfl (lv_at hl 0 rfl) ?_
  by_cases c1_0 : p0 = 0
  · replace h := tw_t c1_0 h
    refine tw_tab (v := 0) (tgt := 32) hx hb dX3_isValue_1 c1_0 (by decide) (by decide) rfl (by decide) ?_
    refine lv_iload_n hx hb dX3_isValue_32 rfl (lv_at hl 1 rfl) ?_
    obtain ⟨r33, e33, h⟩ := tw_bs h
    refine tw_callSiF (ws' := ([] : va_W)) (As := [.int p1]) (rest := []) F hN hK hP hD hS hA (mX3_isLength l G cI H.size p1 e33) (va_cwS 1 hts gX3_isValue_X3_isLength rfl rfl rfl (by decide +kernel) ⟨(Nat.le_of_ble_eq_true rfl), (Nat.le_of_ble_eq_true rfl)⟩) rfl rfl hl.1 rfl (Nat.le_of_ble_eq_true rfl) dX3_isValue_33 ⟨Nat.zero_le _, Nat.zero_le _⟩ (fun H locs hP hD hS => ?_)
    obtain ⟨g36, h⟩ := tw_qs h
    exact hq H locs _ ls r33 (tw_rt (fun r => r = r33) h rfl) (tw_nb g36) hP hS dX3_isValue_36
  · replace h := tw_f c1_0 h
    by_cases c1_1 : p0 = 1
    · replace h := tw_t c1_1 h
      refine tw_tab (v := 1) (tgt := 37) hx hb dX3_isValue_1 c1_1 (by decide) (by decide) rfl (by decide) ?_
      refine lv_iload_n hx hb dX3_isValue_37 rfl (lv_at hl 1 rfl) ?_
      obtain ⟨r38, e38, h⟩ := tw_bs h
      refine tw_callSiF (ws' := ([] : va_W)) (As := [.int p1]) (rest := []) F hN hK hP hD hS hA (mX3_isPersonOrNone l G cI H.size p1 e38) (va_cwS 1 hts gX3_isValue_X3_isPersonOrNone rfl rfl rfl (by decide +kernel) ⟨(Nat.le_of_ble_eq_true rfl), (Nat.le_of_ble_eq_true rfl)⟩) rfl rfl hl.1 rfl (Nat.le_of_ble_eq_true rfl) dX3_isValue_38 ⟨Nat.zero_le _, Nat.zero_le _⟩ (fun H locs hP hD hS => ?_)
      obtain ⟨g41, h⟩ := tw_qs h
      exact hq H locs _ ls r38 (tw_rt (fun r => r = r38) h rfl) (tw_nb g41) hP hS dX3_isValue_41
    · replace h := tw_f c1_1 h
      by_cases c1_2 : p0 = 2
      · replace h := tw_t c1_2 h
        refine tw_tab (v := 2) (tgt := 42) hx hb dX3_isValue_1 c1_2 (by decide) (by decide) rfl (by decide) ?_
        refine lv_iload_n hx hb dX3_isValue_42 rfl (lv_at hl 1 rfl) ?_
        obtain ⟨r43, e43, h⟩ := tw_bs h
        refine tw_callSiF (ws' := ([] : va_W)) (As := [.int p1]) (rest := []) F hN hK hP hD hS hA (mX3_isHallOrNone l G cI H.size p1 e43) (va_cwS 1 hts gX3_isValue_X3_isHallOrNone rfl rfl rfl (by decide +kernel) ⟨(Nat.le_of_ble_eq_true rfl), (Nat.le_of_ble_eq_true rfl)⟩) rfl rfl hl.1 rfl (Nat.le_of_ble_eq_true rfl) dX3_isValue_43 ⟨Nat.zero_le _, Nat.zero_le _⟩ (fun H locs hP hD hS => ?_)
        obtain ⟨g46, h⟩ := tw_qs h
        exact hq H locs _ ls r43 (tw_rt (fun r => r = r43) h rfl) (tw_nb g46) hP hS dX3_isValue_46
      · replace h := tw_f c1_2 h
        by_cases c1_3 : p0 = 3
        · replace h := tw_t c1_3 h
          refine tw_tab (v := 3) (tgt := 47) hx hb dX3_isValue_1 c1_3 (by decide) (by decide) rfl (by decide) ?_
          refine lv_iload_n hx hb dX3_isValue_47 rfl (lv_at hl 1 rfl) ?_
          refine lv_if_lt (tgt := 61) hx hb dX3_isValue_48 (by decide) (fun c48 => ?_) (fun c48 => ?_)
          · replace h := tw_t c48 h
            refine lv_iconst (v := (0 : Int32)) hx hb dX3_isValue_61 (by decide) ?_
            exact hq H locs _ ls (0 : Int32) (tw_rt (fun r => r = (0 : Int32)) h rfl) rfl hP hS dX3_isValue_62
          · replace h := tw_f c48 h
            refine lv_iload_n hx hb dX3_isValue_51 rfl (lv_at hl 1 rfl) ?_
            refine lv_bipush (v := (60 : Int32)) hx hb dX3_isValue_52 (by decide) ?_
            refine lv_icmp_gt (tgt := 61) hx hb dX3_isValue_54 (by decide) (fun c54 => ?_) (fun c54 => ?_)
            · replace h := tw_t c54 h
              refine lv_iconst (v := (0 : Int32)) hx hb dX3_isValue_61 (by decide) ?_
              exact hq H locs _ ls (0 : Int32) (tw_rt (fun r => r = (0 : Int32)) h rfl) rfl hP hS dX3_isValue_62
            · replace h := tw_f c54 h
              refine lv_iconst (v := (1 : Int32)) hx hb dX3_isValue_57 (by decide) ?_
              refine lv_goto (tgt := 62) hx hb dX3_isValue_58 (by decide) ?_
              exact hq H locs _ ls (1 : Int32) (tw_rt (fun r => r = (1 : Int32)) h rfl) rfl hP hS dX3_isValue_62
        · replace h := tw_f c1_3 h
          have z0 := lv_neT c1_0 (a := 0) rfl
          have z1 := lv_neT c1_1 (a := 1) rfl
          have z2 := lv_neT c1_2 (a := 2) rfl
          have z3 := lv_neT c1_3 (a := 3) rfl
          refine lv_tableOut (tgt := 63) hx hb dX3_isValue_1 (by omega) (by decide) ?_
          refine lv_iconst (v := (0 : Int32)) hx hb dX3_isValue_63 (by decide) ?_
          exact hq H locs _ ls (0 : Int32) (tw_rt (fun r => r = (0 : Int32)) h rfl) rfl hP hS dX3_isValue_64
abbrev rmX3_bitsOf : Room := { frames := 0, cells := 0, slots := 0, locals := 0 }
set_option maxRecDepth 20000 in
theorem qX3_bitsOf_0 : (Cond.constantDouble RX3 261 4841369599423283200) ∈ wsX3_bitsOf := (List.mem_cons_of_mem _ (List.mem_of_getElem? (i := 1) rfl))
set_option maxRecDepth 20000 in
theorem qX3_bitsOf_1 : (Cond.constantDouble RX3 259 4611686018427387904) ∈ wsX3_bitsOf := (List.mem_cons_of_mem _ (List.mem_of_getElem? (i := 0) rfl))
set_option maxHeartbeats 4000000 in
set_option maxRecDepth 100000 in
theorem mX3_bitsOf (l : Launch) (G : va_G) (cI : ClassId)   (sz : Nat) (p0 : UInt64) {rv : Int64} (h : fX3_bitsOf p0 = some rv) : tw_Ml l yX3_bitsOf wsX3_bitsOf rmX3_bitsOf G [(cI, .int)] ([] : va_W) [.double p0] sz rv ([] : va_W) := by
  refine tw_ofl (cc := cX3_bitsOf) (maxL := 7) (own := RX3) (by decide) rfl rfl (Nat.le_of_ble_eq_true rfl) ?_
  intro p e s m args below meth c Q A ls H locs F hN hK hP hD hS hA hl hq
  obtain ⟨hx, hb, hml, hown, hts⟩ := id F
  have hl : lv_has ls 7 [(0, .double p0)] := hl
  unfold fX3_bitsOf at h
  have L81 : ∀ (v2 : UInt64) (v4 : Int32) (H : Heap) (locs : List Loc) (ls : Array Slot), fX3_bitsOf_81 p0 v2 v4 = some rv → lv_has ls 7 [(2, .double v2), (4, .int v4)] → va_P G vwCl ([] : va_W) H → va_D A ([] : va_W) → va_S A s.heap H locs → W p l e rmX3_bitsOf s m args below meth c H locs 0 0 Q (F0 m 81 ls []) := by
    intro v2 v4 H locs ls h hl hP hD hS
    unfold fX3_bitsOf_81 at h
    refine lv_dload_n hx hb dX3_bitsOf_81 rfl (lv_at hl 0 rfl) ?_
    refine lv_dconst1 hx hb dX3_bitsOf_82 ?_
    obtain ⟨g83, h⟩ := tw_qs h
    refine lv_dsub hx hb dX3_bitsOf_83 g83 ?_
    refine lv_ldc2d hx hb hown (hts _ qX3_bitsOf_0) dX3_bitsOf_84 ?_
    obtain ⟨g87, h⟩ := tw_qs h
    refine lv_dmul hx hb dX3_bitsOf_87 g87 ?_
    refine lv_d2l hx hb dX3_bitsOf_88 ?_
    refine lv_lstore (lv' := [(5, .long (FP.d2l (FP.dmul (FP.dsub v2 FP.dconst1) (4841369599423283200 : UInt64)))), (2, .double v2), (4, .int v4)]) hx hb dX3_bitsOf_89 hl (by decide) rfl (fun ls hl => ?_)
    refine lv_iload hx hb dX3_bitsOf_91 (lv_at hl 2 rfl) ?_
    refine lv_i2l hx hb dX3_bitsOf_93 rfl ?_
    refine lv_bipush (v := (52 : Int32)) hx hb dX3_bitsOf_94 (by decide) ?_
    refine lv_lshl hx hb dX3_bitsOf_96 rfl ?_
    refine lv_lload hx hb dX3_bitsOf_97 (lv_at hl 0 rfl) ?_
    refine lv_ladd hx hb dX3_bitsOf_99 ?_
    exact hq H locs _ ls ((v4.toInt64 <<< ((52 : Int32).toInt64 &&& 63)) + (FP.d2l (FP.dmul (FP.dsub v2 FP.dconst1) (4841369599423283200 : UInt64)))) (tw_rt (fun r => r = ((v4.toInt64 <<< ((52 : Int32).toInt64 &&& 63)) + (FP.d2l (FP.dmul (FP.dsub v2 FP.dconst1) (4841369599423283200 : UInt64))))) h rfl) hP hS dX3_bitsOf_100
  have L52 : ∀ (n52 : Nat) (v2 : UInt64) (v4 : Int32) (v5 : Int32) (H : Heap) (locs : List Loc) (ls : Array Slot), fX3_bitsOf_52 p0 n52 v2 v4 v5 = some rv → lv_has ls 7 [(2, .double v2), (4, .int v4), (5, .int v5)] → va_P G vwCl ([] : va_W) H → va_D A ([] : va_W) → va_S A s.heap H locs → W p l e rmX3_bitsOf s m args below meth c H locs 0 0 Q (F0 m 52 ls []) := by
    intro n52
    induction n52 with
    | zero =>
      intro v2 v4 v5 H locs ls h
      rw [fX3_bitsOf_52] at h
      cases h
    | succ n52 ih52 =>
      intro v2 v4 v5 H locs ls h hl hP hD hS
      rw [fX3_bitsOf_52] at h
      refine lv_iload hx hb dX3_bitsOf_52 (lv_at hl 2 rfl) ?_
      refine lv_sipush (v := (1022 : Int32)) hx hb dX3_bitsOf_54 (by decide) ?_
      refine lv_icmp_ge (tgt := 81) hx hb dX3_bitsOf_57 (by decide) (fun c57 => ?_) (fun c57 => ?_)
      · replace h := tw_t c57 h
        exact L81 v2 v4 H locs ls h (lv_sub hl [0, 1] rfl) hP hD hS
      · replace h := tw_f c57 h
        refine lv_dload_n hx hb dX3_bitsOf_60 rfl (lv_at hl 0 rfl) ?_
        refine lv_dconst1 hx hb dX3_bitsOf_61 ?_
        refine lv_dcmp hx hb dX3_bitsOf_62 ?_
        refine lv_if_ge (tgt := 81) hx hb dX3_bitsOf_63 (by decide) (fun c63 => ?_) (fun c63 => ?_)
        · replace h := tw_t c63 h
          exact L81 v2 v4 H locs ls h (lv_sub hl [0, 1] rfl) hP hD hS
        · replace h := tw_f c63 h
          refine lv_dload_n hx hb dX3_bitsOf_66 rfl (lv_at hl 0 rfl) ?_
          refine lv_ldc2d hx hb hown (hts _ qX3_bitsOf_1) dX3_bitsOf_67 ?_
          obtain ⟨g70, h⟩ := tw_qs h
          refine lv_dmul hx hb dX3_bitsOf_70 g70 ?_
          refine lv_dstore_n (lv' := [(2, .double (FP.dmul v2 (4611686018427387904 : UInt64))), (4, .int v4), (5, .int v5)]) hx hb dX3_bitsOf_71 rfl hl (by decide) rfl (fun ls hl => ?_)
          refine lv_iinc (v := (v4 + (-1))) (lv' := [(4, .int (v4 + (-1))), (2, .double (FP.dmul v2 (4611686018427387904 : UInt64))), (5, .int v5)]) hx hb dX3_bitsOf_72 hl (k := 1) rfl rfl (by decide) rfl (fun ls hl => ?_)
          refine lv_iinc (v := (v5 + 1)) (lv' := [(5, .int (v5 + 1)), (4, .int (v4 + (-1))), (2, .double (FP.dmul v2 (4611686018427387904 : UInt64)))]) hx hb dX3_bitsOf_75 hl (k := 2) rfl rfl (by decide) rfl (fun ls hl => ?_)
          refine lv_goto (tgt := 52) hx hb dX3_bitsOf_78 (by decide) ?_
          exact ih52 (FP.dmul v2 (4611686018427387904 : UInt64)) (v4 + (-1)) (v5 + 1) H locs ls h (lv_sub hl [2, 1, 0] rfl) hP hD hS
  have L18 : ∀ (n18 : Nat) (v2 : UInt64) (v4 : Int32) (v5 : Int32) (H : Heap) (locs : List Loc) (ls : Array Slot), fX3_bitsOf_18 p0 n18 v2 v4 v5 = some rv → lv_has ls 7 [(2, .double v2), (4, .int v4), (5, .int v5)] → va_P G vwCl ([] : va_W) H → va_D A ([] : va_W) → va_S A s.heap H locs → W p l e rmX3_bitsOf s m args below meth c H locs 0 0 Q (F0 m 18 ls []) := by
    intro n18
    induction n18 with
    | zero =>
      intro v2 v4 v5 H locs ls h
      rw [fX3_bitsOf_18] at h
      cases h
    | succ n18 ih18 =>
      intro v2 v4 v5 H locs ls h hl hP hD hS
      rw [fX3_bitsOf_18] at h
      refine lv_iload hx hb dX3_bitsOf_18 (lv_at hl 2 rfl) ?_
      refine lv_sipush (v := (1023 : Int32)) hx hb dX3_bitsOf_20 (by decide) ?_
      refine lv_icmp_ge (tgt := 49) hx hb dX3_bitsOf_23 (by decide) (fun c23 => ?_) (fun c23 => ?_)
      · replace h := tw_t c23 h
        refine lv_iconst (v := (0 : Int32)) hx hb dX3_bitsOf_49 (by decide) ?_
        refine lv_istore (lv' := [(5, .int (0 : Int32)), (2, .double v2), (4, .int v4)]) hx hb dX3_bitsOf_50 hl (by decide) rfl (fun ls hl => ?_)
        exact L52 512 v2 v4 (0 : Int32) H locs ls h (lv_sub hl [1, 2, 0] rfl) hP hD hS
      · replace h := tw_f c23 h
        refine lv_dload_n hx hb dX3_bitsOf_26 rfl (lv_at hl 0 rfl) ?_
        refine lv_ldc2d hx hb hown (hts _ qX3_bitsOf_1) dX3_bitsOf_27 ?_
        refine lv_dcmp hx hb dX3_bitsOf_30 ?_
        refine lv_if_lt (tgt := 49) hx hb dX3_bitsOf_31 (by decide) (fun c31 => ?_) (fun c31 => ?_)
        · replace h := tw_t c31 h
          refine lv_iconst (v := (0 : Int32)) hx hb dX3_bitsOf_49 (by decide) ?_
          refine lv_istore (lv' := [(5, .int (0 : Int32)), (2, .double v2), (4, .int v4)]) hx hb dX3_bitsOf_50 hl (by decide) rfl (fun ls hl => ?_)
          exact L52 512 v2 v4 (0 : Int32) H locs ls h (lv_sub hl [1, 2, 0] rfl) hP hD hS
        · replace h := tw_f c31 h
          refine lv_dload_n hx hb dX3_bitsOf_34 rfl (lv_at hl 0 rfl) ?_
          refine lv_ldc2d hx hb hown (hts _ qX3_bitsOf_1) dX3_bitsOf_35 ?_
          obtain ⟨g38, h⟩ := tw_qs h
          refine lv_ddiv hx hb dX3_bitsOf_38 g38 ?_
          refine lv_dstore_n (lv' := [(2, .double (FP.ddiv v2 (4611686018427387904 : UInt64))), (4, .int v4), (5, .int v5)]) hx hb dX3_bitsOf_39 rfl hl (by decide) rfl (fun ls hl => ?_)
          refine lv_iinc (v := (v4 + 1)) (lv' := [(4, .int (v4 + 1)), (2, .double (FP.ddiv v2 (4611686018427387904 : UInt64))), (5, .int v5)]) hx hb dX3_bitsOf_40 hl (k := 1) rfl rfl (by decide) rfl (fun ls hl => ?_)
          refine lv_iinc (v := (v5 + 1)) (lv' := [(5, .int (v5 + 1)), (4, .int (v4 + 1)), (2, .double (FP.ddiv v2 (4611686018427387904 : UInt64)))]) hx hb dX3_bitsOf_43 hl (k := 2) rfl rfl (by decide) rfl (fun ls hl => ?_)
          refine lv_goto (tgt := 18) hx hb dX3_bitsOf_46 (by decide) ?_
          exact ih18 (FP.ddiv v2 (4611686018427387904 : UInt64)) (v4 + 1) (v5 + 1) H locs ls h (lv_sub hl [2, 1, 0] rfl) hP hD hS
  refine lv_dload_n hx hb dX3_bitsOf_0 rfl (lv_at hl 0 rfl) ?_
  refine lv_dconst0 hx hb dX3_bitsOf_1 ?_
  refine lv_dcmp hx hb dX3_bitsOf_2 ?_
  refine lv_if_gt (tgt := 8) hx hb dX3_bitsOf_3 (by decide) (fun c3 => ?_) (fun c3 => ?_)
  · replace h := tw_t c3 h
    refine lv_dload_n hx hb dX3_bitsOf_8 rfl (lv_at hl 0 rfl) ?_
    refine lv_dstore_n (lv' := [(2, .double p0), (0, .double p0)]) hx hb dX3_bitsOf_9 rfl hl (by decide) rfl (fun ls hl => ?_)
    refine lv_sipush (v := (1023 : Int32)) hx hb dX3_bitsOf_10 (by decide) ?_
    refine lv_istore (lv' := [(4, .int (1023 : Int32)), (2, .double p0), (0, .double p0)]) hx hb dX3_bitsOf_13 hl (by decide) rfl (fun ls hl => ?_)
    refine lv_iconst (v := (0 : Int32)) hx hb dX3_bitsOf_15 (by decide) ?_
    refine lv_istore (lv' := [(5, .int (0 : Int32)), (4, .int (1023 : Int32)), (2, .double p0), (0, .double p0)]) hx hb dX3_bitsOf_16 hl (by decide) rfl (fun ls hl => ?_)
    exact L18 512 p0 (1023 : Int32) (0 : Int32) H locs ls h (lv_sub hl [2, 1, 0] rfl) hP hD hS
  · replace h := tw_f c3 h
    refine lv_lconst (v := (0 : Int64)) hx hb dX3_bitsOf_6 rfl ?_
    exact hq H locs _ ls (0 : Int64) (tw_rt (fun r => r = (0 : Int64)) h rfl) hP hS dX3_bitsOf_7
abbrev rmX2_isPartWhole : Room := { frames := 0, cells := 0, slots := 0, locals := 0 }
set_option maxHeartbeats 4000000 in
set_option maxRecDepth 100000 in
theorem mX2_isPartWhole (l : Launch) (G : va_G) (cI : ClassId)   (sz : Nat) (p0 : Int32) {rv : Int32} (h : fX2_isPartWhole p0 = some rv) : tw_Mi l yX2_isPartWhole wsX2_isPartWhole rmX2_isPartWhole G [(cI, .int)] ([] : va_W) [.int p0] sz rv ([] : va_W) := by
  refine tw_ofi (ty := .boolean) (cc := cX2_isPartWhole) (maxL := 1) (own := RX2) (by decide) rfl rfl (Nat.le_of_ble_eq_true rfl) ?_
  intro p e s m args below meth c Q A ls H locs F hN hK hP hD hS hA hl hq
  obtain ⟨hx, hb, hml, hown, hts⟩ := id F
  have hl : lv_has ls 1 [(0, .int p0)] := hl
  unfold fX2_isPartWhole at h
  refine lv_iload_n hx hb dX2_isPartWhole_0 rfl (lv_at hl 0 rfl) ?_
  refine lv_iconst (v := (4 : Int32)) hx hb dX2_isPartWhole_1 (by decide) ?_
  refine lv_icmp_lt (tgt := 15) hx hb dX2_isPartWhole_2 (by decide) (fun c2 => ?_) (fun c2 => ?_)
  · replace h := tw_t c2 h
    refine lv_iconst (v := (0 : Int32)) hx hb dX2_isPartWhole_15 (by decide) ?_
    exact hq H locs _ ls (0 : Int32) (tw_rt (fun r => r = (0 : Int32)) h rfl) rfl hP hS dX2_isPartWhole_16
  · replace h := tw_f c2 h
    refine lv_iload_n hx hb dX2_isPartWhole_5 rfl (lv_at hl 0 rfl) ?_
    refine lv_bipush (v := (7 : Int32)) hx hb dX2_isPartWhole_6 (by decide) ?_
    refine lv_icmp_eq (tgt := 15) hx hb dX2_isPartWhole_8 (by decide) (fun c8 => ?_) (fun c8 => ?_)
    · replace h := tw_t c8 h
      refine lv_iconst (v := (0 : Int32)) hx hb dX2_isPartWhole_15 (by decide) ?_
      exact hq H locs _ ls (0 : Int32) (tw_rt (fun r => r = (0 : Int32)) h rfl) rfl hP hS dX2_isPartWhole_16
    · replace h := tw_f c8 h
      refine lv_iconst (v := (1 : Int32)) hx hb dX2_isPartWhole_11 (by decide) ?_
      refine lv_goto (tgt := 16) hx hb dX2_isPartWhole_12 (by decide) ?_
      exact hq H locs _ ls (1 : Int32) (tw_rt (fun r => r = (1 : Int32)) h rfl) rfl hP hS dX2_isPartWhole_16
abbrev rmX2_placeBehindMark : Room := { frames := 0, cells := 0, slots := 0, locals := 0 }
set_option maxHeartbeats 4000000 in
set_option maxRecDepth 100000 in
theorem mX2_placeBehindMark (l : Launch) (G : va_G) (cI : ClassId)   (sz : Nat) (p0 : Int32) (p1 : Int32) {rv : Int32} (h : fX2_placeBehindMark p0 p1 = some rv) : tw_Mi l yX2_placeBehindMark wsX2_placeBehindMark rmX2_placeBehindMark G [(cI, .int)] ([] : va_W) [.int p0, .int p1] sz rv ([] : va_W) := by
  refine tw_ofi (ty := .int) (cc := cX2_placeBehindMark) (maxL := 2) (own := RX2) (by decide) rfl rfl (Nat.le_of_ble_eq_true rfl) ?_
  intro p e s m args below meth c Q A ls H locs F hN hK hP hD hS hA hl hq
  obtain ⟨hx, hb, hml, hown, hts⟩ := id F
  have hl : lv_has ls 2 [(0, .int p0), (1, .int p1)] := hl
  unfold fX2_placeBehindMark at h
  have L31 : ∀  (H : Heap) (locs : List Loc) (ls : Array Slot), fX2_placeBehindMark_31 p0 p1 = some rv → lv_has ls 2 [(0, .int p0), (1, .int p1)] → va_P G vwCl ([] : va_W) H → va_D A ([] : va_W) → va_S A s.heap H locs → W p l e rmX2_placeBehindMark s m args below meth c H locs 0 0 Q (F0 m 31 ls []) := by
    intro  H locs ls h hl hP hD hS
    unfold fX2_placeBehindMark_31 at h
    refine lv_iload_n hx hb dX2_placeBehindMark_31 rfl (lv_at hl 1 rfl) ?_
    refine lv_bipush (v := (110 : Int32)) hx hb dX2_placeBehindMark_32 (by decide) ?_
    refine lv_icmp_ne (tgt := 47) hx hb dX2_placeBehindMark_34 (by decide) (fun c34 => ?_) (fun c34 => ?_)
    · replace h := tw_t c34 h
      refine lv_iconst (v := (-1 : Int32)) hx hb dX2_placeBehindMark_47 (by decide) ?_
      exact hq H locs _ ls (-1 : Int32) (tw_rt (fun r => r = (-1 : Int32)) h rfl) rfl hP hS dX2_placeBehindMark_48
    · replace h := tw_fn c34 h
      refine lv_iload_n hx hb dX2_placeBehindMark_37 rfl (lv_at hl 0 rfl) ?_
      refine lv_iconst (v := (-1 : Int32)) hx hb dX2_placeBehindMark_38 (by decide) ?_
      refine lv_icmp_eq (tgt := 47) hx hb dX2_placeBehindMark_39 (by decide) (fun c39 => ?_) (fun c39 => ?_)
      · replace h := tw_t c39 h
        refine lv_iconst (v := (-1 : Int32)) hx hb dX2_placeBehindMark_47 (by decide) ?_
        exact hq H locs _ ls (-1 : Int32) (tw_rt (fun r => r = (-1 : Int32)) h rfl) rfl hP hS dX2_placeBehindMark_48
      · replace h := tw_f c39 h
        refine lv_bipush (v := (7 : Int32)) hx hb dX2_placeBehindMark_42 (by decide) ?_
        refine lv_goto (tgt := 48) hx hb dX2_placeBehindMark_44 (by decide) ?_
        exact hq H locs _ ls (7 : Int32) (tw_rt (fun r => r = (7 : Int32)) h rfl) rfl hP hS dX2_placeBehindMark_48
  have L13 : ∀  (H : Heap) (locs : List Loc) (ls : Array Slot), fX2_placeBehindMark_13 p0 p1 = some rv → lv_has ls 2 [(0, .int p0), (1, .int p1)] → va_P G vwCl ([] : va_W) H → va_D A ([] : va_W) → va_S A s.heap H locs → W p l e rmX2_placeBehindMark s m args below meth c H locs 0 0 Q (F0 m 13 ls []) := by
    intro  H locs ls h hl hP hD hS
    unfold fX2_placeBehindMark_13 at h
    refine lv_iload_n hx hb dX2_placeBehindMark_13 rfl (lv_at hl 1 rfl) ?_
    refine lv_bipush (v := (104 : Int32)) hx hb dX2_placeBehindMark_14 (by decide) ?_
    refine lv_icmp_ne (tgt := 31) hx hb dX2_placeBehindMark_16 (by decide) (fun c16 => ?_) (fun c16 => ?_)
    · replace h := tw_t c16 h
      exact L31  H locs ls h (lv_sub hl [0, 1] rfl) hP hD hS
    · replace h := tw_fn c16 h
      refine lv_iload_n hx hb dX2_placeBehindMark_19 rfl (lv_at hl 0 rfl) ?_
      refine lv_iconst (v := (4 : Int32)) hx hb dX2_placeBehindMark_20 (by decide) ?_
      refine lv_icmp_eq (tgt := 29) hx hb dX2_placeBehindMark_21 (by decide) (fun c21 => ?_) (fun c21 => ?_)
      · replace h := tw_t c21 h
        refine lv_iconst (v := (3 : Int32)) hx hb dX2_placeBehindMark_29 (by decide) ?_
        exact hq H locs _ ls (3 : Int32) (tw_rt (fun r => r = (3 : Int32)) h rfl) rfl hP hS dX2_placeBehindMark_30
      · replace h := tw_f c21 h
        refine lv_iload_n hx hb dX2_placeBehindMark_24 rfl (lv_at hl 0 rfl) ?_
        refine lv_iconst (v := (5 : Int32)) hx hb dX2_placeBehindMark_25 (by decide) ?_
        refine lv_icmp_ne (tgt := 31) hx hb dX2_placeBehindMark_26 (by decide) (fun c26 => ?_) (fun c26 => ?_)
        · replace h := tw_t c26 h
          exact L31  H locs ls h (lv_sub hl [0, 1] rfl) hP hD hS
        · replace h := tw_fn c26 h
          refine lv_iconst (v := (3 : Int32)) hx hb dX2_placeBehindMark_29 (by decide) ?_
          exact hq H locs _ ls (3 : Int32) (tw_rt (fun r => r = (3 : Int32)) h rfl) rfl hP hS dX2_placeBehindMark_30
  refine lv_iload_n hx hb dX2_placeBehindMark_0 rfl (lv_at hl 1 rfl) ?_
  refine lv_bipush (v := (112 : Int32)) hx hb dX2_placeBehindMark_1 (by decide) ?_
  refine lv_icmp_ne (tgt := 13) hx hb dX2_placeBehindMark_3 (by decide) (fun c3 => ?_) (fun c3 => ?_)
  · replace h := tw_t c3 h
    exact L13  H locs ls h (lv_sub hl [0, 1] rfl) hP hD hS
  · replace h := tw_fn c3 h
    refine lv_iload_n hx hb dX2_placeBehindMark_6 rfl (lv_at hl 0 rfl) ?_
    refine lv_iconst (v := (4 : Int32)) hx hb dX2_placeBehindMark_7 (by decide) ?_
    refine lv_icmp_ne (tgt := 13) hx hb dX2_placeBehindMark_8 (by decide) (fun c8 => ?_) (fun c8 => ?_)
    · replace h := tw_t c8 h
      exact L13  H locs ls h (lv_sub hl [0, 1] rfl) hP hD hS
    · replace h := tw_fn c8 h
      refine lv_iconst (v := (2 : Int32)) hx hb dX2_placeBehindMark_11 (by decide) ?_
      exact hq H locs _ ls (2 : Int32) (tw_rt (fun r => r = (2 : Int32)) h rfl) rfl hP hS dX2_placeBehindMark_12
abbrev rmX2_placeBehind : Room := { frames := 1, cells := 0, slots := 0, locals := 21 }
set_option maxRecDepth 20000 in
theorem qX2_placeBehind_0 : (Cond.initialized RX3) ∈ wsX2_placeBehind := (List.mem_cons_of_mem _ (List.mem_of_getElem? (i := 5) rfl))
set_option maxRecDepth 20000 in
theorem qX2_placeBehind_1 : (Cond.static yX3_isLength) ∈ wsX2_placeBehind := (List.mem_cons_of_mem _ (List.mem_of_getElem? (i := 4) rfl))
set_option maxRecDepth 20000 in
theorem qX2_placeBehind_2 : (Cond.static yX3_isPerson) ∈ wsX2_placeBehind := (List.mem_cons_of_mem _ (List.mem_of_getElem? (i := 7) rfl))
set_option maxRecDepth 20000 in
theorem qX2_placeBehind_3 : (Cond.static yX3_isHall) ∈ wsX2_placeBehind := (List.mem_cons_of_mem _ (List.mem_of_getElem? (i := 9) rfl))
set_option maxHeartbeats 4000000 in
set_option maxRecDepth 100000 in
theorem mX2_placeBehind (l : Launch) (G : va_G) (cI : ClassId)   (sz : Nat) (p0 : Int32) (p1 : Int32) {rv : Int32} (h : fX2_placeBehind p0 p1 = some rv) : tw_Mi l yX2_placeBehind wsX2_placeBehind rmX2_placeBehind G [(cI, .int)] ([] : va_W) [.int p0, .int p1] sz rv ([] : va_W) := by
  refine tw_ofi (ty := .int) (cc := cX2_placeBehind) (maxL := 3) (own := RX2) (by decide) rfl rfl (Nat.le_of_ble_eq_true rfl) ?_
  intro p e s m args below meth c Q A ls H locs F hN hK hP hD hS hA hl hq
  obtain ⟨hx, hb, hml, hown, hts⟩ := id F
  have hl : lv_has ls 3 [(0, .int p0), (1, .int p1)] := hl
  unfold fX2_placeBehind at h
  have L50 : ∀ (t0 : Int32) (H : Heap) (locs : List Loc) (ls : Array Slot), fX2_placeBehind_50 p0 p1 t0 = some rv → lv_has ls 3 [(1, .int p1)] → va_P G vwCl ([] : va_W) H → va_D A ([] : va_W) → va_S A s.heap H locs → W p l e rmX2_placeBehind s m args below meth c H locs 0 0 Q (F0 m 50 ls [.int t0]) := by
    intro t0 H locs ls h hl hP hD hS
    unfold fX2_placeBehind_50 at h
    refine lv_istore_n (lv' := [(2, .int t0), (1, .int p1)]) hx hb dX2_placeBehind_50 rfl hl (by decide) rfl (fun ls hl => ?_)
    refine lv_iload_n hx hb dX2_placeBehind_51 rfl (lv_at hl 0 rfl) ?_
    refine lv_if_eq (tgt := 67) hx hb dX2_placeBehind_52 (by decide) (fun c52 => ?_) (fun c52 => ?_)
    · replace h := tw_t c52 h
      refine lv_iconst (v := (-1 : Int32)) hx hb dX2_placeBehind_67 (by decide) ?_
      exact hq H locs _ ls (-1 : Int32) (tw_rt (fun r => r = (-1 : Int32)) h rfl) rfl hP hS dX2_placeBehind_68
    · replace h := tw_f c52 h
      refine lv_bipush (v := (7 : Int32)) hx hb dX2_placeBehind_55 (by decide) ?_
      refine lv_iload_n hx hb dX2_placeBehind_57 rfl (lv_at hl 1 rfl) ?_
      refine lv_bipush (v := (97 : Int32)) hx hb dX2_placeBehind_58 (by decide) ?_
      refine lv_isub hx hb dX2_placeBehind_60 ?_
      refine lv_iadd hx hb dX2_placeBehind_61 ?_
      refine lv_iconst (v := (1 : Int32)) hx hb dX2_placeBehind_62 (by decide) ?_
      refine lv_iadd hx hb dX2_placeBehind_63 ?_
      refine lv_goto (tgt := 68) hx hb dX2_placeBehind_64 (by decide) ?_
      exact hq H locs _ ls (((7 : Int32) + (p1 - (97 : Int32))) + (1 : Int32)) (tw_rt (fun r => r = (((7 : Int32) + (p1 - (97 : Int32))) + (1 : Int32))) h rfl) rfl hP hS dX2_placeBehind_68
  refine lv_iload_n hx hb dX2_placeBehind_0 rfl (lv_at hl 1 rfl) ?_
  refine lv_bipush (v := (59 : Int32)) hx hb dX2_placeBehind_1 (by decide) ?_
  refine lv_icmp_ne (tgt := 19) hx hb dX2_placeBehind_3 (by decide) (fun c3 => ?_) (fun c3 => ?_)
  · replace h := tw_t c3 h
    refine lv_iload_n hx hb dX2_placeBehind_19 rfl (lv_at hl 0 rfl) ?_
    refine lv_bipush (v := (7 : Int32)) hx hb dX2_placeBehind_20 (by decide) ?_
    refine lv_icmp_lt (tgt := 69) hx hb dX2_placeBehind_22 (by decide) (fun c22 => ?_) (fun c22 => ?_)
    · replace h := tw_t c22 h
      refine lv_iload_n hx hb dX2_placeBehind_69 rfl (lv_at hl 0 rfl) ?_
      by_cases c70_0 : p0 = 0
      · replace h := tw_t c70_0 h
        refine tw_tab (v := 0) (tgt := 100) hx hb dX2_placeBehind_70 c70_0 (by decide) (by decide) rfl (by decide) ?_
        refine lv_iload_n hx hb dX2_placeBehind_100 rfl (lv_at hl 1 rfl) ?_
        refine lv_bipush (v := (100 : Int32)) hx hb dX2_placeBehind_101 (by decide) ?_
        refine lv_icmp_ne (tgt := 110) hx hb dX2_placeBehind_103 (by decide) (fun c103 => ?_) (fun c103 => ?_)
        · replace h := tw_t c103 h
          refine lv_iconst (v := (-1 : Int32)) hx hb dX2_placeBehind_110 (by decide) ?_
          exact hq H locs _ ls (-1 : Int32) (tw_rt (fun r => r = (-1 : Int32)) h rfl) rfl hP hS dX2_placeBehind_111
        · replace h := tw_fn c103 h
          refine lv_iconst (v := (1 : Int32)) hx hb dX2_placeBehind_106 (by decide) ?_
          refine lv_goto (tgt := 111) hx hb dX2_placeBehind_107 (by decide) ?_
          exact hq H locs _ ls (1 : Int32) (tw_rt (fun r => r = (1 : Int32)) h rfl) rfl hP hS dX2_placeBehind_111
      · replace h := tw_f c70_0 h
        by_cases c70_1 : p0 = 1
        · replace h := tw_t c70_1 h
          refine tw_tab (v := 1) (tgt := 112) hx hb dX2_placeBehind_70 c70_1 (by decide) (by decide) rfl (by decide) ?_
          refine lv_iload_n hx hb dX2_placeBehind_112 rfl (lv_at hl 1 rfl) ?_
          refine lv_bipush (v := (48 : Int32)) hx hb dX2_placeBehind_113 (by decide) ?_
          refine lv_isub hx hb dX2_placeBehind_115 ?_
          obtain ⟨r116, e116, h⟩ := tw_bs h
          refine tw_callSNi (ws' := ([] : va_W)) (As := [.int (p1 - (48 : Int32))]) (rest := []) F hN hK hP hD hS hA (mX3_isLength l G cI H.size (p1 - (48 : Int32)) e116) ⟨va_cnB 1 hts gX2_placeBehind_X3_isLength_n27 rfl rfl rfl hN.1 (hts _ qX2_placeBehind_0) (by decide +kernel) ⟨(Nat.le_of_ble_eq_true rfl), (Nat.le_of_ble_eq_true rfl)⟩, (hts _ qX2_placeBehind_1), trivial⟩ [0] rfl [] (by decide) rfl rfl rfl rfl hl.1 rfl (Nat.le_of_ble_eq_true rfl) dX2_placeBehind_116 ⟨Nat.zero_le _, Nat.zero_le _⟩ (fun H locs hP hD hS => ?_)
          refine lv_if_eq (tgt := 126) hx hb dX2_placeBehind_119 (by decide) (fun c119 => ?_) (fun c119 => ?_)
          · replace h := tw_t c119 h
            refine lv_iconst (v := (-1 : Int32)) hx hb dX2_placeBehind_126 (by decide) ?_
            exact hq H locs _ ls (-1 : Int32) (tw_rt (fun r => r = (-1 : Int32)) h rfl) rfl hP hS dX2_placeBehind_127
          · replace h := tw_f c119 h
            refine lv_iconst (v := (4 : Int32)) hx hb dX2_placeBehind_122 (by decide) ?_
            refine lv_goto (tgt := 127) hx hb dX2_placeBehind_123 (by decide) ?_
            exact hq H locs _ ls (4 : Int32) (tw_rt (fun r => r = (4 : Int32)) h rfl) rfl hP hS dX2_placeBehind_127
        · replace h := tw_f c70_1 h
          by_cases c70_2 : p0 = 2
          · replace h := tw_t c70_2 h
            refine tw_tab (v := 2) (tgt := 128) hx hb dX2_placeBehind_70 c70_2 (by decide) (by decide) rfl (by decide) ?_
            refine lv_iload_n hx hb dX2_placeBehind_128 rfl (lv_at hl 1 rfl) ?_
            refine lv_bipush (v := (48 : Int32)) hx hb dX2_placeBehind_129 (by decide) ?_
            refine lv_isub hx hb dX2_placeBehind_131 ?_
            obtain ⟨r132, e132, h⟩ := tw_bs h
            refine tw_callSNi (ws' := ([] : va_W)) (As := [.int (p1 - (48 : Int32))]) (rest := []) F hN hK hP hD hS hA (mX3_isPerson l G cI H.size (p1 - (48 : Int32)) e132) ⟨va_cnB 1 hts gX2_placeBehind_X3_isPerson_n30 rfl rfl rfl hN.2.1 (hts _ qX2_placeBehind_0) (by decide +kernel) ⟨(Nat.le_of_ble_eq_true rfl), (Nat.le_of_ble_eq_true rfl)⟩, (hts _ qX2_placeBehind_2), trivial⟩ [0] rfl [] (by decide) rfl rfl rfl rfl hl.1 rfl (Nat.le_of_ble_eq_true rfl) dX2_placeBehind_132 ⟨Nat.zero_le _, Nat.zero_le _⟩ (fun H locs hP hD hS => ?_)
            refine lv_if_eq (tgt := 142) hx hb dX2_placeBehind_135 (by decide) (fun c135 => ?_) (fun c135 => ?_)
            · replace h := tw_t c135 h
              refine lv_iconst (v := (-1 : Int32)) hx hb dX2_placeBehind_142 (by decide) ?_
              exact hq H locs _ ls (-1 : Int32) (tw_rt (fun r => r = (-1 : Int32)) h rfl) rfl hP hS dX2_placeBehind_143
            · replace h := tw_f c135 h
              refine lv_iconst (v := (5 : Int32)) hx hb dX2_placeBehind_138 (by decide) ?_
              refine lv_goto (tgt := 143) hx hb dX2_placeBehind_139 (by decide) ?_
              exact hq H locs _ ls (5 : Int32) (tw_rt (fun r => r = (5 : Int32)) h rfl) rfl hP hS dX2_placeBehind_143
          · replace h := tw_f c70_2 h
            by_cases c70_3 : p0 = 3
            · replace h := tw_t c70_3 h
              refine tw_tab (v := 3) (tgt := 144) hx hb dX2_placeBehind_70 c70_3 (by decide) (by decide) rfl (by decide) ?_
              refine lv_iload_n hx hb dX2_placeBehind_144 rfl (lv_at hl 1 rfl) ?_
              refine lv_bipush (v := (48 : Int32)) hx hb dX2_placeBehind_145 (by decide) ?_
              refine lv_isub hx hb dX2_placeBehind_147 ?_
              obtain ⟨r148, e148, h⟩ := tw_bs h
              refine tw_callSNi (ws' := ([] : va_W)) (As := [.int (p1 - (48 : Int32))]) (rest := []) F hN hK hP hD hS hA (mX3_isHall l G cI H.size (p1 - (48 : Int32)) e148) ⟨va_cnB 1 hts gX2_placeBehind_X3_isHall_n33 rfl rfl rfl hN.2.2.1 (hts _ qX2_placeBehind_0) (by decide +kernel) ⟨(Nat.le_of_ble_eq_true rfl), (Nat.le_of_ble_eq_true rfl)⟩, (hts _ qX2_placeBehind_3), trivial⟩ [0] rfl [] (by decide) rfl rfl rfl rfl hl.1 rfl (Nat.le_of_ble_eq_true rfl) dX2_placeBehind_148 ⟨Nat.zero_le _, Nat.zero_le _⟩ (fun H locs hP hD hS => ?_)
              refine lv_if_eq (tgt := 159) hx hb dX2_placeBehind_151 (by decide) (fun c151 => ?_) (fun c151 => ?_)
              · replace h := tw_t c151 h
                refine lv_iconst (v := (-1 : Int32)) hx hb dX2_placeBehind_159 (by decide) ?_
                exact hq H locs _ ls (-1 : Int32) (tw_rt (fun r => r = (-1 : Int32)) h rfl) rfl hP hS dX2_placeBehind_160
              · replace h := tw_f c151 h
                refine lv_bipush (v := (6 : Int32)) hx hb dX2_placeBehind_154 (by decide) ?_
                refine lv_goto (tgt := 160) hx hb dX2_placeBehind_156 (by decide) ?_
                exact hq H locs _ ls (6 : Int32) (tw_rt (fun r => r = (6 : Int32)) h rfl) rfl hP hS dX2_placeBehind_160
            · replace h := tw_f c70_3 h
              have z0 := lv_neT c70_0 (a := 0) rfl
              have z1 := lv_neT c70_1 (a := 1) rfl
              have z2 := lv_neT c70_2 (a := 2) rfl
              have z3 := lv_neT c70_3 (a := 3) rfl
              refine lv_tableOut (tgt := 161) hx hb dX2_placeBehind_70 (by omega) (by decide) ?_
              refine lv_iload_n hx hb dX2_placeBehind_161 rfl (lv_at hl 0 rfl) ?_
              refine lv_iload_n hx hb dX2_placeBehind_162 rfl (lv_at hl 1 rfl) ?_
              obtain ⟨r163, e163, h⟩ := tw_bs h
              refine tw_callSiF (ws' := ([] : va_W)) (As := [.int p0, .int p1]) (rest := []) F hN hK hP hD hS hA (mX2_placeBehindMark l G cI H.size p0 p1 e163) (va_cwS 2 hts gX2_placeBehind_X2_placeBehindMark rfl rfl rfl (by decide +kernel) ⟨(Nat.le_of_ble_eq_true rfl), (Nat.le_of_ble_eq_true rfl)⟩) rfl rfl hl.1 rfl (Nat.le_of_ble_eq_true rfl) dX2_placeBehind_163 ⟨Nat.zero_le _, Nat.zero_le _⟩ (fun H locs hP hD hS => ?_)
              exact hq H locs _ ls r163 (tw_rt (fun r => r = r163) h rfl) rfl hP hS dX2_placeBehind_166
    · replace h := tw_f c22 h
      refine lv_iload_n hx hb dX2_placeBehind_25 rfl (lv_at hl 1 rfl) ?_
      refine lv_bipush (v := (97 : Int32)) hx hb dX2_placeBehind_26 (by decide) ?_
      refine lv_isub hx hb dX2_placeBehind_28 ?_
      refine lv_iload_n hx hb dX2_placeBehind_29 rfl (lv_at hl 0 rfl) ?_
      refine lv_bipush (v := (7 : Int32)) hx hb dX2_placeBehind_30 (by decide) ?_
      refine lv_isub hx hb dX2_placeBehind_32 ?_
      refine lv_icmp_lt (tgt := 49) hx hb dX2_placeBehind_33 (by decide) (fun c33 => ?_) (fun c33 => ?_)
      · replace h := tw_t c33 h
        refine lv_iconst (v := (0 : Int32)) hx hb dX2_placeBehind_49 (by decide) ?_
        exact L50 (0 : Int32) H locs ls h (lv_sub hl [1] rfl) hP hD hS
      · replace h := tw_f c33 h
        refine lv_iload_n hx hb dX2_placeBehind_36 rfl (lv_at hl 1 rfl) ?_
        refine lv_bipush (v := (97 : Int32)) hx hb dX2_placeBehind_37 (by decide) ?_
        refine lv_isub hx hb dX2_placeBehind_39 ?_
        refine lv_bipush (v := (12 : Int32)) hx hb dX2_placeBehind_40 (by decide) ?_
        refine lv_icmp_ge (tgt := 49) hx hb dX2_placeBehind_42 (by decide) (fun c42 => ?_) (fun c42 => ?_)
        · replace h := tw_t c42 h
          refine lv_iconst (v := (0 : Int32)) hx hb dX2_placeBehind_49 (by decide) ?_
          exact L50 (0 : Int32) H locs ls h (lv_sub hl [1] rfl) hP hD hS
        · replace h := tw_f c42 h
          refine lv_iconst (v := (1 : Int32)) hx hb dX2_placeBehind_45 (by decide) ?_
          refine lv_goto (tgt := 50) hx hb dX2_placeBehind_46 (by decide) ?_
          exact L50 (1 : Int32) H locs ls h (lv_sub hl [1] rfl) hP hD hS
  · replace h := tw_fn c3 h
    refine lv_iload_n hx hb dX2_placeBehind_6 rfl (lv_at hl 0 rfl) ?_
    obtain ⟨r7, e7, h⟩ := tw_bs h
    refine tw_callSiF (ws' := ([] : va_W)) (As := [.int p0]) (rest := []) F hN hK hP hD hS hA (mX2_isPartWhole l G cI H.size p0 e7) (va_cwS 1 hts gX2_placeBehind_X2_isPartWhole rfl rfl rfl (by decide +kernel) ⟨(Nat.le_of_ble_eq_true rfl), (Nat.le_of_ble_eq_true rfl)⟩) rfl rfl hl.1 rfl (Nat.le_of_ble_eq_true rfl) dX2_placeBehind_7 ⟨Nat.zero_le _, Nat.zero_le _⟩ (fun H locs hP hD hS => ?_)
    refine lv_if_eq (tgt := 17) hx hb dX2_placeBehind_10 (by decide) (fun c10 => ?_) (fun c10 => ?_)
    · replace h := tw_t c10 h
      refine lv_iconst (v := (-1 : Int32)) hx hb dX2_placeBehind_17 (by decide) ?_
      exact hq H locs _ ls (-1 : Int32) (tw_rt (fun r => r = (-1 : Int32)) h rfl) rfl hP hS dX2_placeBehind_18
    · replace h := tw_f c10 h
      refine lv_iconst (v := (0 : Int32)) hx hb dX2_placeBehind_13 (by decide) ?_
      refine lv_goto (tgt := 18) hx hb dX2_placeBehind_14 (by decide) ?_
      exact hq H locs _ ls (0 : Int32) (tw_rt (fun r => r = (0 : Int32)) h rfl) rfl hP hS dX2_placeBehind_18
abbrev rmX2_firstWrong : Room := { frames := 2, cells := 0, slots := 0, locals := 43 }
set_option maxRecDepth 20000 in
theorem qX2_firstWrong_0 : (Cond.fieldLink RX2 15 "TheatreWall$Text" "size" "I") ∈ wsX2_firstWrong := (List.mem_cons_of_mem _ (List.mem_append_left _ (List.mem_of_getElem? (i := 0) rfl)))
set_option maxRecDepth 20000 in
theorem qX2_firstWrong_1 : (Cond.fieldLink RX2 9 "TheatreWall$Text" "codes" "[I") ∈ wsX2_firstWrong := (List.mem_cons_of_mem _ (List.mem_append_left _ (List.mem_of_getElem? (i := 1) rfl)))
set_option maxRecDepth 20000 in
theorem iX2_firstWrong_X2 : ∀ w ∈ u_ws RX2 TX2 2, w ∈ wsX2_firstWrong := fun w h => (List.mem_cons_of_mem _ (List.mem_append_right _ h))
set_option maxHeartbeats 4000000 in
set_option maxRecDepth 100000 in
theorem mX2_firstWrong (l : Launch) (G : va_G) (cI : ClassId) (xa : Nat → Nat) (X : tw_Tx) (sz : Nat)  {rv : Int32} (h : fX2_firstWrong X = some rv) : tw_Mi l yX2_firstWrong wsX2_firstWrong rmX2_firstWrong G [(cI, .int)] (tw_wT cI xa X) [.ref (xa 0)] sz rv (tw_wT cI xa X) := by
  refine tw_ofi (ty := .int) (cc := cX2_firstWrong) (maxL := 3) (own := RX2) (by decide) rfl rfl (Nat.le_of_ble_eq_true rfl) ?_
  intro p e s m args below meth c Q A ls H locs F hN hK hP hD hS hA hl hq
  obtain ⟨hx, hb, hml, hown, hts⟩ := id F
  have hl : lv_has ls 3 [(0, .ref (xa 0))] := hl
  unfold fX2_firstWrong at h
  have L4 : ∀ (n4 : Nat) (v1 : Int32) (v2 : Int32) (H : Heap) (locs : List Loc) (ls : Array Slot), fX2_firstWrong_4 X n4 v1 v2 = some rv → lv_has ls 3 [(0, .ref (xa 0)), (1, .int v1), (2, .int v2)] → va_P G vwCl (tw_wT cI xa X) H → va_D A (tw_wT cI xa X) → va_S A s.heap H locs → W p l e rmX2_firstWrong s m args below meth c H locs 0 0 Q (F0 m 4 ls []) := by
    intro n4
    induction n4 with
    | zero =>
      intro v1 v2 H locs ls h
      rw [fX2_firstWrong_4] at h
      cases h
    | succ n4 ih4 =>
      intro v1 v2 H locs ls h hl hP hD hS
      rw [fX2_firstWrong_4] at h
      refine lv_iload_n hx hb dX2_firstWrong_4 rfl (lv_at hl 2 rfl) ?_
      refine lv_aload_n hx hb dX2_firstWrong_5 rfl (lv_at hl 0 rfl) ?_
      refine va_get (D := G) (ci := 2) (v := .int X.2) (C := RX2) (T := TX2) (N := 2) hx hb hts iX2_firstWrong_X2 hown hK hP 0 rfl rfl 1 (by decide) (hts _ qX2_firstWrong_0) (fun _ h9 => h9) rfl dX2_firstWrong_6 ?_
      refine lv_icmp_ge (tgt := 36) hx hb dX2_firstWrong_9 (by decide) (fun c9 => ?_) (fun c9 => ?_)
      · replace h := tw_t c9 h
        refine lv_aload_n hx hb dX2_firstWrong_36 rfl (lv_at hl 0 rfl) ?_
        refine va_get (D := G) (ci := 2) (v := .int X.2) (C := RX2) (T := TX2) (N := 2) hx hb hts iX2_firstWrong_X2 hown hK hP 0 rfl rfl 1 (by decide) (hts _ qX2_firstWrong_0) (fun _ h9 => h9) rfl dX2_firstWrong_37 ?_
        exact hq H locs _ ls X.2 (tw_rt (fun r => r = X.2) h rfl) rfl hP hS dX2_firstWrong_40
      · replace h := tw_f c9 h
        refine lv_iload_n hx hb dX2_firstWrong_12 rfl (lv_at hl 1 rfl) ?_
        refine lv_aload_n hx hb dX2_firstWrong_13 rfl (lv_at hl 0 rfl) ?_
        refine va_get (D := G) (ci := 2) (v := .ref (xa 1)) (C := RX2) (T := TX2) (N := 2) hx hb hts iX2_firstWrong_X2 hown hK hP 0 rfl rfl 0 (by decide) (hts _ qX2_firstWrong_1) (fun _ h9 => h9) rfl dX2_firstWrong_14 ?_
        refine lv_iload_n hx hb dX2_firstWrong_17 rfl (lv_at hl 2 rfl) ?_
        obtain ⟨g18, h⟩ := tw_gs h
        refine va_iald (f := X.1) (n := 60) hx hb hK hP 1 0 rfl rfl g18 dX2_firstWrong_18 ?_
        obtain ⟨r19, e19, h⟩ := tw_bs h
        refine tw_callSi (ws' := (tw_wT cI xa X)) (As := [.int v1, .int (X.1 v2.toNatClampNeg)]) (rest := []) F hN hK hP hD hS hA (mX2_placeBehind l G cI H.size v1 (X.1 v2.toNatClampNeg) e19) (va_cwS 2 hts gX2_firstWrong_X2_placeBehind rfl rfl rfl (by decide +kernel) ⟨(Nat.le_of_ble_eq_true rfl), (Nat.le_of_ble_eq_true rfl)⟩) [0] rfl [] (by decide) rfl rfl rfl rfl hl.1 rfl (Nat.le_of_ble_eq_true rfl) dX2_firstWrong_19 ⟨Nat.zero_le _, Nat.zero_le _⟩ (fun H locs hP hD hS => ?_)
        refine lv_istore_n (lv' := [(1, .int r19), (0, .ref (xa 0)), (2, .int v2)]) hx hb dX2_firstWrong_22 rfl hl (by decide) rfl (fun ls hl => ?_)
        refine lv_iload_n hx hb dX2_firstWrong_23 rfl (lv_at hl 0 rfl) ?_
        refine lv_iconst (v := (-1 : Int32)) hx hb dX2_firstWrong_24 (by decide) ?_
        refine lv_icmp_ne (tgt := 30) hx hb dX2_firstWrong_25 (by decide) (fun c25 => ?_) (fun c25 => ?_)
        · replace h := tw_t c25 h
          refine lv_iinc (v := (v2 + 1)) (lv' := [(2, .int (v2 + 1)), (1, .int r19), (0, .ref (xa 0))]) hx hb dX2_firstWrong_30 hl (k := 2) rfl rfl (by decide) rfl (fun ls hl => ?_)
          refine lv_goto (tgt := 4) hx hb dX2_firstWrong_33 (by decide) ?_
          exact ih4 r19 (v2 + 1) H locs ls h (lv_sub hl [2, 1, 0] rfl) hP hD hS
        · replace h := tw_fn c25 h
          refine lv_iload_n hx hb dX2_firstWrong_28 rfl (lv_at hl 2 rfl) ?_
          exact hq H locs _ ls v2 (tw_rt (fun r => r = v2) h rfl) rfl hP hS dX2_firstWrong_29
  refine lv_iconst (v := (0 : Int32)) hx hb dX2_firstWrong_0 (by decide) ?_
  refine lv_istore_n (lv' := [(1, .int (0 : Int32)), (0, .ref (xa 0))]) hx hb dX2_firstWrong_1 rfl hl (by decide) rfl (fun ls hl => ?_)
  refine lv_iconst (v := (0 : Int32)) hx hb dX2_firstWrong_2 (by decide) ?_
  refine lv_istore_n (lv' := [(2, .int (0 : Int32)), (1, .int (0 : Int32)), (0, .ref (xa 0))]) hx hb dX2_firstWrong_3 rfl hl (by decide) rfl (fun ls hl => ?_)
  exact L4 512 (0 : Int32) (0 : Int32) H locs ls h (lv_sub hl [2, 1, 0] rfl) hP hD hS
abbrev rmX2_isComplete : Room := { frames := 2, cells := 0, slots := 0, locals := 43 }
set_option maxRecDepth 20000 in
theorem qX2_isComplete_0 : (Cond.fieldLink RX2 15 "TheatreWall$Text" "size" "I") ∈ wsX2_isComplete := (List.mem_cons_of_mem _ (List.mem_append_left _ (List.mem_of_getElem? (i := 0) rfl)))
set_option maxRecDepth 20000 in
theorem qX2_isComplete_1 : (Cond.fieldLink RX2 9 "TheatreWall$Text" "codes" "[I") ∈ wsX2_isComplete := (List.mem_cons_of_mem _ (List.mem_append_left _ (List.mem_of_getElem? (i := 1) rfl)))
set_option maxRecDepth 20000 in
theorem iX2_isComplete_X2 : ∀ w ∈ u_ws RX2 TX2 2, w ∈ wsX2_isComplete := fun w h => (List.mem_cons_of_mem _ (List.mem_append_right _ h))
set_option maxHeartbeats 4000000 in
set_option maxRecDepth 100000 in
theorem mX2_isComplete (l : Launch) (G : va_G) (cI : ClassId) (xa : Nat → Nat) (X : tw_Tx) (sz : Nat)  {rv : Int32} (h : fX2_isComplete X = some rv) : tw_Mi l yX2_isComplete wsX2_isComplete rmX2_isComplete G [(cI, .int)] (tw_wT cI xa X) [.ref (xa 0)] sz rv (tw_wT cI xa X) := by
  refine tw_ofi (ty := .boolean) (cc := cX2_isComplete) (maxL := 3) (own := RX2) (by decide) rfl rfl (Nat.le_of_ble_eq_true rfl) ?_
  intro p e s m args below meth c Q A ls H locs F hN hK hP hD hS hA hl hq
  obtain ⟨hx, hb, hml, hown, hts⟩ := id F
  have hl : lv_has ls 3 [(0, .ref (xa 0))] := hl
  unfold fX2_isComplete at h
  have L4 : ∀ (n4 : Nat) (v1 : Int32) (v2 : Int32) (H : Heap) (locs : List Loc) (ls : Array Slot), fX2_isComplete_4 X n4 v1 v2 = some rv → lv_has ls 3 [(0, .ref (xa 0)), (1, .int v1), (2, .int v2)] → va_P G vwCl (tw_wT cI xa X) H → va_D A (tw_wT cI xa X) → va_S A s.heap H locs → W p l e rmX2_isComplete s m args below meth c H locs 0 0 Q (F0 m 4 ls []) := by
    intro n4
    induction n4 with
    | zero =>
      intro v1 v2 H locs ls h
      rw [fX2_isComplete_4] at h
      cases h
    | succ n4 ih4 =>
      intro v1 v2 H locs ls h hl hP hD hS
      rw [fX2_isComplete_4] at h
      refine lv_iload_n hx hb dX2_isComplete_4 rfl (lv_at hl 2 rfl) ?_
      refine lv_aload_n hx hb dX2_isComplete_5 rfl (lv_at hl 0 rfl) ?_
      refine va_get (D := G) (ci := 2) (v := .int X.2) (C := RX2) (T := TX2) (N := 2) hx hb hts iX2_isComplete_X2 hown hK hP 0 rfl rfl 1 (by decide) (hts _ qX2_isComplete_0) (fun _ h9 => h9) rfl dX2_isComplete_6 ?_
      refine lv_icmp_ge (tgt := 34) hx hb dX2_isComplete_9 (by decide) (fun c9 => ?_) (fun c9 => ?_)
      · replace h := tw_t c9 h
        refine lv_iload_n hx hb dX2_isComplete_34 rfl (lv_at hl 1 rfl) ?_
        obtain ⟨r35, e35, h⟩ := tw_bs h
        refine tw_callSi (ws' := (tw_wT cI xa X)) (As := [.int v1]) (rest := []) F hN hK hP hD hS hA (mX2_isPartWhole l G cI H.size v1 e35) (va_cwS 1 hts gX2_isComplete_X2_isPartWhole rfl rfl rfl (by decide +kernel) ⟨(Nat.le_of_ble_eq_true rfl), (Nat.le_of_ble_eq_true rfl)⟩) [0] rfl [] (by decide) rfl rfl rfl rfl hl.1 rfl (Nat.le_of_ble_eq_true rfl) dX2_isComplete_35 ⟨Nat.zero_le _, Nat.zero_le _⟩ (fun H locs hP hD hS => ?_)
        obtain ⟨g38, h⟩ := tw_qs h
        exact hq H locs _ ls r35 (tw_rt (fun r => r = r35) h rfl) (tw_nb g38) hP hS dX2_isComplete_38
      · replace h := tw_f c9 h
        refine lv_iload_n hx hb dX2_isComplete_12 rfl (lv_at hl 1 rfl) ?_
        refine lv_iconst (v := (-1 : Int32)) hx hb dX2_isComplete_13 (by decide) ?_
        refine lv_icmp_eq (tgt := 34) hx hb dX2_isComplete_14 (by decide) (fun c14 => ?_) (fun c14 => ?_)
        · replace h := tw_t c14 h
          refine lv_iload_n hx hb dX2_isComplete_34 rfl (lv_at hl 1 rfl) ?_
          obtain ⟨r35, e35, h⟩ := tw_bs h
          refine tw_callSi (ws' := (tw_wT cI xa X)) (As := [.int v1]) (rest := []) F hN hK hP hD hS hA (mX2_isPartWhole l G cI H.size v1 e35) (va_cwS 1 hts gX2_isComplete_X2_isPartWhole rfl rfl rfl (by decide +kernel) ⟨(Nat.le_of_ble_eq_true rfl), (Nat.le_of_ble_eq_true rfl)⟩) [0] rfl [] (by decide) rfl rfl rfl rfl hl.1 rfl (Nat.le_of_ble_eq_true rfl) dX2_isComplete_35 ⟨Nat.zero_le _, Nat.zero_le _⟩ (fun H locs hP hD hS => ?_)
          obtain ⟨g38, h⟩ := tw_qs h
          exact hq H locs _ ls r35 (tw_rt (fun r => r = r35) h rfl) (tw_nb g38) hP hS dX2_isComplete_38
        · replace h := tw_f c14 h
          refine lv_iload_n hx hb dX2_isComplete_17 rfl (lv_at hl 1 rfl) ?_
          refine lv_aload_n hx hb dX2_isComplete_18 rfl (lv_at hl 0 rfl) ?_
          refine va_get (D := G) (ci := 2) (v := .ref (xa 1)) (C := RX2) (T := TX2) (N := 2) hx hb hts iX2_isComplete_X2 hown hK hP 0 rfl rfl 0 (by decide) (hts _ qX2_isComplete_1) (fun _ h9 => h9) rfl dX2_isComplete_19 ?_
          refine lv_iload_n hx hb dX2_isComplete_22 rfl (lv_at hl 2 rfl) ?_
          obtain ⟨g23, h⟩ := tw_gs h
          refine va_iald (f := X.1) (n := 60) hx hb hK hP 1 0 rfl rfl g23 dX2_isComplete_23 ?_
          obtain ⟨r24, e24, h⟩ := tw_bs h
          refine tw_callSi (ws' := (tw_wT cI xa X)) (As := [.int v1, .int (X.1 v2.toNatClampNeg)]) (rest := []) F hN hK hP hD hS hA (mX2_placeBehind l G cI H.size v1 (X.1 v2.toNatClampNeg) e24) (va_cwS 2 hts gX2_isComplete_X2_placeBehind rfl rfl rfl (by decide +kernel) ⟨(Nat.le_of_ble_eq_true rfl), (Nat.le_of_ble_eq_true rfl)⟩) [0] rfl [] (by decide) rfl rfl rfl rfl hl.1 rfl (Nat.le_of_ble_eq_true rfl) dX2_isComplete_24 ⟨Nat.zero_le _, Nat.zero_le _⟩ (fun H locs hP hD hS => ?_)
          refine lv_istore_n (lv' := [(1, .int r24), (0, .ref (xa 0)), (2, .int v2)]) hx hb dX2_isComplete_27 rfl hl (by decide) rfl (fun ls hl => ?_)
          refine lv_iinc (v := (v2 + 1)) (lv' := [(2, .int (v2 + 1)), (1, .int r24), (0, .ref (xa 0))]) hx hb dX2_isComplete_28 hl (k := 2) rfl rfl (by decide) rfl (fun ls hl => ?_)
          refine lv_goto (tgt := 4) hx hb dX2_isComplete_31 (by decide) ?_
          exact ih4 r24 (v2 + 1) H locs ls h (lv_sub hl [2, 1, 0] rfl) hP hD hS
  refine lv_iconst (v := (0 : Int32)) hx hb dX2_isComplete_0 (by decide) ?_
  refine lv_istore_n (lv' := [(1, .int (0 : Int32)), (0, .ref (xa 0))]) hx hb dX2_isComplete_1 rfl hl (by decide) rfl (fun ls hl => ?_)
  refine lv_iconst (v := (0 : Int32)) hx hb dX2_isComplete_2 (by decide) ?_
  refine lv_istore_n (lv' := [(2, .int (0 : Int32)), (1, .int (0 : Int32)), (0, .ref (xa 0))]) hx hb dX2_isComplete_3 rfl hl (by decide) rfl (fun ls hl => ?_)
  exact L4 512 (0 : Int32) (0 : Int32) H locs ls h (lv_sub hl [2, 1, 0] rfl) hP hD hS
abbrev rmX2_readInto : Room := { frames := 0, cells := 0, slots := 0, locals := 0 }
set_option maxRecDepth 20000 in
theorem qX2_readInto_0 : (Cond.fieldLink RX2 39 "TheatreWall$State" "size" "I") ∈ wsX2_readInto := (List.mem_cons_of_mem _ (List.mem_append_left _ (List.mem_of_getElem? (i := 0) rfl)))
set_option maxRecDepth 20000 in
theorem qX2_readInto_1 : (Cond.fieldLink RX2 59 "TheatreWall$State" "needs" "[I") ∈ wsX2_readInto := (List.mem_cons_of_mem _ (List.mem_append_left _ (List.mem_of_getElem? (i := 4) rfl)))
set_option maxRecDepth 20000 in
theorem qX2_readInto_2 : (Cond.fieldLink RX2 56 "TheatreWall$State" "halls" "[I") ∈ wsX2_readInto := (List.mem_cons_of_mem _ (List.mem_append_left _ (List.mem_of_getElem? (i := 3) rfl)))
set_option maxRecDepth 20000 in
theorem qX2_readInto_3 : (Cond.fieldLink RX2 53 "TheatreWall$State" "persons" "[I") ∈ wsX2_readInto := (List.mem_cons_of_mem _ (List.mem_append_left _ (List.mem_of_getElem? (i := 2) rfl)))
set_option maxRecDepth 20000 in
theorem qX2_readInto_4 : (Cond.fieldLink RX2 50 "TheatreWall$State" "lengths" "[I") ∈ wsX2_readInto := (List.mem_cons_of_mem _ (List.mem_append_left _ (List.mem_of_getElem? (i := 1) rfl)))
set_option maxRecDepth 20000 in
theorem iX2_readInto_X1 : ∀ w ∈ u_ws RX1 TX1 9, w ∈ wsX2_readInto := fun w h => (List.mem_cons_of_mem _ (List.mem_append_right _ h))
set_option maxHeartbeats 4000000 in
set_option maxRecDepth 100000 in
theorem mX2_readInto (l : Launch) (G : va_G) (cI : ClassId) (sa : Nat → Nat) (S : tw_St) (sz : Nat) (p1 : Int32) (p2 : Int32) {rv : Int32 × tw_St} (h : fX2_readInto S p1 p2 = some rv) : tw_Mi l yX2_readInto wsX2_readInto rmX2_readInto G [(cI, .int)] (tw_wS cI sa S) [.ref (sa 0), .int p1, .int p2] sz rv.1 (tw_wS cI sa rv.2) := by
  refine tw_ofi (ty := .boolean) (cc := cX2_readInto) (maxL := 5) (own := RX2) (by decide) rfl rfl (Nat.le_of_ble_eq_true rfl) ?_
  intro p e s m args below meth c Q A ls H locs F hN hK hP hD hS hA hl hq
  obtain ⟨hx, hb, hml, hown, hts⟩ := id F
  have hl : lv_has ls 5 [(0, .ref (sa 0)), (1, .int p1), (2, .int p2)] := hl
  unfold fX2_readInto at h
  refine lv_aload_n hx hb dX2_readInto_0 rfl (lv_at hl 0 rfl) ?_
  refine va_get (D := G) (ci := 1) (v := .int S.2.2.2.2.2.2.2.1) (C := RX1) (T := TX1) (N := 9) hx hb hts iX2_readInto_X1 hown hK hP 0 rfl rfl 7 (by decide) (hts _ qX2_readInto_0) (fun _ h9 => h9) rfl dX2_readInto_1 ?_
  refine lv_iconst (v := (1 : Int32)) hx hb dX2_readInto_4 (by decide) ?_
  refine lv_isub hx hb dX2_readInto_5 ?_
  refine lv_istore_n (lv' := [(3, .int (S.2.2.2.2.2.2.2.1 - (1 : Int32))), (0, .ref (sa 0)), (1, .int p1), (2, .int p2)]) hx hb dX2_readInto_6 rfl hl (by decide) rfl (fun ls hl => ?_)
  refine lv_iload_n hx hb dX2_readInto_7 rfl (lv_at hl 0 rfl) ?_
  refine lv_if_ge (tgt := 13) hx hb dX2_readInto_8 (by decide) (fun c8 => ?_) (fun c8 => ?_)
  · replace h := tw_t c8 h
    refine lv_iload_n hx hb dX2_readInto_13 rfl (lv_at hl 2 rfl) ?_
    refine lv_iconst (v := (1 : Int32)) hx hb dX2_readInto_14 (by decide) ?_
    refine lv_icmp_ne (tgt := 31) hx hb dX2_readInto_15 (by decide) (fun c15 => ?_) (fun c15 => ?_)
    · replace h := tw_t c15 h
      refine lv_iload_n hx hb dX2_readInto_31 rfl (lv_at hl 2 rfl) ?_
      refine lv_iconst (v := (2 : Int32)) hx hb dX2_readInto_32 (by decide) ?_
      refine lv_icmp_ne (tgt := 49) hx hb dX2_readInto_33 (by decide) (fun c33 => ?_) (fun c33 => ?_)
      · replace h := tw_t c33 h
        refine lv_iload_n hx hb dX2_readInto_49 rfl (lv_at hl 2 rfl) ?_
        refine lv_iconst (v := (3 : Int32)) hx hb dX2_readInto_50 (by decide) ?_
        refine lv_icmp_ne (tgt := 67) hx hb dX2_readInto_51 (by decide) (fun c51 => ?_) (fun c51 => ?_)
        · replace h := tw_t c51 h
          refine lv_iload_n hx hb dX2_readInto_67 rfl (lv_at hl 2 rfl) ?_
          refine lv_bipush (v := (7 : Int32)) hx hb dX2_readInto_68 (by decide) ?_
          refine lv_icmp_lt (tgt := 106) hx hb dX2_readInto_70 (by decide) (fun c70 => ?_) (fun c70 => ?_)
          · replace h := tw_t c70 h
            refine lv_iconst (v := (1 : Int32)) hx hb dX2_readInto_106 (by decide) ?_
            exact hq H locs _ ls (1 : Int32) (tw_rt (fun r => r.1 = (1 : Int32)) h rfl) rfl (tw_rt (fun r => va_P G vwCl (tw_wS cI sa r.2) H) h hP) hS dX2_readInto_107
          · replace h := tw_f c70 h
            refine lv_iload_n hx hb dX2_readInto_73 rfl (lv_at hl 3 rfl) ?_
            refine lv_bipush (v := (59 : Int32)) hx hb dX2_readInto_74 (by decide) ?_
            refine lv_icmp_eq (tgt := 106) hx hb dX2_readInto_76 (by decide) (fun c76 => ?_) (fun c76 => ?_)
            · replace h := tw_t c76 h
              refine lv_iconst (v := (1 : Int32)) hx hb dX2_readInto_106 (by decide) ?_
              exact hq H locs _ ls (1 : Int32) (tw_rt (fun r => r.1 = (1 : Int32)) h rfl) rfl (tw_rt (fun r => va_P G vwCl (tw_wS cI sa r.2) H) h hP) hS dX2_readInto_107
            · replace h := tw_f c76 h
              refine lv_iload_n hx hb dX2_readInto_79 rfl (lv_at hl 3 rfl) ?_
              refine lv_bipush (v := (97 : Int32)) hx hb dX2_readInto_80 (by decide) ?_
              refine lv_isub hx hb dX2_readInto_82 ?_
              refine lv_istore (lv' := [(4, .int (p2 - (97 : Int32))), (3, .int (S.2.2.2.2.2.2.2.1 - (1 : Int32))), (0, .ref (sa 0)), (1, .int p1), (2, .int p2)]) hx hb dX2_readInto_83 hl (by decide) rfl (fun ls hl => ?_)
              refine lv_iload hx hb dX2_readInto_85 (lv_at hl 0 rfl) ?_
              refine lv_iload_n hx hb dX2_readInto_87 rfl (lv_at hl 1 rfl) ?_
              refine lv_icmp_lt (tgt := 93) hx hb dX2_readInto_88 (by decide) (fun c88 => ?_) (fun c88 => ?_)
              · replace h := tw_t c88 h
                refine lv_aload_n hx hb dX2_readInto_93 rfl (lv_at hl 2 rfl) ?_
                refine va_get (D := G) (ci := 1) (v := .ref (sa 5)) (C := RX1) (T := TX1) (N := 9) hx hb hts iX2_readInto_X1 hown hK hP 0 rfl rfl 4 (by decide) (hts _ qX2_readInto_1) (fun _ h9 => h9) rfl dX2_readInto_94 ?_
                refine lv_iload_n hx hb dX2_readInto_97 rfl (lv_at hl 1 rfl) ?_
                refine lv_dup2_11 hx hb dX2_readInto_98 rfl rfl ?_
                obtain ⟨g99, h⟩ := tw_gs h
                refine va_iald (f := S.2.2.2.2.1) (n := 12) hx hb hK hP 5 0 rfl rfl g99 dX2_readInto_99 ?_
                refine lv_iconst (v := (1 : Int32)) hx hb dX2_readInto_100 (by decide) ?_
                refine lv_iload hx hb dX2_readInto_101 (lv_at hl 0 rfl) ?_
                refine lv_ishl hx hb dX2_readInto_103 ?_
                refine lv_ior hx hb dX2_readInto_104 ?_
                obtain ⟨g105, h⟩ := tw_gs h
                refine tw_iast (ws' := (tw_wS cI sa (S.1, S.2.1, S.2.2.1, S.2.2.2.1, (upd S.2.2.2.2.1 (S.2.2.2.2.2.2.2.1 - (1 : Int32)).toNatClampNeg ((S.2.2.2.2.1 (S.2.2.2.2.2.2.2.1 - (1 : Int32)).toNatClampNeg) ||| ((1 : Int32) <<< ((p2 - (97 : Int32)) &&& 31)))), S.2.2.2.2.2.1, S.2.2.2.2.2.2.1, S.2.2.2.2.2.2.2.1, S.2.2.2.2.2.2.2.2))) (f := S.2.2.2.2.1) (n := 12) hx hb hK hP hD hS 5 0 rfl rfl g105 dX2_readInto_105 rfl (fun H locs hP hD hS => ?_)
                refine lv_iconst (v := (1 : Int32)) hx hb dX2_readInto_106 (by decide) ?_
                exact hq H locs _ ls (1 : Int32) (tw_rt (fun r => r.1 = (1 : Int32)) h rfl) rfl (tw_rt (fun r => va_P G vwCl (tw_wS cI sa r.2) H) h hP) hS dX2_readInto_107
              · replace h := tw_f c88 h
                refine lv_iconst (v := (0 : Int32)) hx hb dX2_readInto_91 (by decide) ?_
                exact hq H locs _ ls (0 : Int32) (tw_rt (fun r => r.1 = (0 : Int32)) h rfl) rfl (tw_rt (fun r => va_P G vwCl (tw_wS cI sa r.2) H) h hP) hS dX2_readInto_92
        · replace h := tw_fn c51 h
          refine lv_aload_n hx hb dX2_readInto_54 rfl (lv_at hl 1 rfl) ?_
          refine va_get (D := G) (ci := 1) (v := .ref (sa 3)) (C := RX1) (T := TX1) (N := 9) hx hb hts iX2_readInto_X1 hown hK hP 0 rfl rfl 2 (by decide) (hts _ qX2_readInto_2) (fun _ h9 => h9) rfl dX2_readInto_55 ?_
          refine lv_iload_n hx hb dX2_readInto_58 rfl (lv_at hl 0 rfl) ?_
          refine lv_iload_n hx hb dX2_readInto_59 rfl (lv_at hl 3 rfl) ?_
          refine lv_bipush (v := (48 : Int32)) hx hb dX2_readInto_60 (by decide) ?_
          refine lv_isub hx hb dX2_readInto_62 ?_
          obtain ⟨g63, h⟩ := tw_gs h
          refine tw_iast (ws' := (tw_wS cI sa (S.1, S.2.1, (upd S.2.2.1 (S.2.2.2.2.2.2.2.1 - (1 : Int32)).toNatClampNeg (p2 - (48 : Int32))), S.2.2.2.1, S.2.2.2.2.1, S.2.2.2.2.2.1, S.2.2.2.2.2.2.1, S.2.2.2.2.2.2.2.1, S.2.2.2.2.2.2.2.2))) (f := S.2.2.1) (n := 12) hx hb hK hP hD hS 3 0 rfl rfl g63 dX2_readInto_63 rfl (fun H locs hP hD hS => ?_)
          refine lv_goto (tgt := 106) hx hb dX2_readInto_64 (by decide) ?_
          refine lv_iconst (v := (1 : Int32)) hx hb dX2_readInto_106 (by decide) ?_
          exact hq H locs _ ls (1 : Int32) (tw_rt (fun r => r.1 = (1 : Int32)) h rfl) rfl (tw_rt (fun r => va_P G vwCl (tw_wS cI sa r.2) H) h hP) hS dX2_readInto_107
      · replace h := tw_fn c33 h
        refine lv_aload_n hx hb dX2_readInto_36 rfl (lv_at hl 1 rfl) ?_
        refine va_get (D := G) (ci := 1) (v := .ref (sa 2)) (C := RX1) (T := TX1) (N := 9) hx hb hts iX2_readInto_X1 hown hK hP 0 rfl rfl 1 (by decide) (hts _ qX2_readInto_3) (fun _ h9 => h9) rfl dX2_readInto_37 ?_
        refine lv_iload_n hx hb dX2_readInto_40 rfl (lv_at hl 0 rfl) ?_
        refine lv_iload_n hx hb dX2_readInto_41 rfl (lv_at hl 3 rfl) ?_
        refine lv_bipush (v := (48 : Int32)) hx hb dX2_readInto_42 (by decide) ?_
        refine lv_isub hx hb dX2_readInto_44 ?_
        obtain ⟨g45, h⟩ := tw_gs h
        refine tw_iast (ws' := (tw_wS cI sa (S.1, (upd S.2.1 (S.2.2.2.2.2.2.2.1 - (1 : Int32)).toNatClampNeg (p2 - (48 : Int32))), S.2.2.1, S.2.2.2.1, S.2.2.2.2.1, S.2.2.2.2.2.1, S.2.2.2.2.2.2.1, S.2.2.2.2.2.2.2.1, S.2.2.2.2.2.2.2.2))) (f := S.2.1) (n := 12) hx hb hK hP hD hS 2 0 rfl rfl g45 dX2_readInto_45 rfl (fun H locs hP hD hS => ?_)
        refine lv_goto (tgt := 106) hx hb dX2_readInto_46 (by decide) ?_
        refine lv_iconst (v := (1 : Int32)) hx hb dX2_readInto_106 (by decide) ?_
        exact hq H locs _ ls (1 : Int32) (tw_rt (fun r => r.1 = (1 : Int32)) h rfl) rfl (tw_rt (fun r => va_P G vwCl (tw_wS cI sa r.2) H) h hP) hS dX2_readInto_107
    · replace h := tw_fn c15 h
      refine lv_aload_n hx hb dX2_readInto_18 rfl (lv_at hl 1 rfl) ?_
      refine va_get (D := G) (ci := 1) (v := .ref (sa 1)) (C := RX1) (T := TX1) (N := 9) hx hb hts iX2_readInto_X1 hown hK hP 0 rfl rfl 0 (by decide) (hts _ qX2_readInto_4) (fun _ h9 => h9) rfl dX2_readInto_19 ?_
      refine lv_iload_n hx hb dX2_readInto_22 rfl (lv_at hl 0 rfl) ?_
      refine lv_iload_n hx hb dX2_readInto_23 rfl (lv_at hl 3 rfl) ?_
      refine lv_bipush (v := (48 : Int32)) hx hb dX2_readInto_24 (by decide) ?_
      refine lv_isub hx hb dX2_readInto_26 ?_
      obtain ⟨g27, h⟩ := tw_gs h
      refine tw_iast (ws' := (tw_wS cI sa ((upd S.1 (S.2.2.2.2.2.2.2.1 - (1 : Int32)).toNatClampNeg (p2 - (48 : Int32))), S.2.1, S.2.2.1, S.2.2.2.1, S.2.2.2.2.1, S.2.2.2.2.2.1, S.2.2.2.2.2.2.1, S.2.2.2.2.2.2.2.1, S.2.2.2.2.2.2.2.2))) (f := S.1) (n := 12) hx hb hK hP hD hS 1 0 rfl rfl g27 dX2_readInto_27 rfl (fun H locs hP hD hS => ?_)
      refine lv_goto (tgt := 106) hx hb dX2_readInto_28 (by decide) ?_
      refine lv_iconst (v := (1 : Int32)) hx hb dX2_readInto_106 (by decide) ?_
      exact hq H locs _ ls (1 : Int32) (tw_rt (fun r => r.1 = (1 : Int32)) h rfl) rfl (tw_rt (fun r => va_P G vwCl (tw_wS cI sa r.2) H) h hP) hS dX2_readInto_107
  · replace h := tw_f c8 h
    refine lv_iconst (v := (0 : Int32)) hx hb dX2_readInto_11 (by decide) ?_
    exact hq H locs _ ls (0 : Int32) (tw_rt (fun r => r.1 = (0 : Int32)) h rfl) rfl (tw_rt (fun r => va_P G vwCl (tw_wS cI sa r.2) H) h hP) hS dX2_readInto_12
abbrev rmX2_addTasksTo : Room := { frames := 2, cells := 0, slots := 0, locals := 43 }
set_option maxRecDepth 20000 in
theorem qX2_addTasksTo_0 : (Cond.fieldLink RX2 9 "TheatreWall$Text" "codes" "[I") ∈ wsX2_addTasksTo := (List.mem_cons_of_mem _ (List.mem_append_left _ (List.mem_append_left _ (List.mem_append_left _ (List.mem_of_getElem? (i := 2) rfl)))))
set_option maxRecDepth 20000 in
theorem qX2_addTasksTo_1 : (Cond.fieldLink RX2 15 "TheatreWall$Text" "size" "I") ∈ wsX2_addTasksTo := (List.mem_cons_of_mem _ (List.mem_append_left _ (List.mem_append_left _ (List.mem_append_left _ (List.mem_of_getElem? (i := 0) rfl)))))
set_option maxRecDepth 20000 in
theorem qX2_addTasksTo_2 : (Cond.fieldLink RX2 39 "TheatreWall$State" "size" "I") ∈ wsX2_addTasksTo := (List.mem_cons_of_mem _ (List.mem_append_left _ (List.mem_append_left _ (List.mem_append_left _ (List.mem_of_getElem? (i := 1) rfl)))))
set_option maxRecDepth 20000 in
theorem iX2_addTasksTo_X2 : ∀ w ∈ u_ws RX2 TX2 2, w ∈ wsX2_addTasksTo := fun w h => (List.mem_cons_of_mem _ (List.mem_append_left _ (List.mem_append_right _ h)))
set_option maxRecDepth 20000 in
theorem iX2_addTasksTo_X1 : ∀ w ∈ u_ws RX1 TX1 9, w ∈ wsX2_addTasksTo := fun w h => (List.mem_cons_of_mem _ (List.mem_append_right _ h))
set_option maxHeartbeats 4000000 in
set_option maxRecDepth 100000 in
theorem mX2_addTasksTo (l : Launch) (G : va_G) (cI : ClassId) (xa : Nat → Nat) (sa : Nat → Nat) (X : tw_Tx) (S : tw_St) (sz : Nat)  {rv : Int32 × tw_St} (h : fX2_addTasksTo X S = some rv) : tw_Mi l yX2_addTasksTo wsX2_addTasksTo rmX2_addTasksTo G [(cI, .int)] (tw_wT cI xa X ++ tw_wS cI sa S) [.ref (xa 0), .ref (sa 0)] sz rv.1 (tw_wT cI xa X ++ tw_wS cI sa rv.2) := by
  refine tw_ofi (ty := .boolean) (cc := cX2_addTasksTo) (maxL := 4) (own := RX2) (by decide) rfl rfl (Nat.le_of_ble_eq_true rfl) ?_
  intro p e s m args below meth c Q A ls H locs F hN hK hP hD hS hA hl hq
  obtain ⟨hx, hb, hml, hown, hts⟩ := id F
  have hl : lv_has ls 4 [(0, .ref (xa 0)), (1, .ref (sa 0))] := hl
  unfold fX2_addTasksTo at h
  have L4 : ∀ (n4 : Nat) (v2 : Int32) (v3 : Int32) (S : tw_St) (H : Heap) (locs : List Loc) (ls : Array Slot), fX2_addTasksTo_4 X n4 v2 v3 S = some rv → lv_has ls 4 [(0, .ref (xa 0)), (1, .ref (sa 0)), (2, .int v2), (3, .int v3)] → va_P G vwCl (tw_wT cI xa X ++ tw_wS cI sa S) H → va_D A (tw_wT cI xa X ++ tw_wS cI sa S) → va_S A s.heap H locs → W p l e rmX2_addTasksTo s m args below meth c H locs 0 0 Q (F0 m 4 ls []) := by
    intro n4
    induction n4 with
    | zero =>
      intro v2 v3 S H locs ls h
      rw [fX2_addTasksTo_4] at h
      cases h
    | succ n4 ih4 =>
      intro v2 v3 S H locs ls h hl hP hD hS
      rw [fX2_addTasksTo_4] at h
      have L53 : ∀ (v2 : Int32) (v3 : Int32) (S : tw_St) (H : Heap) (locs : List Loc) (ls : Array Slot), fX2_addTasksTo_53 X (fX2_addTasksTo_4 X n4) v2 v3 S = some rv → lv_has ls 4 [(0, .ref (xa 0)), (1, .ref (sa 0)), (2, .int v2), (3, .int v3)] → va_P G vwCl (tw_wT cI xa X ++ tw_wS cI sa S) H → va_D A (tw_wT cI xa X ++ tw_wS cI sa S) → va_S A s.heap H locs → W p l e rmX2_addTasksTo s m args below meth c H locs 0 0 Q (F0 m 53 ls []) := by
        intro v2 v3 S H locs ls h hl hP hD hS
        unfold fX2_addTasksTo_53 at h
        refine lv_iload_n hx hb dX2_addTasksTo_53 rfl (lv_at hl 2 rfl) ?_
        refine lv_aload_n hx hb dX2_addTasksTo_54 rfl (lv_at hl 0 rfl) ?_
        refine va_get (D := G) (ci := 2) (v := .ref (xa 1)) (C := RX2) (T := TX2) (N := 2) hx hb hts iX2_addTasksTo_X2 hown hK hP 0 rfl rfl 0 (by decide) (hts _ qX2_addTasksTo_0) (fun _ h9 => h9) rfl dX2_addTasksTo_55 ?_
        refine lv_iload_n hx hb dX2_addTasksTo_58 rfl (lv_at hl 3 rfl) ?_
        obtain ⟨g59, h⟩ := tw_gs h
        refine va_iald (f := X.1) (n := 60) hx hb hK hP 1 0 rfl rfl g59 dX2_addTasksTo_59 ?_
        obtain ⟨r60, e60, h⟩ := tw_bs h
        refine tw_callSi (ws' := (tw_wT cI xa X ++ tw_wS cI sa S)) (As := [.int v2, .int (X.1 v3.toNatClampNeg)]) (rest := []) F hN hK hP hD hS hA (mX2_placeBehind l G cI H.size v2 (X.1 v3.toNatClampNeg) e60) (va_cwS 2 hts gX2_addTasksTo_X2_placeBehind rfl rfl rfl (by decide +kernel) ⟨(Nat.le_of_ble_eq_true rfl), (Nat.le_of_ble_eq_true rfl)⟩) [0] rfl [] (by decide) rfl rfl rfl rfl hl.1 rfl (Nat.le_of_ble_eq_true rfl) dX2_addTasksTo_60 ⟨Nat.zero_le _, Nat.zero_le _⟩ (fun H locs hP hD hS => ?_)
        refine lv_istore_n (lv' := [(2, .int r60), (0, .ref (xa 0)), (1, .ref (sa 0)), (3, .int v3)]) hx hb dX2_addTasksTo_63 rfl hl (by decide) rfl (fun ls hl => ?_)
        refine lv_iinc (v := (v3 + 1)) (lv' := [(3, .int (v3 + 1)), (2, .int r60), (0, .ref (xa 0)), (1, .ref (sa 0))]) hx hb dX2_addTasksTo_64 hl (k := 3) rfl rfl (by decide) rfl (fun ls hl => ?_)
        refine lv_goto (tgt := 4) hx hb dX2_addTasksTo_67 (by decide) ?_
        exact ih4 r60 (v3 + 1) S H locs ls h (lv_sub hl [2, 3, 1, 0] rfl) hP hD hS
      refine lv_iload_n hx hb dX2_addTasksTo_4 rfl (lv_at hl 3 rfl) ?_
      refine lv_aload_n hx hb dX2_addTasksTo_5 rfl (lv_at hl 0 rfl) ?_
      refine va_get (D := G) (ci := 2) (v := .int X.2) (C := RX2) (T := TX2) (N := 2) hx hb hts iX2_addTasksTo_X2 hown hK hP 0 rfl rfl 1 (by decide) (hts _ qX2_addTasksTo_1) (fun _ h9 => h9) rfl dX2_addTasksTo_6 ?_
      refine lv_icmp_ge (tgt := 70) hx hb dX2_addTasksTo_9 (by decide) (fun c9 => ?_) (fun c9 => ?_)
      · replace h := tw_t c9 h
        refine lv_iconst (v := (1 : Int32)) hx hb dX2_addTasksTo_70 (by decide) ?_
        exact hq H locs _ ls (1 : Int32) (tw_rt (fun r => r.1 = (1 : Int32)) h rfl) rfl (tw_rt (fun r => va_P G vwCl (tw_wT cI xa X ++ tw_wS cI sa r.2) H) h hP) hS dX2_addTasksTo_71
      · replace h := tw_f c9 h
        refine lv_iload_n hx hb dX2_addTasksTo_12 rfl (lv_at hl 2 rfl) ?_
        refine lv_if_ne (tgt := 37) hx hb dX2_addTasksTo_13 (by decide) (fun c13 => ?_) (fun c13 => ?_)
        · replace h := tw_t c13 h
          refine lv_aload_n hx hb dX2_addTasksTo_37 rfl (lv_at hl 1 rfl) ?_
          refine lv_iload_n hx hb dX2_addTasksTo_38 rfl (lv_at hl 2 rfl) ?_
          refine lv_aload_n hx hb dX2_addTasksTo_39 rfl (lv_at hl 0 rfl) ?_
          refine va_get (D := G) (ci := 2) (v := .ref (xa 1)) (C := RX2) (T := TX2) (N := 2) hx hb hts iX2_addTasksTo_X2 hown hK hP 0 rfl rfl 0 (by decide) (hts _ qX2_addTasksTo_0) (fun _ h9 => h9) rfl dX2_addTasksTo_40 ?_
          refine lv_iload_n hx hb dX2_addTasksTo_43 rfl (lv_at hl 3 rfl) ?_
          obtain ⟨g44, h⟩ := tw_gs h
          refine va_iald (f := X.1) (n := 60) hx hb hK hP 1 0 rfl rfl g44 dX2_addTasksTo_44 ?_
          obtain ⟨r45, e45, h⟩ := tw_bs h
          refine tw_callSi (ws' := (tw_wT cI xa X ++ tw_wS cI sa r45.2)) (As := [.ref (sa 0), .int v2, .int (X.1 v3.toNatClampNeg)]) (rest := []) F hN hK hP hD hS hA (mX2_readInto l G cI sa S H.size v2 (X.1 v3.toNatClampNeg) e45) (va_cwS 3 hts gX2_addTasksTo_X2_readInto rfl rfl rfl (by decide +kernel) ⟨(Nat.le_of_ble_eq_true rfl), (Nat.le_of_ble_eq_true rfl)⟩) [0] rfl [2, 3, 4, 5, 6, 7, 8, 9] (by decide) rfl rfl rfl rfl hl.1 rfl (Nat.le_of_ble_eq_true rfl) dX2_addTasksTo_45 ⟨Nat.zero_le _, Nat.zero_le _⟩ (fun H locs hP hD hS => ?_)
          refine lv_if_ne (tgt := 53) hx hb dX2_addTasksTo_48 (by decide) (fun c48 => ?_) (fun c48 => ?_)
          · replace h := tw_t c48 h
            exact L53 v2 v3 r45.2 H locs ls h (lv_sub hl [0, 1, 2, 3] rfl) hP hD hS
          · replace h := tw_fn c48 h
            refine lv_iconst (v := (0 : Int32)) hx hb dX2_addTasksTo_51 (by decide) ?_
            exact hq H locs _ ls (0 : Int32) (tw_rt (fun r => r.1 = (0 : Int32)) h rfl) rfl (tw_rt (fun r => va_P G vwCl (tw_wT cI xa X ++ tw_wS cI sa r.2) H) h hP) hS dX2_addTasksTo_52
        · replace h := tw_fn c13 h
          refine lv_aload_n hx hb dX2_addTasksTo_16 rfl (lv_at hl 1 rfl) ?_
          refine va_get (D := G) (ci := 1) (v := .int S.2.2.2.2.2.2.2.1) (C := RX1) (T := TX1) (N := 9) hx hb hts iX2_addTasksTo_X1 hown hK hP 2 rfl rfl 7 (by decide) (hts _ qX2_addTasksTo_2) (fun _ h9 => h9) rfl dX2_addTasksTo_17 ?_
          refine lv_bipush (v := (12 : Int32)) hx hb dX2_addTasksTo_20 (by decide) ?_
          refine lv_icmp_lt (tgt := 27) hx hb dX2_addTasksTo_22 (by decide) (fun c22 => ?_) (fun c22 => ?_)
          · replace h := tw_t c22 h
            refine lv_aload_n hx hb dX2_addTasksTo_27 rfl (lv_at hl 1 rfl) ?_
            refine lv_iconst (v := (1 : Int32)) hx hb dX2_addTasksTo_28 (by decide) ?_
            refine lv_iconst (v := (-1 : Int32)) hx hb dX2_addTasksTo_29 (by decide) ?_
            refine lv_iconst (v := (-1 : Int32)) hx hb dX2_addTasksTo_30 (by decide) ?_
            obtain ⟨r31, e31, h⟩ := tw_bs h
            refine tw_callVv (ws' := (tw_wT cI xa X ++ tw_wS cI sa r31)) (As := [.int (1 : Int32), .int (-1 : Int32), .int (-1 : Int32)]) (rest := []) F hN hK hP hD hS hA (mX1_appendTask l G cI sa S H.size (1 : Int32) (-1 : Int32) (-1 : Int32) e31) (cwV 3 hts gX2_addTasksTo_X1_appendTask rfl rfl rfl (by decide +kernel) ⟨(Nat.le_of_ble_eq_true rfl), (Nat.le_of_ble_eq_true rfl)⟩) [0] rfl [2, 3, 4, 5, 6, 7, 8, 9] (by decide) rfl rfl rfl (r0 := 0) (ci := 1) rfl rfl rfl rfl hl.1 rfl (Nat.le_of_ble_eq_true rfl) dX2_addTasksTo_31 ⟨Nat.zero_le _, Nat.zero_le _⟩ (fun H locs hP hD hS => ?_)
            refine lv_goto (tgt := 53) hx hb dX2_addTasksTo_34 (by decide) ?_
            exact L53 v2 v3 r31 H locs ls h (lv_sub hl [0, 1, 2, 3] rfl) hP hD hS
          · replace h := tw_f c22 h
            refine lv_iconst (v := (0 : Int32)) hx hb dX2_addTasksTo_25 (by decide) ?_
            exact hq H locs _ ls (0 : Int32) (tw_rt (fun r => r.1 = (0 : Int32)) h rfl) rfl (tw_rt (fun r => va_P G vwCl (tw_wT cI xa X ++ tw_wS cI sa r.2) H) h hP) hS dX2_addTasksTo_26
  refine lv_iconst (v := (0 : Int32)) hx hb dX2_addTasksTo_0 (by decide) ?_
  refine lv_istore_n (lv' := [(2, .int (0 : Int32)), (0, .ref (xa 0)), (1, .ref (sa 0))]) hx hb dX2_addTasksTo_1 rfl hl (by decide) rfl (fun ls hl => ?_)
  refine lv_iconst (v := (0 : Int32)) hx hb dX2_addTasksTo_2 (by decide) ?_
  refine lv_istore_n (lv' := [(3, .int (0 : Int32)), (2, .int (0 : Int32)), (0, .ref (xa 0)), (1, .ref (sa 0))]) hx hb dX2_addTasksTo_3 rfl hl (by decide) rfl (fun ls hl => ?_)
  exact L4 512 (0 : Int32) (0 : Int32) S H locs ls h (lv_sub hl [2, 3, 1, 0] rfl) hP hD hS
abbrev rmJxe99ae_isNaN_b9ae7 : Room := { frames := 0, cells := 0, slots := 0, locals := 0 }
set_option maxHeartbeats 4000000 in
set_option maxRecDepth 100000 in
theorem mJxe99ae_isNaN_b9ae7 (l : Launch) (G : va_G) (cI : ClassId)   (sz : Nat) (p0 : UInt64) {rv : Int32} (h : fJxe99ae_isNaN_b9ae7 p0 = some rv) : tw_Mi l yJxe99ae_isNaN_b9ae7 wsJxe99ae_isNaN_b9ae7 rmJxe99ae_isNaN_b9ae7 G [(cI, .int)] ([] : va_W) [.double p0] sz rv ([] : va_W) := by
  refine tw_ofi (ty := .boolean) (cc := cJxe99ae_isNaN_b9ae7) (maxL := 2) (own := RJxe99ae) (by decide) rfl rfl (Nat.le_of_ble_eq_true rfl) ?_
  intro p e s m args below meth c Q A ls H locs F hN hK hP hD hS hA hl hq
  obtain ⟨hx, hb, hml, hown, hts⟩ := id F
  have hl : lv_has ls 2 [(0, .double p0)] := hl
  unfold fJxe99ae_isNaN_b9ae7 at h
  refine lv_dload_n hx hb dJxe99ae_isNaN_b9ae7_0 rfl (lv_at hl 0 rfl) ?_
  refine lv_dload_n hx hb dJxe99ae_isNaN_b9ae7_1 rfl (lv_at hl 0 rfl) ?_
  refine lv_dcmp hx hb dJxe99ae_isNaN_b9ae7_2 ?_
  refine lv_if_eq (tgt := 10) hx hb dJxe99ae_isNaN_b9ae7_3 (by decide) (fun c3 => ?_) (fun c3 => ?_)
  · replace h := tw_t c3 h
    refine lv_iconst (v := (0 : Int32)) hx hb dJxe99ae_isNaN_b9ae7_10 (by decide) ?_
    exact hq H locs _ ls (0 : Int32) (tw_rt (fun r => r = (0 : Int32)) h rfl) rfl hP hS dJxe99ae_isNaN_b9ae7_11
  · replace h := tw_f c3 h
    refine lv_iconst (v := (1 : Int32)) hx hb dJxe99ae_isNaN_b9ae7_6 (by decide) ?_
    refine lv_goto (tgt := 11) hx hb dJxe99ae_isNaN_b9ae7_7 (by decide) ?_
    exact hq H locs _ ls (1 : Int32) (tw_rt (fun r => r = (1 : Int32)) h rfl) rfl hP hS dJxe99ae_isNaN_b9ae7_11
abbrev rmJxe99ae_doubleToLongBits_ccdee : Room := { frames := 1, cells := 0, slots := 0, locals := 23 }
set_option maxRecDepth 20000 in
theorem qJxe99ae_doubleToLongBits_ccdee_0 : (Cond.constantLong RJxe99ae 137 9221120237041090560) ∈ wsJxe99ae_doubleToLongBits_ccdee := (List.mem_cons_of_mem _ (List.mem_of_getElem? (i := 4) rfl))
set_option maxRecDepth 20000 in
theorem qJxe99ae_doubleToLongBits_ccdee_1 : (Cond.methodLink RJxe99ae 134 ⟨"java/lang/Double", "doubleToRawLongBits", "(D)J"⟩) ∈ wsJxe99ae_doubleToLongBits_ccdee := (List.mem_cons_of_mem _ (List.mem_of_getElem? (i := 0) rfl))
set_option maxRecDepth 20000 in
theorem qJxe99ae_doubleToLongBits_ccdee_2 : (Cond.native ⟨"java/lang/Double", "doubleToRawLongBits", "(D)J"⟩) ∈ wsJxe99ae_doubleToLongBits_ccdee := (List.mem_cons_of_mem _ (List.mem_of_getElem? (i := 1) rfl))
set_option maxRecDepth 20000 in
theorem qJxe99ae_doubleToLongBits_ccdee_3 : (Cond.static ⟨"java/lang/Double", "doubleToRawLongBits", "(D)J"⟩) ∈ wsJxe99ae_doubleToLongBits_ccdee := (List.mem_cons_of_mem _ (List.mem_of_getElem? (i := 2) rfl))
set_option maxRecDepth 20000 in
theorem qJxe99ae_doubleToLongBits_ccdee_4 : (Cond.initialized RJxe99ae) ∈ wsJxe99ae_doubleToLongBits_ccdee := (List.mem_cons_of_mem _ (List.mem_of_getElem? (i := 3) rfl))
set_option maxHeartbeats 4000000 in
set_option maxRecDepth 100000 in
theorem mJxe99ae_doubleToLongBits_ccdee (l : Launch) (G : va_G) (cI : ClassId)   (sz : Nat) (p0 : UInt64) {rv : Int64} (h : fJxe99ae_doubleToLongBits_ccdee p0 = some rv) : tw_Ml l yJxe99ae_doubleToLongBits_ccdee wsJxe99ae_doubleToLongBits_ccdee rmJxe99ae_doubleToLongBits_ccdee G [(cI, .int)] ([] : va_W) [.double p0] sz rv ([] : va_W) := by
  refine tw_ofl (cc := cJxe99ae_doubleToLongBits_ccdee) (maxL := 2) (own := RJxe99ae) (by decide) rfl rfl (Nat.le_of_ble_eq_true rfl) ?_
  intro p e s m args below meth c Q A ls H locs F hN hK hP hD hS hA hl hq
  obtain ⟨hx, hb, hml, hown, hts⟩ := id F
  have hl : lv_has ls 2 [(0, .double p0)] := hl
  unfold fJxe99ae_doubleToLongBits_ccdee at h
  refine lv_dload_n hx hb dJxe99ae_doubleToLongBits_ccdee_0 rfl (lv_at hl 0 rfl) ?_
  obtain ⟨r1, e1, h⟩ := tw_bs h
  refine tw_callSiF (ws' := ([] : va_W)) (As := [.double p0]) (rest := []) F hN hK hP hD hS hA (mJxe99ae_isNaN_b9ae7 l G cI H.size p0 e1) (va_cwS 1 hts gJxe99ae_doubleToLongBits_ccdee_Jxe99ae_isNaN_b9ae7 rfl rfl rfl (by decide +kernel) ⟨(Nat.le_of_ble_eq_true rfl), (Nat.le_of_ble_eq_true rfl)⟩) rfl rfl hl.1 rfl (Nat.le_of_ble_eq_true rfl) dJxe99ae_doubleToLongBits_ccdee_1 ⟨Nat.zero_le _, Nat.zero_le _⟩ (fun H locs hP hD hS => ?_)
  refine lv_if_ne (tgt := 12) hx hb dJxe99ae_doubleToLongBits_ccdee_4 (by decide) (fun c4 => ?_) (fun c4 => ?_)
  · replace h := tw_t c4 h
    refine lv_ldc2 hx hb hown (hts _ qJxe99ae_doubleToLongBits_ccdee_0) dJxe99ae_doubleToLongBits_ccdee_12 ?_
    exact hq H locs _ ls (9221120237041090560 : Int64) (tw_rt (fun r => r = (9221120237041090560 : Int64)) h rfl) hP hS dJxe99ae_doubleToLongBits_ccdee_15
  · replace h := tw_fn c4 h
    refine lv_dload_n hx hb dJxe99ae_doubleToLongBits_ccdee_7 rfl (lv_at hl 0 rfl) ?_
    refine vn_d2l hx hb (hml.trans hl.1.symm) hown (hts _ qJxe99ae_doubleToLongBits_ccdee_1) (hts _ qJxe99ae_doubleToLongBits_ccdee_2) (hts _ qJxe99ae_doubleToLongBits_ccdee_3) (hts _ qJxe99ae_doubleToLongBits_ccdee_4) (Nat.le_of_ble_eq_true rfl) (Nat.le_of_ble_eq_true rfl) dJxe99ae_doubleToLongBits_ccdee_8 ?_
    exact hq H locs _ ls p0.toInt64 (tw_rt (fun r => r = p0.toInt64) h rfl) hP hS dJxe99ae_doubleToLongBits_ccdee_11
