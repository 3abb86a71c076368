/-! the law's helpers -/
abbrev rhL_hallOn : Room := { frames := 7, cells := 1, slots := 6, locals := 103 }
set_option maxRecDepth 20000 in
theorem qL_hallOn_3 : Cond.classLink RL 21 "java/lang/IndexOutOfBoundsException" ∈ wsL_hallOn := (List.mem_cons_of_mem _ (List.mem_append_left _ (List.mem_append_left _ (List.mem_append_left _ (List.mem_append_left _ (List.mem_append_left _ (List.mem_of_getElem? (i := 0) rfl)))))))
set_option maxHeartbeats 4000000 in
set_option maxRecDepth 100000 in
theorem hL_hallOn (l : Launch) (hst : l.stackTraces = false) (G : va_G) (cI cQ cL : ClassId) (a na pa ta qa xa : Nat → Nat) (z : Nat → Nat → Nat) (o : Nat) (Y : tw_Wl) (f : Nat → Int64) (sz : Nat) (p1 : Int32) (p2 : Int32) {rv : Nat × Int32} (h : fX3_hallOn Y p1 p2 = some rv) (hk : rv.1 = 0 ∨ rv.1 = 3) : tw_Mh l yL_hallOn wsL_hallOn rhL_hallOn G [(cI, .int), (cQ, .object RX1), (cL, .long)] (tw_wW cI cQ a na pa ta qa xa z Y ++ [(o, .inl (cL, 1, .inr (.inl f)))]) [.ref (a 0), .int p1, .int p2, .ref o] sz (tw_hk 0 0 1 rv.1) (tw_wW cI cQ a na pa ta qa xa z Y ++ [(o, .inl (cL, 1, .inr (.inl (if rv.1 = 0 then vp_updL f 0 (rv.2).toInt64 else f))))]) := by
  refine tw_ofh (cc := cL_hallOn) (maxL := 5) (own := RL) (by decide) rfl rfl (Nat.le_of_ble_eq_true rfl) ?_
  intro p e s m args below meth c Q A ls H locs F hN hK hP hD hS hA hl hNX hNC hU hZ htab hq
  obtain ⟨hx, hb, hml, hown, hts⟩ := id F
  have hl : lv_has ls 5 [(0, .ref (a 0)), (1, .int p1), (2, .int p2), (3, .ref o)] := hl
  refine lv_aload_n hx hb dL_hallOn_0 rfl (lv_at hl 3 rfl) ?_
  refine lv_iconst (v := (0 : Int32)) hx hb dL_hallOn_1 (by decide) ?_
  refine lv_aload_n hx hb dL_hallOn_2 rfl (lv_at hl 0 rfl) ?_
  refine lv_iload_n hx hb dL_hallOn_3 rfl (lv_at hl 1 rfl) ?_
  refine lv_iload_n hx hb dL_hallOn_4 rfl (lv_at hl 2 rfl) ?_
  rcases hk with hk | hk
  · refine tw_callVi (ws' := tw_wW cI cQ a na pa ta qa xa z Y ++ [(o, .inl (cL, 1, .inr (.inl f)))]) F hN hK hP hD hS hA (mX3_hallOn l G cI cQ a na pa ta qa xa z Y H.size p1 p2 h hk) (cwV 2 hts gL_hallOn_X3_hallOn rfl rfl rfl (by decide +kernel) ⟨Nat.le_of_ble_eq_true rfl, Nat.le_of_ble_eq_true rfl⟩) [0, 1] rfl (List.range (tw_wW cI cQ a na pa ta qa xa z Y).length) (tw_ndR _) tw_cR lw_fW (tw_mix_hit _ rfl lw_nW) (ci := 3) (r0 := 0) rfl rfl rfl (As := [.int p1, .int p2]) (rest := [.int (0 : Int32), .ref o]) rfl hl.1 rfl (Nat.le_of_ble_eq_true rfl) dL_hallOn_5 ⟨Nat.le_of_ble_eq_true rfl, Nat.le_of_ble_eq_true rfl⟩ (fun H locs hP hD hS => ?_)
    refine lv_i2l hx hb dL_hallOn_8 rfl ?_
    refine tw_last (ws' := tw_wW cI cQ a na pa ta qa xa z Y ++ [(o, .inl (cL, 1, .inr (.inl (vp_updL f 0 (rv.2).toInt64))))]) (f := f) (n := 1) hx hb hK hP hD hS (tw_wW cI cQ a na pa ta qa xa z Y).length 2 tw_get_l rfl (i := (0 : Int32)) (tw_vin (by decide)) dL_hallOn_9 tw_set_l (fun H locs hP hD hS => ?_)
    refine lv_goto (tgt := 17) hx hb dL_hallOn_10 (by decide) ?_
    refine lv_iconst (v := (0 : Int32)) hx hb dL_hallOn_17 (by decide) ?_
    exact hq H locs _ ls 0 _ _ (by rw [hk]; rfl) (by rw [if_pos hk]; exact hP) hS dL_hallOn_18 (Nat.le_of_ble_eq_true rfl) (Nat.le_of_ble_eq_true rfl)
  · refine tw_callX (E := tw_en rv.1) (wc' := tw_wW cI cQ a na pa ta qa xa z Y) F hN hK hP hD hS hA hNX hU hZ (xX3_hallOn l hst G cI cQ a na pa ta qa xa z Y H.size p1 p2 h (by rw [hk]; decide)) (cwV 2 hts gL_hallOn_X3_hallOn rfl rfl rfl (by decide +kernel) ⟨Nat.le_of_ble_eq_true rfl, Nat.le_of_ble_eq_true rfl⟩) [0, 1] rfl lw_fW (ci := 3) (r0 := 0) rfl rfl rfl (As := [.int p1, .int p2]) (rest := [.int (0 : Int32), .ref o]) rfl hl.1 rfl (Nat.le_of_ble_eq_true rfl) dL_hallOn_5 ⟨Nat.le_of_ble_eq_true rfl, Nat.le_of_ble_eq_true rfl⟩ (fun ce q9 H locs hP hS hce hcv hcl => ?_)
    rw [hk] at hcl
    refine vx_catch (E := tw_E3) hown (tableOf []) ⟨0, 10, 13, 21⟩ (tableOf []) htab (fun z hz => absurd hz List.not_mem_nil) (by decide) (by decide) (hts _ qL_hallOn_3) (va_Nw.use rfl hNX.2.2.2) hce hcv hcl ?_
    refine lv_astore (lv' := [(4, .ref q9), (0, .ref (a 0)), (1, .int p1), (2, .int p2), (3, .ref o)]) hx hb dL_hallOn_13 hl (by decide) rfl (fun ls hl => ?_)
    refine lv_iconst (v := (1 : Int32)) hx hb dL_hallOn_15 (by decide) ?_
    exact hq H locs _ ls 1 _ _ (by rw [hk]; rfl) (by rw [if_neg (by rw [hk]; decide)]; exact hP) hS dL_hallOn_16 (Nat.le_of_ble_eq_true rfl) (Nat.le_of_ble_eq_true rfl)
abbrev rhL_hall : Room := { frames := 7, cells := 1, slots := 6, locals := 103 }
set_option maxRecDepth 20000 in
theorem qL_hall_3 : Cond.classLink RL 21 "java/lang/IndexOutOfBoundsException" ∈ wsL_hall := (List.mem_cons_of_mem _ (List.mem_append_left _ (List.mem_append_left _ (List.mem_append_left _ (List.mem_append_left _ (List.mem_append_left _ (List.mem_append_left _ (List.mem_of_getElem? (i := 0) rfl))))))))
set_option maxRecDepth 20000 in
theorem qL_hall_1 : Cond.classLink RL 13 "java/lang/IllegalArgumentException" ∈ wsL_hall := (List.mem_cons_of_mem _ (List.mem_append_left _ (List.mem_append_left _ (List.mem_append_left _ (List.mem_append_left _ (List.mem_append_left _ (List.mem_append_left _ (List.mem_of_getElem? (i := 1) rfl))))))))
set_option maxHeartbeats 4000000 in
set_option maxRecDepth 100000 in
theorem hL_hall (l : Launch) (hst : l.stackTraces = false) (G : va_G) (cI cQ cL : ClassId) (a na pa ta qa xa : Nat → Nat) (z : Nat → Nat → Nat) (o : Nat) (Y : tw_Wl) (f : Nat → Int64) (sz : Nat) (p1 : Int32) (p2 : Int32) {rv : Nat × Int32} (h : fX3_hall Y p1 p2 = some rv) (hk : rv.1 = 0 ∨ rv.1 = 1 ∨ rv.1 = 3) : tw_Mh l yL_hall wsL_hall rhL_hall G [(cI, .int), (cQ, .object RX1), (cL, .long)] (tw_wW cI cQ a na pa ta qa xa z Y ++ [(o, .inl (cL, 1, .inr (.inl f)))]) [.ref (a 0), .int p1, .int p2, .ref o] sz (tw_hk 2 0 1 rv.1) (tw_wW cI cQ a na pa ta qa xa z Y ++ [(o, .inl (cL, 1, .inr (.inl (if rv.1 = 0 then vp_updL f 0 (rv.2).toInt64 else f))))]) := by
  refine tw_ofh (cc := cL_hall) (maxL := 5) (own := RL) (by decide) rfl rfl (Nat.le_of_ble_eq_true rfl) ?_
  intro p e s m args below meth c Q A ls H locs F hN hK hP hD hS hA hl hNX hNC hU hZ htab hq
  obtain ⟨hx, hb, hml, hown, hts⟩ := id F
  have hl : lv_has ls 5 [(0, .ref (a 0)), (1, .int p1), (2, .int p2), (3, .ref o)] := hl
  refine lv_aload_n hx hb dL_hall_0 rfl (lv_at hl 3 rfl) ?_
  refine lv_iconst (v := (0 : Int32)) hx hb dL_hall_1 (by decide) ?_
  refine lv_aload_n hx hb dL_hall_2 rfl (lv_at hl 0 rfl) ?_
  refine lv_iload_n hx hb dL_hall_3 rfl (lv_at hl 1 rfl) ?_
  refine lv_iload_n hx hb dL_hall_4 rfl (lv_at hl 2 rfl) ?_
  rcases hk with hk | hk | hk
  · refine tw_callVi (ws' := tw_wW cI cQ a na pa ta qa xa z Y ++ [(o, .inl (cL, 1, .inr (.inl f)))]) F hN hK hP hD hS hA (mX3_hall l G cI cQ a na pa ta qa xa z Y H.size p1 p2 h hk) (cwV 2 hts gL_hall_X3_hall rfl rfl rfl (by decide +kernel) ⟨Nat.le_of_ble_eq_true rfl, Nat.le_of_ble_eq_true rfl⟩) [0, 1] rfl (List.range (tw_wW cI cQ a na pa ta qa xa z Y).length) (tw_ndR _) tw_cR lw_fW (tw_mix_hit _ rfl lw_nW) (ci := 3) (r0 := 0) rfl rfl rfl (As := [.int p1, .int p2]) (rest := [.int (0 : Int32), .ref o]) rfl hl.1 rfl (Nat.le_of_ble_eq_true rfl) dL_hall_5 ⟨Nat.le_of_ble_eq_true rfl, Nat.le_of_ble_eq_true rfl⟩ (fun H locs hP hD hS => ?_)
    refine lv_i2l hx hb dL_hall_8 rfl ?_
    refine tw_last (ws' := tw_wW cI cQ a na pa ta qa xa z Y ++ [(o, .inl (cL, 1, .inr (.inl (vp_updL f 0 (rv.2).toInt64))))]) (f := f) (n := 1) hx hb hK hP hD hS (tw_wW cI cQ a na pa ta qa xa z Y).length 2 tw_get_l rfl (i := (0 : Int32)) (tw_vin (by decide)) dL_hall_9 tw_set_l (fun H locs hP hD hS => ?_)
    refine lv_goto (tgt := 21) hx hb dL_hall_10 (by decide) ?_
    refine lv_iconst (v := (0 : Int32)) hx hb dL_hall_21 (by decide) ?_
    exact hq H locs _ ls 0 _ _ (by rw [hk]; rfl) (by rw [if_pos hk]; exact hP) hS dL_hall_22 (Nat.le_of_ble_eq_true rfl) (Nat.le_of_ble_eq_true rfl)
  · refine tw_callX (E := tw_en rv.1) (wc' := tw_wW cI cQ a na pa ta qa xa z Y) F hN hK hP hD hS hA hNX hU hZ (xX3_hall l hst G cI cQ a na pa ta qa xa z Y H.size p1 p2 h (by rw [hk]; decide)) (cwV 2 hts gL_hall_X3_hall rfl rfl rfl (by decide +kernel) ⟨Nat.le_of_ble_eq_true rfl, Nat.le_of_ble_eq_true rfl⟩) [0, 1] rfl lw_fW (ci := 3) (r0 := 0) rfl rfl rfl (As := [.int p1, .int p2]) (rest := [.int (0 : Int32), .ref o]) rfl hl.1 rfl (Nat.le_of_ble_eq_true rfl) dL_hall_5 ⟨Nat.le_of_ble_eq_true rfl, Nat.le_of_ble_eq_true rfl⟩ (fun ce q9 H locs hP hS hce hcv hcl => ?_)
    rw [hk] at hcl
    refine vx_catch (E := tw_E1) hown (tableOf [(0, 10, 13, 21)]) ⟨0, 10, 17, 13⟩ (tableOf []) htab (List.forall_mem_cons.mpr ⟨Or.inr ⟨by decide, _, hts _ qL_hall_3, hNC.2.1⟩, fun z hz => absurd hz List.not_mem_nil⟩) (by decide) (by decide) (hts _ qL_hall_1) (va_Nw.use rfl hNX.2.1) hce hcv hcl ?_
    refine lv_astore (lv' := [(4, .ref q9), (0, .ref (a 0)), (1, .int p1), (2, .int p2), (3, .ref o)]) hx hb dL_hall_17 hl (by decide) rfl (fun ls hl => ?_)
    refine lv_iconst (v := (2 : Int32)) hx hb dL_hall_19 (by decide) ?_
    exact hq H locs _ ls 2 _ _ (by rw [hk]; rfl) (by rw [if_neg (by rw [hk]; decide)]; exact hP) hS dL_hall_20 (Nat.le_of_ble_eq_true rfl) (Nat.le_of_ble_eq_true rfl)
  · refine tw_callX (E := tw_en rv.1) (wc' := tw_wW cI cQ a na pa ta qa xa z Y) F hN hK hP hD hS hA hNX hU hZ (xX3_hall l hst G cI cQ a na pa ta qa xa z Y H.size p1 p2 h (by rw [hk]; decide)) (cwV 2 hts gL_hall_X3_hall rfl rfl rfl (by decide +kernel) ⟨Nat.le_of_ble_eq_true rfl, Nat.le_of_ble_eq_true rfl⟩) [0, 1] rfl lw_fW (ci := 3) (r0 := 0) rfl rfl rfl (As := [.int p1, .int p2]) (rest := [.int (0 : Int32), .ref o]) rfl hl.1 rfl (Nat.le_of_ble_eq_true rfl) dL_hall_5 ⟨Nat.le_of_ble_eq_true rfl, Nat.le_of_ble_eq_true rfl⟩ (fun ce q9 H locs hP hS hce hcv hcl => ?_)
    rw [hk] at hcl
    refine vx_catch (E := tw_E3) hown (tableOf []) ⟨0, 10, 13, 21⟩ (tableOf [(0, 10, 17, 13)]) htab (fun z hz => absurd hz List.not_mem_nil) (by decide) (by decide) (hts _ qL_hall_3) (va_Nw.use rfl hNX.2.2.2) hce hcv hcl ?_
    refine lv_astore (lv' := [(4, .ref q9), (0, .ref (a 0)), (1, .int p1), (2, .int p2), (3, .ref o)]) hx hb dL_hall_13 hl (by decide) rfl (fun ls hl => ?_)
    refine lv_iconst (v := (1 : Int32)) hx hb dL_hall_15 (by decide) ?_
    exact hq H locs _ ls 1 _ _ (by rw [hk]; rfl) (by rw [if_neg (by rw [hk]; decide)]; exact hP) hS dL_hall_16 (Nat.le_of_ble_eq_true rfl) (Nat.le_of_ble_eq_true rfl)
abbrev rhL_count : Room := { frames := 7, cells := 1, slots := 6, locals := 169 }
set_option maxRecDepth 20000 in
theorem qL_count_1 : Cond.classLink RL 13 "java/lang/IllegalArgumentException" ∈ wsL_count := (List.mem_cons_of_mem _ (List.mem_append_left _ (List.mem_append_left _ (List.mem_append_left _ (List.mem_append_left _ (List.mem_append_left _ (List.mem_of_getElem? (i := 0) rfl)))))))
set_option maxHeartbeats 4000000 in
set_option maxRecDepth 100000 in
theorem hL_count (l : Launch) (hst : l.stackTraces = false) (G : va_G) (cI cQ cL : ClassId) (a na pa ta qa xa : Nat → Nat) (z : Nat → Nat → Nat) (o : Nat) (Y : tw_Wl) (f : Nat → Int64) (sz : Nat) (p1 : Int32) {rv : Nat × Int32 × tw_Wl} (h : fX3_count Y p1 = some rv) (hk : rv.1 = 0 ∨ rv.1 = 1) : tw_Mh l yL_count wsL_count rhL_count G [(cI, .int), (cQ, .object RX1), (cL, .long)] (tw_wW cI cQ a na pa ta qa xa z Y ++ [(o, .inl (cL, 1, .inr (.inl f)))]) [.ref (a 0), .int p1, .ref o] sz (tw_hk 1 0 0 rv.1) (tw_wW cI cQ a na pa ta qa xa z rv.2.2 ++ [(o, .inl (cL, 1, .inr (.inl (if rv.1 = 0 then vp_updL f 0 (rv.2.1).toInt64 else f))))]) := by
  refine tw_ofh (cc := cL_count) (maxL := 4) (own := RL) (by decide) rfl rfl (Nat.le_of_ble_eq_true rfl) ?_
  intro p e s m args below meth c Q A ls H locs F hN hK hP hD hS hA hl hNX hNC hU hZ htab hq
  obtain ⟨hx, hb, hml, hown, hts⟩ := id F
  have hl : lv_has ls 4 [(0, .ref (a 0)), (1, .int p1), (2, .ref o)] := hl
  refine lv_aload_n hx hb dL_count_0 rfl (lv_at hl 2 rfl) ?_
  refine lv_iconst (v := (0 : Int32)) hx hb dL_count_1 (by decide) ?_
  refine lv_aload_n hx hb dL_count_2 rfl (lv_at hl 0 rfl) ?_
  refine lv_iload_n hx hb dL_count_3 rfl (lv_at hl 1 rfl) ?_
  rcases hk with hk | hk
  · refine tw_callVi (ws' := tw_wW cI cQ a na pa ta qa xa z rv.2.2 ++ [(o, .inl (cL, 1, .inr (.inl f)))]) F hN hK hP hD hS hA (mX3_count l G cI cQ a na pa ta qa xa z Y H.size p1 h hk) (cwV 1 hts gL_count_X3_count rfl rfl rfl (by decide +kernel) ⟨Nat.le_of_ble_eq_true rfl, Nat.le_of_ble_eq_true rfl⟩) [0, 1] rfl (List.range (tw_wW cI cQ a na pa ta qa xa z Y).length) (tw_ndR _) tw_cR lw_fW (tw_mix_hit _ rfl lw_nW) (ci := 3) (r0 := 0) rfl rfl rfl (As := [.int p1]) (rest := [.int (0 : Int32), .ref o]) rfl hl.1 rfl (Nat.le_of_ble_eq_true rfl) dL_count_4 ⟨Nat.le_of_ble_eq_true rfl, Nat.le_of_ble_eq_true rfl⟩ (fun H locs hP hD hS => ?_)
    refine lv_i2l hx hb dL_count_7 rfl ?_
    refine tw_last (ws' := tw_wW cI cQ a na pa ta qa xa z rv.2.2 ++ [(o, .inl (cL, 1, .inr (.inl (vp_updL f 0 (rv.2.1).toInt64))))]) (f := f) (n := 1) hx hb hK hP hD hS (tw_wW cI cQ a na pa ta qa xa z rv.2.2).length 2 tw_get_l rfl (i := (0 : Int32)) (tw_vin (by decide)) dL_count_8 tw_set_l (fun H locs hP hD hS => ?_)
    refine lv_goto (tgt := 15) hx hb dL_count_9 (by decide) ?_
    refine lv_iconst (v := (0 : Int32)) hx hb dL_count_15 (by decide) ?_
    exact hq H locs _ ls 0 _ _ (by rw [hk]; rfl) (by rw [if_pos hk]; exact hP) hS dL_count_16 (Nat.le_of_ble_eq_true rfl) (Nat.le_of_ble_eq_true rfl)
  · refine tw_callX (E := tw_en rv.1) (wc' := tw_wW cI cQ a na pa ta qa xa z rv.2.2) F hN hK hP hD hS hA hNX hU hZ (xX3_count l hst G cI cQ a na pa ta qa xa z Y H.size p1 h (by rw [hk]; decide)) (cwV 1 hts gL_count_X3_count rfl rfl rfl (by decide +kernel) ⟨Nat.le_of_ble_eq_true rfl, Nat.le_of_ble_eq_true rfl⟩) [0, 1] rfl lw_fW (ci := 3) (r0 := 0) rfl rfl rfl (As := [.int p1]) (rest := [.int (0 : Int32), .ref o]) rfl hl.1 rfl (Nat.le_of_ble_eq_true rfl) dL_count_4 ⟨Nat.le_of_ble_eq_true rfl, Nat.le_of_ble_eq_true rfl⟩ (fun ce q9 H locs hP hS hce hcv hcl => ?_)
    rw [hk] at hcl
    refine vx_catch (E := tw_E1) hown (tableOf []) ⟨0, 9, 12, 13⟩ (tableOf []) htab (fun z hz => absurd hz List.not_mem_nil) (by decide) (by decide) (hts _ qL_count_1) (va_Nw.use rfl hNX.2.1) hce hcv hcl ?_
    refine lv_astore_n (lv' := [(3, .ref q9), (0, .ref (a 0)), (1, .int p1), (2, .ref o)]) hx hb dL_count_12 rfl hl (by decide) rfl (fun ls hl => ?_)
    refine lv_iconst (v := (1 : Int32)) hx hb dL_count_13 (by decide) ?_
    exact hq H locs _ ls 1 _ _ (by rw [hk]; rfl) (by rw [if_neg (by rw [hk]; decide)]; exact hP) hS dL_count_14 (Nat.le_of_ble_eq_true rfl) (Nat.le_of_ble_eq_true rfl)
abbrev rhL_ifRule : Room := { frames := 7, cells := 1, slots := 6, locals := 146 }
set_option maxRecDepth 20000 in
theorem qL_ifRule_1 : Cond.classLink RL 13 "java/lang/IllegalArgumentException" ∈ wsL_ifRule := (List.mem_cons_of_mem _ (List.mem_append_left _ (List.mem_append_left _ (List.mem_append_left _ (List.mem_append_left _ (List.mem_append_left _ (List.mem_of_getElem? (i := 0) rfl)))))))
set_option maxHeartbeats 4000000 in
set_option maxRecDepth 100000 in
theorem hL_ifRule (l : Launch) (hst : l.stackTraces = false) (G : va_G) (cI cQ cL : ClassId) (a na pa ta qa xa : Nat → Nat) (z : Nat → Nat → Nat) (o : Nat) (Y : tw_Wl) (f : Nat → Int64) (sz : Nat) (p1 : Int32) (p2 : Int32) {rv : Nat × Int32 × tw_Wl} (h : fX3_ifRule Y p1 p2 = some rv) (hk : rv.1 = 0 ∨ rv.1 = 1) : tw_Mh l yL_ifRule wsL_ifRule rhL_ifRule G [(cI, .int), (cQ, .object RX1), (cL, .long)] (tw_wW cI cQ a na pa ta qa xa z Y ++ [(o, .inl (cL, 1, .inr (.inl f)))]) [.ref (a 0), .int p1, .int p2, .ref o] sz (tw_hk 1 0 0 rv.1) (tw_wW cI cQ a na pa ta qa xa z rv.2.2 ++ [(o, .inl (cL, 1, .inr (.inl (if rv.1 = 0 then vp_updL f 0 (rv.2.1).toInt64 else f))))]) := by
  refine tw_ofh (cc := cL_ifRule) (maxL := 5) (own := RL) (by decide) rfl rfl (Nat.le_of_ble_eq_true rfl) ?_
  intro p e s m args below meth c Q A ls H locs F hN hK hP hD hS hA hl hNX hNC hU hZ htab hq
  obtain ⟨hx, hb, hml, hown, hts⟩ := id F
  have hl : lv_has ls 5 [(0, .ref (a 0)), (1, .int p1), (2, .int p2), (3, .ref o)] := hl
  refine lv_aload_n hx hb dL_ifRule_0 rfl (lv_at hl 3 rfl) ?_
  refine lv_iconst (v := (0 : Int32)) hx hb dL_ifRule_1 (by decide) ?_
  refine lv_aload_n hx hb dL_ifRule_2 rfl (lv_at hl 0 rfl) ?_
  refine lv_iload_n hx hb dL_ifRule_3 rfl (lv_at hl 1 rfl) ?_
  refine lv_iload_n hx hb dL_ifRule_4 rfl (lv_at hl 2 rfl) ?_
  rcases hk with hk | hk
  · refine tw_callVi (ws' := tw_wW cI cQ a na pa ta qa xa z rv.2.2 ++ [(o, .inl (cL, 1, .inr (.inl f)))]) F hN hK hP hD hS hA (mX3_ifRule l G cI cQ a na pa ta qa xa z Y H.size p1 p2 h hk) (cwV 2 hts gL_ifRule_X3_ifRule rfl rfl rfl (by decide +kernel) ⟨Nat.le_of_ble_eq_true rfl, Nat.le_of_ble_eq_true rfl⟩) [0, 1] rfl (List.range (tw_wW cI cQ a na pa ta qa xa z Y).length) (tw_ndR _) tw_cR lw_fW (tw_mix_hit _ rfl lw_nW) (ci := 3) (r0 := 0) rfl rfl rfl (As := [.int p1, .int p2]) (rest := [.int (0 : Int32), .ref o]) rfl hl.1 rfl (Nat.le_of_ble_eq_true rfl) dL_ifRule_5 ⟨Nat.le_of_ble_eq_true rfl, Nat.le_of_ble_eq_true rfl⟩ (fun H locs hP hD hS => ?_)
    refine lv_i2l hx hb dL_ifRule_8 rfl ?_
    refine tw_last (ws' := tw_wW cI cQ a na pa ta qa xa z rv.2.2 ++ [(o, .inl (cL, 1, .inr (.inl (vp_updL f 0 (rv.2.1).toInt64))))]) (f := f) (n := 1) hx hb hK hP hD hS (tw_wW cI cQ a na pa ta qa xa z rv.2.2).length 2 tw_get_l rfl (i := (0 : Int32)) (tw_vin (by decide)) dL_ifRule_9 tw_set_l (fun H locs hP hD hS => ?_)
    refine lv_goto (tgt := 17) hx hb dL_ifRule_10 (by decide) ?_
    refine lv_iconst (v := (0 : Int32)) hx hb dL_ifRule_17 (by decide) ?_
    exact hq H locs _ ls 0 _ _ (by rw [hk]; rfl) (by rw [if_pos hk]; exact hP) hS dL_ifRule_18 (Nat.le_of_ble_eq_true rfl) (Nat.le_of_ble_eq_true rfl)
  · refine tw_callX (E := tw_en rv.1) (wc' := tw_wW cI cQ a na pa ta qa xa z rv.2.2) F hN hK hP hD hS hA hNX hU hZ (xX3_ifRule l hst G cI cQ a na pa ta qa xa z Y H.size p1 p2 h (by rw [hk]; decide)) (cwV 2 hts gL_ifRule_X3_ifRule rfl rfl rfl (by decide +kernel) ⟨Nat.le_of_ble_eq_true rfl, Nat.le_of_ble_eq_true rfl⟩) [0, 1] rfl lw_fW (ci := 3) (r0 := 0) rfl rfl rfl (As := [.int p1, .int p2]) (rest := [.int (0 : Int32), .ref o]) rfl hl.1 rfl (Nat.le_of_ble_eq_true rfl) dL_ifRule_5 ⟨Nat.le_of_ble_eq_true rfl, Nat.le_of_ble_eq_true rfl⟩ (fun ce q9 H locs hP hS hce hcv hcl => ?_)
    rw [hk] at hcl
    refine vx_catch (E := tw_E1) hown (tableOf []) ⟨0, 10, 13, 13⟩ (tableOf []) htab (fun z hz => absurd hz List.not_mem_nil) (by decide) (by decide) (hts _ qL_ifRule_1) (va_Nw.use rfl hNX.2.1) hce hcv hcl ?_
    refine lv_astore (lv' := [(4, .ref q9), (0, .ref (a 0)), (1, .int p1), (2, .int p2), (3, .ref o)]) hx hb dL_ifRule_13 hl (by decide) rfl (fun ls hl => ?_)
    refine lv_iconst (v := (1 : Int32)) hx hb dL_ifRule_15 (by decide) ?_
    exact hq H locs _ ls 1 _ _ (by rw [hk]; rfl) (by rw [if_neg (by rw [hk]; decide)]; exact hP) hS dL_ifRule_16 (Nat.le_of_ble_eq_true rfl) (Nat.le_of_ble_eq_true rfl)
abbrev rhL_ifFreed : Room := { frames := 7, cells := 1, slots := 6, locals := 125 }
set_option maxRecDepth 20000 in
theorem qL_ifFreed_3 : Cond.classLink RL 21 "java/lang/IndexOutOfBoundsException" ∈ wsL_ifFreed := (List.mem_cons_of_mem _ (List.mem_append_left _ (List.mem_append_left _ (List.mem_append_left _ (List.mem_append_left _ (List.mem_append_left _ (List.mem_of_getElem? (i := 0) rfl)))))))
set_option maxHeartbeats 4000000 in
set_option maxRecDepth 100000 in
theorem hL_ifFreed (l : Launch) (hst : l.stackTraces = false) (G : va_G) (cI cQ cL : ClassId) (a na pa ta qa xa : Nat → Nat) (z : Nat → Nat → Nat) (o : Nat) (Y : tw_Wl) (f : Nat → Int64) (sz : Nat) (p1 : Int32) {rv : Nat × Int32 × tw_Wl} (h : fX3_ifFreed Y p1 = some rv) (hk : rv.1 = 0 ∨ rv.1 = 3) : tw_Mh l yL_ifFreed wsL_ifFreed rhL_ifFreed G [(cI, .int), (cQ, .object RX1), (cL, .long)] (tw_wW cI cQ a na pa ta qa xa z Y ++ [(o, .inl (cL, 1, .inr (.inl f)))]) [.ref (a 0), .int p1, .ref o] sz (tw_hk 0 0 1 rv.1) (tw_wW cI cQ a na pa ta qa xa z rv.2.2 ++ [(o, .inl (cL, 1, .inr (.inl (if rv.1 = 0 then vp_updL f 0 (rv.2.1).toInt64 else f))))]) := by
  refine tw_ofh (cc := cL_ifFreed) (maxL := 4) (own := RL) (by decide) rfl rfl (Nat.le_of_ble_eq_true rfl) ?_
  intro p e s m args below meth c Q A ls H locs F hN hK hP hD hS hA hl hNX hNC hU hZ htab hq
  obtain ⟨hx, hb, hml, hown, hts⟩ := id F
  have hl : lv_has ls 4 [(0, .ref (a 0)), (1, .int p1), (2, .ref o)] := hl
  refine lv_aload_n hx hb dL_ifFreed_0 rfl (lv_at hl 2 rfl) ?_
  refine lv_iconst (v := (0 : Int32)) hx hb dL_ifFreed_1 (by decide) ?_
  refine lv_aload_n hx hb dL_ifFreed_2 rfl (lv_at hl 0 rfl) ?_
  refine lv_iload_n hx hb dL_ifFreed_3 rfl (lv_at hl 1 rfl) ?_
  rcases hk with hk | hk
  · refine tw_callVi (ws' := tw_wW cI cQ a na pa ta qa xa z rv.2.2 ++ [(o, .inl (cL, 1, .inr (.inl f)))]) F hN hK hP hD hS hA (mX3_ifFreed l G cI cQ a na pa ta qa xa z Y H.size p1 h hk) (cwV 1 hts gL_ifFreed_X3_ifFreed rfl rfl rfl (by decide +kernel) ⟨Nat.le_of_ble_eq_true rfl, Nat.le_of_ble_eq_true rfl⟩) [0, 1] rfl (List.range (tw_wW cI cQ a na pa ta qa xa z Y).length) (tw_ndR _) tw_cR lw_fW (tw_mix_hit _ rfl lw_nW) (ci := 3) (r0 := 0) rfl rfl rfl (As := [.int p1]) (rest := [.int (0 : Int32), .ref o]) rfl hl.1 rfl (Nat.le_of_ble_eq_true rfl) dL_ifFreed_4 ⟨Nat.le_of_ble_eq_true rfl, Nat.le_of_ble_eq_true rfl⟩ (fun H locs hP hD hS => ?_)
    refine lv_i2l hx hb dL_ifFreed_7 rfl ?_
    refine tw_last (ws' := tw_wW cI cQ a na pa ta qa xa z rv.2.2 ++ [(o, .inl (cL, 1, .inr (.inl (vp_updL f 0 (rv.2.1).toInt64))))]) (f := f) (n := 1) hx hb hK hP hD hS (tw_wW cI cQ a na pa ta qa xa z rv.2.2).length 2 tw_get_l rfl (i := (0 : Int32)) (tw_vin (by decide)) dL_ifFreed_8 tw_set_l (fun H locs hP hD hS => ?_)
    refine lv_goto (tgt := 15) hx hb dL_ifFreed_9 (by decide) ?_
    refine lv_iconst (v := (0 : Int32)) hx hb dL_ifFreed_15 (by decide) ?_
    exact hq H locs _ ls 0 _ _ (by rw [hk]; rfl) (by rw [if_pos hk]; exact hP) hS dL_ifFreed_16 (Nat.le_of_ble_eq_true rfl) (Nat.le_of_ble_eq_true rfl)
  · refine tw_callX (E := tw_en rv.1) (wc' := tw_wW cI cQ a na pa ta qa xa z rv.2.2) F hN hK hP hD hS hA hNX hU hZ (xX3_ifFreed l hst G cI cQ a na pa ta qa xa z Y H.size p1 h (by rw [hk]; decide)) (cwV 1 hts gL_ifFreed_X3_ifFreed rfl rfl rfl (by decide +kernel) ⟨Nat.le_of_ble_eq_true rfl, Nat.le_of_ble_eq_true rfl⟩) [0, 1] rfl lw_fW (ci := 3) (r0 := 0) rfl rfl rfl (As := [.int p1]) (rest := [.int (0 : Int32), .ref o]) rfl hl.1 rfl (Nat.le_of_ble_eq_true rfl) dL_ifFreed_4 ⟨Nat.le_of_ble_eq_true rfl, Nat.le_of_ble_eq_true rfl⟩ (fun ce q9 H locs hP hS hce hcv hcl => ?_)
    rw [hk] at hcl
    refine vx_catch (E := tw_E3) hown (tableOf []) ⟨0, 9, 12, 21⟩ (tableOf []) htab (fun z hz => absurd hz List.not_mem_nil) (by decide) (by decide) (hts _ qL_ifFreed_3) (va_Nw.use rfl hNX.2.2.2) hce hcv hcl ?_
    refine lv_astore_n (lv' := [(3, .ref q9), (0, .ref (a 0)), (1, .int p1), (2, .ref o)]) hx hb dL_ifFreed_12 rfl hl (by decide) rfl (fun ls hl => ?_)
    refine lv_iconst (v := (1 : Int32)) hx hb dL_ifFreed_13 (by decide) ?_
    exact hq H locs _ ls 1 _ _ (by rw [hk]; rfl) (by rw [if_neg (by rw [hk]; decide)]; exact hP) hS dL_ifFreed_14 (Nat.le_of_ble_eq_true rfl) (Nat.le_of_ble_eq_true rfl)
abbrev rhL_worstSlip : Room := { frames := 7, cells := 1, slots := 6, locals := 127 }
set_option maxRecDepth 20000 in
theorem qL_worstSlip_1 : Cond.classLink RL 13 "java/lang/IllegalArgumentException" ∈ wsL_worstSlip := (List.mem_cons_of_mem _ (List.mem_append_left _ (List.mem_append_left _ (List.mem_append_left _ (List.mem_append_left _ (List.mem_append_left _ (List.mem_of_getElem? (i := 0) rfl)))))))
set_option maxHeartbeats 4000000 in
set_option maxRecDepth 100000 in
theorem hL_worstSlip (l : Launch) (hst : l.stackTraces = false) (G : va_G) (cI cQ cL : ClassId) (a na pa ta qa xa : Nat → Nat) (z : Nat → Nat → Nat) (o : Nat) (Y : tw_Wl) (f : Nat → Int64) (sz : Nat) (p1 : Int32) {rv : Nat × Int32 × tw_Wl} (h : fX3_worstSlip Y p1 = some rv) (hk : rv.1 = 0 ∨ rv.1 = 1) : tw_Mh l yL_worstSlip wsL_worstSlip rhL_worstSlip G [(cI, .int), (cQ, .object RX1), (cL, .long)] (tw_wW cI cQ a na pa ta qa xa z Y ++ [(o, .inl (cL, 1, .inr (.inl f)))]) [.ref (a 0), .int p1, .ref o] sz (tw_hk 1 0 0 rv.1) (tw_wW cI cQ a na pa ta qa xa z rv.2.2 ++ [(o, .inl (cL, 1, .inr (.inl (if rv.1 = 0 then vp_updL f 0 (rv.2.1).toInt64 else f))))]) := by
  refine tw_ofh (cc := cL_worstSlip) (maxL := 4) (own := RL) (by decide) rfl rfl (Nat.le_of_ble_eq_true rfl) ?_
  intro p e s m args below meth c Q A ls H locs F hN hK hP hD hS hA hl hNX hNC hU hZ htab hq
  obtain ⟨hx, hb, hml, hown, hts⟩ := id F
  have hl : lv_has ls 4 [(0, .ref (a 0)), (1, .int p1), (2, .ref o)] := hl
  refine lv_aload_n hx hb dL_worstSlip_0 rfl (lv_at hl 2 rfl) ?_
  refine lv_iconst (v := (0 : Int32)) hx hb dL_worstSlip_1 (by decide) ?_
  refine lv_aload_n hx hb dL_worstSlip_2 rfl (lv_at hl 0 rfl) ?_
  refine lv_iload_n hx hb dL_worstSlip_3 rfl (lv_at hl 1 rfl) ?_
  rcases hk with hk | hk
  · refine tw_callVi (ws' := tw_wW cI cQ a na pa ta qa xa z rv.2.2 ++ [(o, .inl (cL, 1, .inr (.inl f)))]) F hN hK hP hD hS hA (mX3_worstSlip l G cI cQ a na pa ta qa xa z Y H.size p1 h hk) (cwV 1 hts gL_worstSlip_X3_worstSlip rfl rfl rfl (by decide +kernel) ⟨Nat.le_of_ble_eq_true rfl, Nat.le_of_ble_eq_true rfl⟩) [0, 1] rfl (List.range (tw_wW cI cQ a na pa ta qa xa z Y).length) (tw_ndR _) tw_cR lw_fW (tw_mix_hit _ rfl lw_nW) (ci := 3) (r0 := 0) rfl rfl rfl (As := [.int p1]) (rest := [.int (0 : Int32), .ref o]) rfl hl.1 rfl (Nat.le_of_ble_eq_true rfl) dL_worstSlip_4 ⟨Nat.le_of_ble_eq_true rfl, Nat.le_of_ble_eq_true rfl⟩ (fun H locs hP hD hS => ?_)
    refine lv_i2l hx hb dL_worstSlip_7 rfl ?_
    refine tw_last (ws' := tw_wW cI cQ a na pa ta qa xa z rv.2.2 ++ [(o, .inl (cL, 1, .inr (.inl (vp_updL f 0 (rv.2.1).toInt64))))]) (f := f) (n := 1) hx hb hK hP hD hS (tw_wW cI cQ a na pa ta qa xa z rv.2.2).length 2 tw_get_l rfl (i := (0 : Int32)) (tw_vin (by decide)) dL_worstSlip_8 tw_set_l (fun H locs hP hD hS => ?_)
    refine lv_goto (tgt := 15) hx hb dL_worstSlip_9 (by decide) ?_
    refine lv_iconst (v := (0 : Int32)) hx hb dL_worstSlip_15 (by decide) ?_
    exact hq H locs _ ls 0 _ _ (by rw [hk]; rfl) (by rw [if_pos hk]; exact hP) hS dL_worstSlip_16 (Nat.le_of_ble_eq_true rfl) (Nat.le_of_ble_eq_true rfl)
  · refine tw_callX (E := tw_en rv.1) (wc' := tw_wW cI cQ a na pa ta qa xa z rv.2.2) F hN hK hP hD hS hA hNX hU hZ (xX3_worstSlip l hst G cI cQ a na pa ta qa xa z Y H.size p1 h (by rw [hk]; decide)) (cwV 1 hts gL_worstSlip_X3_worstSlip rfl rfl rfl (by decide +kernel) ⟨Nat.le_of_ble_eq_true rfl, Nat.le_of_ble_eq_true rfl⟩) [0, 1] rfl lw_fW (ci := 3) (r0 := 0) rfl rfl rfl (As := [.int p1]) (rest := [.int (0 : Int32), .ref o]) rfl hl.1 rfl (Nat.le_of_ble_eq_true rfl) dL_worstSlip_4 ⟨Nat.le_of_ble_eq_true rfl, Nat.le_of_ble_eq_true rfl⟩ (fun ce q9 H locs hP hS hce hcv hcl => ?_)
    rw [hk] at hcl
    refine vx_catch (E := tw_E1) hown (tableOf []) ⟨0, 9, 12, 13⟩ (tableOf []) htab (fun z hz => absurd hz List.not_mem_nil) (by decide) (by decide) (hts _ qL_worstSlip_1) (va_Nw.use rfl hNX.2.1) hce hcv hcl ?_
    refine lv_astore_n (lv' := [(3, .ref q9), (0, .ref (a 0)), (1, .int p1), (2, .ref o)]) hx hb dL_worstSlip_12 rfl hl (by decide) rfl (fun ls hl => ?_)
    refine lv_iconst (v := (1 : Int32)) hx hb dL_worstSlip_13 (by decide) ?_
    exact hq H locs _ ls 1 _ _ (by rw [hk]; rfl) (by rw [if_neg (by rw [hk]; decide)]; exact hP) hS dL_worstSlip_14 (Nat.le_of_ble_eq_true rfl) (Nat.le_of_ble_eq_true rfl)
