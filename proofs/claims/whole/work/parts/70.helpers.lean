/-! the law's helpers -/
abbrev rhL_add : Room := { frames := 7, cells := 1, slots := 6, locals := 126 }
set_option maxRecDepth 20000 in
theorem qL_add_1 : Cond.classLink RL 13 "java/lang/IllegalArgumentException" ∈ wsL_add := (List.mem_cons_of_mem _ (List.mem_append_left _ (List.mem_append_left _ (List.mem_append_left _ (List.mem_append_left _ (List.mem_append_left _ (List.mem_append_left _ (List.mem_of_getElem? (i := 0) rfl))))))))
set_option maxRecDepth 20000 in
theorem qL_add_2 : Cond.classLink RL 15 "java/lang/IllegalStateException" ∈ wsL_add := (List.mem_cons_of_mem _ (List.mem_append_left _ (List.mem_append_left _ (List.mem_append_left _ (List.mem_append_left _ (List.mem_append_left _ (List.mem_append_left _ (List.mem_of_getElem? (i := 1) rfl))))))))
set_option maxHeartbeats 4000000 in
set_option maxRecDepth 100000 in
theorem hL_add (l : Launch) (hst : l.stackTraces = false) (G : va_G) (cI cQ cL : ClassId) (a na pa ta qa xa : Nat → Nat) (z : Nat → Nat → Nat) (o : Nat) (Y : tw_Wl) (f : Nat → Int64) (sz : Nat) (p1 : Int32) (p2 : Int32) (p3 : Int32) {rv : Nat × Int32 × tw_Wl} (h : fX3_add Y p1 p2 p3 = some rv) (hk : rv.1 = 0 ∨ rv.1 = 1 ∨ rv.1 = 2) : tw_Mh l yL_add wsL_add rhL_add G [(cI, .int), (cQ, .object RX1), (cL, .long)] (tw_wW cI cQ a na pa ta qa xa z Y ++ [(o, .inl (cL, 1, .inr (.inl f)))]) [.ref (a 0), .int p1, .int p2, .int p3, .ref o] sz (tw_hk 1 2 0 rv.1) (tw_wW cI cQ a na pa ta qa xa z rv.2.2 ++ [(o, .inl (cL, 1, .inr (.inl (if rv.1 = 0 then vp_updL f 0 (rv.2.1).toInt64 else f))))]) := by
  refine tw_ofh (cc := cL_add) (maxL := 6) (own := RL) (by decide) rfl rfl (Nat.le_of_ble_eq_true rfl) ?_
  intro p e s m args below meth c Q A ls H locs F hN hK hP hD hS hA hl hNX hNC hU hZ htab hq
  obtain ⟨hx, hb, hml, hown, hts⟩ := id F
  have hl : lv_has ls 6 [(0, .ref (a 0)), (1, .int p1), (2, .int p2), (3, .int p3), (4, .ref o)] := hl
  refine lv_aload hx hb dL_add_0 (lv_at hl 4 rfl) ?_
  refine lv_iconst (v := (0 : Int32)) hx hb dL_add_2 (by decide) ?_
  refine lv_aload_n hx hb dL_add_3 rfl (lv_at hl 0 rfl) ?_
  refine lv_iload_n hx hb dL_add_4 rfl (lv_at hl 1 rfl) ?_
  refine lv_iload_n hx hb dL_add_5 rfl (lv_at hl 2 rfl) ?_
  refine lv_iload_n hx hb dL_add_6 rfl (lv_at hl 3 rfl) ?_
  rcases hk with hk | hk | hk
  · refine tw_callVi (ws' := tw_wW cI cQ a na pa ta qa xa z rv.2.2 ++ [(o, .inl (cL, 1, .inr (.inl f)))]) F hN hK hP hD hS hA (mX3_add l G cI cQ a na pa ta qa xa z Y H.size p1 p2 p3 h hk) (cwV 3 hts gL_add_X3_add rfl rfl rfl (by decide +kernel) ⟨Nat.le_of_ble_eq_true rfl, Nat.le_of_ble_eq_true rfl⟩) [0, 1] rfl (List.range (tw_wW cI cQ a na pa ta qa xa z Y).length) (tw_ndR _) tw_cR rfl (tw_mix_hit _ rfl rfl) (ci := 3) (r0 := 0) rfl rfl rfl (As := [.int p1, .int p2, .int p3]) (rest := [.int (0 : Int32), .ref o]) rfl hl.1 rfl (Nat.le_of_ble_eq_true rfl) dL_add_7 ⟨Nat.le_of_ble_eq_true rfl, Nat.le_of_ble_eq_true rfl⟩ (fun H locs hP hD hS => ?_)
    refine lv_i2l hx hb dL_add_10 rfl ?_
    refine tw_last (ws' := tw_wW cI cQ a na pa ta qa xa z rv.2.2 ++ [(o, .inl (cL, 1, .inr (.inl (vp_updL f 0 (rv.2.1).toInt64))))]) (f := f) (n := 1) hx hb hK hP hD hS (tw_wW cI cQ a na pa ta qa xa z rv.2.2).length 2 tw_get_l rfl (i := (0 : Int32)) (tw_vin (by decide)) dL_add_11 tw_set_l (fun H locs hP hD hS => ?_)
    refine lv_goto (tgt := 23) hx hb dL_add_12 (by decide) ?_
    refine lv_iconst (v := (0 : Int32)) hx hb dL_add_23 (by decide) ?_
    exact hq H locs _ ls 0 _ _ (by rw [hk]; rfl) (by rw [if_pos hk]; exact hP) hS dL_add_24 (Nat.le_of_ble_eq_true rfl) (Nat.le_of_ble_eq_true rfl)
  · refine tw_callX (E := tw_en rv.1) (wc' := tw_wW cI cQ a na pa ta qa xa z rv.2.2) F hN hK hP hD hS hA hNX hU hZ (xX3_add l hst G cI cQ a na pa ta qa xa z Y H.size p1 p2 p3 h (by rw [hk]; decide)) (cwV 3 hts gL_add_X3_add rfl rfl rfl (by decide +kernel) ⟨Nat.le_of_ble_eq_true rfl, Nat.le_of_ble_eq_true rfl⟩) [0, 1] rfl rfl (ci := 3) (r0 := 0) rfl rfl rfl (As := [.int p1, .int p2, .int p3]) (rest := [.int (0 : Int32), .ref o]) rfl hl.1 rfl (Nat.le_of_ble_eq_true rfl) dL_add_7 ⟨Nat.le_of_ble_eq_true rfl, Nat.le_of_ble_eq_true rfl⟩ (fun ce q9 H locs hP hS hce hcv hcl => ?_)
    rw [hk] at hcl
    refine vx_catch (E := tw_E1) hown (tableOf []) ⟨0, 12, 15, 13⟩ (tableOf [(0, 12, 19, 15)]) htab (fun z hz => absurd hz List.not_mem_nil) (by decide) (by decide) (hts _ qL_add_1) (va_Nw.use rfl hNX.2.1) hce hcv hcl ?_
    refine lv_astore (lv' := [(5, .ref q9), (0, .ref (a 0)), (1, .int p1), (2, .int p2), (3, .int p3), (4, .ref o)]) hx hb dL_add_15 hl (by decide) rfl (fun ls hl => ?_)
    refine lv_iconst (v := (1 : Int32)) hx hb dL_add_17 (by decide) ?_
    exact hq H locs _ ls 1 _ _ (by rw [hk]; rfl) (by rw [if_neg (by rw [hk]; decide)]; exact hP) hS dL_add_18 (Nat.le_of_ble_eq_true rfl) (Nat.le_of_ble_eq_true rfl)
  · refine tw_callX (E := tw_en rv.1) (wc' := tw_wW cI cQ a na pa ta qa xa z rv.2.2) F hN hK hP hD hS hA hNX hU hZ (xX3_add l hst G cI cQ a na pa ta qa xa z Y H.size p1 p2 p3 h (by rw [hk]; decide)) (cwV 3 hts gL_add_X3_add rfl rfl rfl (by decide +kernel) ⟨Nat.le_of_ble_eq_true rfl, Nat.le_of_ble_eq_true rfl⟩) [0, 1] rfl rfl (ci := 3) (r0 := 0) rfl rfl rfl (As := [.int p1, .int p2, .int p3]) (rest := [.int (0 : Int32), .ref o]) rfl hl.1 rfl (Nat.le_of_ble_eq_true rfl) dL_add_7 ⟨Nat.le_of_ble_eq_true rfl, Nat.le_of_ble_eq_true rfl⟩ (fun ce q9 H locs hP hS hce hcv hcl => ?_)
    rw [hk] at hcl
    refine vx_catch (E := tw_E2) hown (tableOf [(0, 12, 15, 13)]) ⟨0, 12, 19, 15⟩ (tableOf []) htab (List.forall_mem_cons.mpr ⟨Or.inr ⟨by decide, _, hts _ qL_add_1, hNC.2.2.1⟩, fun z hz => absurd hz List.not_mem_nil⟩) (by decide) (by decide) (hts _ qL_add_2) (va_Nw.use rfl hNX.2.2.1) hce hcv hcl ?_
    refine lv_astore (lv' := [(5, .ref q9), (0, .ref (a 0)), (1, .int p1), (2, .int p2), (3, .int p3), (4, .ref o)]) hx hb dL_add_19 hl (by decide) rfl (fun ls hl => ?_)
    refine lv_iconst (v := (2 : Int32)) hx hb dL_add_21 (by decide) ?_
    exact hq H locs _ ls 2 _ _ (by rw [hk]; rfl) (by rw [if_neg (by rw [hk]; decide)]; exact hP) hS dL_add_22 (Nat.le_of_ble_eq_true rfl) (Nat.le_of_ble_eq_true rfl)
abbrev rhL_remove : Room := { frames := 7, cells := 1, slots := 6, locals := 125 }
set_option maxRecDepth 20000 in
theorem qL_remove_3 : Cond.classLink RL 21 "java/lang/IndexOutOfBoundsException" ∈ wsL_remove := (List.mem_cons_of_mem _ (List.mem_append_left _ (List.mem_append_left _ (List.mem_append_left _ (List.mem_append_left _ (List.mem_append_left _ (List.mem_of_getElem? (i := 0) rfl)))))))
set_option maxHeartbeats 4000000 in
set_option maxRecDepth 100000 in
theorem hL_remove (l : Launch) (hst : l.stackTraces = false) (G : va_G) (cI cQ cL : ClassId) (a na pa ta qa xa : Nat → Nat) (z : Nat → Nat → Nat) (o : Nat) (Y : tw_Wl) (f : Nat → Int64) (sz : Nat) (p1 : Int32) {rv : Nat × Int32 × tw_Wl} (h : fX3_remove Y p1 = some rv) (hk : rv.1 = 0 ∨ rv.1 = 3) : tw_Mh l yL_remove wsL_remove rhL_remove G [(cI, .int), (cQ, .object RX1), (cL, .long)] (tw_wW cI cQ a na pa ta qa xa z Y ++ [(o, .inl (cL, 1, .inr (.inl f)))]) [.ref (a 0), .int p1, .ref o] sz (tw_hk 0 0 1 rv.1) (tw_wW cI cQ a na pa ta qa xa z rv.2.2 ++ [(o, .inl (cL, 1, .inr (.inl (if rv.1 = 0 then vp_updL f 0 (rv.2.1).toInt64 else f))))]) := by
  refine tw_ofh (cc := cL_remove) (maxL := 4) (own := RL) (by decide) rfl rfl (Nat.le_of_ble_eq_true rfl) ?_
  intro p e s m args below meth c Q A ls H locs F hN hK hP hD hS hA hl hNX hNC hU hZ htab hq
  obtain ⟨hx, hb, hml, hown, hts⟩ := id F
  have hl : lv_has ls 4 [(0, .ref (a 0)), (1, .int p1), (2, .ref o)] := hl
  refine lv_aload_n hx hb dL_remove_0 rfl (lv_at hl 2 rfl) ?_
  refine lv_iconst (v := (0 : Int32)) hx hb dL_remove_1 (by decide) ?_
  refine lv_aload_n hx hb dL_remove_2 rfl (lv_at hl 0 rfl) ?_
  refine lv_iload_n hx hb dL_remove_3 rfl (lv_at hl 1 rfl) ?_
  rcases hk with hk | hk
  · refine tw_callVi (ws' := tw_wW cI cQ a na pa ta qa xa z rv.2.2 ++ [(o, .inl (cL, 1, .inr (.inl f)))]) F hN hK hP hD hS hA (mX3_remove l G cI cQ a na pa ta qa xa z Y H.size p1 h hk) (cwV 1 hts gL_remove_X3_remove rfl rfl rfl (by decide +kernel) ⟨Nat.le_of_ble_eq_true rfl, Nat.le_of_ble_eq_true rfl⟩) [0, 1] rfl (List.range (tw_wW cI cQ a na pa ta qa xa z Y).length) (tw_ndR _) tw_cR rfl (tw_mix_hit _ rfl rfl) (ci := 3) (r0 := 0) rfl rfl rfl (As := [.int p1]) (rest := [.int (0 : Int32), .ref o]) rfl hl.1 rfl (Nat.le_of_ble_eq_true rfl) dL_remove_4 ⟨Nat.le_of_ble_eq_true rfl, Nat.le_of_ble_eq_true rfl⟩ (fun H locs hP hD hS => ?_)
    refine lv_i2l hx hb dL_remove_7 rfl ?_
    refine tw_last (ws' := tw_wW cI cQ a na pa ta qa xa z rv.2.2 ++ [(o, .inl (cL, 1, .inr (.inl (vp_updL f 0 (rv.2.1).toInt64))))]) (f := f) (n := 1) hx hb hK hP hD hS (tw_wW cI cQ a na pa ta qa xa z rv.2.2).length 2 tw_get_l rfl (i := (0 : Int32)) (tw_vin (by decide)) dL_remove_8 tw_set_l (fun H locs hP hD hS => ?_)
    refine lv_goto (tgt := 15) hx hb dL_remove_9 (by decide) ?_
    refine lv_iconst (v := (0 : Int32)) hx hb dL_remove_15 (by decide) ?_
    exact hq H locs _ ls 0 _ _ (by rw [hk]; rfl) (by rw [if_pos hk]; exact hP) hS dL_remove_16 (Nat.le_of_ble_eq_true rfl) (Nat.le_of_ble_eq_true rfl)
  · refine tw_callX (E := tw_en rv.1) (wc' := tw_wW cI cQ a na pa ta qa xa z rv.2.2) F hN hK hP hD hS hA hNX hU hZ (xX3_remove l hst G cI cQ a na pa ta qa xa z Y H.size p1 h (by rw [hk]; decide)) (cwV 1 hts gL_remove_X3_remove rfl rfl rfl (by decide +kernel) ⟨Nat.le_of_ble_eq_true rfl, Nat.le_of_ble_eq_true rfl⟩) [0, 1] rfl rfl (ci := 3) (r0 := 0) rfl rfl rfl (As := [.int p1]) (rest := [.int (0 : Int32), .ref o]) rfl hl.1 rfl (Nat.le_of_ble_eq_true rfl) dL_remove_4 ⟨Nat.le_of_ble_eq_true rfl, Nat.le_of_ble_eq_true rfl⟩ (fun ce q9 H locs hP hS hce hcv hcl => ?_)
    rw [hk] at hcl
    refine vx_catch (E := tw_E3) hown (tableOf []) ⟨0, 9, 12, 21⟩ (tableOf []) htab (fun z hz => absurd hz List.not_mem_nil) (by decide) (by decide) (hts _ qL_remove_3) (va_Nw.use rfl hNX.2.2.2) hce hcv hcl ?_
    refine lv_astore_n (lv' := [(3, .ref q9), (0, .ref (a 0)), (1, .int p1), (2, .ref o)]) hx hb dL_remove_12 rfl hl (by decide) rfl (fun ls hl => ?_)
    refine lv_iconst (v := (1 : Int32)) hx hb dL_remove_13 (by decide) ?_
    exact hq H locs _ ls 1 _ _ (by rw [hk]; rfl) (by rw [if_neg (by rw [hk]; decide)]; exact hP) hS dL_remove_14 (Nat.le_of_ble_eq_true rfl) (Nat.le_of_ble_eq_true rfl)
abbrev rhL_need : Room := { frames := 7, cells := 1, slots := 6, locals := 127 }
set_option maxRecDepth 20000 in
theorem qL_need_3 : Cond.classLink RL 21 "java/lang/IndexOutOfBoundsException" ∈ wsL_need := (List.mem_cons_of_mem _ (List.mem_append_left _ (List.mem_append_left _ (List.mem_append_left _ (List.mem_append_left _ (List.mem_append_left _ (List.mem_append_left _ (List.mem_of_getElem? (i := 0) rfl))))))))
set_option maxRecDepth 20000 in
theorem qL_need_1 : Cond.classLink RL 13 "java/lang/IllegalArgumentException" ∈ wsL_need := (List.mem_cons_of_mem _ (List.mem_append_left _ (List.mem_append_left _ (List.mem_append_left _ (List.mem_append_left _ (List.mem_append_left _ (List.mem_append_left _ (List.mem_of_getElem? (i := 1) rfl))))))))
set_option maxHeartbeats 4000000 in
set_option maxRecDepth 100000 in
theorem hL_need (l : Launch) (hst : l.stackTraces = false) (G : va_G) (cI cQ cL : ClassId) (a na pa ta qa xa : Nat → Nat) (z : Nat → Nat → Nat) (o : Nat) (Y : tw_Wl) (f : Nat → Int64) (sz : Nat) (p1 : Int32) (p2 : Int32) (p3 : Int32) {rv : Nat × Int32 × tw_Wl} (h : fX3_need Y p1 p2 p3 = some rv) (hk : rv.1 = 0 ∨ rv.1 = 1 ∨ rv.1 = 3) : tw_Mh l yL_need wsL_need rhL_need G [(cI, .int), (cQ, .object RX1), (cL, .long)] (tw_wW cI cQ a na pa ta qa xa z Y ++ [(o, .inl (cL, 1, .inr (.inl f)))]) [.ref (a 0), .int p1, .int p2, .int p3, .ref o] sz (tw_hk 2 0 1 rv.1) (tw_wW cI cQ a na pa ta qa xa z rv.2.2 ++ [(o, .inl (cL, 1, .inr (.inl (if rv.1 = 0 then vp_updL f 0 (rv.2.1).toInt64 else f))))]) := by
  refine tw_ofh (cc := cL_need) (maxL := 6) (own := RL) (by decide) rfl rfl (Nat.le_of_ble_eq_true rfl) ?_
  intro p e s m args below meth c Q A ls H locs F hN hK hP hD hS hA hl hNX hNC hU hZ htab hq
  obtain ⟨hx, hb, hml, hown, hts⟩ := id F
  have hl : lv_has ls 6 [(0, .ref (a 0)), (1, .int p1), (2, .int p2), (3, .int p3), (4, .ref o)] := hl
  refine lv_aload hx hb dL_need_0 (lv_at hl 4 rfl) ?_
  refine lv_iconst (v := (0 : Int32)) hx hb dL_need_2 (by decide) ?_
  refine lv_aload_n hx hb dL_need_3 rfl (lv_at hl 0 rfl) ?_
  refine lv_iload_n hx hb dL_need_4 rfl (lv_at hl 1 rfl) ?_
  refine lv_iload_n hx hb dL_need_5 rfl (lv_at hl 2 rfl) ?_
  refine lv_iload_n hx hb dL_need_6 rfl (lv_at hl 3 rfl) ?_
  rcases hk with hk | hk | hk
  · refine tw_callVi (ws' := tw_wW cI cQ a na pa ta qa xa z rv.2.2 ++ [(o, .inl (cL, 1, .inr (.inl f)))]) F hN hK hP hD hS hA (mX3_need l G cI cQ a na pa ta qa xa z Y H.size p1 p2 p3 h hk) (cwV 3 hts gL_need_X3_need rfl rfl rfl (by decide +kernel) ⟨Nat.le_of_ble_eq_true rfl, Nat.le_of_ble_eq_true rfl⟩) [0, 1] rfl (List.range (tw_wW cI cQ a na pa ta qa xa z Y).length) (tw_ndR _) tw_cR rfl (tw_mix_hit _ rfl rfl) (ci := 3) (r0 := 0) rfl rfl rfl (As := [.int p1, .int p2, .int p3]) (rest := [.int (0 : Int32), .ref o]) rfl hl.1 rfl (Nat.le_of_ble_eq_true rfl) dL_need_7 ⟨Nat.le_of_ble_eq_true rfl, Nat.le_of_ble_eq_true rfl⟩ (fun H locs hP hD hS => ?_)
    refine lv_i2l hx hb dL_need_10 rfl ?_
    refine tw_last (ws' := tw_wW cI cQ a na pa ta qa xa z rv.2.2 ++ [(o, .inl (cL, 1, .inr (.inl (vp_updL f 0 (rv.2.1).toInt64))))]) (f := f) (n := 1) hx hb hK hP hD hS (tw_wW cI cQ a na pa ta qa xa z rv.2.2).length 2 tw_get_l rfl (i := (0 : Int32)) (tw_vin (by decide)) dL_need_11 tw_set_l (fun H locs hP hD hS => ?_)
    refine lv_goto (tgt := 23) hx hb dL_need_12 (by decide) ?_
    refine lv_iconst (v := (0 : Int32)) hx hb dL_need_23 (by decide) ?_
    exact hq H locs _ ls 0 _ _ (by rw [hk]; rfl) (by rw [if_pos hk]; exact hP) hS dL_need_24 (Nat.le_of_ble_eq_true rfl) (Nat.le_of_ble_eq_true rfl)
  · refine tw_callX (E := tw_en rv.1) (wc' := tw_wW cI cQ a na pa ta qa xa z rv.2.2) F hN hK hP hD hS hA hNX hU hZ (xX3_need l hst G cI cQ a na pa ta qa xa z Y H.size p1 p2 p3 h (by rw [hk]; decide)) (cwV 3 hts gL_need_X3_need rfl rfl rfl (by decide +kernel) ⟨Nat.le_of_ble_eq_true rfl, Nat.le_of_ble_eq_true rfl⟩) [0, 1] rfl rfl (ci := 3) (r0 := 0) rfl rfl rfl (As := [.int p1, .int p2, .int p3]) (rest := [.int (0 : Int32), .ref o]) rfl hl.1 rfl (Nat.le_of_ble_eq_true rfl) dL_need_7 ⟨Nat.le_of_ble_eq_true rfl, Nat.le_of_ble_eq_true rfl⟩ (fun ce q9 H locs hP hS hce hcv hcl => ?_)
    rw [hk] at hcl
    refine vx_catch (E := tw_E1) hown (tableOf [(0, 12, 15, 21)]) ⟨0, 12, 19, 13⟩ (tableOf []) htab (List.forall_mem_cons.mpr ⟨Or.inr ⟨by decide, _, hts _ qL_need_3, hNC.2.1⟩, fun z hz => absurd hz List.not_mem_nil⟩) (by decide) (by decide) (hts _ qL_need_1) (va_Nw.use rfl hNX.2.1) hce hcv hcl ?_
    refine lv_astore (lv' := [(5, .ref q9), (0, .ref (a 0)), (1, .int p1), (2, .int p2), (3, .int p3), (4, .ref o)]) hx hb dL_need_19 hl (by decide) rfl (fun ls hl => ?_)
    refine lv_iconst (v := (2 : Int32)) hx hb dL_need_21 (by decide) ?_
    exact hq H locs _ ls 2 _ _ (by rw [hk]; rfl) (by rw [if_neg (by rw [hk]; decide)]; exact hP) hS dL_need_22 (Nat.le_of_ble_eq_true rfl) (Nat.le_of_ble_eq_true rfl)
  · refine tw_callX (E := tw_en rv.1) (wc' := tw_wW cI cQ a na pa ta qa xa z rv.2.2) F hN hK hP hD hS hA hNX hU hZ (xX3_need l hst G cI cQ a na pa ta qa xa z Y H.size p1 p2 p3 h (by rw [hk]; decide)) (cwV 3 hts gL_need_X3_need rfl rfl rfl (by decide +kernel) ⟨Nat.le_of_ble_eq_true rfl, Nat.le_of_ble_eq_true rfl⟩) [0, 1] rfl rfl (ci := 3) (r0 := 0) rfl rfl rfl (As := [.int p1, .int p2, .int p3]) (rest := [.int (0 : Int32), .ref o]) rfl hl.1 rfl (Nat.le_of_ble_eq_true rfl) dL_need_7 ⟨Nat.le_of_ble_eq_true rfl, Nat.le_of_ble_eq_true rfl⟩ (fun ce q9 H locs hP hS hce hcv hcl => ?_)
    rw [hk] at hcl
    refine vx_catch (E := tw_E3) hown (tableOf []) ⟨0, 12, 15, 21⟩ (tableOf [(0, 12, 19, 13)]) htab (fun z hz => absurd hz List.not_mem_nil) (by decide) (by decide) (hts _ qL_need_3) (va_Nw.use rfl hNX.2.2.2) hce hcv hcl ?_
    refine lv_astore (lv' := [(5, .ref q9), (0, .ref (a 0)), (1, .int p1), (2, .int p2), (3, .int p3), (4, .ref o)]) hx hb dL_need_15 hl (by decide) rfl (fun ls hl => ?_)
    refine lv_iconst (v := (1 : Int32)) hx hb dL_need_17 (by decide) ?_
    exact hq H locs _ ls 1 _ _ (by rw [hk]; rfl) (by rw [if_neg (by rw [hk]; decide)]; exact hP) hS dL_need_18 (Nat.le_of_ble_eq_true rfl) (Nat.le_of_ble_eq_true rfl)
abbrev rhL_change : Room := { frames := 7, cells := 1, slots := 6, locals := 128 }
set_option maxRecDepth 20000 in
theorem qL_change_3 : Cond.classLink RL 21 "java/lang/IndexOutOfBoundsException" ∈ wsL_change := (List.mem_cons_of_mem _ (List.mem_append_left _ (List.mem_append_left _ (List.mem_append_left _ (List.mem_append_left _ (List.mem_append_left _ (List.mem_append_left _ (List.mem_of_getElem? (i := 0) rfl))))))))
set_option maxRecDepth 20000 in
theorem qL_change_1 : Cond.classLink RL 13 "java/lang/IllegalArgumentException" ∈ wsL_change := (List.mem_cons_of_mem _ (List.mem_append_left _ (List.mem_append_left _ (List.mem_append_left _ (List.mem_append_left _ (List.mem_append_left _ (List.mem_append_left _ (List.mem_of_getElem? (i := 1) rfl))))))))
set_option maxHeartbeats 4000000 in
set_option maxRecDepth 100000 in
theorem hL_change (l : Launch) (hst : l.stackTraces = false) (G : va_G) (cI cQ cL : ClassId) (a na pa ta qa xa : Nat → Nat) (z : Nat → Nat → Nat) (o : Nat) (Y : tw_Wl) (f : Nat → Int64) (sz : Nat) (p1 : Int32) (p2 : Int32) (p3 : Int32) {rv : Nat × Int32 × tw_Wl} (h : fX3_change Y p1 p2 p3 = some rv) (hk : rv.1 = 0 ∨ rv.1 = 1 ∨ rv.1 = 3) : tw_Mh l yL_change wsL_change rhL_change G [(cI, .int), (cQ, .object RX1), (cL, .long)] (tw_wW cI cQ a na pa ta qa xa z Y ++ [(o, .inl (cL, 1, .inr (.inl f)))]) [.ref (a 0), .int p1, .int p2, .int p3, .ref o] sz (tw_hk 2 0 1 rv.1) (tw_wW cI cQ a na pa ta qa xa z rv.2.2 ++ [(o, .inl (cL, 1, .inr (.inl (if rv.1 = 0 then vp_updL f 0 (rv.2.1).toInt64 else f))))]) := by
  refine tw_ofh (cc := cL_change) (maxL := 6) (own := RL) (by decide) rfl rfl (Nat.le_of_ble_eq_true rfl) ?_
  intro p e s m args below meth c Q A ls H locs F hN hK hP hD hS hA hl hNX hNC hU hZ htab hq
  obtain ⟨hx, hb, hml, hown, hts⟩ := id F
  have hl : lv_has ls 6 [(0, .ref (a 0)), (1, .int p1), (2, .int p2), (3, .int p3), (4, .ref o)] := hl
  refine lv_aload hx hb dL_change_0 (lv_at hl 4 rfl) ?_
  refine lv_iconst (v := (0 : Int32)) hx hb dL_change_2 (by decide) ?_
  refine lv_aload_n hx hb dL_change_3 rfl (lv_at hl 0 rfl) ?_
  refine lv_iload_n hx hb dL_change_4 rfl (lv_at hl 1 rfl) ?_
  refine lv_iload_n hx hb dL_change_5 rfl (lv_at hl 2 rfl) ?_
  refine lv_iload_n hx hb dL_change_6 rfl (lv_at hl 3 rfl) ?_
  rcases hk with hk | hk | hk
  · refine tw_callVi (ws' := tw_wW cI cQ a na pa ta qa xa z rv.2.2 ++ [(o, .inl (cL, 1, .inr (.inl f)))]) F hN hK hP hD hS hA (mX3_change l G cI cQ a na pa ta qa xa z Y H.size p1 p2 p3 h hk) (cwV 3 hts gL_change_X3_change rfl rfl rfl (by decide +kernel) ⟨Nat.le_of_ble_eq_true rfl, Nat.le_of_ble_eq_true rfl⟩) [0, 1] rfl (List.range (tw_wW cI cQ a na pa ta qa xa z Y).length) (tw_ndR _) tw_cR rfl (tw_mix_hit _ rfl rfl) (ci := 3) (r0 := 0) rfl rfl rfl (As := [.int p1, .int p2, .int p3]) (rest := [.int (0 : Int32), .ref o]) rfl hl.1 rfl (Nat.le_of_ble_eq_true rfl) dL_change_7 ⟨Nat.le_of_ble_eq_true rfl, Nat.le_of_ble_eq_true rfl⟩ (fun H locs hP hD hS => ?_)
    refine lv_i2l hx hb dL_change_10 rfl ?_
    refine tw_last (ws' := tw_wW cI cQ a na pa ta qa xa z rv.2.2 ++ [(o, .inl (cL, 1, .inr (.inl (vp_updL f 0 (rv.2.1).toInt64))))]) (f := f) (n := 1) hx hb hK hP hD hS (tw_wW cI cQ a na pa ta qa xa z rv.2.2).length 2 tw_get_l rfl (i := (0 : Int32)) (tw_vin (by decide)) dL_change_11 tw_set_l (fun H locs hP hD hS => ?_)
    refine lv_goto (tgt := 23) hx hb dL_change_12 (by decide) ?_
    refine lv_iconst (v := (0 : Int32)) hx hb dL_change_23 (by decide) ?_
    exact hq H locs _ ls 0 _ _ (by rw [hk]; rfl) (by rw [if_pos hk]; exact hP) hS dL_change_24 (Nat.le_of_ble_eq_true rfl) (Nat.le_of_ble_eq_true rfl)
  · refine tw_callX (E := tw_en rv.1) (wc' := tw_wW cI cQ a na pa ta qa xa z rv.2.2) F hN hK hP hD hS hA hNX hU hZ (xX3_change l hst G cI cQ a na pa ta qa xa z Y H.size p1 p2 p3 h (by rw [hk]; decide)) (cwV 3 hts gL_change_X3_change rfl rfl rfl (by decide +kernel) ⟨Nat.le_of_ble_eq_true rfl, Nat.le_of_ble_eq_true rfl⟩) [0, 1] rfl rfl (ci := 3) (r0 := 0) rfl rfl rfl (As := [.int p1, .int p2, .int p3]) (rest := [.int (0 : Int32), .ref o]) rfl hl.1 rfl (Nat.le_of_ble_eq_true rfl) dL_change_7 ⟨Nat.le_of_ble_eq_true rfl, Nat.le_of_ble_eq_true rfl⟩ (fun ce q9 H locs hP hS hce hcv hcl => ?_)
    rw [hk] at hcl
    refine vx_catch (E := tw_E1) hown (tableOf [(0, 12, 15, 21)]) ⟨0, 12, 19, 13⟩ (tableOf []) htab (List.forall_mem_cons.mpr ⟨Or.inr ⟨by decide, _, hts _ qL_change_3, hNC.2.1⟩, fun z hz => absurd hz List.not_mem_nil⟩) (by decide) (by decide) (hts _ qL_change_1) (va_Nw.use rfl hNX.2.1) hce hcv hcl ?_
    refine lv_astore (lv' := [(5, .ref q9), (0, .ref (a 0)), (1, .int p1), (2, .int p2), (3, .int p3), (4, .ref o)]) hx hb dL_change_19 hl (by decide) rfl (fun ls hl => ?_)
    refine lv_iconst (v := (2 : Int32)) hx hb dL_change_21 (by decide) ?_
    exact hq H locs _ ls 2 _ _ (by rw [hk]; rfl) (by rw [if_neg (by rw [hk]; decide)]; exact hP) hS dL_change_22 (Nat.le_of_ble_eq_true rfl) (Nat.le_of_ble_eq_true rfl)
  · refine tw_callX (E := tw_en rv.1) (wc' := tw_wW cI cQ a na pa ta qa xa z rv.2.2) F hN hK hP hD hS hA hNX hU hZ (xX3_change l hst G cI cQ a na pa ta qa xa z Y H.size p1 p2 p3 h (by rw [hk]; decide)) (cwV 3 hts gL_change_X3_change rfl rfl rfl (by decide +kernel) ⟨Nat.le_of_ble_eq_true rfl, Nat.le_of_ble_eq_true rfl⟩) [0, 1] rfl rfl (ci := 3) (r0 := 0) rfl rfl rfl (As := [.int p1, .int p2, .int p3]) (rest := [.int (0 : Int32), .ref o]) rfl hl.1 rfl (Nat.le_of_ble_eq_true rfl) dL_change_7 ⟨Nat.le_of_ble_eq_true rfl, Nat.le_of_ble_eq_true rfl⟩ (fun ce q9 H locs hP hS hce hcv hcl => ?_)
    rw [hk] at hcl
    refine vx_catch (E := tw_E3) hown (tableOf []) ⟨0, 12, 15, 21⟩ (tableOf [(0, 12, 19, 13)]) htab (fun z hz => absurd hz List.not_mem_nil) (by decide) (by decide) (hts _ qL_change_3) (va_Nw.use rfl hNX.2.2.2) hce hcv hcl ?_
    refine lv_astore (lv' := [(5, .ref q9), (0, .ref (a 0)), (1, .int p1), (2, .int p2), (3, .int p3), (4, .ref o)]) hx hb dL_change_15 hl (by decide) rfl (fun ls hl => ?_)
    refine lv_iconst (v := (1 : Int32)) hx hb dL_change_17 (by decide) ?_
    exact hq H locs _ ls 1 _ _ (by rw [hk]; rfl) (by rw [if_neg (by rw [hk]; decide)]; exact hP) hS dL_change_18 (Nat.le_of_ble_eq_true rfl) (Nat.le_of_ble_eq_true rfl)
abbrev rhL_slip : Room := { frames := 7, cells := 1, slots := 6, locals := 126 }
set_option maxRecDepth 20000 in
theorem qL_slip_3 : Cond.classLink RL 21 "java/lang/IndexOutOfBoundsException" ∈ wsL_slip := (List.mem_cons_of_mem _ (List.mem_append_left _ (List.mem_append_left _ (List.mem_append_left _ (List.mem_append_left _ (List.mem_append_left _ (List.mem_append_left _ (List.mem_append_left _ (List.mem_of_getElem? (i := 0) rfl)))))))))
set_option maxRecDepth 20000 in
theorem qL_slip_1 : Cond.classLink RL 13 "java/lang/IllegalArgumentException" ∈ wsL_slip := (List.mem_cons_of_mem _ (List.mem_append_left _ (List.mem_append_left _ (List.mem_append_left _ (List.mem_append_left _ (List.mem_append_left _ (List.mem_append_left _ (List.mem_append_left _ (List.mem_of_getElem? (i := 1) rfl)))))))))
set_option maxRecDepth 20000 in
theorem qL_slip_2 : Cond.classLink RL 15 "java/lang/IllegalStateException" ∈ wsL_slip := (List.mem_cons_of_mem _ (List.mem_append_left _ (List.mem_append_left _ (List.mem_append_left _ (List.mem_append_left _ (List.mem_append_left _ (List.mem_append_left _ (List.mem_append_left _ (List.mem_of_getElem? (i := 2) rfl)))))))))
set_option maxHeartbeats 4000000 in
set_option maxRecDepth 100000 in
theorem hL_slip (l : Launch) (hst : l.stackTraces = false) (G : va_G) (cI cQ cL : ClassId) (a na pa ta qa xa : Nat → Nat) (z : Nat → Nat → Nat) (o : Nat) (Y : tw_Wl) (f : Nat → Int64) (sz : Nat) (p1 : Int32) (p2 : Int32) {rv : Nat × Int32 × tw_Wl} (h : fX3_slip Y p1 p2 = some rv) (hk : rv.1 = 0 ∨ rv.1 = 1 ∨ rv.1 = 2 ∨ rv.1 = 3) : tw_Mh l yL_slip wsL_slip rhL_slip G [(cI, .int), (cQ, .object RX1), (cL, .long)] (tw_wW cI cQ a na pa ta qa xa z Y ++ [(o, .inl (cL, 1, .inr (.inl f)))]) [.ref (a 0), .int p1, .int p2, .ref o] sz (tw_hk 2 3 1 rv.1) (tw_wW cI cQ a na pa ta qa xa z rv.2.2 ++ [(o, .inl (cL, 1, .inr (.inl (if rv.1 = 0 then vp_updL f 0 (rv.2.1).toInt64 else f))))]) := by
  refine tw_ofh (cc := cL_slip) (maxL := 5) (own := RL) (by decide) rfl rfl (Nat.le_of_ble_eq_true rfl) ?_
  intro p e s m args below meth c Q A ls H locs F hN hK hP hD hS hA hl hNX hNC hU hZ htab hq
  obtain ⟨hx, hb, hml, hown, hts⟩ := id F
  have hl : lv_has ls 5 [(0, .ref (a 0)), (1, .int p1), (2, .int p2), (3, .ref o)] := hl
  refine lv_aload_n hx hb dL_slip_0 rfl (lv_at hl 3 rfl) ?_
  refine lv_iconst (v := (0 : Int32)) hx hb dL_slip_1 (by decide) ?_
  refine lv_aload_n hx hb dL_slip_2 rfl (lv_at hl 0 rfl) ?_
  refine lv_iload_n hx hb dL_slip_3 rfl (lv_at hl 1 rfl) ?_
  refine lv_iload_n hx hb dL_slip_4 rfl (lv_at hl 2 rfl) ?_
  rcases hk with hk | hk | hk | hk
  · refine tw_callVi (ws' := tw_wW cI cQ a na pa ta qa xa z rv.2.2 ++ [(o, .inl (cL, 1, .inr (.inl f)))]) F hN hK hP hD hS hA (mX3_slip l G cI cQ a na pa ta qa xa z Y H.size p1 p2 h hk) (cwV 2 hts gL_slip_X3_slip rfl rfl rfl (by decide +kernel) ⟨Nat.le_of_ble_eq_true rfl, Nat.le_of_ble_eq_true rfl⟩) [0, 1] rfl (List.range (tw_wW cI cQ a na pa ta qa xa z Y).length) (tw_ndR _) tw_cR rfl (tw_mix_hit _ rfl rfl) (ci := 3) (r0 := 0) rfl rfl rfl (As := [.int p1, .int p2]) (rest := [.int (0 : Int32), .ref o]) rfl hl.1 rfl (Nat.le_of_ble_eq_true rfl) dL_slip_5 ⟨Nat.le_of_ble_eq_true rfl, Nat.le_of_ble_eq_true rfl⟩ (fun H locs hP hD hS => ?_)
    refine lv_i2l hx hb dL_slip_8 rfl ?_
    refine tw_last (ws' := tw_wW cI cQ a na pa ta qa xa z rv.2.2 ++ [(o, .inl (cL, 1, .inr (.inl (vp_updL f 0 (rv.2.1).toInt64))))]) (f := f) (n := 1) hx hb hK hP hD hS (tw_wW cI cQ a na pa ta qa xa z rv.2.2).length 2 tw_get_l rfl (i := (0 : Int32)) (tw_vin (by decide)) dL_slip_9 tw_set_l (fun H locs hP hD hS => ?_)
    refine lv_goto (tgt := 25) hx hb dL_slip_10 (by decide) ?_
    refine lv_iconst (v := (0 : Int32)) hx hb dL_slip_25 (by decide) ?_
    exact hq H locs _ ls 0 _ _ (by rw [hk]; rfl) (by rw [if_pos hk]; exact hP) hS dL_slip_26 (Nat.le_of_ble_eq_true rfl) (Nat.le_of_ble_eq_true rfl)
  · refine tw_callX (E := tw_en rv.1) (wc' := tw_wW cI cQ a na pa ta qa xa z rv.2.2) F hN hK hP hD hS hA hNX hU hZ (xX3_slip l hst G cI cQ a na pa ta qa xa z Y H.size p1 p2 h (by rw [hk]; decide)) (cwV 2 hts gL_slip_X3_slip rfl rfl rfl (by decide +kernel) ⟨Nat.le_of_ble_eq_true rfl, Nat.le_of_ble_eq_true rfl⟩) [0, 1] rfl rfl (ci := 3) (r0 := 0) rfl rfl rfl (As := [.int p1, .int p2]) (rest := [.int (0 : Int32), .ref o]) rfl hl.1 rfl (Nat.le_of_ble_eq_true rfl) dL_slip_5 ⟨Nat.le_of_ble_eq_true rfl, Nat.le_of_ble_eq_true rfl⟩ (fun ce q9 H locs hP hS hce hcv hcl => ?_)
    rw [hk] at hcl
    refine vx_catch (E := tw_E1) hown (tableOf [(0, 10, 13, 21)]) ⟨0, 10, 17, 13⟩ (tableOf [(0, 10, 21, 15)]) htab (List.forall_mem_cons.mpr ⟨Or.inr ⟨by decide, _, hts _ qL_slip_3, hNC.2.1⟩, fun z hz => absurd hz List.not_mem_nil⟩) (by decide) (by decide) (hts _ qL_slip_1) (va_Nw.use rfl hNX.2.1) hce hcv hcl ?_
    refine lv_astore (lv' := [(4, .ref q9), (0, .ref (a 0)), (1, .int p1), (2, .int p2), (3, .ref o)]) hx hb dL_slip_17 hl (by decide) rfl (fun ls hl => ?_)
    refine lv_iconst (v := (2 : Int32)) hx hb dL_slip_19 (by decide) ?_
    exact hq H locs _ ls 2 _ _ (by rw [hk]; rfl) (by rw [if_neg (by rw [hk]; decide)]; exact hP) hS dL_slip_20 (Nat.le_of_ble_eq_true rfl) (Nat.le_of_ble_eq_true rfl)
  · refine tw_callX (E := tw_en rv.1) (wc' := tw_wW cI cQ a na pa ta qa xa z rv.2.2) F hN hK hP hD hS hA hNX hU hZ (xX3_slip l hst G cI cQ a na pa ta qa xa z Y H.size p1 p2 h (by rw [hk]; decide)) (cwV 2 hts gL_slip_X3_slip rfl rfl rfl (by decide +kernel) ⟨Nat.le_of_ble_eq_true rfl, Nat.le_of_ble_eq_true rfl⟩) [0, 1] rfl rfl (ci := 3) (r0 := 0) rfl rfl rfl (As := [.int p1, .int p2]) (rest := [.int (0 : Int32), .ref o]) rfl hl.1 rfl (Nat.le_of_ble_eq_true rfl) dL_slip_5 ⟨Nat.le_of_ble_eq_true rfl, Nat.le_of_ble_eq_true rfl⟩ (fun ce q9 H locs hP hS hce hcv hcl => ?_)
    rw [hk] at hcl
    refine vx_catch (E := tw_E2) hown (tableOf [(0, 10, 13, 21), (0, 10, 17, 13)]) ⟨0, 10, 21, 15⟩ (tableOf []) htab (List.forall_mem_cons.mpr ⟨Or.inr ⟨by decide, _, hts _ qL_slip_3, hNC.2.2.2.1⟩, List.forall_mem_cons.mpr ⟨Or.inr ⟨by decide, _, hts _ qL_slip_1, hNC.2.2.1⟩, fun z hz => absurd hz List.not_mem_nil⟩⟩) (by decide) (by decide) (hts _ qL_slip_2) (va_Nw.use rfl hNX.2.2.1) hce hcv hcl ?_
    refine lv_astore (lv' := [(4, .ref q9), (0, .ref (a 0)), (1, .int p1), (2, .int p2), (3, .ref o)]) hx hb dL_slip_21 hl (by decide) rfl (fun ls hl => ?_)
    refine lv_iconst (v := (3 : Int32)) hx hb dL_slip_23 (by decide) ?_
    exact hq H locs _ ls 3 _ _ (by rw [hk]; rfl) (by rw [if_neg (by rw [hk]; decide)]; exact hP) hS dL_slip_24 (Nat.le_of_ble_eq_true rfl) (Nat.le_of_ble_eq_true rfl)
  · refine tw_callX (E := tw_en rv.1) (wc' := tw_wW cI cQ a na pa ta qa xa z rv.2.2) F hN hK hP hD hS hA hNX hU hZ (xX3_slip l hst G cI cQ a na pa ta qa xa z Y H.size p1 p2 h (by rw [hk]; decide)) (cwV 2 hts gL_slip_X3_slip rfl rfl rfl (by decide +kernel) ⟨Nat.le_of_ble_eq_true rfl, Nat.le_of_ble_eq_true rfl⟩) [0, 1] rfl rfl (ci := 3) (r0 := 0) rfl rfl rfl (As := [.int p1, .int p2]) (rest := [.int (0 : Int32), .ref o]) rfl hl.1 rfl (Nat.le_of_ble_eq_true rfl) dL_slip_5 ⟨Nat.le_of_ble_eq_true rfl, Nat.le_of_ble_eq_true rfl⟩ (fun ce q9 H locs hP hS hce hcv hcl => ?_)
    rw [hk] at hcl
    refine vx_catch (E := tw_E3) hown (tableOf []) ⟨0, 10, 13, 21⟩ (tableOf [(0, 10, 17, 13), (0, 10, 21, 15)]) htab (fun z hz => absurd hz List.not_mem_nil) (by decide) (by decide) (hts _ qL_slip_3) (va_Nw.use rfl hNX.2.2.2) hce hcv hcl ?_
    refine lv_astore (lv' := [(4, .ref q9), (0, .ref (a 0)), (1, .int p1), (2, .int p2), (3, .ref o)]) hx hb dL_slip_13 hl (by decide) rfl (fun ls hl => ?_)
    refine lv_iconst (v := (1 : Int32)) hx hb dL_slip_15 (by decide) ?_
    exact hq H locs _ ls 1 _ _ (by rw [hk]; rfl) (by rw [if_neg (by rw [hk]; decide)]; exact hP) hS dL_slip_16 (Nat.le_of_ble_eq_true rfl) (Nat.le_of_ble_eq_true rfl)
abbrev rhL_borrow : Room := { frames := 7, cells := 1, slots := 6, locals := 126 }
set_option maxRecDepth 20000 in
theorem qL_borrow_3 : Cond.classLink RL 21 "java/lang/IndexOutOfBoundsException" ∈ wsL_borrow := (List.mem_cons_of_mem _ (List.mem_append_left _ (List.mem_append_left _ (List.mem_append_left _ (List.mem_append_left _ (List.mem_append_left _ (List.mem_append_left _ (List.mem_of_getElem? (i := 0) rfl))))))))
set_option maxRecDepth 20000 in
theorem qL_borrow_1 : Cond.classLink RL 13 "java/lang/IllegalArgumentException" ∈ wsL_borrow := (List.mem_cons_of_mem _ (List.mem_append_left _ (List.mem_append_left _ (List.mem_append_left _ (List.mem_append_left _ (List.mem_append_left _ (List.mem_append_left _ (List.mem_of_getElem? (i := 1) rfl))))))))
set_option maxHeartbeats 4000000 in
set_option maxRecDepth 100000 in
theorem hL_borrow (l : Launch) (hst : l.stackTraces = false) (G : va_G) (cI cQ cL : ClassId) (a na pa ta qa xa : Nat → Nat) (z : Nat → Nat → Nat) (o : Nat) (Y : tw_Wl) (f : Nat → Int64) (sz : Nat) (p1 : Int32) (p2 : Int32) (p3 : Int32) {rv : Nat × Int32 × tw_Wl} (h : fX3_borrow Y p1 p2 p3 = some rv) (hk : rv.1 = 0 ∨ rv.1 = 1 ∨ rv.1 = 3) : tw_Mh l yL_borrow wsL_borrow rhL_borrow G [(cI, .int), (cQ, .object RX1), (cL, .long)] (tw_wW cI cQ a na pa ta qa xa z Y ++ [(o, .inl (cL, 1, .inr (.inl f)))]) [.ref (a 0), .int p1, .int p2, .int p3, .ref o] sz (tw_hk 2 0 1 rv.1) (tw_wW cI cQ a na pa ta qa xa z rv.2.2 ++ [(o, .inl (cL, 1, .inr (.inl (if rv.1 = 0 then vp_updL f 0 (rv.2.1).toInt64 else f))))]) := by
  refine tw_ofh (cc := cL_borrow) (maxL := 6) (own := RL) (by decide) rfl rfl (Nat.le_of_ble_eq_true rfl) ?_
  intro p e s m args below meth c Q A ls H locs F hN hK hP hD hS hA hl hNX hNC hU hZ htab hq
  obtain ⟨hx, hb, hml, hown, hts⟩ := id F
  have hl : lv_has ls 6 [(0, .ref (a 0)), (1, .int p1), (2, .int p2), (3, .int p3), (4, .ref o)] := hl
  refine lv_aload hx hb dL_borrow_0 (lv_at hl 4 rfl) ?_
  refine lv_iconst (v := (0 : Int32)) hx hb dL_borrow_2 (by decide) ?_
  refine lv_aload_n hx hb dL_borrow_3 rfl (lv_at hl 0 rfl) ?_
  refine lv_iload_n hx hb dL_borrow_4 rfl (lv_at hl 1 rfl) ?_
  refine lv_iload_n hx hb dL_borrow_5 rfl (lv_at hl 2 rfl) ?_
  refine lv_iload_n hx hb dL_borrow_6 rfl (lv_at hl 3 rfl) ?_
  rcases hk with hk | hk | hk
  · refine tw_callVi (ws' := tw_wW cI cQ a na pa ta qa xa z rv.2.2 ++ [(o, .inl (cL, 1, .inr (.inl f)))]) F hN hK hP hD hS hA (mX3_borrow l G cI cQ a na pa ta qa xa z Y H.size p1 p2 p3 h hk) (cwV 3 hts gL_borrow_X3_borrow rfl rfl rfl (by decide +kernel) ⟨Nat.le_of_ble_eq_true rfl, Nat.le_of_ble_eq_true rfl⟩) [0, 1] rfl (List.range (tw_wW cI cQ a na pa ta qa xa z Y).length) (tw_ndR _) tw_cR rfl (tw_mix_hit _ rfl rfl) (ci := 3) (r0 := 0) rfl rfl rfl (As := [.int p1, .int p2, .int p3]) (rest := [.int (0 : Int32), .ref o]) rfl hl.1 rfl (Nat.le_of_ble_eq_true rfl) dL_borrow_7 ⟨Nat.le_of_ble_eq_true rfl, Nat.le_of_ble_eq_true rfl⟩ (fun H locs hP hD hS => ?_)
    refine lv_i2l hx hb dL_borrow_10 rfl ?_
    refine tw_last (ws' := tw_wW cI cQ a na pa ta qa xa z rv.2.2 ++ [(o, .inl (cL, 1, .inr (.inl (vp_updL f 0 (rv.2.1).toInt64))))]) (f := f) (n := 1) hx hb hK hP hD hS (tw_wW cI cQ a na pa ta qa xa z rv.2.2).length 2 tw_get_l rfl (i := (0 : Int32)) (tw_vin (by decide)) dL_borrow_11 tw_set_l (fun H locs hP hD hS => ?_)
    refine lv_goto (tgt := 23) hx hb dL_borrow_12 (by decide) ?_
    refine lv_iconst (v := (0 : Int32)) hx hb dL_borrow_23 (by decide) ?_
    exact hq H locs _ ls 0 _ _ (by rw [hk]; rfl) (by rw [if_pos hk]; exact hP) hS dL_borrow_24 (Nat.le_of_ble_eq_true rfl) (Nat.le_of_ble_eq_true rfl)
  · refine tw_callX (E := tw_en rv.1) (wc' := tw_wW cI cQ a na pa ta qa xa z rv.2.2) F hN hK hP hD hS hA hNX hU hZ (xX3_borrow l hst G cI cQ a na pa ta qa xa z Y H.size p1 p2 p3 h (by rw [hk]; decide)) (cwV 3 hts gL_borrow_X3_borrow rfl rfl rfl (by decide +kernel) ⟨Nat.le_of_ble_eq_true rfl, Nat.le_of_ble_eq_true rfl⟩) [0, 1] rfl rfl (ci := 3) (r0 := 0) rfl rfl rfl (As := [.int p1, .int p2, .int p3]) (rest := [.int (0 : Int32), .ref o]) rfl hl.1 rfl (Nat.le_of_ble_eq_true rfl) dL_borrow_7 ⟨Nat.le_of_ble_eq_true rfl, Nat.le_of_ble_eq_true rfl⟩ (fun ce q9 H locs hP hS hce hcv hcl => ?_)
    rw [hk] at hcl
    refine vx_catch (E := tw_E1) hown (tableOf [(0, 12, 15, 21)]) ⟨0, 12, 19, 13⟩ (tableOf []) htab (List.forall_mem_cons.mpr ⟨Or.inr ⟨by decide, _, hts _ qL_borrow_3, hNC.2.1⟩, fun z hz => absurd hz List.not_mem_nil⟩) (by decide) (by decide) (hts _ qL_borrow_1) (va_Nw.use rfl hNX.2.1) hce hcv hcl ?_
    refine lv_astore (lv' := [(5, .ref q9), (0, .ref (a 0)), (1, .int p1), (2, .int p2), (3, .int p3), (4, .ref o)]) hx hb dL_borrow_19 hl (by decide) rfl (fun ls hl => ?_)
    refine lv_iconst (v := (2 : Int32)) hx hb dL_borrow_21 (by decide) ?_
    exact hq H locs _ ls 2 _ _ (by rw [hk]; rfl) (by rw [if_neg (by rw [hk]; decide)]; exact hP) hS dL_borrow_22 (Nat.le_of_ble_eq_true rfl) (Nat.le_of_ble_eq_true rfl)
  · refine tw_callX (E := tw_en rv.1) (wc' := tw_wW cI cQ a na pa ta qa xa z rv.2.2) F hN hK hP hD hS hA hNX hU hZ (xX3_borrow l hst G cI cQ a na pa ta qa xa z Y H.size p1 p2 p3 h (by rw [hk]; decide)) (cwV 3 hts gL_borrow_X3_borrow rfl rfl rfl (by decide +kernel) ⟨Nat.le_of_ble_eq_true rfl, Nat.le_of_ble_eq_true rfl⟩) [0, 1] rfl rfl (ci := 3) (r0 := 0) rfl rfl rfl (As := [.int p1, .int p2, .int p3]) (rest := [.int (0 : Int32), .ref o]) rfl hl.1 rfl (Nat.le_of_ble_eq_true rfl) dL_borrow_7 ⟨Nat.le_of_ble_eq_true rfl, Nat.le_of_ble_eq_true rfl⟩ (fun ce q9 H locs hP hS hce hcv hcl => ?_)
    rw [hk] at hcl
    refine vx_catch (E := tw_E3) hown (tableOf []) ⟨0, 12, 15, 21⟩ (tableOf [(0, 12, 19, 13)]) htab (fun z hz => absurd hz List.not_mem_nil) (by decide) (by decide) (hts _ qL_borrow_3) (va_Nw.use rfl hNX.2.2.2) hce hcv hcl ?_
    refine lv_astore (lv' := [(5, .ref q9), (0, .ref (a 0)), (1, .int p1), (2, .int p2), (3, .int p3), (4, .ref o)]) hx hb dL_borrow_15 hl (by decide) rfl (fun ls hl => ?_)
    refine lv_iconst (v := (1 : Int32)) hx hb dL_borrow_17 (by decide) ?_
    exact hq H locs _ ls 1 _ _ (by rw [hk]; rfl) (by rw [if_neg (by rw [hk]; decide)]; exact hP) hS dL_borrow_18 (Nat.le_of_ble_eq_true rfl) (Nat.le_of_ble_eq_true rfl)
abbrev rhL_rule : Room := { frames := 7, cells := 1, slots := 6, locals := 125 }
set_option maxRecDepth 20000 in
theorem qL_rule_1 : Cond.classLink RL 13 "java/lang/IllegalArgumentException" ∈ wsL_rule := (List.mem_cons_of_mem _ (List.mem_append_left _ (List.mem_append_left _ (List.mem_append_left _ (List.mem_append_left _ (List.mem_append_left _ (List.mem_of_getElem? (i := 0) rfl)))))))
set_option maxHeartbeats 4000000 in
set_option maxRecDepth 100000 in
theorem hL_rule (l : Launch) (hst : l.stackTraces = false) (G : va_G) (cI cQ cL : ClassId) (a na pa ta qa xa : Nat → Nat) (z : Nat → Nat → Nat) (o : Nat) (Y : tw_Wl) (f : Nat → Int64) (sz : Nat) (p1 : Int32) {rv : Nat × Int32 × tw_Wl} (h : fX3_rule Y p1 = some rv) (hk : rv.1 = 0 ∨ rv.1 = 1) : tw_Mh l yL_rule wsL_rule rhL_rule G [(cI, .int), (cQ, .object RX1), (cL, .long)] (tw_wW cI cQ a na pa ta qa xa z Y ++ [(o, .inl (cL, 1, .inr (.inl f)))]) [.ref (a 0), .int p1, .ref o] sz (tw_hk 1 0 0 rv.1) (tw_wW cI cQ a na pa ta qa xa z rv.2.2 ++ [(o, .inl (cL, 1, .inr (.inl (if rv.1 = 0 then vp_updL f 0 (rv.2.1).toInt64 else f))))]) := by
  refine tw_ofh (cc := cL_rule) (maxL := 4) (own := RL) (by decide) rfl rfl (Nat.le_of_ble_eq_true rfl) ?_
  intro p e s m args below meth c Q A ls H locs F hN hK hP hD hS hA hl hNX hNC hU hZ htab hq
  obtain ⟨hx, hb, hml, hown, hts⟩ := id F
  have hl : lv_has ls 4 [(0, .ref (a 0)), (1, .int p1), (2, .ref o)] := hl
  refine lv_aload_n hx hb dL_rule_0 rfl (lv_at hl 2 rfl) ?_
  refine lv_iconst (v := (0 : Int32)) hx hb dL_rule_1 (by decide) ?_
  refine lv_aload_n hx hb dL_rule_2 rfl (lv_at hl 0 rfl) ?_
  refine lv_iload_n hx hb dL_rule_3 rfl (lv_at hl 1 rfl) ?_
  rcases hk with hk | hk
  · refine tw_callVi (ws' := tw_wW cI cQ a na pa ta qa xa z rv.2.2 ++ [(o, .inl (cL, 1, .inr (.inl f)))]) F hN hK hP hD hS hA (mX3_rule l G cI cQ a na pa ta qa xa z Y H.size p1 h hk) (cwV 1 hts gL_rule_X3_rule rfl rfl rfl (by decide +kernel) ⟨Nat.le_of_ble_eq_true rfl, Nat.le_of_ble_eq_true rfl⟩) [0, 1] rfl (List.range (tw_wW cI cQ a na pa ta qa xa z Y).length) (tw_ndR _) tw_cR rfl (tw_mix_hit _ rfl rfl) (ci := 3) (r0 := 0) rfl rfl rfl (As := [.int p1]) (rest := [.int (0 : Int32), .ref o]) rfl hl.1 rfl (Nat.le_of_ble_eq_true rfl) dL_rule_4 ⟨Nat.le_of_ble_eq_true rfl, Nat.le_of_ble_eq_true rfl⟩ (fun H locs hP hD hS => ?_)
    refine lv_i2l hx hb dL_rule_7 rfl ?_
    refine tw_last (ws' := tw_wW cI cQ a na pa ta qa xa z rv.2.2 ++ [(o, .inl (cL, 1, .inr (.inl (vp_updL f 0 (rv.2.1).toInt64))))]) (f := f) (n := 1) hx hb hK hP hD hS (tw_wW cI cQ a na pa ta qa xa z rv.2.2).length 2 tw_get_l rfl (i := (0 : Int32)) (tw_vin (by decide)) dL_rule_8 tw_set_l (fun H locs hP hD hS => ?_)
    refine lv_goto (tgt := 15) hx hb dL_rule_9 (by decide) ?_
    refine lv_iconst (v := (0 : Int32)) hx hb dL_rule_15 (by decide) ?_
    exact hq H locs _ ls 0 _ _ (by rw [hk]; rfl) (by rw [if_pos hk]; exact hP) hS dL_rule_16 (Nat.le_of_ble_eq_true rfl) (Nat.le_of_ble_eq_true rfl)
  · refine tw_callX (E := tw_en rv.1) (wc' := tw_wW cI cQ a na pa ta qa xa z rv.2.2) F hN hK hP hD hS hA hNX hU hZ (xX3_rule l hst G cI cQ a na pa ta qa xa z Y H.size p1 h (by rw [hk]; decide)) (cwV 1 hts gL_rule_X3_rule rfl rfl rfl (by decide +kernel) ⟨Nat.le_of_ble_eq_true rfl, Nat.le_of_ble_eq_true rfl⟩) [0, 1] rfl rfl (ci := 3) (r0 := 0) rfl rfl rfl (As := [.int p1]) (rest := [.int (0 : Int32), .ref o]) rfl hl.1 rfl (Nat.le_of_ble_eq_true rfl) dL_rule_4 ⟨Nat.le_of_ble_eq_true rfl, Nat.le_of_ble_eq_true rfl⟩ (fun ce q9 H locs hP hS hce hcv hcl => ?_)
    rw [hk] at hcl
    refine vx_catch (E := tw_E1) hown (tableOf []) ⟨0, 9, 12, 13⟩ (tableOf []) htab (fun z hz => absurd hz List.not_mem_nil) (by decide) (by decide) (hts _ qL_rule_1) (va_Nw.use rfl hNX.2.1) hce hcv hcl ?_
    refine lv_astore_n (lv' := [(3, .ref q9), (0, .ref (a 0)), (1, .int p1), (2, .ref o)]) hx hb dL_rule_12 rfl hl (by decide) rfl (fun ls hl => ?_)
    refine lv_iconst (v := (1 : Int32)) hx hb dL_rule_13 (by decide) ?_
    exact hq H locs _ ls 1 _ _ (by rw [hk]; rfl) (by rw [if_neg (by rw [hk]; decide)]; exact hP) hS dL_rule_14 (Nat.le_of_ble_eq_true rfl) (Nat.le_of_ble_eq_true rfl)
abbrev rhL_append : Room := { frames := 7, cells := 1, slots := 6, locals := 102 }
set_option maxRecDepth 20000 in
theorem qL_append_1 : Cond.classLink RL 13 "java/lang/IllegalArgumentException" ∈ wsL_append := (List.mem_cons_of_mem _ (List.mem_append_left _ (List.mem_append_left _ (List.mem_append_left _ (List.mem_append_left _ (List.mem_of_getElem? (i := 0) rfl))))))
set_option maxRecDepth 20000 in
theorem qL_append_2 : Cond.classLink RL 15 "java/lang/IllegalStateException" ∈ wsL_append := (List.mem_cons_of_mem _ (List.mem_append_left _ (List.mem_append_left _ (List.mem_append_left _ (List.mem_append_left _ (List.mem_of_getElem? (i := 1) rfl))))))
set_option maxHeartbeats 4000000 in
set_option maxRecDepth 100000 in
theorem hL_append (l : Launch) (hst : l.stackTraces = false) (G : va_G) (cI cQ cL : ClassId) (a na pa ta qa xa : Nat → Nat) (z : Nat → Nat → Nat) (o : Nat) (Y : tw_Wl) (f : Nat → Int64) (sz : Nat) (p1 : Int32) {rv : Nat × Int32 × tw_Wl} (h : fX3_append Y p1 = some rv) (hk : rv.1 = 0 ∨ rv.1 = 1 ∨ rv.1 = 2) : tw_Mh l yL_append wsL_append rhL_append G [(cI, .int), (cQ, .object RX1), (cL, .long)] (tw_wW cI cQ a na pa ta qa xa z Y ++ [(o, .inl (cL, 1, .inr (.inl f)))]) [.ref (a 0), .int p1, .ref o] sz (tw_hk 1 2 0 rv.1) (tw_wW cI cQ a na pa ta qa xa z rv.2.2 ++ [(o, .inl (cL, 1, .inr (.inl (if rv.1 = 0 then vp_updL f 0 (rv.2.1).toInt64 else f))))]) := by
  refine tw_ofh (cc := cL_append) (maxL := 4) (own := RL) (by decide) rfl rfl (Nat.le_of_ble_eq_true rfl) ?_
  intro p e s m args below meth c Q A ls H locs F hN hK hP hD hS hA hl hNX hNC hU hZ htab hq
  obtain ⟨hx, hb, hml, hown, hts⟩ := id F
  have hl : lv_has ls 4 [(0, .ref (a 0)), (1, .int p1), (2, .ref o)] := hl
  refine lv_aload_n hx hb dL_append_0 rfl (lv_at hl 2 rfl) ?_
  refine lv_iconst (v := (0 : Int32)) hx hb dL_append_1 (by decide) ?_
  refine lv_aload_n hx hb dL_append_2 rfl (lv_at hl 0 rfl) ?_
  refine lv_iload_n hx hb dL_append_3 rfl (lv_at hl 1 rfl) ?_
  rcases hk with hk | hk | hk
  · refine tw_callVi (ws' := tw_wW cI cQ a na pa ta qa xa z rv.2.2 ++ [(o, .inl (cL, 1, .inr (.inl f)))]) F hN hK hP hD hS hA (mX3_append l G cI cQ a na pa ta qa xa z Y H.size p1 h hk) (cwV 1 hts gL_append_X3_append rfl rfl rfl (by decide +kernel) ⟨Nat.le_of_ble_eq_true rfl, Nat.le_of_ble_eq_true rfl⟩) [0, 1] rfl (List.range (tw_wW cI cQ a na pa ta qa xa z Y).length) (tw_ndR _) tw_cR rfl (tw_mix_hit _ rfl rfl) (ci := 3) (r0 := 0) rfl rfl rfl (As := [.int p1]) (rest := [.int (0 : Int32), .ref o]) rfl hl.1 rfl (Nat.le_of_ble_eq_true rfl) dL_append_4 ⟨Nat.le_of_ble_eq_true rfl, Nat.le_of_ble_eq_true rfl⟩ (fun H locs hP hD hS => ?_)
    refine lv_i2l hx hb dL_append_7 rfl ?_
    refine tw_last (ws' := tw_wW cI cQ a na pa ta qa xa z rv.2.2 ++ [(o, .inl (cL, 1, .inr (.inl (vp_updL f 0 (rv.2.1).toInt64))))]) (f := f) (n := 1) hx hb hK hP hD hS (tw_wW cI cQ a na pa ta qa xa z rv.2.2).length 2 tw_get_l rfl (i := (0 : Int32)) (tw_vin (by decide)) dL_append_8 tw_set_l (fun H locs hP hD hS => ?_)
    refine lv_goto (tgt := 18) hx hb dL_append_9 (by decide) ?_
    refine lv_iconst (v := (0 : Int32)) hx hb dL_append_18 (by decide) ?_
    exact hq H locs _ ls 0 _ _ (by rw [hk]; rfl) (by rw [if_pos hk]; exact hP) hS dL_append_19 (Nat.le_of_ble_eq_true rfl) (Nat.le_of_ble_eq_true rfl)
  · refine tw_callX (E := tw_en rv.1) (wc' := tw_wW cI cQ a na pa ta qa xa z rv.2.2) F hN hK hP hD hS hA hNX hU hZ (xX3_append l hst G cI cQ a na pa ta qa xa z Y H.size p1 h (by rw [hk]; decide)) (cwV 1 hts gL_append_X3_append rfl rfl rfl (by decide +kernel) ⟨Nat.le_of_ble_eq_true rfl, Nat.le_of_ble_eq_true rfl⟩) [0, 1] rfl rfl (ci := 3) (r0 := 0) rfl rfl rfl (As := [.int p1]) (rest := [.int (0 : Int32), .ref o]) rfl hl.1 rfl (Nat.le_of_ble_eq_true rfl) dL_append_4 ⟨Nat.le_of_ble_eq_true rfl, Nat.le_of_ble_eq_true rfl⟩ (fun ce q9 H locs hP hS hce hcv hcl => ?_)
    rw [hk] at hcl
    refine vx_catch (E := tw_E1) hown (tableOf []) ⟨0, 9, 12, 13⟩ (tableOf [(0, 9, 15, 15)]) htab (fun z hz => absurd hz List.not_mem_nil) (by decide) (by decide) (hts _ qL_append_1) (va_Nw.use rfl hNX.2.1) hce hcv hcl ?_
    refine lv_astore_n (lv' := [(3, .ref q9), (0, .ref (a 0)), (1, .int p1), (2, .ref o)]) hx hb dL_append_12 rfl hl (by decide) rfl (fun ls hl => ?_)
    refine lv_iconst (v := (1 : Int32)) hx hb dL_append_13 (by decide) ?_
    exact hq H locs _ ls 1 _ _ (by rw [hk]; rfl) (by rw [if_neg (by rw [hk]; decide)]; exact hP) hS dL_append_14 (Nat.le_of_ble_eq_true rfl) (Nat.le_of_ble_eq_true rfl)
  · refine tw_callX (E := tw_en rv.1) (wc' := tw_wW cI cQ a na pa ta qa xa z rv.2.2) F hN hK hP hD hS hA hNX hU hZ (xX3_append l hst G cI cQ a na pa ta qa xa z Y H.size p1 h (by rw [hk]; decide)) (cwV 1 hts gL_append_X3_append rfl rfl rfl (by decide +kernel) ⟨Nat.le_of_ble_eq_true rfl, Nat.le_of_ble_eq_true rfl⟩) [0, 1] rfl rfl (ci := 3) (r0 := 0) rfl rfl rfl (As := [.int p1]) (rest := [.int (0 : Int32), .ref o]) rfl hl.1 rfl (Nat.le_of_ble_eq_true rfl) dL_append_4 ⟨Nat.le_of_ble_eq_true rfl, Nat.le_of_ble_eq_true rfl⟩ (fun ce q9 H locs hP hS hce hcv hcl => ?_)
    rw [hk] at hcl
    refine vx_catch (E := tw_E2) hown (tableOf [(0, 9, 12, 13)]) ⟨0, 9, 15, 15⟩ (tableOf []) htab (List.forall_mem_cons.mpr ⟨Or.inr ⟨by decide, _, hts _ qL_append_1, hNC.2.2.1⟩, fun z hz => absurd hz List.not_mem_nil⟩) (by decide) (by decide) (hts _ qL_append_2) (va_Nw.use rfl hNX.2.2.1) hce hcv hcl ?_
    refine lv_astore_n (lv' := [(3, .ref q9), (0, .ref (a 0)), (1, .int p1), (2, .ref o)]) hx hb dL_append_15 rfl hl (by decide) rfl (fun ls hl => ?_)
    refine lv_iconst (v := (2 : Int32)) hx hb dL_append_16 (by decide) ?_
    exact hq H locs _ ls 2 _ _ (by rw [hk]; rfl) (by rw [if_neg (by rw [hk]; decide)]; exact hP) hS dL_append_17 (Nat.le_of_ble_eq_true rfl) (Nat.le_of_ble_eq_true rfl)
abbrev rhL_addAll : Room := { frames := 7, cells := 1, slots := 6, locals := 123 }
set_option maxRecDepth 20000 in
theorem qL_addAll_1 : Cond.classLink RL 13 "java/lang/IllegalArgumentException" ∈ wsL_addAll := (List.mem_cons_of_mem _ (List.mem_append_left _ (List.mem_append_left _ (List.mem_append_left _ (List.mem_append_left _ (List.mem_append_left _ (List.mem_append_left _ (List.mem_append_left _ (List.mem_of_getElem? (i := 0) rfl)))))))))
set_option maxRecDepth 20000 in
theorem qL_addAll_2 : Cond.classLink RL 15 "java/lang/IllegalStateException" ∈ wsL_addAll := (List.mem_cons_of_mem _ (List.mem_append_left _ (List.mem_append_left _ (List.mem_append_left _ (List.mem_append_left _ (List.mem_append_left _ (List.mem_append_left _ (List.mem_append_left _ (List.mem_of_getElem? (i := 1) rfl)))))))))
set_option maxHeartbeats 4000000 in
set_option maxRecDepth 100000 in
theorem hL_addAll (l : Launch) (hst : l.stackTraces = false) (G : va_G) (cI cQ cL : ClassId) (a na pa ta qa xa : Nat → Nat) (z : Nat → Nat → Nat) (o : Nat) (Y : tw_Wl) (f : Nat → Int64) (sz : Nat)  {rv : Nat × Int32 × tw_Wl} (h : fX3_addAll Y  = some rv) (hk : rv.1 = 0 ∨ rv.1 = 1 ∨ rv.1 = 2) : tw_Mh l yL_addAll wsL_addAll rhL_addAll G [(cI, .int), (cQ, .object RX1), (cL, .long)] (tw_wW cI cQ a na pa ta qa xa z Y ++ [(o, .inl (cL, 1, .inr (.inl f)))]) [.ref (a 0), .ref o] sz (tw_hk 1 2 0 rv.1) (tw_wW cI cQ a na pa ta qa xa z rv.2.2 ++ [(o, .inl (cL, 1, .inr (.inl (if rv.1 = 0 then vp_updL f 0 (rv.2.1).toInt64 else f))))]) := by
  refine tw_ofh (cc := cL_addAll) (maxL := 3) (own := RL) (by decide) rfl rfl (Nat.le_of_ble_eq_true rfl) ?_
  intro p e s m args below meth c Q A ls H locs F hN hK hP hD hS hA hl hNX hNC hU hZ htab hq
  obtain ⟨hx, hb, hml, hown, hts⟩ := id F
  have hl : lv_has ls 3 [(0, .ref (a 0)), (1, .ref o)] := hl
  refine lv_aload_n hx hb dL_addAll_0 rfl (lv_at hl 1 rfl) ?_
  refine lv_iconst (v := (0 : Int32)) hx hb dL_addAll_1 (by decide) ?_
  refine lv_aload_n hx hb dL_addAll_2 rfl (lv_at hl 0 rfl) ?_
  rcases hk with hk | hk | hk
  · refine tw_callVi (ws' := tw_wW cI cQ a na pa ta qa xa z rv.2.2 ++ [(o, .inl (cL, 1, .inr (.inl f)))]) F hN hK hP hD hS hA (mX3_addAll l G cI cQ a na pa ta qa xa z Y H.size  h hk) (cwV 0 hts gL_addAll_X3_addAll rfl rfl rfl (by decide +kernel) ⟨Nat.le_of_ble_eq_true rfl, Nat.le_of_ble_eq_true rfl⟩) [0, 1] rfl (List.range (tw_wW cI cQ a na pa ta qa xa z Y).length) (tw_ndR _) tw_cR rfl (tw_mix_hit _ rfl rfl) (ci := 3) (r0 := 0) rfl rfl rfl (As := []) (rest := [.int (0 : Int32), .ref o]) rfl hl.1 rfl (Nat.le_of_ble_eq_true rfl) dL_addAll_3 ⟨Nat.le_of_ble_eq_true rfl, Nat.le_of_ble_eq_true rfl⟩ (fun H locs hP hD hS => ?_)
    refine lv_i2l hx hb dL_addAll_6 rfl ?_
    refine tw_last (ws' := tw_wW cI cQ a na pa ta qa xa z rv.2.2 ++ [(o, .inl (cL, 1, .inr (.inl (vp_updL f 0 (rv.2.1).toInt64))))]) (f := f) (n := 1) hx hb hK hP hD hS (tw_wW cI cQ a na pa ta qa xa z rv.2.2).length 2 tw_get_l rfl (i := (0 : Int32)) (tw_vin (by decide)) dL_addAll_7 tw_set_l (fun H locs hP hD hS => ?_)
    refine lv_goto (tgt := 17) hx hb dL_addAll_8 (by decide) ?_
    refine lv_iconst (v := (0 : Int32)) hx hb dL_addAll_17 (by decide) ?_
    exact hq H locs _ ls 0 _ _ (by rw [hk]; rfl) (by rw [if_pos hk]; exact hP) hS dL_addAll_18 (Nat.le_of_ble_eq_true rfl) (Nat.le_of_ble_eq_true rfl)
  · refine tw_callX (E := tw_en rv.1) (wc' := tw_wW cI cQ a na pa ta qa xa z rv.2.2) F hN hK hP hD hS hA hNX hU hZ (xX3_addAll l hst G cI cQ a na pa ta qa xa z Y H.size  h (by rw [hk]; decide)) (cwV 0 hts gL_addAll_X3_addAll rfl rfl rfl (by decide +kernel) ⟨Nat.le_of_ble_eq_true rfl, Nat.le_of_ble_eq_true rfl⟩) [0, 1] rfl rfl (ci := 3) (r0 := 0) rfl rfl rfl (As := []) (rest := [.int (0 : Int32), .ref o]) rfl hl.1 rfl (Nat.le_of_ble_eq_true rfl) dL_addAll_3 ⟨Nat.le_of_ble_eq_true rfl, Nat.le_of_ble_eq_true rfl⟩ (fun ce q9 H locs hP hS hce hcv hcl => ?_)
    rw [hk] at hcl
    refine vx_catch (E := tw_E1) hown (tableOf []) ⟨0, 8, 11, 13⟩ (tableOf [(0, 8, 14, 15)]) htab (fun z hz => absurd hz List.not_mem_nil) (by decide) (by decide) (hts _ qL_addAll_1) (va_Nw.use rfl hNX.2.1) hce hcv hcl ?_
    refine lv_astore_n (lv' := [(2, .ref q9), (0, .ref (a 0)), (1, .ref o)]) hx hb dL_addAll_11 rfl hl (by decide) rfl (fun ls hl => ?_)
    refine lv_iconst (v := (1 : Int32)) hx hb dL_addAll_12 (by decide) ?_
    exact hq H locs _ ls 1 _ _ (by rw [hk]; rfl) (by rw [if_neg (by rw [hk]; decide)]; exact hP) hS dL_addAll_13 (Nat.le_of_ble_eq_true rfl) (Nat.le_of_ble_eq_true rfl)
  · refine tw_callX (E := tw_en rv.1) (wc' := tw_wW cI cQ a na pa ta qa xa z rv.2.2) F hN hK hP hD hS hA hNX hU hZ (xX3_addAll l hst G cI cQ a na pa ta qa xa z Y H.size  h (by rw [hk]; decide)) (cwV 0 hts gL_addAll_X3_addAll rfl rfl rfl (by decide +kernel) ⟨Nat.le_of_ble_eq_true rfl, Nat.le_of_ble_eq_true rfl⟩) [0, 1] rfl rfl (ci := 3) (r0 := 0) rfl rfl rfl (As := []) (rest := [.int (0 : Int32), .ref o]) rfl hl.1 rfl (Nat.le_of_ble_eq_true rfl) dL_addAll_3 ⟨Nat.le_of_ble_eq_true rfl, Nat.le_of_ble_eq_true rfl⟩ (fun ce q9 H locs hP hS hce hcv hcl => ?_)
    rw [hk] at hcl
    refine vx_catch (E := tw_E2) hown (tableOf [(0, 8, 11, 13)]) ⟨0, 8, 14, 15⟩ (tableOf []) htab (List.forall_mem_cons.mpr ⟨Or.inr ⟨by decide, _, hts _ qL_addAll_1, hNC.2.2.1⟩, fun z hz => absurd hz List.not_mem_nil⟩) (by decide) (by decide) (hts _ qL_addAll_2) (va_Nw.use rfl hNX.2.2.1) hce hcv hcl ?_
    refine lv_astore_n (lv' := [(2, .ref q9), (0, .ref (a 0)), (1, .ref o)]) hx hb dL_addAll_14 rfl hl (by decide) rfl (fun ls hl => ?_)
    refine lv_iconst (v := (2 : Int32)) hx hb dL_addAll_15 (by decide) ?_
    exact hq H locs _ ls 2 _ _ (by rw [hk]; rfl) (by rw [if_neg (by rw [hk]; decide)]; exact hP) hS dL_addAll_16 (Nat.le_of_ble_eq_true rfl) (Nat.le_of_ble_eq_true rfl)
abbrev rhL_undo : Room := { frames := 7, cells := 1, slots := 6, locals := 123 }
set_option maxRecDepth 20000 in
theorem qL_undo_2 : Cond.classLink RL 15 "java/lang/IllegalStateException" ∈ wsL_undo := (List.mem_cons_of_mem _ (List.mem_append_left _ (List.mem_append_left _ (List.mem_append_left _ (List.mem_append_left _ (List.mem_append_left _ (List.mem_of_getElem? (i := 0) rfl)))))))
set_option maxHeartbeats 4000000 in
set_option maxRecDepth 100000 in
theorem hL_undo (l : Launch) (hst : l.stackTraces = false) (G : va_G) (cI cQ cL : ClassId) (a na pa ta qa xa : Nat → Nat) (z : Nat → Nat → Nat) (o : Nat) (Y : tw_Wl) (f : Nat → Int64) (sz : Nat)  {rv : Nat × Int32 × tw_Wl} (h : fX3_undo Y  = some rv) (hk : rv.1 = 0 ∨ rv.1 = 2) : tw_Mh l yL_undo wsL_undo rhL_undo G [(cI, .int), (cQ, .object RX1), (cL, .long)] (tw_wW cI cQ a na pa ta qa xa z Y ++ [(o, .inl (cL, 1, .inr (.inl f)))]) [.ref (a 0), .ref o] sz (tw_hk 0 1 0 rv.1) (tw_wW cI cQ a na pa ta qa xa z rv.2.2 ++ [(o, .inl (cL, 1, .inr (.inl (if rv.1 = 0 then vp_updL f 0 (rv.2.1).toInt64 else f))))]) := by
  refine tw_ofh (cc := cL_undo) (maxL := 3) (own := RL) (by decide) rfl rfl (Nat.le_of_ble_eq_true rfl) ?_
  intro p e s m args below meth c Q A ls H locs F hN hK hP hD hS hA hl hNX hNC hU hZ htab hq
  obtain ⟨hx, hb, hml, hown, hts⟩ := id F
  have hl : lv_has ls 3 [(0, .ref (a 0)), (1, .ref o)] := hl
  refine lv_aload_n hx hb dL_undo_0 rfl (lv_at hl 1 rfl) ?_
  refine lv_iconst (v := (0 : Int32)) hx hb dL_undo_1 (by decide) ?_
  refine lv_aload_n hx hb dL_undo_2 rfl (lv_at hl 0 rfl) ?_
  rcases hk with hk | hk
  · refine tw_callVi (ws' := tw_wW cI cQ a na pa ta qa xa z rv.2.2 ++ [(o, .inl (cL, 1, .inr (.inl f)))]) F hN hK hP hD hS hA (mX3_undo l G cI cQ a na pa ta qa xa z Y H.size  h hk) (cwV 0 hts gL_undo_X3_undo rfl rfl rfl (by decide +kernel) ⟨Nat.le_of_ble_eq_true rfl, Nat.le_of_ble_eq_true rfl⟩) [0, 1] rfl (List.range (tw_wW cI cQ a na pa ta qa xa z Y).length) (tw_ndR _) tw_cR rfl (tw_mix_hit _ rfl rfl) (ci := 3) (r0 := 0) rfl rfl rfl (As := []) (rest := [.int (0 : Int32), .ref o]) rfl hl.1 rfl (Nat.le_of_ble_eq_true rfl) dL_undo_3 ⟨Nat.le_of_ble_eq_true rfl, Nat.le_of_ble_eq_true rfl⟩ (fun H locs hP hD hS => ?_)
    refine lv_i2l hx hb dL_undo_6 rfl ?_
    refine tw_last (ws' := tw_wW cI cQ a na pa ta qa xa z rv.2.2 ++ [(o, .inl (cL, 1, .inr (.inl (vp_updL f 0 (rv.2.1).toInt64))))]) (f := f) (n := 1) hx hb hK hP hD hS (tw_wW cI cQ a na pa ta qa xa z rv.2.2).length 2 tw_get_l rfl (i := (0 : Int32)) (tw_vin (by decide)) dL_undo_7 tw_set_l (fun H locs hP hD hS => ?_)
    refine lv_goto (tgt := 14) hx hb dL_undo_8 (by decide) ?_
    refine lv_iconst (v := (0 : Int32)) hx hb dL_undo_14 (by decide) ?_
    exact hq H locs _ ls 0 _ _ (by rw [hk]; rfl) (by rw [if_pos hk]; exact hP) hS dL_undo_15 (Nat.le_of_ble_eq_true rfl) (Nat.le_of_ble_eq_true rfl)
  · refine tw_callX (E := tw_en rv.1) (wc' := tw_wW cI cQ a na pa ta qa xa z rv.2.2) F hN hK hP hD hS hA hNX hU hZ (xX3_undo l hst G cI cQ a na pa ta qa xa z Y H.size  h (by rw [hk]; decide)) (cwV 0 hts gL_undo_X3_undo rfl rfl rfl (by decide +kernel) ⟨Nat.le_of_ble_eq_true rfl, Nat.le_of_ble_eq_true rfl⟩) [0, 1] rfl rfl (ci := 3) (r0 := 0) rfl rfl rfl (As := []) (rest := [.int (0 : Int32), .ref o]) rfl hl.1 rfl (Nat.le_of_ble_eq_true rfl) dL_undo_3 ⟨Nat.le_of_ble_eq_true rfl, Nat.le_of_ble_eq_true rfl⟩ (fun ce q9 H locs hP hS hce hcv hcl => ?_)
    rw [hk] at hcl
    refine vx_catch (E := tw_E2) hown (tableOf []) ⟨0, 8, 11, 15⟩ (tableOf []) htab (fun z hz => absurd hz List.not_mem_nil) (by decide) (by decide) (hts _ qL_undo_2) (va_Nw.use rfl hNX.2.2.1) hce hcv hcl ?_
    refine lv_astore_n (lv' := [(2, .ref q9), (0, .ref (a 0)), (1, .ref o)]) hx hb dL_undo_11 rfl hl (by decide) rfl (fun ls hl => ?_)
    refine lv_iconst (v := (1 : Int32)) hx hb dL_undo_12 (by decide) ?_
    exact hq H locs _ ls 1 _ _ (by rw [hk]; rfl) (by rw [if_neg (by rw [hk]; decide)]; exact hP) hS dL_undo_13 (Nat.le_of_ble_eq_true rfl) (Nat.le_of_ble_eq_true rfl)
abbrev rhL_task : Room := { frames := 7, cells := 1, slots := 6, locals := 148 }
set_option maxRecDepth 20000 in
theorem qL_task_3 : Cond.classLink RL 21 "java/lang/IndexOutOfBoundsException" ∈ wsL_task := (List.mem_cons_of_mem _ (List.mem_append_left _ (List.mem_append_left _ (List.mem_append_left _ (List.mem_append_left _ (List.mem_append_left _ (List.mem_append_left _ (List.mem_of_getElem? (i := 0) rfl))))))))
set_option maxRecDepth 20000 in
theorem qL_task_1 : Cond.classLink RL 13 "java/lang/IllegalArgumentException" ∈ wsL_task := (List.mem_cons_of_mem _ (List.mem_append_left _ (List.mem_append_left _ (List.mem_append_left _ (List.mem_append_left _ (List.mem_append_left _ (List.mem_append_left _ (List.mem_of_getElem? (i := 1) rfl))))))))
set_option maxHeartbeats 4000000 in
set_option maxRecDepth 100000 in
theorem hL_task (l : Launch) (hst : l.stackTraces = false) (G : va_G) (cI cQ cL : ClassId) (a na pa ta qa xa : Nat → Nat) (z : Nat → Nat → Nat) (o : Nat) (Y : tw_Wl) (f : Nat → Int64) (sz : Nat) (p1 : Int32) (p2 : Int32) {rv : Nat × Int32 × tw_Wl} (h : fX3_task Y p1 p2 = some rv) (hk : rv.1 = 0 ∨ rv.1 = 1 ∨ rv.1 = 3) : tw_Mh l yL_task wsL_task rhL_task G [(cI, .int), (cQ, .object RX1), (cL, .long)] (tw_wW cI cQ a na pa ta qa xa z Y ++ [(o, .inl (cL, 1, .inr (.inl f)))]) [.ref (a 0), .int p1, .int p2, .ref o] sz (tw_hk 2 0 1 rv.1) (tw_wW cI cQ a na pa ta qa xa z rv.2.2 ++ [(o, .inl (cL, 1, .inr (.inl (if rv.1 = 0 then vp_updL f 0 (rv.2.1).toInt64 else f))))]) := by
  refine tw_ofh (cc := cL_task) (maxL := 5) (own := RL) (by decide) rfl rfl (Nat.le_of_ble_eq_true rfl) ?_
  intro p e s m args below meth c Q A ls H locs F hN hK hP hD hS hA hl hNX hNC hU hZ htab hq
  obtain ⟨hx, hb, hml, hown, hts⟩ := id F
  have hl : lv_has ls 5 [(0, .ref (a 0)), (1, .int p1), (2, .int p2), (3, .ref o)] := hl
  refine lv_aload_n hx hb dL_task_0 rfl (lv_at hl 3 rfl) ?_
  refine lv_iconst (v := (0 : Int32)) hx hb dL_task_1 (by decide) ?_
  refine lv_aload_n hx hb dL_task_2 rfl (lv_at hl 0 rfl) ?_
  refine lv_iload_n hx hb dL_task_3 rfl (lv_at hl 1 rfl) ?_
  refine lv_iload_n hx hb dL_task_4 rfl (lv_at hl 2 rfl) ?_
  rcases hk with hk | hk | hk
  · refine tw_callVi (ws' := tw_wW cI cQ a na pa ta qa xa z rv.2.2 ++ [(o, .inl (cL, 1, .inr (.inl f)))]) F hN hK hP hD hS hA (mX3_task l G cI cQ a na pa ta qa xa z Y H.size p1 p2 h hk) (cwV 2 hts gL_task_X3_task rfl rfl rfl (by decide +kernel) ⟨Nat.le_of_ble_eq_true rfl, Nat.le_of_ble_eq_true rfl⟩) [0, 1] rfl (List.range (tw_wW cI cQ a na pa ta qa xa z Y).length) (tw_ndR _) tw_cR rfl (tw_mix_hit _ rfl rfl) (ci := 3) (r0 := 0) rfl rfl rfl (As := [.int p1, .int p2]) (rest := [.int (0 : Int32), .ref o]) rfl hl.1 rfl (Nat.le_of_ble_eq_true rfl) dL_task_5 ⟨Nat.le_of_ble_eq_true rfl, Nat.le_of_ble_eq_true rfl⟩ (fun H locs hP hD hS => ?_)
    refine lv_i2l hx hb dL_task_8 rfl ?_
    refine tw_last (ws' := tw_wW cI cQ a na pa ta qa xa z rv.2.2 ++ [(o, .inl (cL, 1, .inr (.inl (vp_updL f 0 (rv.2.1).toInt64))))]) (f := f) (n := 1) hx hb hK hP hD hS (tw_wW cI cQ a na pa ta qa xa z rv.2.2).length 2 tw_get_l rfl (i := (0 : Int32)) (tw_vin (by decide)) dL_task_9 tw_set_l (fun H locs hP hD hS => ?_)
    refine lv_goto (tgt := 21) hx hb dL_task_10 (by decide) ?_
    refine lv_iconst (v := (0 : Int32)) hx hb dL_task_21 (by decide) ?_
    exact hq H locs _ ls 0 _ _ (by rw [hk]; rfl) (by rw [if_pos hk]; exact hP) hS dL_task_22 (Nat.le_of_ble_eq_true rfl) (Nat.le_of_ble_eq_true rfl)
  · refine tw_callX (E := tw_en rv.1) (wc' := tw_wW cI cQ a na pa ta qa xa z rv.2.2) F hN hK hP hD hS hA hNX hU hZ (xX3_task l hst G cI cQ a na pa ta qa xa z Y H.size p1 p2 h (by rw [hk]; decide)) (cwV 2 hts gL_task_X3_task rfl rfl rfl (by decide +kernel) ⟨Nat.le_of_ble_eq_true rfl, Nat.le_of_ble_eq_true rfl⟩) [0, 1] rfl rfl (ci := 3) (r0 := 0) rfl rfl rfl (As := [.int p1, .int p2]) (rest := [.int (0 : Int32), .ref o]) rfl hl.1 rfl (Nat.le_of_ble_eq_true rfl) dL_task_5 ⟨Nat.le_of_ble_eq_true rfl, Nat.le_of_ble_eq_true rfl⟩ (fun ce q9 H locs hP hS hce hcv hcl => ?_)
    rw [hk] at hcl
    refine vx_catch (E := tw_E1) hown (tableOf [(0, 10, 13, 21)]) ⟨0, 10, 17, 13⟩ (tableOf []) htab (List.forall_mem_cons.mpr ⟨Or.inr ⟨by decide, _, hts _ qL_task_3, hNC.2.1⟩, fun z hz => absurd hz List.not_mem_nil⟩) (by decide) (by decide) (hts _ qL_task_1) (va_Nw.use rfl hNX.2.1) hce hcv hcl ?_
    refine lv_astore (lv' := [(4, .ref q9), (0, .ref (a 0)), (1, .int p1), (2, .int p2), (3, .ref o)]) hx hb dL_task_17 hl (by decide) rfl (fun ls hl => ?_)
    refine lv_iconst (v := (2 : Int32)) hx hb dL_task_19 (by decide) ?_
    exact hq H locs _ ls 2 _ _ (by rw [hk]; rfl) (by rw [if_neg (by rw [hk]; decide)]; exact hP) hS dL_task_20 (Nat.le_of_ble_eq_true rfl) (Nat.le_of_ble_eq_true rfl)
  · refine tw_callX (E := tw_en rv.1) (wc' := tw_wW cI cQ a na pa ta qa xa z rv.2.2) F hN hK hP hD hS hA hNX hU hZ (xX3_task l hst G cI cQ a na pa ta qa xa z Y H.size p1 p2 h (by rw [hk]; decide)) (cwV 2 hts gL_task_X3_task rfl rfl rfl (by decide +kernel) ⟨Nat.le_of_ble_eq_true rfl, Nat.le_of_ble_eq_true rfl⟩) [0, 1] rfl rfl (ci := 3) (r0 := 0) rfl rfl rfl (As := [.int p1, .int p2]) (rest := [.int (0 : Int32), .ref o]) rfl hl.1 rfl (Nat.le_of_ble_eq_true rfl) dL_task_5 ⟨Nat.le_of_ble_eq_true rfl, Nat.le_of_ble_eq_true rfl⟩ (fun ce q9 H locs hP hS hce hcv hcl => ?_)
    rw [hk] at hcl
    refine vx_catch (E := tw_E3) hown (tableOf []) ⟨0, 10, 13, 21⟩ (tableOf [(0, 10, 17, 13)]) htab (fun z hz => absurd hz List.not_mem_nil) (by decide) (by decide) (hts _ qL_task_3) (va_Nw.use rfl hNX.2.2.2) hce hcv hcl ?_
    refine lv_astore (lv' := [(4, .ref q9), (0, .ref (a 0)), (1, .int p1), (2, .int p2), (3, .ref o)]) hx hb dL_task_13 hl (by decide) rfl (fun ls hl => ?_)
    refine lv_iconst (v := (1 : Int32)) hx hb dL_task_15 (by decide) ?_
    exact hq H locs _ ls 1 _ _ (by rw [hk]; rfl) (by rw [if_neg (by rw [hk]; decide)]; exact hP) hS dL_task_16 (Nat.le_of_ble_eq_true rfl) (Nat.le_of_ble_eq_true rfl)
abbrev rhL_personOn : Room := { frames := 7, cells := 1, slots := 6, locals := 103 }
set_option maxRecDepth 20000 in
theorem qL_personOn_3 : Cond.classLink RL 21 "java/lang/IndexOutOfBoundsException" ∈ wsL_personOn := (List.mem_cons_of_mem _ (List.mem_append_left _ (List.mem_append_left _ (List.mem_append_left _ (List.mem_append_left _ (List.mem_append_left _ (List.mem_of_getElem? (i := 0) rfl)))))))
set_option maxHeartbeats 4000000 in
set_option maxRecDepth 100000 in
theorem hL_personOn (l : Launch) (hst : l.stackTraces = false) (G : va_G) (cI cQ cL : ClassId) (a na pa ta qa xa : Nat → Nat) (z : Nat → Nat → Nat) (o : Nat) (Y : tw_Wl) (f : Nat → Int64) (sz : Nat) (p1 : Int32) (p2 : Int32) {rv : Nat × Int32} (h : fX3_personOn Y p1 p2 = some rv) (hk : rv.1 = 0 ∨ rv.1 = 3) : tw_Mh l yL_personOn wsL_personOn rhL_personOn G [(cI, .int), (cQ, .object RX1), (cL, .long)] (tw_wW cI cQ a na pa ta qa xa z Y ++ [(o, .inl (cL, 1, .inr (.inl f)))]) [.ref (a 0), .int p1, .int p2, .ref o] sz (tw_hk 0 0 1 rv.1) (tw_wW cI cQ a na pa ta qa xa z Y ++ [(o, .inl (cL, 1, .inr (.inl (if rv.1 = 0 then vp_updL f 0 (rv.2).toInt64 else f))))]) := by
  refine tw_ofh (cc := cL_personOn) (maxL := 5) (own := RL) (by decide) rfl rfl (Nat.le_of_ble_eq_true rfl) ?_
  intro p e s m args below meth c Q A ls H locs F hN hK hP hD hS hA hl hNX hNC hU hZ htab hq
  obtain ⟨hx, hb, hml, hown, hts⟩ := id F
  have hl : lv_has ls 5 [(0, .ref (a 0)), (1, .int p1), (2, .int p2), (3, .ref o)] := hl
  refine lv_aload_n hx hb dL_personOn_0 rfl (lv_at hl 3 rfl) ?_
  refine lv_iconst (v := (0 : Int32)) hx hb dL_personOn_1 (by decide) ?_
  refine lv_aload_n hx hb dL_personOn_2 rfl (lv_at hl 0 rfl) ?_
  refine lv_iload_n hx hb dL_personOn_3 rfl (lv_at hl 1 rfl) ?_
  refine lv_iload_n hx hb dL_personOn_4 rfl (lv_at hl 2 rfl) ?_
  rcases hk with hk | hk
  · refine tw_callVi (ws' := tw_wW cI cQ a na pa ta qa xa z Y ++ [(o, .inl (cL, 1, .inr (.inl f)))]) F hN hK hP hD hS hA (mX3_personOn l G cI cQ a na pa ta qa xa z Y H.size p1 p2 h hk) (cwV 2 hts gL_personOn_X3_personOn rfl rfl rfl (by decide +kernel) ⟨Nat.le_of_ble_eq_true rfl, Nat.le_of_ble_eq_true rfl⟩) [0, 1] rfl (List.range (tw_wW cI cQ a na pa ta qa xa z Y).length) (tw_ndR _) tw_cR rfl (tw_mix_hit _ rfl rfl) (ci := 3) (r0 := 0) rfl rfl rfl (As := [.int p1, .int p2]) (rest := [.int (0 : Int32), .ref o]) rfl hl.1 rfl (Nat.le_of_ble_eq_true rfl) dL_personOn_5 ⟨Nat.le_of_ble_eq_true rfl, Nat.le_of_ble_eq_true rfl⟩ (fun H locs hP hD hS => ?_)
    refine lv_i2l hx hb dL_personOn_8 rfl ?_
    refine tw_last (ws' := tw_wW cI cQ a na pa ta qa xa z Y ++ [(o, .inl (cL, 1, .inr (.inl (vp_updL f 0 (rv.2).toInt64))))]) (f := f) (n := 1) hx hb hK hP hD hS (tw_wW cI cQ a na pa ta qa xa z Y).length 2 tw_get_l rfl (i := (0 : Int32)) (tw_vin (by decide)) dL_personOn_9 tw_set_l (fun H locs hP hD hS => ?_)
    refine lv_goto (tgt := 17) hx hb dL_personOn_10 (by decide) ?_
    refine lv_iconst (v := (0 : Int32)) hx hb dL_personOn_17 (by decide) ?_
    exact hq H locs _ ls 0 _ _ (by rw [hk]; rfl) (by rw [if_pos hk]; exact hP) hS dL_personOn_18 (Nat.le_of_ble_eq_true rfl) (Nat.le_of_ble_eq_true rfl)
  · refine tw_callX (E := tw_en rv.1) (wc' := tw_wW cI cQ a na pa ta qa xa z Y) F hN hK hP hD hS hA hNX hU hZ (xX3_personOn l hst G cI cQ a na pa ta qa xa z Y H.size p1 p2 h (by rw [hk]; decide)) (cwV 2 hts gL_personOn_X3_personOn rfl rfl rfl (by decide +kernel) ⟨Nat.le_of_ble_eq_true rfl, Nat.le_of_ble_eq_true rfl⟩) [0, 1] rfl rfl (ci := 3) (r0 := 0) rfl rfl rfl (As := [.int p1, .int p2]) (rest := [.int (0 : Int32), .ref o]) rfl hl.1 rfl (Nat.le_of_ble_eq_true rfl) dL_personOn_5 ⟨Nat.le_of_ble_eq_true rfl, Nat.le_of_ble_eq_true rfl⟩ (fun ce q9 H locs hP hS hce hcv hcl => ?_)
    rw [hk] at hcl
    refine vx_catch (E := tw_E3) hown (tableOf []) ⟨0, 10, 13, 21⟩ (tableOf []) htab (fun z hz => absurd hz List.not_mem_nil) (by decide) (by decide) (hts _ qL_personOn_3) (va_Nw.use rfl hNX.2.2.2) hce hcv hcl ?_
    refine lv_astore (lv' := [(4, .ref q9), (0, .ref (a 0)), (1, .int p1), (2, .int p2), (3, .ref o)]) hx hb dL_personOn_13 hl (by decide) rfl (fun ls hl => ?_)
    refine lv_iconst (v := (1 : Int32)) hx hb dL_personOn_15 (by decide) ?_
    exact hq H locs _ ls 1 _ _ (by rw [hk]; rfl) (by rw [if_neg (by rw [hk]; decide)]; exact hP) hS dL_personOn_16 (Nat.le_of_ble_eq_true rfl) (Nat.le_of_ble_eq_true rfl)
abbrev rhL_hallOn : Room := { frames := 7, cells := 1, slots := 6, locals := 103 }
set_option maxRecDepth 20000 in
theorem qL_hallOn_3 : Cond.classLink RL 21 "java/lang/IndexOutOfBoundsException" ∈ wsL_hallOn := (List.mem_cons_of_mem _ (List.mem_append_left _ (List.mem_append_left _ (List.mem_append_left _ (List.mem_append_left _ (List.mem_append_left _ (List.mem_of_getElem? (i := 0) rfl)))))))
set_option maxHeartbeats 4000000 in
set_option maxRecDepth 100000 in
theorem hL_hallOn (l : Launch) (hst : l.stackTraces = false) (G : va_G) (cI cQ cL : ClassId) (a na pa ta qa xa : Nat → Nat) (z : Nat → Nat → Nat) (o : Nat) (Y : tw_Wl) (f : Nat → Int64) (sz : Nat) (p1 : Int32) (p2 : Int32) {rv : Nat × Int32} (h : fX3_hallOn Y p1 p2 = some rv) (hk : rv.1 = 0 ∨ rv.1 = 3) : tw_Mh l yL_hallOn wsL_hallOn rhL_hallOn G [(cI, .int), (cQ, .object RX1), (cL, .long)] (tw_wW cI cQ a na pa ta qa xa z Y ++ [(o, .inl (cL, 1, .inr (.inl f)))]) [.ref (a 0), .int p1, .int p2, .ref o] sz (tw_hk 0 0 1 rv.1) (tw_wW cI cQ a na pa ta qa xa z Y ++ [(o, .inl (cL, 1, .inr (.inl (if rv.1 = 0 then vp_updL f 0 (rv.2).toInt64 else f))))]) := by
  refine tw_ofh (cc := cL_hallOn) (maxL := 5) (own := RL) (by decide) rfl rfl (Nat.le_of_ble_eq_true rfl) ?_
  intro p e s m args below meth c Q A ls H locs F hN hK hP hD hS hA hl hNX hNC hU hZ htab hq
  obtain ⟨hx, hb, hml, hown, hts⟩ := id F
  have hl : lv_has ls 5 [(0, .ref (a 0)), (1, .int p1), (2, .int p2), (3, .ref o)] := hl
  refine lv_aload_n hx hb dL_hallOn_0 rfl (lv_at hl 3 rfl) ?_
  refine lv_iconst (v := (0 : Int32)) hx hb dL_hallOn_1 (by decide) ?_
  refine lv_aload_n hx hb dL_hallOn_2 rfl (lv_at hl 0 rfl) ?_
  refine lv_iload_n hx hb dL_hallOn_3 rfl (lv_at hl 1 rfl) ?_
  refine lv_iload_n hx hb dL_hallOn_4 rfl (lv_at hl 2 rfl) ?_
  rcases hk with hk | hk
  · refine tw_callVi (ws' := tw_wW cI cQ a na pa ta qa xa z Y ++ [(o, .inl (cL, 1, .inr (.inl f)))]) F hN hK hP hD hS hA (mX3_hallOn l G cI cQ a na pa ta qa xa z Y H.size p1 p2 h hk) (cwV 2 hts gL_hallOn_X3_hallOn rfl rfl rfl (by decide +kernel) ⟨Nat.le_of_ble_eq_true rfl, Nat.le_of_ble_eq_true rfl⟩) [0, 1] rfl (List.range (tw_wW cI cQ a na pa ta qa xa z Y).length) (tw_ndR _) tw_cR rfl (tw_mix_hit _ rfl rfl) (ci := 3) (r0 := 0) rfl rfl rfl (As := [.int p1, .int p2]) (rest := [.int (0 : Int32), .ref o]) rfl hl.1 rfl (Nat.le_of_ble_eq_true rfl) dL_hallOn_5 ⟨Nat.le_of_ble_eq_true rfl, Nat.le_of_ble_eq_true rfl⟩ (fun H locs hP hD hS => ?_)
    refine lv_i2l hx hb dL_hallOn_8 rfl ?_
    refine tw_last (ws' := tw_wW cI cQ a na pa ta qa xa z Y ++ [(o, .inl (cL, 1, .inr (.inl (vp_updL f 0 (rv.2).toInt64))))]) (f := f) (n := 1) hx hb hK hP hD hS (tw_wW cI cQ a na pa ta qa xa z Y).length 2 tw_get_l rfl (i := (0 : Int32)) (tw_vin (by decide)) dL_hallOn_9 tw_set_l (fun H locs hP hD hS => ?_)
    refine lv_goto (tgt := 17) hx hb dL_hallOn_10 (by decide) ?_
    refine lv_iconst (v := (0 : Int32)) hx hb dL_hallOn_17 (by decide) ?_
    exact hq H locs _ ls 0 _ _ (by rw [hk]; rfl) (by rw [if_pos hk]; exact hP) hS dL_hallOn_18 (Nat.le_of_ble_eq_true rfl) (Nat.le_of_ble_eq_true rfl)
  · refine tw_callX (E := tw_en rv.1) (wc' := tw_wW cI cQ a na pa ta qa xa z Y) F hN hK hP hD hS hA hNX hU hZ (xX3_hallOn l hst G cI cQ a na pa ta qa xa z Y H.size p1 p2 h (by rw [hk]; decide)) (cwV 2 hts gL_hallOn_X3_hallOn rfl rfl rfl (by decide +kernel) ⟨Nat.le_of_ble_eq_true rfl, Nat.le_of_ble_eq_true rfl⟩) [0, 1] rfl rfl (ci := 3) (r0 := 0) rfl rfl rfl (As := [.int p1, .int p2]) (rest := [.int (0 : Int32), .ref o]) rfl hl.1 rfl (Nat.le_of_ble_eq_true rfl) dL_hallOn_5 ⟨Nat.le_of_ble_eq_true rfl, Nat.le_of_ble_eq_true rfl⟩ (fun ce q9 H locs hP hS hce hcv hcl => ?_)
    rw [hk] at hcl
    refine vx_catch (E := tw_E3) hown (tableOf []) ⟨0, 10, 13, 21⟩ (tableOf []) htab (fun z hz => absurd hz List.not_mem_nil) (by decide) (by decide) (hts _ qL_hallOn_3) (va_Nw.use rfl hNX.2.2.2) hce hcv hcl ?_
    refine lv_astore (lv' := [(4, .ref q9), (0, .ref (a 0)), (1, .int p1), (2, .int p2), (3, .ref o)]) hx hb dL_hallOn_13 hl (by decide) rfl (fun ls hl => ?_)
    refine lv_iconst (v := (1 : Int32)) hx hb dL_hallOn_15 (by decide) ?_
    exact hq H locs _ ls 1 _ _ (by rw [hk]; rfl) (by rw [if_neg (by rw [hk]; decide)]; exact hP) hS dL_hallOn_16 (Nat.le_of_ble_eq_true rfl) (Nat.le_of_ble_eq_true rfl)
abbrev rhL_hall : Room := { frames := 7, cells := 1, slots := 6, locals := 103 }
set_option maxRecDepth 20000 in
theorem qL_hall_3 : Cond.classLink RL 21 "java/lang/IndexOutOfBoundsException" ∈ wsL_hall := (List.mem_cons_of_mem _ (List.mem_append_left _ (List.mem_append_left _ (List.mem_append_left _ (List.mem_append_left _ (List.mem_append_left _ (List.mem_append_left _ (List.mem_of_getElem? (i := 0) rfl))))))))
set_option maxRecDepth 20000 in
theorem qL_hall_1 : Cond.classLink RL 13 "java/lang/IllegalArgumentException" ∈ wsL_hall := (List.mem_cons_of_mem _ (List.mem_append_left _ (List.mem_append_left _ (List.mem_append_left _ (List.mem_append_left _ (List.mem_append_left _ (List.mem_append_left _ (List.mem_of_getElem? (i := 1) rfl))))))))
set_option maxHeartbeats 4000000 in
set_option maxRecDepth 100000 in
theorem hL_hall (l : Launch) (hst : l.stackTraces = false) (G : va_G) (cI cQ cL : ClassId) (a na pa ta qa xa : Nat → Nat) (z : Nat → Nat → Nat) (o : Nat) (Y : tw_Wl) (f : Nat → Int64) (sz : Nat) (p1 : Int32) (p2 : Int32) {rv : Nat × Int32} (h : fX3_hall Y p1 p2 = some rv) (hk : rv.1 = 0 ∨ rv.1 = 1 ∨ rv.1 = 3) : tw_Mh l yL_hall wsL_hall rhL_hall G [(cI, .int), (cQ, .object RX1), (cL, .long)] (tw_wW cI cQ a na pa ta qa xa z Y ++ [(o, .inl (cL, 1, .inr (.inl f)))]) [.ref (a 0), .int p1, .int p2, .ref o] sz (tw_hk 2 0 1 rv.1) (tw_wW cI cQ a na pa ta qa xa z Y ++ [(o, .inl (cL, 1, .inr (.inl (if rv.1 = 0 then vp_updL f 0 (rv.2).toInt64 else f))))]) := by
  refine tw_ofh (cc := cL_hall) (maxL := 5) (own := RL) (by decide) rfl rfl (Nat.le_of_ble_eq_true rfl) ?_
  intro p e s m args below meth c Q A ls H locs F hN hK hP hD hS hA hl hNX hNC hU hZ htab hq
  obtain ⟨hx, hb, hml, hown, hts⟩ := id F
  have hl : lv_has ls 5 [(0, .ref (a 0)), (1, .int p1), (2, .int p2), (3, .ref o)] := hl
  refine lv_aload_n hx hb dL_hall_0 rfl (lv_at hl 3 rfl) ?_
  refine lv_iconst (v := (0 : Int32)) hx hb dL_hall_1 (by decide) ?_
  refine lv_aload_n hx hb dL_hall_2 rfl (lv_at hl 0 rfl) ?_
  refine lv_iload_n hx hb dL_hall_3 rfl (lv_at hl 1 rfl) ?_
  refine lv_iload_n hx hb dL_hall_4 rfl (lv_at hl 2 rfl) ?_
  rcases hk with hk | hk | hk
  · refine tw_callVi (ws' := tw_wW cI cQ a na pa ta qa xa z Y ++ [(o, .inl (cL, 1, .inr (.inl f)))]) F hN hK hP hD hS hA (mX3_hall l G cI cQ a na pa ta qa xa z Y H.size p1 p2 h hk) (cwV 2 hts gL_hall_X3_hall rfl rfl rfl (by decide +kernel) ⟨Nat.le_of_ble_eq_true rfl, Nat.le_of_ble_eq_true rfl⟩) [0, 1] rfl (List.range (tw_wW cI cQ a na pa ta qa xa z Y).length) (tw_ndR _) tw_cR rfl (tw_mix_hit _ rfl rfl) (ci := 3) (r0 := 0) rfl rfl rfl (As := [.int p1, .int p2]) (rest := [.int (0 : Int32), .ref o]) rfl hl.1 rfl (Nat.le_of_ble_eq_true rfl) dL_hall_5 ⟨Nat.le_of_ble_eq_true rfl, Nat.le_of_ble_eq_true rfl⟩ (fun H locs hP hD hS => ?_)
    refine lv_i2l hx hb dL_hall_8 rfl ?_
    refine tw_last (ws' := tw_wW cI cQ a na pa ta qa xa z Y ++ [(o, .inl (cL, 1, .inr (.inl (vp_updL f 0 (rv.2).toInt64))))]) (f := f) (n := 1) hx hb hK hP hD hS (tw_wW cI cQ a na pa ta qa xa z Y).length 2 tw_get_l rfl (i := (0 : Int32)) (tw_vin (by decide)) dL_hall_9 tw_set_l (fun H locs hP hD hS => ?_)
    refine lv_goto (tgt := 21) hx hb dL_hall_10 (by decide) ?_
    refine lv_iconst (v := (0 : Int32)) hx hb dL_hall_21 (by decide) ?_
    exact hq H locs _ ls 0 _ _ (by rw [hk]; rfl) (by rw [if_pos hk]; exact hP) hS dL_hall_22 (Nat.le_of_ble_eq_true rfl) (Nat.le_of_ble_eq_true rfl)
  · refine tw_callX (E := tw_en rv.1) (wc' := tw_wW cI cQ a na pa ta qa xa z Y) F hN hK hP hD hS hA hNX hU hZ (xX3_hall l hst G cI cQ a na pa ta qa xa z Y H.size p1 p2 h (by rw [hk]; decide)) (cwV 2 hts gL_hall_X3_hall rfl rfl rfl (by decide +kernel) ⟨Nat.le_of_ble_eq_true rfl, Nat.le_of_ble_eq_true rfl⟩) [0, 1] rfl rfl (ci := 3) (r0 := 0) rfl rfl rfl (As := [.int p1, .int p2]) (rest := [.int (0 : Int32), .ref o]) rfl hl.1 rfl (Nat.le_of_ble_eq_true rfl) dL_hall_5 ⟨Nat.le_of_ble_eq_true rfl, Nat.le_of_ble_eq_true rfl⟩ (fun ce q9 H locs hP hS hce hcv hcl => ?_)
    rw [hk] at hcl
    refine vx_catch (E := tw_E1) hown (tableOf [(0, 10, 13, 21)]) ⟨0, 10, 17, 13⟩ (tableOf []) htab (List.forall_mem_cons.mpr ⟨Or.inr ⟨by decide, _, hts _ qL_hall_3, hNC.2.1⟩, fun z hz => absurd hz List.not_mem_nil⟩) (by decide) (by decide) (hts _ qL_hall_1) (va_Nw.use rfl hNX.2.1) hce hcv hcl ?_
    refine lv_astore (lv' := [(4, .ref q9), (0, .ref (a 0)), (1, .int p1), (2, .int p2), (3, .ref o)]) hx hb dL_hall_17 hl (by decide) rfl (fun ls hl => ?_)
    refine lv_iconst (v := (2 : Int32)) hx hb dL_hall_19 (by decide) ?_
    exact hq H locs _ ls 2 _ _ (by rw [hk]; rfl) (by rw [if_neg (by rw [hk]; decide)]; exact hP) hS dL_hall_20 (Nat.le_of_ble_eq_true rfl) (Nat.le_of_ble_eq_true rfl)
  · refine tw_callX (E := tw_en rv.1) (wc' := tw_wW cI cQ a na pa ta qa xa z Y) F hN hK hP hD hS hA hNX hU hZ (xX3_hall l hst G cI cQ a na pa ta qa xa z Y H.size p1 p2 h (by rw [hk]; decide)) (cwV 2 hts gL_hall_X3_hall rfl rfl rfl (by decide +kernel) ⟨Nat.le_of_ble_eq_true rfl, Nat.le_of_ble_eq_true rfl⟩) [0, 1] rfl rfl (ci := 3) (r0 := 0) rfl rfl rfl (As := [.int p1, .int p2]) (rest := [.int (0 : Int32), .ref o]) rfl hl.1 rfl (Nat.le_of_ble_eq_true rfl) dL_hall_5 ⟨Nat.le_of_ble_eq_true rfl, Nat.le_of_ble_eq_true rfl⟩ (fun ce q9 H locs hP hS hce hcv hcl => ?_)
    rw [hk] at hcl
    refine vx_catch (E := tw_E3) hown (tableOf []) ⟨0, 10, 13, 21⟩ (tableOf [(0, 10, 17, 13)]) htab (fun z hz => absurd hz List.not_mem_nil) (by decide) (by decide) (hts _ qL_hall_3) (va_Nw.use rfl hNX.2.2.2) hce hcv hcl ?_
    refine lv_astore (lv' := [(4, .ref q9), (0, .ref (a 0)), (1, .int p1), (2, .int p2), (3, .ref o)]) hx hb dL_hall_13 hl (by decide) rfl (fun ls hl => ?_)
    refine lv_iconst (v := (1 : Int32)) hx hb dL_hall_15 (by decide) ?_
    exact hq H locs _ ls 1 _ _ (by rw [hk]; rfl) (by rw [if_neg (by rw [hk]; decide)]; exact hP) hS dL_hall_16 (Nat.le_of_ble_eq_true rfl) (Nat.le_of_ble_eq_true rfl)
abbrev rhL_count : Room := { frames := 7, cells := 1, slots := 6, locals := 169 }
set_option maxRecDepth 20000 in
theorem qL_count_1 : Cond.classLink RL 13 "java/lang/IllegalArgumentException" ∈ wsL_count := (List.mem_cons_of_mem _ (List.mem_append_left _ (List.mem_append_left _ (List.mem_append_left _ (List.mem_append_left _ (List.mem_append_left _ (List.mem_of_getElem? (i := 0) rfl)))))))
set_option maxHeartbeats 4000000 in
set_option maxRecDepth 100000 in
theorem hL_count (l : Launch) (hst : l.stackTraces = false) (G : va_G) (cI cQ cL : ClassId) (a na pa ta qa xa : Nat → Nat) (z : Nat → Nat → Nat) (o : Nat) (Y : tw_Wl) (f : Nat → Int64) (sz : Nat) (p1 : Int32) {rv : Nat × Int32 × tw_Wl} (h : fX3_count Y p1 = some rv) (hk : rv.1 = 0 ∨ rv.1 = 1) : tw_Mh l yL_count wsL_count rhL_count G [(cI, .int), (cQ, .object RX1), (cL, .long)] (tw_wW cI cQ a na pa ta qa xa z Y ++ [(o, .inl (cL, 1, .inr (.inl f)))]) [.ref (a 0), .int p1, .ref o] sz (tw_hk 1 0 0 rv.1) (tw_wW cI cQ a na pa ta qa xa z rv.2.2 ++ [(o, .inl (cL, 1, .inr (.inl (if rv.1 = 0 then vp_updL f 0 (rv.2.1).toInt64 else f))))]) := by
  refine tw_ofh (cc := cL_count) (maxL := 4) (own := RL) (by decide) rfl rfl (Nat.le_of_ble_eq_true rfl) ?_
  intro p e s m args below meth c Q A ls H locs F hN hK hP hD hS hA hl hNX hNC hU hZ htab hq
  obtain ⟨hx, hb, hml, hown, hts⟩ := id F
  have hl : lv_has ls 4 [(0, .ref (a 0)), (1, .int p1), (2, .ref o)] := hl
  refine lv_aload_n hx hb dL_count_0 rfl (lv_at hl 2 rfl) ?_
  refine lv_iconst (v := (0 : Int32)) hx hb dL_count_1 (by decide) ?_
  refine lv_aload_n hx hb dL_count_2 rfl (lv_at hl 0 rfl) ?_
  refine lv_iload_n hx hb dL_count_3 rfl (lv_at hl 1 rfl) ?_
  rcases hk with hk | hk
  · refine tw_callVi (ws' := tw_wW cI cQ a na pa ta qa xa z rv.2.2 ++ [(o, .inl (cL, 1, .inr (.inl f)))]) F hN hK hP hD hS hA (mX3_count l G cI cQ a na pa ta qa xa z Y H.size p1 h hk) (cwV 1 hts gL_count_X3_count rfl rfl rfl (by decide +kernel) ⟨Nat.le_of_ble_eq_true rfl, Nat.le_of_ble_eq_true rfl⟩) [0, 1] rfl (List.range (tw_wW cI cQ a na pa ta qa xa z Y).length) (tw_ndR _) tw_cR rfl (tw_mix_hit _ rfl rfl) (ci := 3) (r0 := 0) rfl rfl rfl (As := [.int p1]) (rest := [.int (0 : Int32), .ref o]) rfl hl.1 rfl (Nat.le_of_ble_eq_true rfl) dL_count_4 ⟨Nat.le_of_ble_eq_true rfl, Nat.le_of_ble_eq_true rfl⟩ (fun H locs hP hD hS => ?_)
    refine lv_i2l hx hb dL_count_7 rfl ?_
    refine tw_last (ws' := tw_wW cI cQ a na pa ta qa xa z rv.2.2 ++ [(o, .inl (cL, 1, .inr (.inl (vp_updL f 0 (rv.2.1).toInt64))))]) (f := f) (n := 1) hx hb hK hP hD hS (tw_wW cI cQ a na pa ta qa xa z rv.2.2).length 2 tw_get_l rfl (i := (0 : Int32)) (tw_vin (by decide)) dL_count_8 tw_set_l (fun H locs hP hD hS => ?_)
    refine lv_goto (tgt := 15) hx hb dL_count_9 (by decide) ?_
    refine lv_iconst (v := (0 : Int32)) hx hb dL_count_15 (by decide) ?_
    exact hq H locs _ ls 0 _ _ (by rw [hk]; rfl) (by rw [if_pos hk]; exact hP) hS dL_count_16 (Nat.le_of_ble_eq_true rfl) (Nat.le_of_ble_eq_true rfl)
  · refine tw_callX (E := tw_en rv.1) (wc' := tw_wW cI cQ a na pa ta qa xa z rv.2.2) F hN hK hP hD hS hA hNX hU hZ (xX3_count l hst G cI cQ a na pa ta qa xa z Y H.size p1 h (by rw [hk]; decide)) (cwV 1 hts gL_count_X3_count rfl rfl rfl (by decide +kernel) ⟨Nat.le_of_ble_eq_true rfl, Nat.le_of_ble_eq_true rfl⟩) [0, 1] rfl rfl (ci := 3) (r0 := 0) rfl rfl rfl (As := [.int p1]) (rest := [.int (0 : Int32), .ref o]) rfl hl.1 rfl (Nat.le_of_ble_eq_true rfl) dL_count_4 ⟨Nat.le_of_ble_eq_true rfl, Nat.le_of_ble_eq_true rfl⟩ (fun ce q9 H locs hP hS hce hcv hcl => ?_)
    rw [hk] at hcl
    refine vx_catch (E := tw_E1) hown (tableOf []) ⟨0, 9, 12, 13⟩ (tableOf []) htab (fun z hz => absurd hz List.not_mem_nil) (by decide) (by decide) (hts _ qL_count_1) (va_Nw.use rfl hNX.2.1) hce hcv hcl ?_
    refine lv_astore_n (lv' := [(3, .ref q9), (0, .ref (a 0)), (1, .int p1), (2, .ref o)]) hx hb dL_count_12 rfl hl (by decide) rfl (fun ls hl => ?_)
    refine lv_iconst (v := (1 : Int32)) hx hb dL_count_13 (by decide) ?_
    exact hq H locs _ ls 1 _ _ (by rw [hk]; rfl) (by rw [if_neg (by rw [hk]; decide)]; exact hP) hS dL_count_14 (Nat.le_of_ble_eq_true rfl) (Nat.le_of_ble_eq_true rfl)
abbrev rhL_ifRule : Room := { frames := 7, cells := 1, slots := 6, locals := 146 }
set_option maxRecDepth 20000 in
theorem qL_ifRule_1 : Cond.classLink RL 13 "java/lang/IllegalArgumentException" ∈ wsL_ifRule := (List.mem_cons_of_mem _ (List.mem_append_left _ (List.mem_append_left _ (List.mem_append_left _ (List.mem_append_left _ (List.mem_append_left _ (List.mem_of_getElem? (i := 0) rfl)))))))
set_option maxHeartbeats 4000000 in
set_option maxRecDepth 100000 in
theorem hL_ifRule (l : Launch) (hst : l.stackTraces = false) (G : va_G) (cI cQ cL : ClassId) (a na pa ta qa xa : Nat → Nat) (z : Nat → Nat → Nat) (o : Nat) (Y : tw_Wl) (f : Nat → Int64) (sz : Nat) (p1 : Int32) (p2 : Int32) {rv : Nat × Int32 × tw_Wl} (h : fX3_ifRule Y p1 p2 = some rv) (hk : rv.1 = 0 ∨ rv.1 = 1) : tw_Mh l yL_ifRule wsL_ifRule rhL_ifRule G [(cI, .int), (cQ, .object RX1), (cL, .long)] (tw_wW cI cQ a na pa ta qa xa z Y ++ [(o, .inl (cL, 1, .inr (.inl f)))]) [.ref (a 0), .int p1, .int p2, .ref o] sz (tw_hk 1 0 0 rv.1) (tw_wW cI cQ a na pa ta qa xa z rv.2.2 ++ [(o, .inl (cL, 1, .inr (.inl (if rv.1 = 0 then vp_updL f 0 (rv.2.1).toInt64 else f))))]) := by
  refine tw_ofh (cc := cL_ifRule) (maxL := 5) (own := RL) (by decide) rfl rfl (Nat.le_of_ble_eq_true rfl) ?_
  intro p e s m args below meth c Q A ls H locs F hN hK hP hD hS hA hl hNX hNC hU hZ htab hq
  obtain ⟨hx, hb, hml, hown, hts⟩ := id F
  have hl : lv_has ls 5 [(0, .ref (a 0)), (1, .int p1), (2, .int p2), (3, .ref o)] := hl
  refine lv_aload_n hx hb dL_ifRule_0 rfl (lv_at hl 3 rfl) ?_
  refine lv_iconst (v := (0 : Int32)) hx hb dL_ifRule_1 (by decide) ?_
  refine lv_aload_n hx hb dL_ifRule_2 rfl (lv_at hl 0 rfl) ?_
  refine lv_iload_n hx hb dL_ifRule_3 rfl (lv_at hl 1 rfl) ?_
  refine lv_iload_n hx hb dL_ifRule_4 rfl (lv_at hl 2 rfl) ?_
  rcases hk with hk | hk
  · refine tw_callVi (ws' := tw_wW cI cQ a na pa ta qa xa z rv.2.2 ++ [(o, .inl (cL, 1, .inr (.inl f)))]) F hN hK hP hD hS hA (mX3_ifRule l G cI cQ a na pa ta qa xa z Y H.size p1 p2 h hk) (cwV 2 hts gL_ifRule_X3_ifRule rfl rfl rfl (by decide +kernel) ⟨Nat.le_of_ble_eq_true rfl, Nat.le_of_ble_eq_true rfl⟩) [0, 1] rfl (List.range (tw_wW cI cQ a na pa ta qa xa z Y).length) (tw_ndR _) tw_cR rfl (tw_mix_hit _ rfl rfl) (ci := 3) (r0 := 0) rfl rfl rfl (As := [.int p1, .int p2]) (rest := [.int (0 : Int32), .ref o]) rfl hl.1 rfl (Nat.le_of_ble_eq_true rfl) dL_ifRule_5 ⟨Nat.le_of_ble_eq_true rfl, Nat.le_of_ble_eq_true rfl⟩ (fun H locs hP hD hS => ?_)
    refine lv_i2l hx hb dL_ifRule_8 rfl ?_
    refine tw_last (ws' := tw_wW cI cQ a na pa ta qa xa z rv.2.2 ++ [(o, .inl (cL, 1, .inr (.inl (vp_updL f 0 (rv.2.1).toInt64))))]) (f := f) (n := 1) hx hb hK hP hD hS (tw_wW cI cQ a na pa ta qa xa z rv.2.2).length 2 tw_get_l rfl (i := (0 : Int32)) (tw_vin (by decide)) dL_ifRule_9 tw_set_l (fun H locs hP hD hS => ?_)
    refine lv_goto (tgt := 17) hx hb dL_ifRule_10 (by decide) ?_
    refine lv_iconst (v := (0 : Int32)) hx hb dL_ifRule_17 (by decide) ?_
    exact hq H locs _ ls 0 _ _ (by rw [hk]; rfl) (by rw [if_pos hk]; exact hP) hS dL_ifRule_18 (Nat.le_of_ble_eq_true rfl) (Nat.le_of_ble_eq_true rfl)
  · refine tw_callX (E := tw_en rv.1) (wc' := tw_wW cI cQ a na pa ta qa xa z rv.2.2) F hN hK hP hD hS hA hNX hU hZ (xX3_ifRule l hst G cI cQ a na pa ta qa xa z Y H.size p1 p2 h (by rw [hk]; decide)) (cwV 2 hts gL_ifRule_X3_ifRule rfl rfl rfl (by decide +kernel) ⟨Nat.le_of_ble_eq_true rfl, Nat.le_of_ble_eq_true rfl⟩) [0, 1] rfl rfl (ci := 3) (r0 := 0) rfl rfl rfl (As := [.int p1, .int p2]) (rest := [.int (0 : Int32), .ref o]) rfl hl.1 rfl (Nat.le_of_ble_eq_true rfl) dL_ifRule_5 ⟨Nat.le_of_ble_eq_true rfl, Nat.le_of_ble_eq_true rfl⟩ (fun ce q9 H locs hP hS hce hcv hcl => ?_)
    rw [hk] at hcl
    refine vx_catch (E := tw_E1) hown (tableOf []) ⟨0, 10, 13, 13⟩ (tableOf []) htab (fun z hz => absurd hz List.not_mem_nil) (by decide) (by decide) (hts _ qL_ifRule_1) (va_Nw.use rfl hNX.2.1) hce hcv hcl ?_
    refine lv_astore (lv' := [(4, .ref q9), (0, .ref (a 0)), (1, .int p1), (2, .int p2), (3, .ref o)]) hx hb dL_ifRule_13 hl (by decide) rfl (fun ls hl => ?_)
    refine lv_iconst (v := (1 : Int32)) hx hb dL_ifRule_15 (by decide) ?_
    exact hq H locs _ ls 1 _ _ (by rw [hk]; rfl) (by rw [if_neg (by rw [hk]; decide)]; exact hP) hS dL_ifRule_16 (Nat.le_of_ble_eq_true rfl) (Nat.le_of_ble_eq_true rfl)
abbrev rhL_ifFreed : Room := { frames := 7, cells := 1, slots := 6, locals := 125 }
set_option maxRecDepth 20000 in
theorem qL_ifFreed_3 : Cond.classLink RL 21 "java/lang/IndexOutOfBoundsException" ∈ wsL_ifFreed := (List.mem_cons_of_mem _ (List.mem_append_left _ (List.mem_append_left _ (List.mem_append_left _ (List.mem_append_left _ (List.mem_append_left _ (List.mem_of_getElem? (i := 0) rfl)))))))
set_option maxHeartbeats 4000000 in
set_option maxRecDepth 100000 in
theorem hL_ifFreed (l : Launch) (hst : l.stackTraces = false) (G : va_G) (cI cQ cL : ClassId) (a na pa ta qa xa : Nat → Nat) (z : Nat → Nat → Nat) (o : Nat) (Y : tw_Wl) (f : Nat → Int64) (sz : Nat) (p1 : Int32) {rv : Nat × Int32 × tw_Wl} (h : fX3_ifFreed Y p1 = some rv) (hk : rv.1 = 0 ∨ rv.1 = 3) : tw_Mh l yL_ifFreed wsL_ifFreed rhL_ifFreed G [(cI, .int), (cQ, .object RX1), (cL, .long)] (tw_wW cI cQ a na pa ta qa xa z Y ++ [(o, .inl (cL, 1, .inr (.inl f)))]) [.ref (a 0), .int p1, .ref o] sz (tw_hk 0 0 1 rv.1) (tw_wW cI cQ a na pa ta qa xa z rv.2.2 ++ [(o, .inl (cL, 1, .inr (.inl (if rv.1 = 0 then vp_updL f 0 (rv.2.1).toInt64 else f))))]) := by
  refine tw_ofh (cc := cL_ifFreed) (maxL := 4) (own := RL) (by decide) rfl rfl (Nat.le_of_ble_eq_true rfl) ?_
  intro p e s m args below meth c Q A ls H locs F hN hK hP hD hS hA hl hNX hNC hU hZ htab hq
  obtain ⟨hx, hb, hml, hown, hts⟩ := id F
  have hl : lv_has ls 4 [(0, .ref (a 0)), (1, .int p1), (2, .ref o)] := hl
  refine lv_aload_n hx hb dL_ifFreed_0 rfl (lv_at hl 2 rfl) ?_
  refine lv_iconst (v := (0 : Int32)) hx hb dL_ifFreed_1 (by decide) ?_
  refine lv_aload_n hx hb dL_ifFreed_2 rfl (lv_at hl 0 rfl) ?_
  refine lv_iload_n hx hb dL_ifFreed_3 rfl (lv_at hl 1 rfl) ?_
  rcases hk with hk | hk
  · refine tw_callVi (ws' := tw_wW cI cQ a na pa ta qa xa z rv.2.2 ++ [(o, .inl (cL, 1, .inr (.inl f)))]) F hN hK hP hD hS hA (mX3_ifFreed l G cI cQ a na pa ta qa xa z Y H.size p1 h hk) (cwV 1 hts gL_ifFreed_X3_ifFreed rfl rfl rfl (by decide +kernel) ⟨Nat.le_of_ble_eq_true rfl, Nat.le_of_ble_eq_true rfl⟩) [0, 1] rfl (List.range (tw_wW cI cQ a na pa ta qa xa z Y).length) (tw_ndR _) tw_cR rfl (tw_mix_hit _ rfl rfl) (ci := 3) (r0 := 0) rfl rfl rfl (As := [.int p1]) (rest := [.int (0 : Int32), .ref o]) rfl hl.1 rfl (Nat.le_of_ble_eq_true rfl) dL_ifFreed_4 ⟨Nat.le_of_ble_eq_true rfl, Nat.le_of_ble_eq_true rfl⟩ (fun H locs hP hD hS => ?_)
    refine lv_i2l hx hb dL_ifFreed_7 rfl ?_
    refine tw_last (ws' := tw_wW cI cQ a na pa ta qa xa z rv.2.2 ++ [(o, .inl (cL, 1, .inr (.inl (vp_updL f 0 (rv.2.1).toInt64))))]) (f := f) (n := 1) hx hb hK hP hD hS (tw_wW cI cQ a na pa ta qa xa z rv.2.2).length 2 tw_get_l rfl (i := (0 : Int32)) (tw_vin (by decide)) dL_ifFreed_8 tw_set_l (fun H locs hP hD hS => ?_)
    refine lv_goto (tgt := 15) hx hb dL_ifFreed_9 (by decide) ?_
    refine lv_iconst (v := (0 : Int32)) hx hb dL_ifFreed_15 (by decide) ?_
    exact hq H locs _ ls 0 _ _ (by rw [hk]; rfl) (by rw [if_pos hk]; exact hP) hS dL_ifFreed_16 (Nat.le_of_ble_eq_true rfl) (Nat.le_of_ble_eq_true rfl)
  · refine tw_callX (E := tw_en rv.1) (wc' := tw_wW cI cQ a na pa ta qa xa z rv.2.2) F hN hK hP hD hS hA hNX hU hZ (xX3_ifFreed l hst G cI cQ a na pa ta qa xa z Y H.size p1 h (by rw [hk]; decide)) (cwV 1 hts gL_ifFreed_X3_ifFreed rfl rfl rfl (by decide +kernel) ⟨Nat.le_of_ble_eq_true rfl, Nat.le_of_ble_eq_true rfl⟩) [0, 1] rfl rfl (ci := 3) (r0 := 0) rfl rfl rfl (As := [.int p1]) (rest := [.int (0 : Int32), .ref o]) rfl hl.1 rfl (Nat.le_of_ble_eq_true rfl) dL_ifFreed_4 ⟨Nat.le_of_ble_eq_true rfl, Nat.le_of_ble_eq_true rfl⟩ (fun ce q9 H locs hP hS hce hcv hcl => ?_)
    rw [hk] at hcl
    refine vx_catch (E := tw_E3) hown (tableOf []) ⟨0, 9, 12, 21⟩ (tableOf []) htab (fun z hz => absurd hz List.not_mem_nil) (by decide) (by decide) (hts _ qL_ifFreed_3) (va_Nw.use rfl hNX.2.2.2) hce hcv hcl ?_
    refine lv_astore_n (lv' := [(3, .ref q9), (0, .ref (a 0)), (1, .int p1), (2, .ref o)]) hx hb dL_ifFreed_12 rfl hl (by decide) rfl (fun ls hl => ?_)
    refine lv_iconst (v := (1 : Int32)) hx hb dL_ifFreed_13 (by decide) ?_
    exact hq H locs _ ls 1 _ _ (by rw [hk]; rfl) (by rw [if_neg (by rw [hk]; decide)]; exact hP) hS dL_ifFreed_14 (Nat.le_of_ble_eq_true rfl) (Nat.le_of_ble_eq_true rfl)
abbrev rhL_worstSlip : Room := { frames := 7, cells := 1, slots := 6, locals := 127 }
set_option maxRecDepth 20000 in
theorem qL_worstSlip_1 : Cond.classLink RL 13 "java/lang/IllegalArgumentException" ∈ wsL_worstSlip := (List.mem_cons_of_mem _ (List.mem_append_left _ (List.mem_append_left _ (List.mem_append_left _ (List.mem_append_left _ (List.mem_append_left _ (List.mem_of_getElem? (i := 0) rfl)))))))
set_option maxHeartbeats 4000000 in
set_option maxRecDepth 100000 in
theorem hL_worstSlip (l : Launch) (hst : l.stackTraces = false) (G : va_G) (cI cQ cL : ClassId) (a na pa ta qa xa : Nat → Nat) (z : Nat → Nat → Nat) (o : Nat) (Y : tw_Wl) (f : Nat → Int64) (sz : Nat) (p1 : Int32) {rv : Nat × Int32 × tw_Wl} (h : fX3_worstSlip Y p1 = some rv) (hk : rv.1 = 0 ∨ rv.1 = 1) : tw_Mh l yL_worstSlip wsL_worstSlip rhL_worstSlip G [(cI, .int), (cQ, .object RX1), (cL, .long)] (tw_wW cI cQ a na pa ta qa xa z Y ++ [(o, .inl (cL, 1, .inr (.inl f)))]) [.ref (a 0), .int p1, .ref o] sz (tw_hk 1 0 0 rv.1) (tw_wW cI cQ a na pa ta qa xa z rv.2.2 ++ [(o, .inl (cL, 1, .inr (.inl (if rv.1 = 0 then vp_updL f 0 (rv.2.1).toInt64 else f))))]) := by
  refine tw_ofh (cc := cL_worstSlip) (maxL := 4) (own := RL) (by decide) rfl rfl (Nat.le_of_ble_eq_true rfl) ?_
  intro p e s m args below meth c Q A ls H locs F hN hK hP hD hS hA hl hNX hNC hU hZ htab hq
  obtain ⟨hx, hb, hml, hown, hts⟩ := id F
  have hl : lv_has ls 4 [(0, .ref (a 0)), (1, .int p1), (2, .ref o)] := hl
  refine lv_aload_n hx hb dL_worstSlip_0 rfl (lv_at hl 2 rfl) ?_
  refine lv_iconst (v := (0 : Int32)) hx hb dL_worstSlip_1 (by decide) ?_
  refine lv_aload_n hx hb dL_worstSlip_2 rfl (lv_at hl 0 rfl) ?_
  refine lv_iload_n hx hb dL_worstSlip_3 rfl (lv_at hl 1 rfl) ?_
  rcases hk with hk | hk
  · refine tw_callVi (ws' := tw_wW cI cQ a na pa ta qa xa z rv.2.2 ++ [(o, .inl (cL, 1, .inr (.inl f)))]) F hN hK hP hD hS hA (mX3_worstSlip l G cI cQ a na pa ta qa xa z Y H.size p1 h hk) (cwV 1 hts gL_worstSlip_X3_worstSlip rfl rfl rfl (by decide +kernel) ⟨Nat.le_of_ble_eq_true rfl, Nat.le_of_ble_eq_true rfl⟩) [0, 1] rfl (List.range (tw_wW cI cQ a na pa ta qa xa z Y).length) (tw_ndR _) tw_cR rfl (tw_mix_hit _ rfl rfl) (ci := 3) (r0 := 0) rfl rfl rfl (As := [.int p1]) (rest := [.int (0 : Int32), .ref o]) rfl hl.1 rfl (Nat.le_of_ble_eq_true rfl) dL_worstSlip_4 ⟨Nat.le_of_ble_eq_true rfl, Nat.le_of_ble_eq_true rfl⟩ (fun H locs hP hD hS => ?_)
    refine lv_i2l hx hb dL_worstSlip_7 rfl ?_
    refine tw_last (ws' := tw_wW cI cQ a na pa ta qa xa z rv.2.2 ++ [(o, .inl (cL, 1, .inr (.inl (vp_updL f 0 (rv.2.1).toInt64))))]) (f := f) (n := 1) hx hb hK hP hD hS (tw_wW cI cQ a na pa ta qa xa z rv.2.2).length 2 tw_get_l rfl (i := (0 : Int32)) (tw_vin (by decide)) dL_worstSlip_8 tw_set_l (fun H locs hP hD hS => ?_)
    refine lv_goto (tgt := 15) hx hb dL_worstSlip_9 (by decide) ?_
    refine lv_iconst (v := (0 : Int32)) hx hb dL_worstSlip_15 (by decide) ?_
    exact hq H locs _ ls 0 _ _ (by rw [hk]; rfl) (by rw [if_pos hk]; exact hP) hS dL_worstSlip_16 (Nat.le_of_ble_eq_true rfl) (Nat.le_of_ble_eq_true rfl)
  · refine tw_callX (E := tw_en rv.1) (wc' := tw_wW cI cQ a na pa ta qa xa z rv.2.2) F hN hK hP hD hS hA hNX hU hZ (xX3_worstSlip l hst G cI cQ a na pa ta qa xa z Y H.size p1 h (by rw [hk]; decide)) (cwV 1 hts gL_worstSlip_X3_worstSlip rfl rfl rfl (by decide +kernel) ⟨Nat.le_of_ble_eq_true rfl, Nat.le_of_ble_eq_true rfl⟩) [0, 1] rfl rfl (ci := 3) (r0 := 0) rfl rfl rfl (As := [.int p1]) (rest := [.int (0 : Int32), .ref o]) rfl hl.1 rfl (Nat.le_of_ble_eq_true rfl) dL_worstSlip_4 ⟨Nat.le_of_ble_eq_true rfl, Nat.le_of_ble_eq_true rfl⟩ (fun ce q9 H locs hP hS hce hcv hcl => ?_)
    rw [hk] at hcl
    refine vx_catch (E := tw_E1) hown (tableOf []) ⟨0, 9, 12, 13⟩ (tableOf []) htab (fun z hz => absurd hz List.not_mem_nil) (by decide) (by decide) (hts _ qL_worstSlip_1) (va_Nw.use rfl hNX.2.1) hce hcv hcl ?_
    refine lv_astore_n (lv' := [(3, .ref q9), (0, .ref (a 0)), (1, .int p1), (2, .ref o)]) hx hb dL_worstSlip_12 rfl hl (by decide) rfl (fun ls hl => ?_)
    refine lv_iconst (v := (1 : Int32)) hx hb dL_worstSlip_13 (by decide) ?_
    exact hq H locs _ ls 1 _ _ (by rw [hk]; rfl) (by rw [if_neg (by rw [hk]; decide)]; exact hP) hS dL_worstSlip_14 (Nat.le_of_ble_eq_true rfl) (Nat.le_of_ble_eq_true rfl)
