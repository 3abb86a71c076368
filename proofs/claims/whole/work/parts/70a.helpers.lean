/-! the law's helpers -/
abbrev rhL_add : Room := { frames := 7, cells := 1, slots := 6, locals := 126 }
set_option maxRecDepth 20000 in
theorem qL_add_1 : Cond.classLink RL 13 "java/lang/IllegalArgumentException" ∈ wsL_add := (List.mem_cons_of_mem _ (List.mem_append_left _ (List.mem_append_left _ (List.mem_append_left _ (List.mem_append_left _ (List.mem_append_left _ (List.mem_append_left _ (List.mem_of_getElem? (i := 0) rfl))))))))
set_option maxRecDepth 20000 in
theorem qL_add_2 : Cond.classLink RL 15 "java/lang/IllegalStateException" ∈ wsL_add := (List.mem_cons_of_mem _ (List.mem_append_left _ (List.mem_append_left _ (List.mem_append_left _ (List.mem_append_left _ (List.mem_append_left _ (List.mem_append_left _ (List.mem_of_getElem? (i := 1) rfl))))))))
set_option maxHeartbeats 4000000 in
set_option maxRecDepth 100000 in
theorem hL_add (l : Launch) (hst : l.stackTraces = false) (G : va_G) (cI cQ cL : ClassId) (a na pa ta qa xa : Nat → Nat) (z : Nat → Nat → Nat) (o : Nat) (Y : tw_Wl) (f : Nat → Int64) (sz : Nat) (p1 : Int32) (p2 : Int32) (p3 : Int32) {rv : Nat × Int32 × tw_Wl} (h : fX3_add Y p1 p2 p3 = some rv) (hk : rv.1 = 0 ∨ rv.1 = 1 ∨ rv.1 = 2) : tw_Mh l yL_add wsL_add rhL_add G [(cI, .int), (cQ, .object RX1), (cL, .long)] (tw_wW cI cQ a na pa ta qa xa z Y ++ [(o, .inl (cL, 1, .inr (.inl f)))]) [.ref (a 0), .int p1, .int p2, .int p3, .ref o] sz (tw_hk 1 2 0 rv.1) (tw_wW cI cQ a na pa ta qa xa z rv.2.2 ++ [(o, .inl (cL, 1, .inr (.inl (if rv.1 = 0 then vp_updL f 0 (rv.2.1).toInt64 else f))))]) := by
  refine tw_ofh (cc := cL_add) (maxL := 6) (own := RL) (by decide) rfl rfl (Nat.le_of_ble_eq_true rfl) ?_
  intro p e s m args below meth c Q A ls H locs F hN hK hP hD hS hA hl hNX hNC hU hZ htab hq
  obtain ⟨hx, hb, hml, hown, hts⟩ := id F
  have hl : lv_has ls 6 [(0, .ref (a 0)), (1, .int p1), (2, .int p2), (3, .int p3), (4, .ref o)] := hl
  refine lv_aload hx hb dL_add_0 (lv_at hl 4 rfl) ?_
  refine lv_iconst (v := (0 : Int32)) hx hb dL_add_2 (by decide) ?_
  refine lv_aload_n hx hb dL_add_3 rfl (lv_at hl 0 rfl) ?_
  refine lv_iload_n hx hb dL_add_4 rfl (lv_at hl 1 rfl) ?_
  refine lv_iload_n hx hb dL_add_5 rfl (lv_at hl 2 rfl) ?_
  refine lv_iload_n hx hb dL_add_6 rfl (lv_at hl 3 rfl) ?_
  rcases hk with hk | hk | hk
  · refine tw_callVi (ws' := tw_wW cI cQ a na pa ta qa xa z rv.2.2 ++ [(o, .inl (cL, 1, .inr (.inl f)))]) F hN hK hP hD hS hA (mX3_add l G cI cQ a na pa ta qa xa z Y H.size p1 p2 p3 h hk) (cwV 3 hts gL_add_X3_add rfl rfl rfl (by decide +kernel) ⟨Nat.le_of_ble_eq_true rfl, Nat.le_of_ble_eq_true rfl⟩) [0, 1] rfl (List.range (tw_wW cI cQ a na pa ta qa xa z Y).length) (tw_ndR _) tw_cR lw_fW (tw_mix_hit _ rfl lw_nW) (ci := 3) (r0 := 0) rfl rfl rfl (As := [.int p1, .int p2, .int p3]) (rest := [.int (0 : Int32), .ref o]) rfl hl.1 rfl (Nat.le_of_ble_eq_true rfl) dL_add_7 ⟨Nat.le_of_ble_eq_true rfl, Nat.le_of_ble_eq_true rfl⟩ (fun H locs hP hD hS => ?_)
    refine lv_i2l hx hb dL_add_10 rfl ?_
    refine tw_last (ws' := tw_wW cI cQ a na pa ta qa xa z rv.2.2 ++ [(o, .inl (cL, 1, .inr (.inl (vp_updL f 0 (rv.2.1).toInt64))))]) (f := f) (n := 1) hx hb hK hP hD hS (tw_wW cI cQ a na pa ta qa xa z rv.2.2).length 2 tw_get_l rfl (i := (0 : Int32)) (tw_vin (by decide)) dL_add_11 tw_set_l (fun H locs hP hD hS => ?_)
    refine lv_goto (tgt := 23) hx hb dL_add_12 (by decide) ?_
    refine lv_iconst (v := (0 : Int32)) hx hb dL_add_23 (by decide) ?_
    exact hq H locs _ ls 0 _ _ (by rw [hk]; rfl) (by rw [if_pos hk]; exact hP) hS dL_add_24 (Nat.le_of_ble_eq_true rfl) (Nat.le_of_ble_eq_true rfl)
  · refine tw_callX (E := tw_en rv.1) (wc' := tw_wW cI cQ a na pa ta qa xa z rv.2.2) F hN hK hP hD hS hA hNX hU hZ (xX3_add l hst G cI cQ a na pa ta qa xa z Y H.size p1 p2 p3 h (by rw [hk]; decide)) (cwV 3 hts gL_add_X3_add rfl rfl rfl (by decide +kernel) ⟨Nat.le_of_ble_eq_true rfl, Nat.le_of_ble_eq_true rfl⟩) [0, 1] rfl lw_fW (ci := 3) (r0 := 0) rfl rfl rfl (As := [.int p1, .int p2, .int p3]) (rest := [.int (0 : Int32), .ref o]) rfl hl.1 rfl (Nat.le_of_ble_eq_true rfl) dL_add_7 ⟨Nat.le_of_ble_eq_true rfl, Nat.le_of_ble_eq_true rfl⟩ (fun ce q9 H locs hP hS hce hcv hcl => ?_)
    rw [hk] at hcl
    refine vx_catch (E := tw_E1) hown (tableOf []) ⟨0, 12, 15, 13⟩ (tableOf [(0, 12, 19, 15)]) htab (fun z hz => absurd hz List.not_mem_nil) (by decide) (by decide) (hts _ qL_add_1) (va_Nw.use rfl hNX.2.1) hce hcv hcl ?_
    refine lv_astore (lv' := [(5, .ref q9), (0, .ref (a 0)), (1, .int p1), (2, .int p2), (3, .int p3), (4, .ref o)]) hx hb dL_add_15 hl (by decide) rfl (fun ls hl => ?_)
    refine lv_iconst (v := (1 : Int32)) hx hb dL_add_17 (by decide) ?_
    exact hq H locs _ ls 1 _ _ (by rw [hk]; rfl) (by rw [if_neg (by rw [hk]; decide)]; exact hP) hS dL_add_18 (Nat.le_of_ble_eq_true rfl) (Nat.le_of_ble_eq_true rfl)
  · refine tw_callX (E := tw_en rv.1) (wc' := tw_wW cI cQ a na pa ta qa xa z rv.2.2) F hN hK hP hD hS hA hNX hU hZ (xX3_add l hst G cI cQ a na pa ta qa xa z Y H.size p1 p2 p3 h (by rw [hk]; decide)) (cwV 3 hts gL_add_X3_add rfl rfl rfl (by decide +kernel) ⟨Nat.le_of_ble_eq_true rfl, Nat.le_of_ble_eq_true rfl⟩) [0, 1] rfl lw_fW (ci := 3) (r0 := 0) rfl rfl rfl (As := [.int p1, .int p2, .int p3]) (rest := [.int (0 : Int32), .ref o]) rfl hl.1 rfl (Nat.le_of_ble_eq_true rfl) dL_add_7 ⟨Nat.le_of_ble_eq_true rfl, Nat.le_of_ble_eq_true rfl⟩ (fun ce q9 H locs hP hS hce hcv hcl => ?_)
    rw [hk] at hcl
    refine vx_catch (E := tw_E2) hown (tableOf [(0, 12, 15, 13)]) ⟨0, 12, 19, 15⟩ (tableOf []) htab (List.forall_mem_cons.mpr ⟨Or.inr ⟨by decide, _, hts _ qL_add_1, hNC.2.2.1⟩, fun z hz => absurd hz List.not_mem_nil⟩) (by decide) (by decide) (hts _ qL_add_2) (va_Nw.use rfl hNX.2.2.1) hce hcv hcl ?_
    refine lv_astore (lv' := [(5, .ref q9), (0, .ref (a 0)), (1, .int p1), (2, .int p2), (3, .int p3), (4, .ref o)]) hx hb dL_add_19 hl (by decide) rfl (fun ls hl => ?_)
    refine lv_iconst (v := (2 : Int32)) hx hb dL_add_21 (by decide) ?_
    exact hq H locs _ ls 2 _ _ (by rw [hk]; rfl) (by rw [if_neg (by rw [hk]; decide)]; exact hP) hS dL_add_22 (Nat.le_of_ble_eq_true rfl) (Nat.le_of_ble_eq_true rfl)
abbrev rhL_remove : Room := { frames := 7, cells := 1, slots := 6, locals := 125 }
set_option maxRecDepth 20000 in
theorem qL_remove_3 : Cond.classLink RL 21 "java/lang/IndexOutOfBoundsException" ∈ wsL_remove := (List.mem_cons_of_mem _ (List.mem_append_left _ (List.mem_append_left _ (List.mem_append_left _ (List.mem_append_left _ (List.mem_append_left _ (List.mem_of_getElem? (i := 0) rfl)))))))
set_option maxHeartbeats 4000000 in
set_option maxRecDepth 100000 in
theorem hL_remove (l : Launch) (hst : l.stackTraces = false) (G : va_G) (cI cQ cL : ClassId) (a na pa ta qa xa : Nat → Nat) (z : Nat → Nat → Nat) (o : Nat) (Y : tw_Wl) (f : Nat → Int64) (sz : Nat) (p1 : Int32) {rv : Nat × Int32 × tw_Wl} (h : fX3_remove Y p1 = some rv) (hk : rv.1 = 0 ∨ rv.1 = 3) : tw_Mh l yL_remove wsL_remove rhL_remove G [(cI, .int), (cQ, .object RX1), (cL, .long)] (tw_wW cI cQ a na pa ta qa xa z Y ++ [(o, .inl (cL, 1, .inr (.inl f)))]) [.ref (a 0), .int p1, .ref o] sz (tw_hk 0 0 1 rv.1) (tw_wW cI cQ a na pa ta qa xa z rv.2.2 ++ [(o, .inl (cL, 1, .inr (.inl (if rv.1 = 0 then vp_updL f 0 (rv.2.1).toInt64 else f))))]) := by
  refine tw_ofh (cc := cL_remove) (maxL := 4) (own := RL) (by decide) rfl rfl (Nat.le_of_ble_eq_true rfl) ?_
  intro p e s m args below meth c Q A ls H locs F hN hK hP hD hS hA hl hNX hNC hU hZ htab hq
  obtain ⟨hx, hb, hml, hown, hts⟩ := id F
  have hl : lv_has ls 4 [(0, .ref (a 0)), (1, .int p1), (2, .ref o)] := hl
  refine lv_aload_n hx hb dL_remove_0 rfl (lv_at hl 2 rfl) ?_
  refine lv_iconst (v := (0 : Int32)) hx hb dL_remove_1 (by decide) ?_
  refine lv_aload_n hx hb dL_remove_2 rfl (lv_at hl 0 rfl) ?_
  refine lv_iload_n hx hb dL_remove_3 rfl (lv_at hl 1 rfl) ?_
  rcases hk with hk | hk
  · refine tw_callVi (ws' := tw_wW cI cQ a na pa ta qa xa z rv.2.2 ++ [(o, .inl (cL, 1, .inr (.inl f)))]) F hN hK hP hD hS hA (mX3_remove l G cI cQ a na pa ta qa xa z Y H.size p1 h hk) (cwV 1 hts gL_remove_X3_remove rfl rfl rfl (by decide +kernel) ⟨Nat.le_of_ble_eq_true rfl, Nat.le_of_ble_eq_true rfl⟩) [0, 1] rfl (List.range (tw_wW cI cQ a na pa ta qa xa z Y).length) (tw_ndR _) tw_cR lw_fW (tw_mix_hit _ rfl lw_nW) (ci := 3) (r0 := 0) rfl rfl rfl (As := [.int p1]) (rest := [.int (0 : Int32), .ref o]) rfl hl.1 rfl (Nat.le_of_ble_eq_true rfl) dL_remove_4 ⟨Nat.le_of_ble_eq_true rfl, Nat.le_of_ble_eq_true rfl⟩ (fun H locs hP hD hS => ?_)
    refine lv_i2l hx hb dL_remove_7 rfl ?_
    refine tw_last (ws' := tw_wW cI cQ a na pa ta qa xa z rv.2.2 ++ [(o, .inl (cL, 1, .inr (.inl (vp_updL f 0 (rv.2.1).toInt64))))]) (f := f) (n := 1) hx hb hK hP hD hS (tw_wW cI cQ a na pa ta qa xa z rv.2.2).length 2 tw_get_l rfl (i := (0 : Int32)) (tw_vin (by decide)) dL_remove_8 tw_set_l (fun H locs hP hD hS => ?_)
    refine lv_goto (tgt := 15) hx hb dL_remove_9 (by decide) ?_
    refine lv_iconst (v := (0 : Int32)) hx hb dL_remove_15 (by decide) ?_
    exact hq H locs _ ls 0 _ _ (by rw [hk]; rfl) (by rw [if_pos hk]; exact hP) hS dL_remove_16 (Nat.le_of_ble_eq_true rfl) (Nat.le_of_ble_eq_true rfl)
  · refine tw_callX (E := tw_en rv.1) (wc' := tw_wW cI cQ a na pa ta qa xa z rv.2.2) F hN hK hP hD hS hA hNX hU hZ (xX3_remove l hst G cI cQ a na pa ta qa xa z Y H.size p1 h (by rw [hk]; decide)) (cwV 1 hts gL_remove_X3_remove rfl rfl rfl (by decide +kernel) ⟨Nat.le_of_ble_eq_true rfl, Nat.le_of_ble_eq_true rfl⟩) [0, 1] rfl lw_fW (ci := 3) (r0 := 0) rfl rfl rfl (As := [.int p1]) (rest := [.int (0 : Int32), .ref o]) rfl hl.1 rfl (Nat.le_of_ble_eq_true rfl) dL_remove_4 ⟨Nat.le_of_ble_eq_true rfl, Nat.le_of_ble_eq_true rfl⟩ (fun ce q9 H locs hP hS hce hcv hcl => ?_)
    rw [hk] at hcl
    refine vx_catch (E := tw_E3) hown (tableOf []) ⟨0, 9, 12, 21⟩ (tableOf []) htab (fun z hz => absurd hz List.not_mem_nil) (by decide) (by decide) (hts _ qL_remove_3) (va_Nw.use rfl hNX.2.2.2) hce hcv hcl ?_
    refine lv_astore_n (lv' := [(3, .ref q9), (0, .ref (a 0)), (1, .int p1), (2, .ref o)]) hx hb dL_remove_12 rfl hl (by decide) rfl (fun ls hl => ?_)
    refine lv_iconst (v := (1 : Int32)) hx hb dL_remove_13 (by decide) ?_
    exact hq H locs _ ls 1 _ _ (by rw [hk]; rfl) (by rw [if_neg (by rw [hk]; decide)]; exact hP) hS dL_remove_14 (Nat.le_of_ble_eq_true rfl) (Nat.le_of_ble_eq_true rfl)
abbrev rhL_need : Room := { frames := 7, cells := 1, slots := 6, locals := 127 }
set_option maxRecDepth 20000 in
theorem qL_need_3 : Cond.classLink RL 21 "java/lang/IndexOutOfBoundsException" ∈ wsL_need := (List.mem_cons_of_mem _ (List.mem_append_left _ (List.mem_append_left _ (List.mem_append_left _ (List.mem_append_left _ (List.mem_append_left _ (List.mem_append_left _ (List.mem_of_getElem? (i := 0) rfl))))))))
set_option maxRecDepth 20000 in
theorem qL_need_1 : Cond.classLink RL 13 "java/lang/IllegalArgumentException" ∈ wsL_need := (List.mem_cons_of_mem _ (List.mem_append_left _ (List.mem_append_left _ (List.mem_append_left _ (List.mem_append_left _ (List.mem_append_left _ (List.mem_append_left _ (List.mem_of_getElem? (i := 1) rfl))))))))
set_option maxHeartbeats 4000000 in
set_option maxRecDepth 100000 in
theorem hL_need (l : Launch) (hst : l.stackTraces = false) (G : va_G) (cI cQ cL : ClassId) (a na pa ta qa xa : Nat → Nat) (z : Nat → Nat → Nat) (o : Nat) (Y : tw_Wl) (f : Nat → Int64) (sz : Nat) (p1 : Int32) (p2 : Int32) (p3 : Int32) {rv : Nat × Int32 × tw_Wl} (h : fX3_need Y p1 p2 p3 = some rv) (hk : rv.1 = 0 ∨ rv.1 = 1 ∨ rv.1 = 3) : tw_Mh l yL_need wsL_need rhL_need G [(cI, .int), (cQ, .object RX1), (cL, .long)] (tw_wW cI cQ a na pa ta qa xa z Y ++ [(o, .inl (cL, 1, .inr (.inl f)))]) [.ref (a 0), .int p1, .int p2, .int p3, .ref o] sz (tw_hk 2 0 1 rv.1) (tw_wW cI cQ a na pa ta qa xa z rv.2.2 ++ [(o, .inl (cL, 1, .inr (.inl (if rv.1 = 0 then vp_updL f 0 (rv.2.1).toInt64 else f))))]) := by
  refine tw_ofh (cc := cL_need) (maxL := 6) (own := RL) (by decide) rfl rfl (Nat.le_of_ble_eq_true rfl) ?_
  intro p e s m args below meth c Q A ls H locs F hN hK hP hD hS hA hl hNX hNC hU hZ htab hq
  obtain ⟨hx, hb, hml, hown, hts⟩ := id F
  have hl : lv_has ls 6 [(0, .ref (a 0)), (1, .int p1), (2, .int p2), (3, .int p3), (4, .ref o)] := hl
  refine lv_aload hx hb dL_need_0 (lv_at hl 4 rfl) ?_
  refine lv_iconst (v := (0 : Int32)) hx hb dL_need_2 (by decide) ?_
  refine lv_aload_n hx hb dL_need_3 rfl (lv_at hl 0 rfl) ?_
  refine lv_iload_n hx hb dL_need_4 rfl (lv_at hl 1 rfl) ?_
  refine lv_iload_n hx hb dL_need_5 rfl (lv_at hl 2 rfl) ?_
  refine lv_iload_n hx hb dL_need_6 rfl (lv_at hl 3 rfl) ?_
  rcases hk with hk | hk | hk
  · refine tw_callVi (ws' := tw_wW cI cQ a na pa ta qa xa z rv.2.2 ++ [(o, .inl (cL, 1, .inr (.inl f)))]) F hN hK hP hD hS hA (mX3_need l G cI cQ a na pa ta qa xa z Y H.size p1 p2 p3 h hk) (cwV 3 hts gL_need_X3_need rfl rfl rfl (by decide +kernel) ⟨Nat.le_of_ble_eq_true rfl, Nat.le_of_ble_eq_true rfl⟩) [0, 1] rfl (List.range (tw_wW cI cQ a na pa ta qa xa z Y).length) (tw_ndR _) tw_cR lw_fW (tw_mix_hit _ rfl lw_nW) (ci := 3) (r0 := 0) rfl rfl rfl (As := [.int p1, .int p2, .int p3]) (rest := [.int (0 : Int32), .ref o]) rfl hl.1 rfl (Nat.le_of_ble_eq_true rfl) dL_need_7 ⟨Nat.le_of_ble_eq_true rfl, Nat.le_of_ble_eq_true rfl⟩ (fun H locs hP hD hS => ?_)
    refine lv_i2l hx hb dL_need_10 rfl ?_
    refine tw_last (ws' := tw_wW cI cQ a na pa ta qa xa z rv.2.2 ++ [(o, .inl (cL, 1, .inr (.inl (vp_updL f 0 (rv.2.1).toInt64))))]) (f := f) (n := 1) hx hb hK hP hD hS (tw_wW cI cQ a na pa ta qa xa z rv.2.2).length 2 tw_get_l rfl (i := (0 : Int32)) (tw_vin (by decide)) dL_need_11 tw_set_l (fun H locs hP hD hS => ?_)
    refine lv_goto (tgt := 23) hx hb dL_need_12 (by decide) ?_
    refine lv_iconst (v := (0 : Int32)) hx hb dL_need_23 (by decide) ?_
    exact hq H locs _ ls 0 _ _ (by rw [hk]; rfl) (by rw [if_pos hk]; exact hP) hS dL_need_24 (Nat.le_of_ble_eq_true rfl) (Nat.le_of_ble_eq_true rfl)
  · refine tw_callX (E := tw_en rv.1) (wc' := tw_wW cI cQ a na pa ta qa xa z rv.2.2) F hN hK hP hD hS hA hNX hU hZ (xX3_need l hst G cI cQ a na pa ta qa xa z Y H.size p1 p2 p3 h (by rw [hk]; decide)) (cwV 3 hts gL_need_X3_need rfl rfl rfl (by decide +kernel) ⟨Nat.le_of_ble_eq_true rfl, Nat.le_of_ble_eq_true rfl⟩) [0, 1] rfl lw_fW (ci := 3) (r0 := 0) rfl rfl rfl (As := [.int p1, .int p2, .int p3]) (rest := [.int (0 : Int32), .ref o]) rfl hl.1 rfl (Nat.le_of_ble_eq_true rfl) dL_need_7 ⟨Nat.le_of_ble_eq_true rfl, Nat.le_of_ble_eq_true rfl⟩ (fun ce q9 H locs hP hS hce hcv hcl => ?_)
    rw [hk] at hcl
    refine vx_catch (E := tw_E1) hown (tableOf [(0, 12, 15, 21)]) ⟨0, 12, 19, 13⟩ (tableOf []) htab (List.forall_mem_cons.mpr ⟨Or.inr ⟨by decide, _, hts _ qL_need_3, hNC.2.1⟩, fun z hz => absurd hz List.not_mem_nil⟩) (by decide) (by decide) (hts _ qL_need_1) (va_Nw.use rfl hNX.2.1) hce hcv hcl ?_
    refine lv_astore (lv' := [(5, .ref q9), (0, .ref (a 0)), (1, .int p1), (2, .int p2), (3, .int p3), (4, .ref o)]) hx hb dL_need_19 hl (by decide) rfl (fun ls hl => ?_)
    refine lv_iconst (v := (2 : Int32)) hx hb dL_need_21 (by decide) ?_
    exact hq H locs _ ls 2 _ _ (by rw [hk]; rfl) (by rw [if_neg (by rw [hk]; decide)]; exact hP) hS dL_need_22 (Nat.le_of_ble_eq_true rfl) (Nat.le_of_ble_eq_true rfl)
  · refine tw_callX (E := tw_en rv.1) (wc' := tw_wW cI cQ a na pa ta qa xa z rv.2.2) F hN hK hP hD hS hA hNX hU hZ (xX3_need l hst G cI cQ a na pa ta qa xa z Y H.size p1 p2 p3 h (by rw [hk]; decide)) (cwV 3 hts gL_need_X3_need rfl rfl rfl (by decide +kernel) ⟨Nat.le_of_ble_eq_true rfl, Nat.le_of_ble_eq_true rfl⟩) [0, 1] rfl lw_fW (ci := 3) (r0 := 0) rfl rfl rfl (As := [.int p1, .int p2, .int p3]) (rest := [.int (0 : Int32), .ref o]) rfl hl.1 rfl (Nat.le_of_ble_eq_true rfl) dL_need_7 ⟨Nat.le_of_ble_eq_true rfl, Nat.le_of_ble_eq_true rfl⟩ (fun ce q9 H locs hP hS hce hcv hcl => ?_)
    rw [hk] at hcl
    refine vx_catch (E := tw_E3) hown (tableOf []) ⟨0, 12, 15, 21⟩ (tableOf [(0, 12, 19, 13)]) htab (fun z hz => absurd hz List.not_mem_nil) (by decide) (by decide) (hts _ qL_need_3) (va_Nw.use rfl hNX.2.2.2) hce hcv hcl ?_
    refine lv_astore (lv' := [(5, .ref q9), (0, .ref (a 0)), (1, .int p1), (2, .int p2), (3, .int p3), (4, .ref o)]) hx hb dL_need_15 hl (by decide) rfl (fun ls hl => ?_)
    refine lv_iconst (v := (1 : Int32)) hx hb dL_need_17 (by decide) ?_
    exact hq H locs _ ls 1 _ _ (by rw [hk]; rfl) (by rw [if_neg (by rw [hk]; decide)]; exact hP) hS dL_need_18 (Nat.le_of_ble_eq_true rfl) (Nat.le_of_ble_eq_true rfl)
abbrev rhL_change : Room := { frames := 7, cells := 1, slots := 6, locals := 128 }
set_option maxRecDepth 20000 in
theorem qL_change_3 : Cond.classLink RL 21 "java/lang/IndexOutOfBoundsException" ∈ wsL_change := (List.mem_cons_of_mem _ (List.mem_append_left _ (List.mem_append_left _ (List.mem_append_left _ (List.mem_append_left _ (List.mem_append_left _ (List.mem_append_left _ (List.mem_of_getElem? (i := 0) rfl))))))))
set_option maxRecDepth 20000 in
theorem qL_change_1 : Cond.classLink RL 13 "java/lang/IllegalArgumentException" ∈ wsL_change := (List.mem_cons_of_mem _ (List.mem_append_left _ (List.mem_append_left _ (List.mem_append_left _ (List.mem_append_left _ (List.mem_append_left _ (List.mem_append_left _ (List.mem_of_getElem? (i := 1) rfl))))))))
set_option maxHeartbeats 4000000 in
set_option maxRecDepth 100000 in
theorem hL_change (l : Launch) (hst : l.stackTraces = false) (G : va_G) (cI cQ cL : ClassId) (a na pa ta qa xa : Nat → Nat) (z : Nat → Nat → Nat) (o : Nat) (Y : tw_Wl) (f : Nat → Int64) (sz : Nat) (p1 : Int32) (p2 : Int32) (p3 : Int32) {rv : Nat × Int32 × tw_Wl} (h : fX3_change Y p1 p2 p3 = some rv) (hk : rv.1 = 0 ∨ rv.1 = 1 ∨ rv.1 = 3) : tw_Mh l yL_change wsL_change rhL_change G [(cI, .int), (cQ, .object RX1), (cL, .long)] (tw_wW cI cQ a na pa ta qa xa z Y ++ [(o, .inl (cL, 1, .inr (.inl f)))]) [.ref (a 0), .int p1, .int p2, .int p3, .ref o] sz (tw_hk 2 0 1 rv.1) (tw_wW cI cQ a na pa ta qa xa z rv.2.2 ++ [(o, .inl (cL, 1, .inr (.inl (if rv.1 = 0 then vp_updL f 0 (rv.2.1).toInt64 else f))))]) := by
  refine tw_ofh (cc := cL_change) (maxL := 6) (own := RL) (by decide) rfl rfl (Nat.le_of_ble_eq_true rfl) ?_
  intro p e s m args below meth c Q A ls H locs F hN hK hP hD hS hA hl hNX hNC hU hZ htab hq
  obtain ⟨hx, hb, hml, hown, hts⟩ := id F
  have hl : lv_has ls 6 [(0, .ref (a 0)), (1, .int p1), (2, .int p2), (3, .int p3), (4, .ref o)] := hl
  refine lv_aload hx hb dL_change_0 (lv_at hl 4 rfl) ?_
  refine lv_iconst (v := (0 : Int32)) hx hb dL_change_2 (by decide) ?_
  refine lv_aload_n hx hb dL_change_3 rfl (lv_at hl 0 rfl) ?_
  refine lv_iload_n hx hb dL_change_4 rfl (lv_at hl 1 rfl) ?_
  refine lv_iload_n hx hb dL_change_5 rfl (lv_at hl 2 rfl) ?_
  refine lv_iload_n hx hb dL_change_6 rfl (lv_at hl 3 rfl) ?_
  rcases hk with hk | hk | hk
  · refine tw_callVi (ws' := tw_wW cI cQ a na pa ta qa xa z rv.2.2 ++ [(o, .inl (cL, 1, .inr (.inl f)))]) F hN hK hP hD hS hA (mX3_change l G cI cQ a na pa ta qa xa z Y H.size p1 p2 p3 h hk) (cwV 3 hts gL_change_X3_change rfl rfl rfl (by decide +kernel) ⟨Nat.le_of_ble_eq_true rfl, Nat.le_of_ble_eq_true rfl⟩) [0, 1] rfl (List.range (tw_wW cI cQ a na pa ta qa xa z Y).length) (tw_ndR _) tw_cR lw_fW (tw_mix_hit _ rfl lw_nW) (ci := 3) (r0 := 0) rfl rfl rfl (As := [.int p1, .int p2, .int p3]) (rest := [.int (0 : Int32), .ref o]) rfl hl.1 rfl (Nat.le_of_ble_eq_true rfl) dL_change_7 ⟨Nat.le_of_ble_eq_true rfl, Nat.le_of_ble_eq_true rfl⟩ (fun H locs hP hD hS => ?_)
    refine lv_i2l hx hb dL_change_10 rfl ?_
    refine tw_last (ws' := tw_wW cI cQ a na pa ta qa xa z rv.2.2 ++ [(o, .inl (cL, 1, .inr (.inl (vp_updL f 0 (rv.2.1).toInt64))))]) (f := f) (n := 1) hx hb hK hP hD hS (tw_wW cI cQ a na pa ta qa xa z rv.2.2).length 2 tw_get_l rfl (i := (0 : Int32)) (tw_vin (by decide)) dL_change_11 tw_set_l (fun H locs hP hD hS => ?_)
    refine lv_goto (tgt := 23) hx hb dL_change_12 (by decide) ?_
    refine lv_iconst (v := (0 : Int32)) hx hb dL_change_23 (by decide) ?_
    exact hq H locs _ ls 0 _ _ (by rw [hk]; rfl) (by rw [if_pos hk]; exact hP) hS dL_change_24 (Nat.le_of_ble_eq_true rfl) (Nat.le_of_ble_eq_true rfl)
  · refine tw_callX (E := tw_en rv.1) (wc' := tw_wW cI cQ a na pa ta qa xa z rv.2.2) F hN hK hP hD hS hA hNX hU hZ (xX3_change l hst G cI cQ a na pa ta qa xa z Y H.size p1 p2 p3 h (by rw [hk]; decide)) (cwV 3 hts gL_change_X3_change rfl rfl rfl (by decide +kernel) ⟨Nat.le_of_ble_eq_true rfl, Nat.le_of_ble_eq_true rfl⟩) [0, 1] rfl lw_fW (ci := 3) (r0 := 0) rfl rfl rfl (As := [.int p1, .int p2, .int p3]) (rest := [.int (0 : Int32), .ref o]) rfl hl.1 rfl (Nat.le_of_ble_eq_true rfl) dL_change_7 ⟨Nat.le_of_ble_eq_true rfl, Nat.le_of_ble_eq_true rfl⟩ (fun ce q9 H locs hP hS hce hcv hcl => ?_)
    rw [hk] at hcl
    refine vx_catch (E := tw_E1) hown (tableOf [(0, 12, 15, 21)]) ⟨0, 12, 19, 13⟩ (tableOf []) htab (List.forall_mem_cons.mpr ⟨Or.inr ⟨by decide, _, hts _ qL_change_3, hNC.2.1⟩, fun z hz => absurd hz List.not_mem_nil⟩) (by decide) (by decide) (hts _ qL_change_1) (va_Nw.use rfl hNX.2.1) hce hcv hcl ?_
    refine lv_astore (lv' := [(5, .ref q9), (0, .ref (a 0)), (1, .int p1), (2, .int p2), (3, .int p3), (4, .ref o)]) hx hb dL_change_19 hl (by decide) rfl (fun ls hl => ?_)
    refine lv_iconst (v := (2 : Int32)) hx hb dL_change_21 (by decide) ?_
    exact hq H locs _ ls 2 _ _ (by rw [hk]; rfl) (by rw [if_neg (by rw [hk]; decide)]; exact hP) hS dL_change_22 (Nat.le_of_ble_eq_true rfl) (Nat.le_of_ble_eq_true rfl)
  · refine tw_callX (E := tw_en rv.1) (wc' := tw_wW cI cQ a na pa ta qa xa z rv.2.2) F hN hK hP hD hS hA hNX hU hZ (xX3_change l hst G cI cQ a na pa ta qa xa z Y H.size p1 p2 p3 h (by rw [hk]; decide)) (cwV 3 hts gL_change_X3_change rfl rfl rfl (by decide +kernel) ⟨Nat.le_of_ble_eq_true rfl, Nat.le_of_ble_eq_true rfl⟩) [0, 1] rfl lw_fW (ci := 3) (r0 := 0) rfl rfl rfl (As := [.int p1, .int p2, .int p3]) (rest := [.int (0 : Int32), .ref o]) rfl hl.1 rfl (Nat.le_of_ble_eq_true rfl) dL_change_7 ⟨Nat.le_of_ble_eq_true rfl, Nat.le_of_ble_eq_true rfl⟩ (fun ce q9 H locs hP hS hce hcv hcl => ?_)
    rw [hk] at hcl
    refine vx_catch (E := tw_E3) hown (tableOf []) ⟨0, 12, 15, 21⟩ (tableOf [(0, 12, 19, 13)]) htab (fun z hz => absurd hz List.not_mem_nil) (by decide) (by decide) (hts _ qL_change_3) (va_Nw.use rfl hNX.2.2.2) hce hcv hcl ?_
    refine lv_astore (lv' := [(5, .ref q9), (0, .ref (a 0)), (1, .int p1), (2, .int p2), (3, .int p3), (4, .ref o)]) hx hb dL_change_15 hl (by decide) rfl (fun ls hl => ?_)
    refine lv_iconst (v := (1 : Int32)) hx hb dL_change_17 (by decide) ?_
    exact hq H locs _ ls 1 _ _ (by rw [hk]; rfl) (by rw [if_neg (by rw [hk]; decide)]; exact hP) hS dL_change_18 (Nat.le_of_ble_eq_true rfl) (Nat.le_of_ble_eq_true rfl)
abbrev rhL_slip : Room := { frames := 7, cells := 1, slots := 6, locals := 126 }
set_option maxRecDepth 20000 in
theorem qL_slip_3 : Cond.classLink RL 21 "java/lang/IndexOutOfBoundsException" ∈ wsL_slip := (List.mem_cons_of_mem _ (List.mem_append_left _ (List.mem_append_left _ (List.mem_append_left _ (List.mem_append_left _ (List.mem_append_left _ (List.mem_append_left _ (List.mem_append_left _ (List.mem_of_getElem? (i := 0) rfl)))))))))
set_option maxRecDepth 20000 in
theorem qL_slip_1 : Cond.classLink RL 13 "java/lang/IllegalArgumentException" ∈ wsL_slip := (List.mem_cons_of_mem _ (List.mem_append_left _ (List.mem_append_left _ (List.mem_append_left _ (List.mem_append_left _ (List.mem_append_left _ (List.mem_append_left _ (List.mem_append_left _ (List.mem_of_getElem? (i := 1) rfl)))))))))
set_option maxRecDepth 20000 in
theorem qL_slip_2 : Cond.classLink RL 15 "java/lang/IllegalStateException" ∈ wsL_slip := (List.mem_cons_of_mem _ (List.mem_append_left _ (List.mem_append_left _ (List.mem_append_left _ (List.mem_append_left _ (List.mem_append_left _ (List.mem_append_left _ (List.mem_append_left _ (List.mem_of_getElem? (i := 2) rfl)))))))))
set_option maxHeartbeats 4000000 in
set_option maxRecDepth 100000 in
theorem hL_slip (l : Launch) (hst : l.stackTraces = false) (G : va_G) (cI cQ cL : ClassId) (a na pa ta qa xa : Nat → Nat) (z : Nat → Nat → Nat) (o : Nat) (Y : tw_Wl) (f : Nat → Int64) (sz : Nat) (p1 : Int32) (p2 : Int32) {rv : Nat × Int32 × tw_Wl} (h : fX3_slip Y p1 p2 = some rv) (hk : rv.1 = 0 ∨ rv.1 = 1 ∨ rv.1 = 2 ∨ rv.1 = 3) : tw_Mh l yL_slip wsL_slip rhL_slip G [(cI, .int), (cQ, .object RX1), (cL, .long)] (tw_wW cI cQ a na pa ta qa xa z Y ++ [(o, .inl (cL, 1, .inr (.inl f)))]) [.ref (a 0), .int p1, .int p2, .ref o] sz (tw_hk 2 3 1 rv.1) (tw_wW cI cQ a na pa ta qa xa z rv.2.2 ++ [(o, .inl (cL, 1, .inr (.inl (if rv.1 = 0 then vp_updL f 0 (rv.2.1).toInt64 else f))))]) := by
  refine tw_ofh (cc := cL_slip) (maxL := 5) (own := RL) (by decide) rfl rfl (Nat.le_of_ble_eq_true rfl) ?_
  intro p e s m args below meth c Q A ls H locs F hN hK hP hD hS hA hl hNX hNC hU hZ htab hq
  obtain ⟨hx, hb, hml, hown, hts⟩ := id F
  have hl : lv_has ls 5 [(0, .ref (a 0)), (1, .int p1), (2, .int p2), (3, .ref o)] := hl
  refine lv_aload_n hx hb dL_slip_0 rfl (lv_at hl 3 rfl) ?_
  refine lv_iconst (v := (0 : Int32)) hx hb dL_slip_1 (by decide) ?_
  refine lv_aload_n hx hb dL_slip_2 rfl (lv_at hl 0 rfl) ?_
  refine lv_iload_n hx hb dL_slip_3 rfl (lv_at hl 1 rfl) ?_
  refine lv_iload_n hx hb dL_slip_4 rfl (lv_at hl 2 rfl) ?_
  rcases hk with hk | hk | hk | hk
  · refine tw_callVi (ws' := tw_wW cI cQ a na pa ta qa xa z rv.2.2 ++ [(o, .inl (cL, 1, .inr (.inl f)))]) F hN hK hP hD hS hA (mX3_slip l G cI cQ a na pa ta qa xa z Y H.size p1 p2 h hk) (cwV 2 hts gL_slip_X3_slip rfl rfl rfl (by decide +kernel) ⟨Nat.le_of_ble_eq_true rfl, Nat.le_of_ble_eq_true rfl⟩) [0, 1] rfl (List.range (tw_wW cI cQ a na pa ta qa xa z Y).length) (tw_ndR _) tw_cR lw_fW (tw_mix_hit _ rfl lw_nW) (ci := 3) (r0 := 0) rfl rfl rfl (As := [.int p1, .int p2]) (rest := [.int (0 : Int32), .ref o]) rfl hl.1 rfl (Nat.le_of_ble_eq_true rfl) dL_slip_5 ⟨Nat.le_of_ble_eq_true rfl, Nat.le_of_ble_eq_true rfl⟩ (fun H locs hP hD hS => ?_)
    refine lv_i2l hx hb dL_slip_8 rfl ?_
    refine tw_last (ws' := tw_wW cI cQ a na pa ta qa xa z rv.2.2 ++ [(o, .inl (cL, 1, .inr (.inl (vp_updL f 0 (rv.2.1).toInt64))))]) (f := f) (n := 1) hx hb hK hP hD hS (tw_wW cI cQ a na pa ta qa xa z rv.2.2).length 2 tw_get_l rfl (i := (0 : Int32)) (tw_vin (by decide)) dL_slip_9 tw_set_l (fun H locs hP hD hS => ?_)
    refine lv_goto (tgt := 25) hx hb dL_slip_10 (by decide) ?_
    refine lv_iconst (v := (0 : Int32)) hx hb dL_slip_25 (by decide) ?_
    exact hq H locs _ ls 0 _ _ (by rw [hk]; rfl) (by rw [if_pos hk]; exact hP) hS dL_slip_26 (Nat.le_of_ble_eq_true rfl) (Nat.le_of_ble_eq_true rfl)
  · refine tw_callX (E := tw_en rv.1) (wc' := tw_wW cI cQ a na pa ta qa xa z rv.2.2) F hN hK hP hD hS hA hNX hU hZ (xX3_slip l hst G cI cQ a na pa ta qa xa z Y H.size p1 p2 h (by rw [hk]; decide)) (cwV 2 hts gL_slip_X3_slip rfl rfl rfl (by decide +kernel) ⟨Nat.le_of_ble_eq_true rfl, Nat.le_of_ble_eq_true rfl⟩) [0, 1] rfl lw_fW (ci := 3) (r0 := 0) rfl rfl rfl (As := [.int p1, .int p2]) (rest := [.int (0 : Int32), .ref o]) rfl hl.1 rfl (Nat.le_of_ble_eq_true rfl) dL_slip_5 ⟨Nat.le_of_ble_eq_true rfl, Nat.le_of_ble_eq_true rfl⟩ (fun ce q9 H locs hP hS hce hcv hcl => ?_)
    rw [hk] at hcl
    refine vx_catch (E := tw_E1) hown (tableOf [(0, 10, 13, 21)]) ⟨0, 10, 17, 13⟩ (tableOf [(0, 10, 21, 15)]) htab (List.forall_mem_cons.mpr ⟨Or.inr ⟨by decide, _, hts _ qL_slip_3, hNC.2.1⟩, fun z hz => absurd hz List.not_mem_nil⟩) (by decide) (by decide) (hts _ qL_slip_1) (va_Nw.use rfl hNX.2.1) hce hcv hcl ?_
    refine lv_astore (lv' := [(4, .ref q9), (0, .ref (a 0)), (1, .int p1), (2, .int p2), (3, .ref o)]) hx hb dL_slip_17 hl (by decide) rfl (fun ls hl => ?_)
    refine lv_iconst (v := (2 : Int32)) hx hb dL_slip_19 (by decide) ?_
    exact hq H locs _ ls 2 _ _ (by rw [hk]; rfl) (by rw [if_neg (by rw [hk]; decide)]; exact hP) hS dL_slip_20 (Nat.le_of_ble_eq_true rfl) (Nat.le_of_ble_eq_true rfl)
  · refine tw_callX (E := tw_en rv.1) (wc' := tw_wW cI cQ a na pa ta qa xa z rv.2.2) F hN hK hP hD hS hA hNX hU hZ (xX3_slip l hst G cI cQ a na pa ta qa xa z Y H.size p1 p2 h (by rw [hk]; decide)) (cwV 2 hts gL_slip_X3_slip rfl rfl rfl (by decide +kernel) ⟨Nat.le_of_ble_eq_true rfl, Nat.le_of_ble_eq_true rfl⟩) [0, 1] rfl lw_fW (ci := 3) (r0 := 0) rfl rfl rfl (As := [.int p1, .int p2]) (rest := [.int (0 : Int32), .ref o]) rfl hl.1 rfl (Nat.le_of_ble_eq_true rfl) dL_slip_5 ⟨Nat.le_of_ble_eq_true rfl, Nat.le_of_ble_eq_true rfl⟩ (fun ce q9 H locs hP hS hce hcv hcl => ?_)
    rw [hk] at hcl
    refine vx_catch (E := tw_E2) hown (tableOf [(0, 10, 13, 21), (0, 10, 17, 13)]) ⟨0, 10, 21, 15⟩ (tableOf []) htab (List.forall_mem_cons.mpr ⟨Or.inr ⟨by decide, _, hts _ qL_slip_3, hNC.2.2.2.1⟩, List.forall_mem_cons.mpr ⟨Or.inr ⟨by decide, _, hts _ qL_slip_1, hNC.2.2.1⟩, fun z hz => absurd hz List.not_mem_nil⟩⟩) (by decide) (by decide) (hts _ qL_slip_2) (va_Nw.use rfl hNX.2.2.1) hce hcv hcl ?_
    refine lv_astore (lv' := [(4, .ref q9), (0, .ref (a 0)), (1, .int p1), (2, .int p2), (3, .ref o)]) hx hb dL_slip_21 hl (by decide) rfl (fun ls hl => ?_)
    refine lv_iconst (v := (3 : Int32)) hx hb dL_slip_23 (by decide) ?_
    exact hq H locs _ ls 3 _ _ (by rw [hk]; rfl) (by rw [if_neg (by rw [hk]; decide)]; exact hP) hS dL_slip_24 (Nat.le_of_ble_eq_true rfl) (Nat.le_of_ble_eq_true rfl)
  · refine tw_callX (E := tw_en rv.1) (wc' := tw_wW cI cQ a na pa ta qa xa z rv.2.2) F hN hK hP hD hS hA hNX hU hZ (xX3_slip l hst G cI cQ a na pa ta qa xa z Y H.size p1 p2 h (by rw [hk]; decide)) (cwV 2 hts gL_slip_X3_slip rfl rfl rfl (by decide +kernel) ⟨Nat.le_of_ble_eq_true rfl, Nat.le_of_ble_eq_true rfl⟩) [0, 1] rfl lw_fW (ci := 3) (r0 := 0) rfl rfl rfl (As := [.int p1, .int p2]) (rest := [.int (0 : Int32), .ref o]) rfl hl.1 rfl (Nat.le_of_ble_eq_true rfl) dL_slip_5 ⟨Nat.le_of_ble_eq_true rfl, Nat.le_of_ble_eq_true rfl⟩ (fun ce q9 H locs hP hS hce hcv hcl => ?_)
    rw [hk] at hcl
    refine vx_catch (E := tw_E3) hown (tableOf []) ⟨0, 10, 13, 21⟩ (tableOf [(0, 10, 17, 13), (0, 10, 21, 15)]) htab (fun z hz => absurd hz List.not_mem_nil) (by decide) (by decide) (hts _ qL_slip_3) (va_Nw.use rfl hNX.2.2.2) hce hcv hcl ?_
    refine lv_astore (lv' := [(4, .ref q9), (0, .ref (a 0)), (1, .int p1), (2, .int p2), (3, .ref o)]) hx hb dL_slip_13 hl (by decide) rfl (fun ls hl => ?_)
    refine lv_iconst (v := (1 : Int32)) hx hb dL_slip_15 (by decide) ?_
    exact hq H locs _ ls 1 _ _ (by rw [hk]; rfl) (by rw [if_neg (by rw [hk]; decide)]; exact hP) hS dL_slip_16 (Nat.le_of_ble_eq_true rfl) (Nat.le_of_ble_eq_true rfl)
abbrev rhL_borrow : Room := { frames := 7, cells := 1, slots := 6, locals := 126 }
set_option maxRecDepth 20000 in
theorem qL_borrow_3 : Cond.classLink RL 21 "java/lang/IndexOutOfBoundsException" ∈ wsL_borrow := (List.mem_cons_of_mem _ (List.mem_append_left _ (List.mem_append_left _ (List.mem_append_left _ (List.mem_append_left _ (List.mem_append_left _ (List.mem_append_left _ (List.mem_of_getElem? (i := 0) rfl))))))))
set_option maxRecDepth 20000 in
theorem qL_borrow_1 : Cond.classLink RL 13 "java/lang/IllegalArgumentException" ∈ wsL_borrow := (List.mem_cons_of_mem _ (List.mem_append_left _ (List.mem_append_left _ (List.mem_append_left _ (List.mem_append_left _ (List.mem_append_left _ (List.mem_append_left _ (List.mem_of_getElem? (i := 1) rfl))))))))
set_option maxHeartbeats 4000000 in
set_option maxRecDepth 100000 in
theorem hL_borrow (l : Launch) (hst : l.stackTraces = false) (G : va_G) (cI cQ cL : ClassId) (a na pa ta qa xa : Nat → Nat) (z : Nat → Nat → Nat) (o : Nat) (Y : tw_Wl) (f : Nat → Int64) (sz : Nat) (p1 : Int32) (p2 : Int32) (p3 : Int32) {rv : Nat × Int32 × tw_Wl} (h : fX3_borrow Y p1 p2 p3 = some rv) (hk : rv.1 = 0 ∨ rv.1 = 1 ∨ rv.1 = 3) : tw_Mh l yL_borrow wsL_borrow rhL_borrow G [(cI, .int), (cQ, .object RX1), (cL, .long)] (tw_wW cI cQ a na pa ta qa xa z Y ++ [(o, .inl (cL, 1, .inr (.inl f)))]) [.ref (a 0), .int p1, .int p2, .int p3, .ref o] sz (tw_hk 2 0 1 rv.1) (tw_wW cI cQ a na pa ta qa xa z rv.2.2 ++ [(o, .inl (cL, 1, .inr (.inl (if rv.1 = 0 then vp_updL f 0 (rv.2.1).toInt64 else f))))]) := by
  refine tw_ofh (cc := cL_borrow) (maxL := 6) (own := RL) (by decide) rfl rfl (Nat.le_of_ble_eq_true rfl) ?_
  intro p e s m args below meth c Q A ls H locs F hN hK hP hD hS hA hl hNX hNC hU hZ htab hq
  obtain ⟨hx, hb, hml, hown, hts⟩ := id F
  have hl : lv_has ls 6 [(0, .ref (a 0)), (1, .int p1), (2, .int p2), (3, .int p3), (4, .ref o)] := hl
  refine lv_aload hx hb dL_borrow_0 (lv_at hl 4 rfl) ?_
  refine lv_iconst (v := (0 : Int32)) hx hb dL_borrow_2 (by decide) ?_
  refine lv_aload_n hx hb dL_borrow_3 rfl (lv_at hl 0 rfl) ?_
  refine lv_iload_n hx hb dL_borrow_4 rfl (lv_at hl 1 rfl) ?_
  refine lv_iload_n hx hb dL_borrow_5 rfl (lv_at hl 2 rfl) ?_
  refine lv_iload_n hx hb dL_borrow_6 rfl (lv_at hl 3 rfl) ?_
  rcases hk with hk | hk | hk
  · refine tw_callVi (ws' := tw_wW cI cQ a na pa ta qa xa z rv.2.2 ++ [(o, .inl (cL, 1, .inr (.inl f)))]) F hN hK hP hD hS hA (mX3_borrow l G cI cQ a na pa ta qa xa z Y H.size p1 p2 p3 h hk) (cwV 3 hts gL_borrow_X3_borrow rfl rfl rfl (by decide +kernel) ⟨Nat.le_of_ble_eq_true rfl, Nat.le_of_ble_eq_true rfl⟩) [0, 1] rfl (List.range (tw_wW cI cQ a na pa ta qa xa z Y).length) (tw_ndR _) tw_cR lw_fW (tw_mix_hit _ rfl lw_nW) (ci := 3) (r0 := 0) rfl rfl rfl (As := [.int p1, .int p2, .int p3]) (rest := [.int (0 : Int32), .ref o]) rfl hl.1 rfl (Nat.le_of_ble_eq_true rfl) dL_borrow_7 ⟨Nat.le_of_ble_eq_true rfl, Nat.le_of_ble_eq_true rfl⟩ (fun H locs hP hD hS => ?_)
    refine lv_i2l hx hb dL_borrow_10 rfl ?_
    refine tw_last (ws' := tw_wW cI cQ a na pa ta qa xa z rv.2.2 ++ [(o, .inl (cL, 1, .inr (.inl (vp_updL f 0 (rv.2.1).toInt64))))]) (f := f) (n := 1) hx hb hK hP hD hS (tw_wW cI cQ a na pa ta qa xa z rv.2.2).length 2 tw_get_l rfl (i := (0 : Int32)) (tw_vin (by decide)) dL_borrow_11 tw_set_l (fun H locs hP hD hS => ?_)
    refine lv_goto (tgt := 23) hx hb dL_borrow_12 (by decide) ?_
    refine lv_iconst (v := (0 : Int32)) hx hb dL_borrow_23 (by decide) ?_
    exact hq H locs _ ls 0 _ _ (by rw [hk]; rfl) (by rw [if_pos hk]; exact hP) hS dL_borrow_24 (Nat.le_of_ble_eq_true rfl) (Nat.le_of_ble_eq_true rfl)
  · refine tw_callX (E := tw_en rv.1) (wc' := tw_wW cI cQ a na pa ta qa xa z rv.2.2) F hN hK hP hD hS hA hNX hU hZ (xX3_borrow l hst G cI cQ a na pa ta qa xa z Y H.size p1 p2 p3 h (by rw [hk]; decide)) (cwV 3 hts gL_borrow_X3_borrow rfl rfl rfl (by decide +kernel) ⟨Nat.le_of_ble_eq_true rfl, Nat.le_of_ble_eq_true rfl⟩) [0, 1] rfl lw_fW (ci := 3) (r0 := 0) rfl rfl rfl (As := [.int p1, .int p2, .int p3]) (rest := [.int (0 : Int32), .ref o]) rfl hl.1 rfl (Nat.le_of_ble_eq_true rfl) dL_borrow_7 ⟨Nat.le_of_ble_eq_true rfl, Nat.le_of_ble_eq_true rfl⟩ (fun ce q9 H locs hP hS hce hcv hcl => ?_)
    rw [hk] at hcl
    refine vx_catch (E := tw_E1) hown (tableOf [(0, 12, 15, 21)]) ⟨0, 12, 19, 13⟩ (tableOf []) htab (List.forall_mem_cons.mpr ⟨Or.inr ⟨by decide, _, hts _ qL_borrow_3, hNC.2.1⟩, fun z hz => absurd hz List.not_mem_nil⟩) (by decide) (by decide) (hts _ qL_borrow_1) (va_Nw.use rfl hNX.2.1) hce hcv hcl ?_
    refine lv_astore (lv' := [(5, .ref q9), (0, .ref (a 0)), (1, .int p1), (2, .int p2), (3, .int p3), (4, .ref o)]) hx hb dL_borrow_19 hl (by decide) rfl (fun ls hl => ?_)
    refine lv_iconst (v := (2 : Int32)) hx hb dL_borrow_21 (by decide) ?_
    exact hq H locs _ ls 2 _ _ (by rw [hk]; rfl) (by rw [if_neg (by rw [hk]; decide)]; exact hP) hS dL_borrow_22 (Nat.le_of_ble_eq_true rfl) (Nat.le_of_ble_eq_true rfl)
  · refine tw_callX (E := tw_en rv.1) (wc' := tw_wW cI cQ a na pa ta qa xa z rv.2.2) F hN hK hP hD hS hA hNX hU hZ (xX3_borrow l hst G cI cQ a na pa ta qa xa z Y H.size p1 p2 p3 h (by rw [hk]; decide)) (cwV 3 hts gL_borrow_X3_borrow rfl rfl rfl (by decide +kernel) ⟨Nat.le_of_ble_eq_true rfl, Nat.le_of_ble_eq_true rfl⟩) [0, 1] rfl lw_fW (ci := 3) (r0 := 0) rfl rfl rfl (As := [.int p1, .int p2, .int p3]) (rest := [.int (0 : Int32), .ref o]) rfl hl.1 rfl (Nat.le_of_ble_eq_true rfl) dL_borrow_7 ⟨Nat.le_of_ble_eq_true rfl, Nat.le_of_ble_eq_true rfl⟩ (fun ce q9 H locs hP hS hce hcv hcl => ?_)
    rw [hk] at hcl
    refine vx_catch (E := tw_E3) hown (tableOf []) ⟨0, 12, 15, 21⟩ (tableOf [(0, 12, 19, 13)]) htab (fun z hz => absurd hz List.not_mem_nil) (by decide) (by decide) (hts _ qL_borrow_3) (va_Nw.use rfl hNX.2.2.2) hce hcv hcl ?_
    refine lv_astore (lv' := [(5, .ref q9), (0, .ref (a 0)), (1, .int p1), (2, .int p2), (3, .int p3), (4, .ref o)]) hx hb dL_borrow_15 hl (by decide) rfl (fun ls hl => ?_)
    refine lv_iconst (v := (1 : Int32)) hx hb dL_borrow_17 (by decide) ?_
    exact hq H locs _ ls 1 _ _ (by rw [hk]; rfl) (by rw [if_neg (by rw [hk]; decide)]; exact hP) hS dL_borrow_18 (Nat.le_of_ble_eq_true rfl) (Nat.le_of_ble_eq_true rfl)
