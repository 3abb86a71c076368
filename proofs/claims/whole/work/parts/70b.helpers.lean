/-! the law's helpers -/
abbrev rhL_rule : Room := { frames := 7, cells := 1, slots := 6, locals := 125 }
set_option maxRecDepth 20000 in
theorem qL_rule_1 : Cond.classLink RL 13 "java/lang/IllegalArgumentException" ∈ wsL_rule := (List.mem_cons_of_mem _ (List.mem_append_left _ (List.mem_append_left _ (List.mem_append_left _ (List.mem_append_left _ (List.mem_append_left _ (List.mem_of_getElem? (i := 0) rfl)))))))
set_option maxHeartbeats 4000000 in
set_option maxRecDepth 100000 in
theorem hL_rule (l : Launch) (hst : l.stackTraces = false) (G : va_G) (cI cQ cL : ClassId) (a na pa ta qa xa : Nat → Nat) (z : Nat → Nat → Nat) (o : Nat) (Y : tw_Wl) (f : Nat → Int64) (sz : Nat) (p1 : Int32) {rv : Nat × Int32 × tw_Wl} (h : fX3_rule Y p1 = some rv) (hk : rv.1 = 0 ∨ rv.1 = 1) : tw_Mh l yL_rule wsL_rule rhL_rule G [(cI, .int), (cQ, .object RX1), (cL, .long)] (tw_wW cI cQ a na pa ta qa xa z Y ++ [(o, .inl (cL, 1, .inr (.inl f)))]) [.ref (a 0), .int p1, .ref o] sz (tw_hk 1 0 0 rv.1) (tw_wW cI cQ a na pa ta qa xa z rv.2.2 ++ [(o, .inl (cL, 1, .inr (.inl (if rv.1 = 0 then vp_updL f 0 (rv.2.1).toInt64 else f))))]) := by
  refine tw_ofh (cc := cL_rule) (maxL := 4) (own := RL) (by decide) rfl rfl (Nat.le_of_ble_eq_true rfl) ?_
  intro p e s m args below meth c Q A ls H locs F hN hK hP hD hS hA hl hNX hNC hU hZ htab hq
  obtain ⟨hx, hb, hml, hown, hts⟩ := id F
  have hl : lv_has ls 4 [(0, .ref (a 0)), (1, .int p1), (2, .ref o)] := hl
  refine lv_aload_n hx hb dL_rule_0 rfl (lv_at hl 2 rfl) ?_
  refine lv_iconst (v := (0 : Int32)) hx hb dL_rule_1 (by decide) ?_
  refine lv_aload_n hx hb dL_rule_2 rfl (lv_at hl 0 rfl) ?_
  refine lv_iload_n hx hb dL_rule_3 rfl (lv_at hl 1 rfl) ?_
  rcases hk with hk | hk
  · refine tw_callVi (ws' := tw_wW cI cQ a na pa ta qa xa z rv.2.2 ++ [(o, .inl (cL, 1, .inr (.inl f)))]) F hN hK hP hD hS hA (mX3_rule l G cI cQ a na pa ta qa xa z Y H.size p1 h hk) (cwV 1 hts gL_rule_X3_rule rfl rfl rfl (by decide +kernel) ⟨Nat.le_of_ble_eq_true rfl, Nat.le_of_ble_eq_true rfl⟩) [0, 1] rfl (List.range (tw_wW cI cQ a na pa ta qa xa z Y).length) (tw_ndR _) tw_cR lw_fW (tw_mix_hit _ rfl lw_nW) (ci := 3) (r0 := 0) rfl rfl rfl (As := [.int p1]) (rest := [.int (0 : Int32), .ref o]) rfl hl.1 rfl (Nat.le_of_ble_eq_true rfl) dL_rule_4 ⟨Nat.le_of_ble_eq_true rfl, Nat.le_of_ble_eq_true rfl⟩ (fun H locs hP hD hS => ?_)
    refine lv_i2l hx hb dL_rule_7 rfl ?_
    refine tw_last (ws' := tw_wW cI cQ a na pa ta qa xa z rv.2.2 ++ [(o, .inl (cL, 1, .inr (.inl (vp_updL f 0 (rv.2.1).toInt64))))]) (f := f) (n := 1) hx hb hK hP hD hS (tw_wW cI cQ a na pa ta qa xa z rv.2.2).length 2 tw_get_l rfl (i := (0 : Int32)) (tw_vin (by decide)) dL_rule_8 tw_set_l (fun H locs hP hD hS => ?_)
    refine lv_goto (tgt := 15) hx hb dL_rule_9 (by decide) ?_
    refine lv_iconst (v := (0 : Int32)) hx hb dL_rule_15 (by decide) ?_
    exact hq H locs _ ls 0 _ _ (by rw [hk]; rfl) (by rw [if_pos hk]; exact hP) hS dL_rule_16 (Nat.le_of_ble_eq_true rfl) (Nat.le_of_ble_eq_true rfl)
  · refine tw_callX (E := tw_en rv.1) (wc' := tw_wW cI cQ a na pa ta qa xa z rv.2.2) F hN hK hP hD hS hA hNX hU hZ (xX3_rule l hst G cI cQ a na pa ta qa xa z Y H.size p1 h (by rw [hk]; decide)) (cwV 1 hts gL_rule_X3_rule rfl rfl rfl (by decide +kernel) ⟨Nat.le_of_ble_eq_true rfl, Nat.le_of_ble_eq_true rfl⟩) [0, 1] rfl lw_fW (ci := 3) (r0 := 0) rfl rfl rfl (As := [.int p1]) (rest := [.int (0 : Int32), .ref o]) rfl hl.1 rfl (Nat.le_of_ble_eq_true rfl) dL_rule_4 ⟨Nat.le_of_ble_eq_true rfl, Nat.le_of_ble_eq_true rfl⟩ (fun ce q9 H locs hP hS hce hcv hcl => ?_)
    rw [hk] at hcl
    refine vx_catch (E := tw_E1) hown (tableOf []) ⟨0, 9, 12, 13⟩ (tableOf []) htab (fun z hz => absurd hz List.not_mem_nil) (by decide) (by decide) (hts _ qL_rule_1) (va_Nw.use rfl hNX.2.1) hce hcv hcl ?_
    refine lv_astore_n (lv' := [(3, .ref q9), (0, .ref (a 0)), (1, .int p1), (2, .ref o)]) hx hb dL_rule_12 rfl hl (by decide) rfl (fun ls hl => ?_)
    refine lv_iconst (v := (1 : Int32)) hx hb dL_rule_13 (by decide) ?_
    exact hq H locs _ ls 1 _ _ (by rw [hk]; rfl) (by rw [if_neg (by rw [hk]; decide)]; exact hP) hS dL_rule_14 (Nat.le_of_ble_eq_true rfl) (Nat.le_of_ble_eq_true rfl)
abbrev rhL_append : Room := { frames := 7, cells := 1, slots := 6, locals := 102 }
set_option maxRecDepth 20000 in
theorem qL_append_1 : Cond.classLink RL 13 "java/lang/IllegalArgumentException" ∈ wsL_append := (List.mem_cons_of_mem _ (List.mem_append_left _ (List.mem_append_left _ (List.mem_append_left _ (List.mem_append_left _ (List.mem_of_getElem? (i := 0) rfl))))))
set_option maxRecDepth 20000 in
theorem qL_append_2 : Cond.classLink RL 15 "java/lang/IllegalStateException" ∈ wsL_append := (List.mem_cons_of_mem _ (List.mem_append_left _ (List.mem_append_left _ (List.mem_append_left _ (List.mem_append_left _ (List.mem_of_getElem? (i := 1) rfl))))))
set_option maxHeartbeats 4000000 in
set_option maxRecDepth 100000 in
theorem hL_append (l : Launch) (hst : l.stackTraces = false) (G : va_G) (cI cQ cL : ClassId) (a na pa ta qa xa : Nat → Nat) (z : Nat → Nat → Nat) (o : Nat) (Y : tw_Wl) (f : Nat → Int64) (sz : Nat) (p1 : Int32) {rv : Nat × Int32 × tw_Wl} (h : fX3_append Y p1 = some rv) (hk : rv.1 = 0 ∨ rv.1 = 1 ∨ rv.1 = 2) : tw_Mh l yL_append wsL_append rhL_append G [(cI, .int), (cQ, .object RX1), (cL, .long)] (tw_wW cI cQ a na pa ta qa xa z Y ++ [(o, .inl (cL, 1, .inr (.inl f)))]) [.ref (a 0), .int p1, .ref o] sz (tw_hk 1 2 0 rv.1) (tw_wW cI cQ a na pa ta qa xa z rv.2.2 ++ [(o, .inl (cL, 1, .inr (.inl (if rv.1 = 0 then vp_updL f 0 (rv.2.1).toInt64 else f))))]) := by
  refine tw_ofh (cc := cL_append) (maxL := 4) (own := RL) (by decide) rfl rfl (Nat.le_of_ble_eq_true rfl) ?_
  intro p e s m args below meth c Q A ls H locs F hN hK hP hD hS hA hl hNX hNC hU hZ htab hq
  obtain ⟨hx, hb, hml, hown, hts⟩ := id F
  have hl : lv_has ls 4 [(0, .ref (a 0)), (1, .int p1), (2, .ref o)] := hl
  refine lv_aload_n hx hb dL_append_0 rfl (lv_at hl 2 rfl) ?_
  refine lv_iconst (v := (0 : Int32)) hx hb dL_append_1 (by decide) ?_
  refine lv_aload_n hx hb dL_append_2 rfl (lv_at hl 0 rfl) ?_
  refine lv_iload_n hx hb dL_append_3 rfl (lv_at hl 1 rfl) ?_
  rcases hk with hk | hk | hk
  · refine tw_callVi (ws' := tw_wW cI cQ a na pa ta qa xa z rv.2.2 ++ [(o, .inl (cL, 1, .inr (.inl f)))]) F hN hK hP hD hS hA (mX3_append l G cI cQ a na pa ta qa xa z Y H.size p1 h hk) (cwV 1 hts gL_append_X3_append rfl rfl rfl (by decide +kernel) ⟨Nat.le_of_ble_eq_true rfl, Nat.le_of_ble_eq_true rfl⟩) [0, 1] rfl (List.range (tw_wW cI cQ a na pa ta qa xa z Y).length) (tw_ndR _) tw_cR lw_fW (tw_mix_hit _ rfl lw_nW) (ci := 3) (r0 := 0) rfl rfl rfl (As := [.int p1]) (rest := [.int (0 : Int32), .ref o]) rfl hl.1 rfl (Nat.le_of_ble_eq_true rfl) dL_append_4 ⟨Nat.le_of_ble_eq_true rfl, Nat.le_of_ble_eq_true rfl⟩ (fun H locs hP hD hS => ?_)
    refine lv_i2l hx hb dL_append_7 rfl ?_
    refine tw_last (ws' := tw_wW cI cQ a na pa ta qa xa z rv.2.2 ++ [(o, .inl (cL, 1, .inr (.inl (vp_updL f 0 (rv.2.1).toInt64))))]) (f := f) (n := 1) hx hb hK hP hD hS (tw_wW cI cQ a na pa ta qa xa z rv.2.2).length 2 tw_get_l rfl (i := (0 : Int32)) (tw_vin (by decide)) dL_append_8 tw_set_l (fun H locs hP hD hS => ?_)
    refine lv_goto (tgt := 18) hx hb dL_append_9 (by decide) ?_
    refine lv_iconst (v := (0 : Int32)) hx hb dL_append_18 (by decide) ?_
    exact hq H locs _ ls 0 _ _ (by rw [hk]; rfl) (by rw [if_pos hk]; exact hP) hS dL_append_19 (Nat.le_of_ble_eq_true rfl) (Nat.le_of_ble_eq_true rfl)
  · refine tw_callX (E := tw_en rv.1) (wc' := tw_wW cI cQ a na pa ta qa xa z rv.2.2) F hN hK hP hD hS hA hNX hU hZ (xX3_append l hst G cI cQ a na pa ta qa xa z Y H.size p1 h (by rw [hk]; decide)) (cwV 1 hts gL_append_X3_append rfl rfl rfl (by decide +kernel) ⟨Nat.le_of_ble_eq_true rfl, Nat.le_of_ble_eq_true rfl⟩) [0, 1] rfl lw_fW (ci := 3) (r0 := 0) rfl rfl rfl (As := [.int p1]) (rest := [.int (0 : Int32), .ref o]) rfl hl.1 rfl (Nat.le_of_ble_eq_true rfl) dL_append_4 ⟨Nat.le_of_ble_eq_true rfl, Nat.le_of_ble_eq_true rfl⟩ (fun ce q9 H locs hP hS hce hcv hcl => ?_)
    rw [hk] at hcl
    refine vx_catch (E := tw_E1) hown (tableOf []) ⟨0, 9, 12, 13⟩ (tableOf [(0, 9, 15, 15)]) htab (fun z hz => absurd hz List.not_mem_nil) (by decide) (by decide) (hts _ qL_append_1) (va_Nw.use rfl hNX.2.1) hce hcv hcl ?_
    refine lv_astore_n (lv' := [(3, .ref q9), (0, .ref (a 0)), (1, .int p1), (2, .ref o)]) hx hb dL_append_12 rfl hl (by decide) rfl (fun ls hl => ?_)
    refine lv_iconst (v := (1 : Int32)) hx hb dL_append_13 (by decide) ?_
    exact hq H locs _ ls 1 _ _ (by rw [hk]; rfl) (by rw [if_neg (by rw [hk]; decide)]; exact hP) hS dL_append_14 (Nat.le_of_ble_eq_true rfl) (Nat.le_of_ble_eq_true rfl)
  · refine tw_callX (E := tw_en rv.1) (wc' := tw_wW cI cQ a na pa ta qa xa z rv.2.2) F hN hK hP hD hS hA hNX hU hZ (xX3_append l hst G cI cQ a na pa ta qa xa z Y H.size p1 h (by rw [hk]; decide)) (cwV 1 hts gL_append_X3_append rfl rfl rfl (by decide +kernel) ⟨Nat.le_of_ble_eq_true rfl, Nat.le_of_ble_eq_true rfl⟩) [0, 1] rfl lw_fW (ci := 3) (r0 := 0) rfl rfl rfl (As := [.int p1]) (rest := [.int (0 : Int32), .ref o]) rfl hl.1 rfl (Nat.le_of_ble_eq_true rfl) dL_append_4 ⟨Nat.le_of_ble_eq_true rfl, Nat.le_of_ble_eq_true rfl⟩ (fun ce q9 H locs hP hS hce hcv hcl => ?_)
    rw [hk] at hcl
    refine vx_catch (E := tw_E2) hown (tableOf [(0, 9, 12, 13)]) ⟨0, 9, 15, 15⟩ (tableOf []) htab (List.forall_mem_cons.mpr ⟨Or.inr ⟨by decide, _, hts _ qL_append_1, hNC.2.2.1⟩, fun z hz => absurd hz List.not_mem_nil⟩) (by decide) (by decide) (hts _ qL_append_2) (va_Nw.use rfl hNX.2.2.1) hce hcv hcl ?_
    refine lv_astore_n (lv' := [(3, .ref q9), (0, .ref (a 0)), (1, .int p1), (2, .ref o)]) hx hb dL_append_15 rfl hl (by decide) rfl (fun ls hl => ?_)
    refine lv_iconst (v := (2 : Int32)) hx hb dL_append_16 (by decide) ?_
    exact hq H locs _ ls 2 _ _ (by rw [hk]; rfl) (by rw [if_neg (by rw [hk]; decide)]; exact hP) hS dL_append_17 (Nat.le_of_ble_eq_true rfl) (Nat.le_of_ble_eq_true rfl)
abbrev rhL_addAll : Room := { frames := 7, cells := 1, slots := 6, locals := 123 }
set_option maxRecDepth 20000 in
theorem qL_addAll_1 : Cond.classLink RL 13 "java/lang/IllegalArgumentException" ∈ wsL_addAll := (List.mem_cons_of_mem _ (List.mem_append_left _ (List.mem_append_left _ (List.mem_append_left _ (List.mem_append_left _ (List.mem_append_left _ (List.mem_append_left _ (List.mem_append_left _ (List.mem_of_getElem? (i := 0) rfl)))))))))
set_option maxRecDepth 20000 in
theorem qL_addAll_2 : Cond.classLink RL 15 "java/lang/IllegalStateException" ∈ wsL_addAll := (List.mem_cons_of_mem _ (List.mem_append_left _ (List.mem_append_left _ (List.mem_append_left _ (List.mem_append_left _ (List.mem_append_left _ (List.mem_append_left _ (List.mem_append_left _ (List.mem_of_getElem? (i := 1) rfl)))))))))
set_option maxHeartbeats 4000000 in
set_option maxRecDepth 100000 in
theorem hL_addAll (l : Launch) (hst : l.stackTraces = false) (G : va_G) (cI cQ cL : ClassId) (a na pa ta qa xa : Nat → Nat) (z : Nat → Nat → Nat) (o : Nat) (Y : tw_Wl) (f : Nat → Int64) (sz : Nat)  {rv : Nat × Int32 × tw_Wl} (h : fX3_addAll Y  = some rv) (hk : rv.1 = 0 ∨ rv.1 = 1 ∨ rv.1 = 2) : tw_Mh l yL_addAll wsL_addAll rhL_addAll G [(cI, .int), (cQ, .object RX1), (cL, .long)] (tw_wW cI cQ a na pa ta qa xa z Y ++ [(o, .inl (cL, 1, .inr (.inl f)))]) [.ref (a 0), .ref o] sz (tw_hk 1 2 0 rv.1) (tw_wW cI cQ a na pa ta qa xa z rv.2.2 ++ [(o, .inl (cL, 1, .inr (.inl (if rv.1 = 0 then vp_updL f 0 (rv.2.1).toInt64 else f))))]) := by
  refine tw_ofh (cc := cL_addAll) (maxL := 3) (own := RL) (by decide) rfl rfl (Nat.le_of_ble_eq_true rfl) ?_
  intro p e s m args below meth c Q A ls H locs F hN hK hP hD hS hA hl hNX hNC hU hZ htab hq
  obtain ⟨hx, hb, hml, hown, hts⟩ := id F
  have hl : lv_has ls 3 [(0, .ref (a 0)), (1, .ref o)] := hl
  refine lv_aload_n hx hb dL_addAll_0 rfl (lv_at hl 1 rfl) ?_
  refine lv_iconst (v := (0 : Int32)) hx hb dL_addAll_1 (by decide) ?_
  refine lv_aload_n hx hb dL_addAll_2 rfl (lv_at hl 0 rfl) ?_
  rcases hk with hk | hk | hk
  · refine tw_callVi (ws' := tw_wW cI cQ a na pa ta qa xa z rv.2.2 ++ [(o, .inl (cL, 1, .inr (.inl f)))]) F hN hK hP hD hS hA (mX3_addAll l G cI cQ a na pa ta qa xa z Y H.size  h hk) (cwV 0 hts gL_addAll_X3_addAll rfl rfl rfl (by decide +kernel) ⟨Nat.le_of_ble_eq_true rfl, Nat.le_of_ble_eq_true rfl⟩) [0, 1] rfl (List.range (tw_wW cI cQ a na pa ta qa xa z Y).length) (tw_ndR _) tw_cR lw_fW (tw_mix_hit _ rfl lw_nW) (ci := 3) (r0 := 0) rfl rfl rfl (As := []) (rest := [.int (0 : Int32), .ref o]) rfl hl.1 rfl (Nat.le_of_ble_eq_true rfl) dL_addAll_3 ⟨Nat.le_of_ble_eq_true rfl, Nat.le_of_ble_eq_true rfl⟩ (fun H locs hP hD hS => ?_)
    refine lv_i2l hx hb dL_addAll_6 rfl ?_
    refine tw_last (ws' := tw_wW cI cQ a na pa ta qa xa z rv.2.2 ++ [(o, .inl (cL, 1, .inr (.inl (vp_updL f 0 (rv.2.1).toInt64))))]) (f := f) (n := 1) hx hb hK hP hD hS (tw_wW cI cQ a na pa ta qa xa z rv.2.2).length 2 tw_get_l rfl (i := (0 : Int32)) (tw_vin (by decide)) dL_addAll_7 tw_set_l (fun H locs hP hD hS => ?_)
    refine lv_goto (tgt := 17) hx hb dL_addAll_8 (by decide) ?_
    refine lv_iconst (v := (0 : Int32)) hx hb dL_addAll_17 (by decide) ?_
    exact hq H locs _ ls 0 _ _ (by rw [hk]; rfl) (by rw [if_pos hk]; exact hP) hS dL_addAll_18 (Nat.le_of_ble_eq_true rfl) (Nat.le_of_ble_eq_true rfl)
  · refine tw_callX (E := tw_en rv.1) (wc' := tw_wW cI cQ a na pa ta qa xa z rv.2.2) F hN hK hP hD hS hA hNX hU hZ (xX3_addAll l hst G cI cQ a na pa ta qa xa z Y H.size  h (by rw [hk]; decide)) (cwV 0 hts gL_addAll_X3_addAll rfl rfl rfl (by decide +kernel) ⟨Nat.le_of_ble_eq_true rfl, Nat.le_of_ble_eq_true rfl⟩) [0, 1] rfl lw_fW (ci := 3) (r0 := 0) rfl rfl rfl (As := []) (rest := [.int (0 : Int32), .ref o]) rfl hl.1 rfl (Nat.le_of_ble_eq_true rfl) dL_addAll_3 ⟨Nat.le_of_ble_eq_true rfl, Nat.le_of_ble_eq_true rfl⟩ (fun ce q9 H locs hP hS hce hcv hcl => ?_)
    rw [hk] at hcl
    refine vx_catch (E := tw_E1) hown (tableOf []) ⟨0, 8, 11, 13⟩ (tableOf [(0, 8, 14, 15)]) htab (fun z hz => absurd hz List.not_mem_nil) (by decide) (by decide) (hts _ qL_addAll_1) (va_Nw.use rfl hNX.2.1) hce hcv hcl ?_
    refine lv_astore_n (lv' := [(2, .ref q9), (0, .ref (a 0)), (1, .ref o)]) hx hb dL_addAll_11 rfl hl (by decide) rfl (fun ls hl => ?_)
    refine lv_iconst (v := (1 : Int32)) hx hb dL_addAll_12 (by decide) ?_
    exact hq H locs _ ls 1 _ _ (by rw [hk]; rfl) (by rw [if_neg (by rw [hk]; decide)]; exact hP) hS dL_addAll_13 (Nat.le_of_ble_eq_true rfl) (Nat.le_of_ble_eq_true rfl)
  · refine tw_callX (E := tw_en rv.1) (wc' := tw_wW cI cQ a na pa ta qa xa z rv.2.2) F hN hK hP hD hS hA hNX hU hZ (xX3_addAll l hst G cI cQ a na pa ta qa xa z Y H.size  h (by rw [hk]; decide)) (cwV 0 hts gL_addAll_X3_addAll rfl rfl rfl (by decide +kernel) ⟨Nat.le_of_ble_eq_true rfl, Nat.le_of_ble_eq_true rfl⟩) [0, 1] rfl lw_fW (ci := 3) (r0 := 0) rfl rfl rfl (As := []) (rest := [.int (0 : Int32), .ref o]) rfl hl.1 rfl (Nat.le_of_ble_eq_true rfl) dL_addAll_3 ⟨Nat.le_of_ble_eq_true rfl, Nat.le_of_ble_eq_true rfl⟩ (fun ce q9 H locs hP hS hce hcv hcl => ?_)
    rw [hk] at hcl
    refine vx_catch (E := tw_E2) hown (tableOf [(0, 8, 11, 13)]) ⟨0, 8, 14, 15⟩ (tableOf []) htab (List.forall_mem_cons.mpr ⟨Or.inr ⟨by decide, _, hts _ qL_addAll_1, hNC.2.2.1⟩, fun z hz => absurd hz List.not_mem_nil⟩) (by decide) (by decide) (hts _ qL_addAll_2) (va_Nw.use rfl hNX.2.2.1) hce hcv hcl ?_
    refine lv_astore_n (lv' := [(2, .ref q9), (0, .ref (a 0)), (1, .ref o)]) hx hb dL_addAll_14 rfl hl (by decide) rfl (fun ls hl => ?_)
    refine lv_iconst (v := (2 : Int32)) hx hb dL_addAll_15 (by decide) ?_
    exact hq H locs _ ls 2 _ _ (by rw [hk]; rfl) (by rw [if_neg (by rw [hk]; decide)]; exact hP) hS dL_addAll_16 (Nat.le_of_ble_eq_true rfl) (Nat.le_of_ble_eq_true rfl)
abbrev rhL_undo : Room := { frames := 7, cells := 1, slots := 6, locals := 123 }
set_option maxRecDepth 20000 in
theorem qL_undo_2 : Cond.classLink RL 15 "java/lang/IllegalStateException" ∈ wsL_undo := (List.mem_cons_of_mem _ (List.mem_append_left _ (List.mem_append_left _ (List.mem_append_left _ (List.mem_append_left _ (List.mem_append_left _ (List.mem_of_getElem? (i := 0) rfl)))))))
set_option maxHeartbeats 4000000 in
set_option maxRecDepth 100000 in
theorem hL_undo (l : Launch) (hst : l.stackTraces = false) (G : va_G) (cI cQ cL : ClassId) (a na pa ta qa xa : Nat → Nat) (z : Nat → Nat → Nat) (o : Nat) (Y : tw_Wl) (f : Nat → Int64) (sz : Nat)  {rv : Nat × Int32 × tw_Wl} (h : fX3_undo Y  = some rv) (hk : rv.1 = 0 ∨ rv.1 = 2) : tw_Mh l yL_undo wsL_undo rhL_undo G [(cI, .int), (cQ, .object RX1), (cL, .long)] (tw_wW cI cQ a na pa ta qa xa z Y ++ [(o, .inl (cL, 1, .inr (.inl f)))]) [.ref (a 0), .ref o] sz (tw_hk 0 1 0 rv.1) (tw_wW cI cQ a na pa ta qa xa z rv.2.2 ++ [(o, .inl (cL, 1, .inr (.inl (if rv.1 = 0 then vp_updL f 0 (rv.2.1).toInt64 else f))))]) := by
  refine tw_ofh (cc := cL_undo) (maxL := 3) (own := RL) (by decide) rfl rfl (Nat.le_of_ble_eq_true rfl) ?_
  intro p e s m args below meth c Q A ls H locs F hN hK hP hD hS hA hl hNX hNC hU hZ htab hq
  obtain ⟨hx, hb, hml, hown, hts⟩ := id F
  have hl : lv_has ls 3 [(0, .ref (a 0)), (1, .ref o)] := hl
  refine lv_aload_n hx hb dL_undo_0 rfl (lv_at hl 1 rfl) ?_
  refine lv_iconst (v := (0 : Int32)) hx hb dL_undo_1 (by decide) ?_
  refine lv_aload_n hx hb dL_undo_2 rfl (lv_at hl 0 rfl) ?_
  rcases hk with hk | hk
  · refine tw_callVi (ws' := tw_wW cI cQ a na pa ta qa xa z rv.2.2 ++ [(o, .inl (cL, 1, .inr (.inl f)))]) F hN hK hP hD hS hA (mX3_undo l G cI cQ a na pa ta qa xa z Y H.size  h hk) (cwV 0 hts gL_undo_X3_undo rfl rfl rfl (by decide +kernel) ⟨Nat.le_of_ble_eq_true rfl, Nat.le_of_ble_eq_true rfl⟩) [0, 1] rfl (List.range (tw_wW cI cQ a na pa ta qa xa z Y).length) (tw_ndR _) tw_cR lw_fW (tw_mix_hit _ rfl lw_nW) (ci := 3) (r0 := 0) rfl rfl rfl (As := []) (rest := [.int (0 : Int32), .ref o]) rfl hl.1 rfl (Nat.le_of_ble_eq_true rfl) dL_undo_3 ⟨Nat.le_of_ble_eq_true rfl, Nat.le_of_ble_eq_true rfl⟩ (fun H locs hP hD hS => ?_)
    refine lv_i2l hx hb dL_undo_6 rfl ?_
    refine tw_last (ws' := tw_wW cI cQ a na pa ta qa xa z rv.2.2 ++ [(o, .inl (cL, 1, .inr (.inl (vp_updL f 0 (rv.2.1).toInt64))))]) (f := f) (n := 1) hx hb hK hP hD hS (tw_wW cI cQ a na pa ta qa xa z rv.2.2).length 2 tw_get_l rfl (i := (0 : Int32)) (tw_vin (by decide)) dL_undo_7 tw_set_l (fun H locs hP hD hS => ?_)
    refine lv_goto (tgt := 14) hx hb dL_undo_8 (by decide) ?_
    refine lv_iconst (v := (0 : Int32)) hx hb dL_undo_14 (by decide) ?_
    exact hq H locs _ ls 0 _ _ (by rw [hk]; rfl) (by rw [if_pos hk]; exact hP) hS dL_undo_15 (Nat.le_of_ble_eq_true rfl) (Nat.le_of_ble_eq_true rfl)
  · refine tw_callX (E := tw_en rv.1) (wc' := tw_wW cI cQ a na pa ta qa xa z rv.2.2) F hN hK hP hD hS hA hNX hU hZ (xX3_undo l hst G cI cQ a na pa ta qa xa z Y H.size  h (by rw [hk]; decide)) (cwV 0 hts gL_undo_X3_undo rfl rfl rfl (by decide +kernel) ⟨Nat.le_of_ble_eq_true rfl, Nat.le_of_ble_eq_true rfl⟩) [0, 1] rfl lw_fW (ci := 3) (r0 := 0) rfl rfl rfl (As := []) (rest := [.int (0 : Int32), .ref o]) rfl hl.1 rfl (Nat.le_of_ble_eq_true rfl) dL_undo_3 ⟨Nat.le_of_ble_eq_true rfl, Nat.le_of_ble_eq_true rfl⟩ (fun ce q9 H locs hP hS hce hcv hcl => ?_)
    rw [hk] at hcl
    refine vx_catch (E := tw_E2) hown (tableOf []) ⟨0, 8, 11, 15⟩ (tableOf []) htab (fun z hz => absurd hz List.not_mem_nil) (by decide) (by decide) (hts _ qL_undo_2) (va_Nw.use rfl hNX.2.2.1) hce hcv hcl ?_
    refine lv_astore_n (lv' := [(2, .ref q9), (0, .ref (a 0)), (1, .ref o)]) hx hb dL_undo_11 rfl hl (by decide) rfl (fun ls hl => ?_)
    refine lv_iconst (v := (1 : Int32)) hx hb dL_undo_12 (by decide) ?_
    exact hq H locs _ ls 1 _ _ (by rw [hk]; rfl) (by rw [if_neg (by rw [hk]; decide)]; exact hP) hS dL_undo_13 (Nat.le_of_ble_eq_true rfl) (Nat.le_of_ble_eq_true rfl)
abbrev rhL_task : Room := { frames := 7, cells := 1, slots := 6, locals := 148 }
set_option maxRecDepth 20000 in
theorem qL_task_3 : Cond.classLink RL 21 "java/lang/IndexOutOfBoundsException" ∈ wsL_task := (List.mem_cons_of_mem _ (List.mem_append_left _ (List.mem_append_left _ (List.mem_append_left _ (List.mem_append_left _ (List.mem_append_left _ (List.mem_append_left _ (List.mem_of_getElem? (i := 0) rfl))))))))
set_option maxRecDepth 20000 in
theorem qL_task_1 : Cond.classLink RL 13 "java/lang/IllegalArgumentException" ∈ wsL_task := (List.mem_cons_of_mem _ (List.mem_append_left _ (List.mem_append_left _ (List.mem_append_left _ (List.mem_append_left _ (List.mem_append_left _ (List.mem_append_left _ (List.mem_of_getElem? (i := 1) rfl))))))))
set_option maxHeartbeats 4000000 in
set_option maxRecDepth 100000 in
theorem hL_task (l : Launch) (hst : l.stackTraces = false) (G : va_G) (cI cQ cL : ClassId) (a na pa ta qa xa : Nat → Nat) (z : Nat → Nat → Nat) (o : Nat) (Y : tw_Wl) (f : Nat → Int64) (sz : Nat) (p1 : Int32) (p2 : Int32) {rv : Nat × Int32 × tw_Wl} (h : fX3_task Y p1 p2 = some rv) (hk : rv.1 = 0 ∨ rv.1 = 1 ∨ rv.1 = 3) : tw_Mh l yL_task wsL_task rhL_task G [(cI, .int), (cQ, .object RX1), (cL, .long)] (tw_wW cI cQ a na pa ta qa xa z Y ++ [(o, .inl (cL, 1, .inr (.inl f)))]) [.ref (a 0), .int p1, .int p2, .ref o] sz (tw_hk 2 0 1 rv.1) (tw_wW cI cQ a na pa ta qa xa z rv.2.2 ++ [(o, .inl (cL, 1, .inr (.inl (if rv.1 = 0 then vp_updL f 0 (rv.2.1).toInt64 else f))))]) := by
  refine tw_ofh (cc := cL_task) (maxL := 5) (own := RL) (by decide) rfl rfl (Nat.le_of_ble_eq_true rfl) ?_
  intro p e s m args below meth c Q A ls H locs F hN hK hP hD hS hA hl hNX hNC hU hZ htab hq
  obtain ⟨hx, hb, hml, hown, hts⟩ := id F
  have hl : lv_has ls 5 [(0, .ref (a 0)), (1, .int p1), (2, .int p2), (3, .ref o)] := hl
  refine lv_aload_n hx hb dL_task_0 rfl (lv_at hl 3 rfl) ?_
  refine lv_iconst (v := (0 : Int32)) hx hb dL_task_1 (by decide) ?_
  refine lv_aload_n hx hb dL_task_2 rfl (lv_at hl 0 rfl) ?_
  refine lv_iload_n hx hb dL_task_3 rfl (lv_at hl 1 rfl) ?_
  refine lv_iload_n hx hb dL_task_4 rfl (lv_at hl 2 rfl) ?_
  rcases hk with hk | hk | hk
  · refine tw_callVi (ws' := tw_wW cI cQ a na pa ta qa xa z rv.2.2 ++ [(o, .inl (cL, 1, .inr (.inl f)))]) F hN hK hP hD hS hA (mX3_task l G cI cQ a na pa ta qa xa z Y H.size p1 p2 h hk) (cwV 2 hts gL_task_X3_task rfl rfl rfl (by decide +kernel) ⟨Nat.le_of_ble_eq_true rfl, Nat.le_of_ble_eq_true rfl⟩) [0, 1] rfl (List.range (tw_wW cI cQ a na pa ta qa xa z Y).length) (tw_ndR _) tw_cR lw_fW (tw_mix_hit _ rfl lw_nW) (ci := 3) (r0 := 0) rfl rfl rfl (As := [.int p1, .int p2]) (rest := [.int (0 : Int32), .ref o]) rfl hl.1 rfl (Nat.le_of_ble_eq_true rfl) dL_task_5 ⟨Nat.le_of_ble_eq_true rfl, Nat.le_of_ble_eq_true rfl⟩ (fun H locs hP hD hS => ?_)
    refine lv_i2l hx hb dL_task_8 rfl ?_
    refine tw_last (ws' := tw_wW cI cQ a na pa ta qa xa z rv.2.2 ++ [(o, .inl (cL, 1, .inr (.inl (vp_updL f 0 (rv.2.1).toInt64))))]) (f := f) (n := 1) hx hb hK hP hD hS (tw_wW cI cQ a na pa ta qa xa z rv.2.2).length 2 tw_get_l rfl (i := (0 : Int32)) (tw_vin (by decide)) dL_task_9 tw_set_l (fun H locs hP hD hS => ?_)
    refine lv_goto (tgt := 21) hx hb dL_task_10 (by decide) ?_
    refine lv_iconst (v := (0 : Int32)) hx hb dL_task_21 (by decide) ?_
    exact hq H locs _ ls 0 _ _ (by rw [hk]; rfl) (by rw [if_pos hk]; exact hP) hS dL_task_22 (Nat.le_of_ble_eq_true rfl) (Nat.le_of_ble_eq_true rfl)
  · refine tw_callX (E := tw_en rv.1) (wc' := tw_wW cI cQ a na pa ta qa xa z rv.2.2) F hN hK hP hD hS hA hNX hU hZ (xX3_task l hst G cI cQ a na pa ta qa xa z Y H.size p1 p2 h (by rw [hk]; decide)) (cwV 2 hts gL_task_X3_task rfl rfl rfl (by decide +kernel) ⟨Nat.le_of_ble_eq_true rfl, Nat.le_of_ble_eq_true rfl⟩) [0, 1] rfl lw_fW (ci := 3) (r0 := 0) rfl rfl rfl (As := [.int p1, .int p2]) (rest := [.int (0 : Int32), .ref o]) rfl hl.1 rfl (Nat.le_of_ble_eq_true rfl) dL_task_5 ⟨Nat.le_of_ble_eq_true rfl, Nat.le_of_ble_eq_true rfl⟩ (fun ce q9 H locs hP hS hce hcv hcl => ?_)
    rw [hk] at hcl
    refine vx_catch (E := tw_E1) hown (tableOf [(0, 10, 13, 21)]) ⟨0, 10, 17, 13⟩ (tableOf []) htab (List.forall_mem_cons.mpr ⟨Or.inr ⟨by decide, _, hts _ qL_task_3, hNC.2.1⟩, fun z hz => absurd hz List.not_mem_nil⟩) (by decide) (by decide) (hts _ qL_task_1) (va_Nw.use rfl hNX.2.1) hce hcv hcl ?_
    refine lv_astore (lv' := [(4, .ref q9), (0, .ref (a 0)), (1, .int p1), (2, .int p2), (3, .ref o)]) hx hb dL_task_17 hl (by decide) rfl (fun ls hl => ?_)
    refine lv_iconst (v := (2 : Int32)) hx hb dL_task_19 (by decide) ?_
    exact hq H locs _ ls 2 _ _ (by rw [hk]; rfl) (by rw [if_neg (by rw [hk]; decide)]; exact hP) hS dL_task_20 (Nat.le_of_ble_eq_true rfl) (Nat.le_of_ble_eq_true rfl)
  · refine tw_callX (E := tw_en rv.1) (wc' := tw_wW cI cQ a na pa ta qa xa z rv.2.2) F hN hK hP hD hS hA hNX hU hZ (xX3_task l hst G cI cQ a na pa ta qa xa z Y H.size p1 p2 h (by rw [hk]; decide)) (cwV 2 hts gL_task_X3_task rfl rfl rfl (by decide +kernel) ⟨Nat.le_of_ble_eq_true rfl, Nat.le_of_ble_eq_true rfl⟩) [0, 1] rfl lw_fW (ci := 3) (r0 := 0) rfl rfl rfl (As := [.int p1, .int p2]) (rest := [.int (0 : Int32), .ref o]) rfl hl.1 rfl (Nat.le_of_ble_eq_true rfl) dL_task_5 ⟨Nat.le_of_ble_eq_true rfl, Nat.le_of_ble_eq_true rfl⟩ (fun ce q9 H locs hP hS hce hcv hcl => ?_)
    rw [hk] at hcl
    refine vx_catch (E := tw_E3) hown (tableOf []) ⟨0, 10, 13, 21⟩ (tableOf [(0, 10, 17, 13)]) htab (fun z hz => absurd hz List.not_mem_nil) (by decide) (by decide) (hts _ qL_task_3) (va_Nw.use rfl hNX.2.2.2) hce hcv hcl ?_
    refine lv_astore (lv' := [(4, .ref q9), (0, .ref (a 0)), (1, .int p1), (2, .int p2), (3, .ref o)]) hx hb dL_task_13 hl (by decide) rfl (fun ls hl => ?_)
    refine lv_iconst (v := (1 : Int32)) hx hb dL_task_15 (by decide) ?_
    exact hq H locs _ ls 1 _ _ (by rw [hk]; rfl) (by rw [if_neg (by rw [hk]; decide)]; exact hP) hS dL_task_16 (Nat.le_of_ble_eq_true rfl) (Nat.le_of_ble_eq_true rfl)
abbrev rhL_personOn : Room := { frames := 7, cells := 1, slots := 6, locals := 103 }
set_option maxRecDepth 20000 in
theorem qL_personOn_3 : Cond.classLink RL 21 "java/lang/IndexOutOfBoundsException" ∈ wsL_personOn := (List.mem_cons_of_mem _ (List.mem_append_left _ (List.mem_append_left _ (List.mem_append_left _ (List.mem_append_left _ (List.mem_append_left _ (List.mem_of_getElem? (i := 0) rfl)))))))
set_option maxHeartbeats 4000000 in
set_option maxRecDepth 100000 in
theorem hL_personOn (l : Launch) (hst : l.stackTraces = false) (G : va_G) (cI cQ cL : ClassId) (a na pa ta qa xa : Nat → Nat) (z : Nat → Nat → Nat) (o : Nat) (Y : tw_Wl) (f : Nat → Int64) (sz : Nat) (p1 : Int32) (p2 : Int32) {rv : Nat × Int32} (h : fX3_personOn Y p1 p2 = some rv) (hk : rv.1 = 0 ∨ rv.1 = 3) : tw_Mh l yL_personOn wsL_personOn rhL_personOn G [(cI, .int), (cQ, .object RX1), (cL, .long)] (tw_wW cI cQ a na pa ta qa xa z Y ++ [(o, .inl (cL, 1, .inr (.inl f)))]) [.ref (a 0), .int p1, .int p2, .ref o] sz (tw_hk 0 0 1 rv.1) (tw_wW cI cQ a na pa ta qa xa z Y ++ [(o, .inl (cL, 1, .inr (.inl (if rv.1 = 0 then vp_updL f 0 (rv.2).toInt64 else f))))]) := by
  refine tw_ofh (cc := cL_personOn) (maxL := 5) (own := RL) (by decide) rfl rfl (Nat.le_of_ble_eq_true rfl) ?_
  intro p e s m args below meth c Q A ls H locs F hN hK hP hD hS hA hl hNX hNC hU hZ htab hq
  obtain ⟨hx, hb, hml, hown, hts⟩ := id F
  have hl : lv_has ls 5 [(0, .ref (a 0)), (1, .int p1), (2, .int p2), (3, .ref o)] := hl
  refine lv_aload_n hx hb dL_personOn_0 rfl (lv_at hl 3 rfl) ?_
  refine lv_iconst (v := (0 : Int32)) hx hb dL_personOn_1 (by decide) ?_
  refine lv_aload_n hx hb dL_personOn_2 rfl (lv_at hl 0 rfl) ?_
  refine lv_iload_n hx hb dL_personOn_3 rfl (lv_at hl 1 rfl) ?_
  refine lv_iload_n hx hb dL_personOn_4 rfl (lv_at hl 2 rfl) ?_
  rcases hk with hk | hk
  · refine tw_callVi (ws' := tw_wW cI cQ a na pa ta qa xa z Y ++ [(o, .inl (cL, 1, .inr (.inl f)))]) F hN hK hP hD hS hA (mX3_personOn l G cI cQ a na pa ta qa xa z Y H.size p1 p2 h hk) (cwV 2 hts gL_personOn_X3_personOn rfl rfl rfl (by decide +kernel) ⟨Nat.le_of_ble_eq_true rfl, Nat.le_of_ble_eq_true rfl⟩) [0, 1] rfl (List.range (tw_wW cI cQ a na pa ta qa xa z Y).length) (tw_ndR _) tw_cR lw_fW (tw_mix_hit _ rfl lw_nW) (ci := 3) (r0 := 0) rfl rfl rfl (As := [.int p1, .int p2]) (rest := [.int (0 : Int32), .ref o]) rfl hl.1 rfl (Nat.le_of_ble_eq_true rfl) dL_personOn_5 ⟨Nat.le_of_ble_eq_true rfl, Nat.le_of_ble_eq_true rfl⟩ (fun H locs hP hD hS => ?_)
    refine lv_i2l hx hb dL_personOn_8 rfl ?_
    refine tw_last (ws' := tw_wW cI cQ a na pa ta qa xa z Y ++ [(o, .inl (cL, 1, .inr (.inl (vp_updL f 0 (rv.2).toInt64))))]) (f := f) (n := 1) hx hb hK hP hD hS (tw_wW cI cQ a na pa ta qa xa z Y).length 2 tw_get_l rfl (i := (0 : Int32)) (tw_vin (by decide)) dL_personOn_9 tw_set_l (fun H locs hP hD hS => ?_)
    refine lv_goto (tgt := 17) hx hb dL_personOn_10 (by decide) ?_
    refine lv_iconst (v := (0 : Int32)) hx hb dL_personOn_17 (by decide) ?_
    exact hq H locs _ ls 0 _ _ (by rw [hk]; rfl) (by rw [if_pos hk]; exact hP) hS dL_personOn_18 (Nat.le_of_ble_eq_true rfl) (Nat.le_of_ble_eq_true rfl)
  · refine tw_callX (E := tw_en rv.1) (wc' := tw_wW cI cQ a na pa ta qa xa z Y) F hN hK hP hD hS hA hNX hU hZ (xX3_personOn l hst G cI cQ a na pa ta qa xa z Y H.size p1 p2 h (by rw [hk]; decide)) (cwV 2 hts gL_personOn_X3_personOn rfl rfl rfl (by decide +kernel) ⟨Nat.le_of_ble_eq_true rfl, Nat.le_of_ble_eq_true rfl⟩) [0, 1] rfl lw_fW (ci := 3) (r0 := 0) rfl rfl rfl (As := [.int p1, .int p2]) (rest := [.int (0 : Int32), .ref o]) rfl hl.1 rfl (Nat.le_of_ble_eq_true rfl) dL_personOn_5 ⟨Nat.le_of_ble_eq_true rfl, Nat.le_of_ble_eq_true rfl⟩ (fun ce q9 H locs hP hS hce hcv hcl => ?_)
    rw [hk] at hcl
    refine vx_catch (E := tw_E3) hown (tableOf []) ⟨0, 10, 13, 21⟩ (tableOf []) htab (fun z hz => absurd hz List.not_mem_nil) (by decide) (by decide) (hts _ qL_personOn_3) (va_Nw.use rfl hNX.2.2.2) hce hcv hcl ?_
    refine lv_astore (lv' := [(4, .ref q9), (0, .ref (a 0)), (1, .int p1), (2, .int p2), (3, .ref o)]) hx hb dL_personOn_13 hl (by decide) rfl (fun ls hl => ?_)
    refine lv_iconst (v := (1 : Int32)) hx hb dL_personOn_15 (by decide) ?_
    exact hq H locs _ ls 1 _ _ (by rw [hk]; rfl) (by rw [if_neg (by rw [hk]; decide)]; exact hP) hS dL_personOn_16 (Nat.le_of_ble_eq_true rfl) (Nat.le_of_ble_eq_true rfl)
