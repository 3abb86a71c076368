/-! the law's undo, add, slip: what throws nothing answers itself, IllegalState is -200 -/
def fL_undo (Y : tw_Wl)  : Option (Int32 × tw_Wl) := (fX3_undo Y ).bind fun r => tw_q (r.1 = 0 ∨ r.1 = 2) <| some (if r.1 = 0 then r.2.1 else (-200 : Int32), r.2.2)
abbrev rhL_undo : Room := { frames := 7, cells := 1, slots := 6, locals := 123 }
set_option maxRecDepth 20000 in
theorem qL_undo_2 : Cond.classLink RL 15 "java/lang/IllegalStateException" ∈ wsL_undo := (List.mem_cons_of_mem _ (List.mem_append_left _ (List.mem_append_left _ (List.mem_append_left _ (List.mem_append_left _ (List.mem_append_left _ (List.mem_of_getElem? (i := 0) rfl)))))))
set_option maxHeartbeats 4000000 in
set_option maxRecDepth 100000 in
theorem hL_undo (l : Launch) (hst : l.stackTraces = false) (G : va_G) (cI cQ : ClassId) (a na pa ta qa xa : Nat → Nat) (z : Nat → Nat → Nat) (Y : tw_Wl) (sz : Nat)  {rv : Int32 × tw_Wl} (h : fL_undo Y  = some rv) : tw_Mh l yL_undo wsL_undo rhL_undo G [(cI, .int), (cQ, .object RX1)] (tw_wW cI cQ a na pa ta qa xa z Y) [.ref (a 0)] sz rv.1 (tw_wW cI cQ a na pa ta qa xa z rv.2) := by
  obtain ⟨r, e8, h⟩ := tw_bs h
  obtain ⟨hk, h⟩ := tw_qs h
  have h := Option.some.inj h
  subst h
  refine tw_ofh (cc := cL_undo) (maxL := 2) (own := RL) (by decide) rfl rfl (Nat.le_of_ble_eq_true rfl) ?_
  intro p e s m args below meth c Q A ls H locs F hN hK hP hD hS hA hl hNX hNC hU hZ htab hq
  obtain ⟨hx, hb, hml, hown, hts⟩ := id F
  have hl : lv_has ls 2 [(0, .ref (a 0))] := hl
  refine lv_aload_n hx hb dL_undo_0 rfl (lv_at hl 0 rfl) ?_
  rcases hk with hk | hk
  · refine tw_callViF (ws' := tw_wW cI cQ a na pa ta qa xa z r.2.2) (As := []) (rest := []) F hN hK hP hD hS hA (mX3_undo l G cI cQ a na pa ta qa xa z Y H.size  e8 hk) (cwV 0 hts gL_undo_X3_undo rfl rfl rfl (by decide +kernel) ⟨(Nat.le_of_ble_eq_true rfl), (Nat.le_of_ble_eq_true rfl)⟩) rfl (r0 := 0) (ci := 3) rfl rfl rfl rfl hl.1 rfl (Nat.le_of_ble_eq_true rfl) dL_undo_1 ⟨(Nat.le_of_ble_eq_true rfl), (Nat.le_of_ble_eq_true rfl)⟩ (fun H locs hP hD hS => ?_)
    exact hq H locs _ ls _ _ _ (if_pos hk) hP hS dL_undo_4 (Nat.le_of_ble_eq_true rfl) (Nat.le_of_ble_eq_true rfl)
  · refine tw_callXF (E := tw_en r.1) (wc' := tw_wW cI cQ a na pa ta qa xa z r.2.2) F hN hK hP hD hS hA hNX hU hZ (xX3_undo l hst G cI cQ a na pa ta qa xa z Y H.size  e8 (by rw [hk]; decide)) (cwV 0 hts gL_undo_X3_undo rfl rfl rfl (by decide +kernel) ⟨(Nat.le_of_ble_eq_true rfl), (Nat.le_of_ble_eq_true rfl)⟩) [0, 1] rfl (ci := 3) (r0 := 0) rfl rfl rfl (As := []) (rest := []) rfl hl.1 rfl (Nat.le_of_ble_eq_true rfl) dL_undo_1 ⟨(Nat.le_of_ble_eq_true rfl), (Nat.le_of_ble_eq_true rfl)⟩ (fun ce q9 H locs hP hS hce hcv hcl => ?_)
    rw [hk] at hcl
    refine vx_catch (E := tw_E2) hown (tableOf []) ⟨0, 4, 5, 15⟩ (tableOf []) htab (fun z hz => absurd hz List.not_mem_nil) (by decide) (by decide) (hts _ qL_undo_2) (va_Nw.use rfl hNX.2.2.1) hce hcv hcl ?_
    refine lv_astore_n (lv' := [(1, .ref q9), (0, .ref (a 0))]) hx hb dL_undo_5 rfl hl (by decide) rfl (fun ls hl => ?_)
    refine lv_sipush (v := (-200 : Int32)) hx hb dL_undo_6 (by decide) ?_
    exact hq H locs _ ls _ _ _ (if_neg (by rw [hk]; decide)) hP hS dL_undo_9 (Nat.le_of_ble_eq_true rfl) (Nat.le_of_ble_eq_true rfl)
def fL_add (Y : tw_Wl) (p1 : Int32) (p2 : Int32) (p3 : Int32) : Option (Int32 × tw_Wl) := (fX3_add Y p1 p2 p3).bind fun r => tw_q (r.1 = 0 ∨ r.1 = 2) <| some (if r.1 = 0 then r.2.1 else (-200 : Int32), r.2.2)
abbrev rhL_add : Room := { frames := 7, cells := 1, slots := 6, locals := 126 }
set_option maxRecDepth 20000 in
theorem qL_add_2 : Cond.classLink RL 15 "java/lang/IllegalStateException" ∈ wsL_add := (List.mem_cons_of_mem _ (List.mem_append_left _ (List.mem_append_left _ (List.mem_append_left _ (List.mem_append_left _ (List.mem_append_left _ (List.mem_append_left _ (List.mem_of_getElem? (i := 0) rfl))))))))
set_option maxHeartbeats 4000000 in
set_option maxRecDepth 100000 in
theorem hL_add (l : Launch) (hst : l.stackTraces = false) (G : va_G) (cI cQ : ClassId) (a na pa ta qa xa : Nat → Nat) (z : Nat → Nat → Nat) (Y : tw_Wl) (sz : Nat) (p1 : Int32) (p2 : Int32) (p3 : Int32) {rv : Int32 × tw_Wl} (h : fL_add Y p1 p2 p3 = some rv) : tw_Mh l yL_add wsL_add rhL_add G [(cI, .int), (cQ, .object RX1)] (tw_wW cI cQ a na pa ta qa xa z Y) [.ref (a 0), .int p1, .int p2, .int p3] sz rv.1 (tw_wW cI cQ a na pa ta qa xa z rv.2) := by
  obtain ⟨r, e8, h⟩ := tw_bs h
  obtain ⟨hk, h⟩ := tw_qs h
  have h := Option.some.inj h
  subst h
  refine tw_ofh (cc := cL_add) (maxL := 5) (own := RL) (by decide) rfl rfl (Nat.le_of_ble_eq_true rfl) ?_
  intro p e s m args below meth c Q A ls H locs F hN hK hP hD hS hA hl hNX hNC hU hZ htab hq
  obtain ⟨hx, hb, hml, hown, hts⟩ := id F
  have hl : lv_has ls 5 [(0, .ref (a 0)), (1, .int p1), (2, .int p2), (3, .int p3)] := hl
  refine lv_aload_n hx hb dL_add_0 rfl (lv_at hl 0 rfl) ?_
  refine lv_iload_n hx hb dL_add_1 rfl (lv_at hl 1 rfl) ?_
  refine lv_iload_n hx hb dL_add_2 rfl (lv_at hl 2 rfl) ?_
  refine lv_iload_n hx hb dL_add_3 rfl (lv_at hl 3 rfl) ?_
  rcases hk with hk | hk
  · refine tw_callViF (ws' := tw_wW cI cQ a na pa ta qa xa z r.2.2) (As := [.int p1, .int p2, .int p3]) (rest := []) F hN hK hP hD hS hA (mX3_add l G cI cQ a na pa ta qa xa z Y H.size p1 p2 p3 e8 hk) (cwV 3 hts gL_add_X3_add rfl rfl rfl (by decide +kernel) ⟨(Nat.le_of_ble_eq_true rfl), (Nat.le_of_ble_eq_true rfl)⟩) rfl (r0 := 0) (ci := 3) rfl rfl rfl rfl hl.1 rfl (Nat.le_of_ble_eq_true rfl) dL_add_4 ⟨(Nat.le_of_ble_eq_true rfl), (Nat.le_of_ble_eq_true rfl)⟩ (fun H locs hP hD hS => ?_)
    exact hq H locs _ ls _ _ _ (if_pos hk) hP hS dL_add_7 (Nat.le_of_ble_eq_true rfl) (Nat.le_of_ble_eq_true rfl)
  · refine tw_callXF (E := tw_en r.1) (wc' := tw_wW cI cQ a na pa ta qa xa z r.2.2) F hN hK hP hD hS hA hNX hU hZ (xX3_add l hst G cI cQ a na pa ta qa xa z Y H.size p1 p2 p3 e8 (by rw [hk]; decide)) (cwV 3 hts gL_add_X3_add rfl rfl rfl (by decide +kernel) ⟨(Nat.le_of_ble_eq_true rfl), (Nat.le_of_ble_eq_true rfl)⟩) [0, 1] rfl (ci := 3) (r0 := 0) rfl rfl rfl (As := [.int p1, .int p2, .int p3]) (rest := []) rfl hl.1 rfl (Nat.le_of_ble_eq_true rfl) dL_add_4 ⟨(Nat.le_of_ble_eq_true rfl), (Nat.le_of_ble_eq_true rfl)⟩ (fun ce q9 H locs hP hS hce hcv hcl => ?_)
    rw [hk] at hcl
    refine vx_catch (E := tw_E2) hown (tableOf []) ⟨0, 7, 8, 15⟩ (tableOf []) htab (fun z hz => absurd hz List.not_mem_nil) (by decide) (by decide) (hts _ qL_add_2) (va_Nw.use rfl hNX.2.2.1) hce hcv hcl ?_
    refine lv_astore (lv' := [(4, .ref q9), (0, .ref (a 0)), (1, .int p1), (2, .int p2), (3, .int p3)]) hx hb dL_add_8 hl (by decide) rfl (fun ls hl => ?_)
    refine lv_sipush (v := (-200 : Int32)) hx hb dL_add_10 (by decide) ?_
    exact hq H locs _ ls _ _ _ (if_neg (by rw [hk]; decide)) hP hS dL_add_13 (Nat.le_of_ble_eq_true rfl) (Nat.le_of_ble_eq_true rfl)
def fL_slip (Y : tw_Wl) (p1 : Int32) (p2 : Int32) : Option (Int32 × tw_Wl) := (fX3_slip Y p1 p2).bind fun r => tw_q (r.1 = 0 ∨ r.1 = 2) <| some (if r.1 = 0 then r.2.1 else (-200 : Int32), r.2.2)
abbrev rhL_slip : Room := { frames := 7, cells := 1, slots := 6, locals := 126 }
set_option maxRecDepth 20000 in
theorem qL_slip_2 : Cond.classLink RL 15 "java/lang/IllegalStateException" ∈ wsL_slip := (List.mem_cons_of_mem _ (List.mem_append_left _ (List.mem_append_left _ (List.mem_append_left _ (List.mem_append_left _ (List.mem_append_left _ (List.mem_append_left _ (List.mem_append_left _ (List.mem_of_getElem? (i := 0) rfl)))))))))
set_option maxHeartbeats 4000000 in
set_option maxRecDepth 100000 in
theorem hL_slip (l : Launch) (hst : l.stackTraces = false) (G : va_G) (cI cQ : ClassId) (a na pa ta qa xa : Nat → Nat) (z : Nat → Nat → Nat) (Y : tw_Wl) (sz : Nat) (p1 : Int32) (p2 : Int32) {rv : Int32 × tw_Wl} (h : fL_slip Y p1 p2 = some rv) : tw_Mh l yL_slip wsL_slip rhL_slip G [(cI, .int), (cQ, .object RX1)] (tw_wW cI cQ a na pa ta qa xa z Y) [.ref (a 0), .int p1, .int p2] sz rv.1 (tw_wW cI cQ a na pa ta qa xa z rv.2) := by
  obtain ⟨r, e8, h⟩ := tw_bs h
  obtain ⟨hk, h⟩ := tw_qs h
  have h := Option.some.inj h
  subst h
  refine tw_ofh (cc := cL_slip) (maxL := 4) (own := RL) (by decide) rfl rfl (Nat.le_of_ble_eq_true rfl) ?_
  intro p e s m args below meth c Q A ls H locs F hN hK hP hD hS hA hl hNX hNC hU hZ htab hq
  obtain ⟨hx, hb, hml, hown, hts⟩ := id F
  have hl : lv_has ls 4 [(0, .ref (a 0)), (1, .int p1), (2, .int p2)] := hl
  refine lv_aload_n hx hb dL_slip_0 rfl (lv_at hl 0 rfl) ?_
  refine lv_iload_n hx hb dL_slip_1 rfl (lv_at hl 1 rfl) ?_
  refine lv_iload_n hx hb dL_slip_2 rfl (lv_at hl 2 rfl) ?_
  rcases hk with hk | hk
  · refine tw_callViF (ws' := tw_wW cI cQ a na pa ta qa xa z r.2.2) (As := [.int p1, .int p2]) (rest := []) F hN hK hP hD hS hA (mX3_slip l G cI cQ a na pa ta qa xa z Y H.size p1 p2 e8 hk) (cwV 2 hts gL_slip_X3_slip rfl rfl rfl (by decide +kernel) ⟨(Nat.le_of_ble_eq_true rfl), (Nat.le_of_ble_eq_true rfl)⟩) rfl (r0 := 0) (ci := 3) rfl rfl rfl rfl hl.1 rfl (Nat.le_of_ble_eq_true rfl) dL_slip_3 ⟨(Nat.le_of_ble_eq_true rfl), (Nat.le_of_ble_eq_true rfl)⟩ (fun H locs hP hD hS => ?_)
    exact hq H locs _ ls _ _ _ (if_pos hk) hP hS dL_slip_6 (Nat.le_of_ble_eq_true rfl) (Nat.le_of_ble_eq_true rfl)
  · refine tw_callXF (E := tw_en r.1) (wc' := tw_wW cI cQ a na pa ta qa xa z r.2.2) F hN hK hP hD hS hA hNX hU hZ (xX3_slip l hst G cI cQ a na pa ta qa xa z Y H.size p1 p2 e8 (by rw [hk]; decide)) (cwV 2 hts gL_slip_X3_slip rfl rfl rfl (by decide +kernel) ⟨(Nat.le_of_ble_eq_true rfl), (Nat.le_of_ble_eq_true rfl)⟩) [0, 1] rfl (ci := 3) (r0 := 0) rfl rfl rfl (As := [.int p1, .int p2]) (rest := []) rfl hl.1 rfl (Nat.le_of_ble_eq_true rfl) dL_slip_3 ⟨(Nat.le_of_ble_eq_true rfl), (Nat.le_of_ble_eq_true rfl)⟩ (fun ce q9 H locs hP hS hce hcv hcl => ?_)
    rw [hk] at hcl
    refine vx_catch (E := tw_E2) hown (tableOf []) ⟨0, 6, 7, 15⟩ (tableOf []) htab (fun z hz => absurd hz List.not_mem_nil) (by decide) (by decide) (hts _ qL_slip_2) (va_Nw.use rfl hNX.2.2.1) hce hcv hcl ?_
    refine lv_astore_n (lv' := [(3, .ref q9), (0, .ref (a 0)), (1, .int p1), (2, .int p2)]) hx hb dL_slip_7 rfl hl (by decide) rfl (fun ls hl => ?_)
    refine lv_sipush (v := (-200 : Int32)) hx hb dL_slip_8 (by decide) ?_
    exact hq H locs _ ls _ _ _ (if_neg (by rw [hk]; decide)) hP hS dL_slip_11 (Nat.le_of_ble_eq_true rfl) (Nat.le_of_ble_eq_true rfl)
