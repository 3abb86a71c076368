/-! the law, case by case -/
set_option maxHeartbeats 4000000 in
set_option maxRecDepth 100000 in
theorem lc_ifRule {p : Program} {l : Launch} {e : Env} {s : State} {m : MethodId} {below : List Frame} {meth : Method} {c : Code} (hst : l.stackTraces = false) {b L : Nat} {xs : Nat → Int32} (C : lw_L p s m c b L xs) {Q : State → Prop} {G : va_G} {cI cQ cL : ClassId} {a na pa ta qa xa : Nat → Nat} {z : Nat → Nat → Nat} {o : Nat} {ma : Nat → Nat} {Y : tw_Wl} {f : Nat → Int64} {M : tw_Md} {H : Heap} {locs : List Loc} {cells slots : Nat} {ls : Array Slot} {x4 : Int32} (h1 : vp_in (x4 + (1 : Int32)) L) (h2 : vp_in (x4 + (2 : Int32)) L) (h3 : vp_in (x4 + (3 : Int32)) L) (hI : sp_I Y M) (hK : va_K G vwCl [(cI, .int), (cQ, .object RX1), (cL, .long)] s) (hP : va_P G vwCl (tw_LW cI cQ cL a na pa ta qa xa z o ma Y f M) H) (hD : va_D (fun q : Nat => s.heap.size ≤ q) (tw_LW cI cQ cL a na pa ta qa xa z o ma Y f M)) (hS : va_S (fun q : Nat => s.heap.size ≤ q) s.heap H locs) (hl : lv_has ls 9 [(0, .ref b), (1, .ref (a 0)), (2, .ref (ma 0)), (3, .ref o), (4, .int x4)]) (hcs : cells + 1 ≤ 601650 ∧ slots + 6 ≤ 7291155) (kk : lw_K p l e s m below meth c b Q G cI cQ cL a na pa ta qa xa z o ma x4 (cells + 1) (slots + 6)) : W p l e room_1 s m #[Value.ref b] below meth c H locs cells slots Q (F0 m 1175 ls []) := by
  obtain ⟨hx, hb, hml, hown, hts, hX, hbl, hN, hNX, hNC, hU, hZ⟩ := id C
  have F : CallFix p m c cL_law 9 s #[Value.ref b] wsL_law RL := ⟨hx, hb, hml, hown, hts⟩
  have hA : ∀ q : Nat, s.heap.size ≤ q → (fun q : Nat => s.heap.size ≤ q) q := fun _ h => h
  have hbA : ¬ (fun q : Nat => s.heap.size ≤ q) b := Nat.not_le.mpr hbl
  unfold tw_LW at hP hD
  refine lv_aload_n hx hb dL_law_1175 rfl (lv_at hl 1 rfl) ?_
  refine lv_aload_n hx hb dL_law_1176 rfl (lv_at hl 0 rfl) ?_
  refine lv_iload hx hb dL_law_1177 (lv_at hl 4 rfl) ?_
  refine lv_iconst (v := (1 : Int32)) hx hb dL_law_1179 (by decide) ?_
  refine lv_iadd hx hb dL_law_1180 ?_
  refine va_sld hx hb hX hbl hbA hS h1 dL_law_1181 ?_
  refine lv_aload_n hx hb dL_law_1182 rfl (lv_at hl 0 rfl) ?_
  refine lv_iload hx hb dL_law_1183 (lv_at hl 4 rfl) ?_
  refine lv_iconst (v := (2 : Int32)) hx hb dL_law_1185 (by decide) ?_
  refine lv_iadd hx hb dL_law_1186 ?_
  refine va_sld hx hb hX hbl hbA hS h2 dL_law_1187 ?_
  refine lv_aload_n hx hb dL_law_1188 rfl (lv_at hl 3 rfl) ?_
  obtain ⟨kc, r, Y2, rb, M2, o1, o2, hI2, o3, o4, o5, o6⟩ := sp_A_t (op_ifRule hI (xs (x4 + (1 : Int32)).toNatClampNeg) (xs (x4 + (2 : Int32)).toNatClampNeg))
  have hkc : kc = 0 ∨ kc = 1 := by
    rcases o3 with h | ⟨h, h9⟩ | ⟨h, h9⟩ | ⟨h, h9⟩
    · exact Or.inl h
    · exact Or.inr h
    · exact absurd rfl h9
    · exact absurd rfl h9
  refine lw_callH (w1' := tw_wW cI cQ a na pa ta qa xa z Y2 ++ ([(o, .inl (cL, 1, .inr (.inl (if kc = 0 then vp_updL f 0 (r).toInt64 else f))))] : va_W)) F hN hK hP hD hS hA hNX hNC hU hZ (hL_ifRule l hst G cI cQ cL a na pa ta qa xa z o Y f H.size (xs (x4 + (1 : Int32)).toNatClampNeg) (xs (x4 + (2 : Int32)).toNatClampNeg) o1 hkc) (vx_cwSW 4 hts gL_law_L_ifRule rfl rfl rfl (by decide +kernel) ⟨Nat.le_of_ble_eq_true rfl, Nat.le_of_ble_eq_true rfl⟩) [0, 1, 2] rfl lw_fO (As := [.ref (a 0), .int (xs (x4 + (1 : Int32)).toNatClampNeg), .int (xs (x4 + (2 : Int32)).toNatClampNeg), .ref o]) (rest := []) rfl hl.1 rfl (Nat.le_of_ble_eq_true rfl) dL_law_1189 hcs (fun H locs hP hD hS => ?_)
  refine lv_istore (lv' := [(5, .int (tw_hk 1 0 0 kc)), (0, .ref b), (1, .ref (a 0)), (2, .ref (ma 0)), (3, .ref o), (4, .int x4)]) hx hb dL_law_1192 hl (by decide) rfl (fun ls hl => ?_)
  refine lv_aload_n hx hb dL_law_1194 rfl (lv_at hl 3 rfl) ?_
  refine lv_aload_n hx hb dL_law_1195 rfl (lv_at hl 1 rfl) ?_
  refine lv_iload hx hb dL_law_1196 (lv_at hl 5 rfl) ?_
  refine lv_iconst (v := (1 : Int32)) hx hb dL_law_1198 (by decide) ?_
  refine lv_iadd hx hb dL_law_1199 ?_
  refine va_sld hx hb hX hbl hbA hS h1 dL_law_1200 ?_
  refine lv_aload_n hx hb dL_law_1201 rfl (lv_at hl 1 rfl) ?_
  refine lv_iload hx hb dL_law_1202 (lv_at hl 5 rfl) ?_
  refine lv_iconst (v := (2 : Int32)) hx hb dL_law_1204 (by decide) ?_
  refine lv_iadd hx hb dL_law_1205 ?_
  refine va_sld hx hb hX hbl hbA hS h2 dL_law_1206 ?_
  refine tw_callVi (ws' := (tw_wW cI cQ a na pa ta qa xa z Y2 ++ ([(o, .inl (cL, 1, .inr (.inl (if kc = 0 then vp_updL f 0 (r).toInt64 else f))))] : va_W)) ++ tw_wM cI ma M2) F hN hK hP hD hS hA (mX4_ifRule l G cI ma M H.size (xs (x4 + (1 : Int32)).toNatClampNeg) (xs (x4 + (2 : Int32)).toNatClampNeg) o2) (cwV 2 hts gL_law_X4_ifRule rfl rfl rfl (by decide +kernel) ⟨Nat.le_of_ble_eq_true rfl, Nat.le_of_ble_eq_true rfl⟩) [0] rfl ((List.range (tw_wM cI ma M).length).map (fun i => i + (tw_wW cI cQ a na pa ta qa xa z Y2 ++ ([(o, .inl (cL, 1, .inr (.inl (if kc = 0 then vp_updL f 0 (r).toInt64 else f))))] : va_W)).length)) tw_snd tw_sC lw_fM (tw_sM lw_nM) (ci := 4) (r0 := 0) rfl rfl rfl (As := [.int (xs (x4 + (1 : Int32)).toNatClampNeg), .int (xs (x4 + (2 : Int32)).toNatClampNeg)]) (rest := []) rfl hl.1 rfl (Nat.le_of_ble_eq_true rfl) dL_law_1207 hcs (fun H locs hP hD hS => ?_)
  refine lv_istore (lv' := [(6, .int rb), (5, .int (tw_hk 1 0 0 kc)), (0, .ref b), (1, .ref (a 0)), (2, .ref (ma 0)), (3, .ref o), (4, .int x4)]) hx hb dL_law_1210 hl (by decide) rfl (fun ls hl => ?_)
  refine lv_aload_n hx hb dL_law_1212 rfl (lv_at hl 4 rfl) ?_
  refine tw_callVi (rv := M2.2.2.2.2.2.2.1) (ws' := (tw_wW cI cQ a na pa ta qa xa z Y2 ++ ([(o, .inl (cL, 1, .inr (.inl (if kc = 0 then vp_updL f 0 (r).toInt64 else f))))] : va_W)) ++ (tw_wM cI ma M2)) F hN hK hP hD hS hA (mX4_thrown l G cI ma M2 H.size rfl) (cwV 0 hts gL_law_X4_thrown rfl rfl rfl (by decide +kernel) ⟨Nat.le_of_ble_eq_true rfl, Nat.le_of_ble_eq_true rfl⟩) [0] rfl ((List.range (tw_wM cI ma M2).length).map (fun i => i + (tw_wW cI cQ a na pa ta qa xa z Y2 ++ ([(o, .inl (cL, 1, .inr (.inl (if kc = 0 then vp_updL f 0 (r).toInt64 else f))))] : va_W)).length)) tw_snd tw_sC lw_fM (tw_sM lw_nM) (ci := 4) (r0 := 0) rfl rfl rfl (As := []) (rest := []) rfl hl.1 rfl (Nat.le_of_ble_eq_true rfl) dL_law_1213 hcs (fun H locs hP hD hS => ?_)
  refine lv_iload hx hb dL_law_1216 (lv_at hl 1 rfl) ?_
  refine lv_icmp_eq (tgt := 1223) hx hb dL_law_1218 (by decide) (fun _ => ?_) (fun c => absurd o4 c)
  refine lv_iload hx hb dL_law_1223 (lv_at hl 1 rfl) ?_
  refine lv_if_ne (tgt := 1240) hx hb dL_law_1225 (by decide) (fun c5 => ?_) (fun c5 => ?_)
  · refine lv_goto (tgt := 1423) hx hb dL_law_1240 (by decide) ?_
    exact kk Y2 (if kc = 0 then vp_updL f 0 (r).toInt64 else f) M2 H locs ls hI2 hP hD hS (lv_sub hl [2, 3, 4, 5, 6] rfl)
  · have hk0 : kc = 0 := Classical.byContradiction (fun q => o6 q c5)
    refine lv_aload_n hx hb dL_law_1228 rfl (lv_at hl 5 rfl) ?_
    refine lv_iconst (v := (0 : Int32)) hx hb dL_law_1229 (by decide) ?_
    refine va_lald (f := (if kc = 0 then vp_updL f 0 (r).toInt64 else f)) (n := 1) hx hb hK hP (tw_wW cI cQ a na pa ta qa xa z Y2).length 2 (by rw [List.getElem?_append_left (by rw [List.length_append]; exact Nat.lt_succ_self _)]; exact tw_get_l) rfl (i := (0 : Int32)) (tw_vin (by decide)) dL_law_1230 ?_
    refine lv_iload hx hb dL_law_1231 (lv_at hl 0 rfl) ?_
    refine lv_i2l hx hb dL_law_1233 rfl ?_
    refine W.lcmp hx hb dL_law_1234 ?_
    have he9 : lg_cmp ((if kc = 0 then vp_updL f 0 (r).toInt64 else f) (0 : Int32).toNatClampNeg) rb.toInt64 = 0 := by
      have : (if kc = 0 then vp_updL f 0 (r).toInt64 else f) (0 : Int32).toNatClampNeg = rb.toInt64 := by
        rw [if_pos hk0, ← o5 hk0]
        rfl
      rw [this]; exact lw_cmp_eq _
    refine lv_if_eq (tgt := 1240) hx hb dL_law_1235 (by decide) (fun _ => ?_) (fun c => absurd he9 c)
    refine lv_goto (tgt := 1423) hx hb dL_law_1240 (by decide) ?_
    exact kk Y2 (if kc = 0 then vp_updL f 0 (r).toInt64 else f) M2 H locs ls hI2 hP hD hS (lv_sub hl [2, 3, 4, 5, 6] rfl)
set_option maxHeartbeats 4000000 in
set_option maxRecDepth 100000 in
theorem lc_bestRule {p : Program} {l : Launch} {e : Env} {s : State} {m : MethodId} {below : List Frame} {meth : Method} {c : Code} (hst : l.stackTraces = false) {b L : Nat} {xs : Nat → Int32} (C : lw_L p s m c b L xs) {Q : State → Prop} {G : va_G} {cI cQ cL : ClassId} {a na pa ta qa xa : Nat → Nat} {z : Nat → Nat → Nat} {o : Nat} {ma : Nat → Nat} {Y : tw_Wl} {f : Nat → Int64} {M : tw_Md} {H : Heap} {locs : List Loc} {cells slots : Nat} {ls : Array Slot} {x4 : Int32} (h1 : vp_in (x4 + (1 : Int32)) L) (h2 : vp_in (x4 + (2 : Int32)) L) (h3 : vp_in (x4 + (3 : Int32)) L) (hI : sp_I Y M) (hK : va_K G vwCl [(cI, .int), (cQ, .object RX1), (cL, .long)] s) (hP : va_P G vwCl (tw_LW cI cQ cL a na pa ta qa xa z o ma Y f M) H) (hD : va_D (fun q : Nat => s.heap.size ≤ q) (tw_LW cI cQ cL a na pa ta qa xa z o ma Y f M)) (hS : va_S (fun q : Nat => s.heap.size ≤ q) s.heap H locs) (hl : lv_has ls 9 [(0, .ref b), (1, .ref (a 0)), (2, .ref (ma 0)), (3, .ref o), (4, .int x4)]) (hcs : cells + 1 ≤ 601650 ∧ slots + 6 ≤ 7291155) (kk : lw_K p l e s m below meth c b Q G cI cQ cL a na pa ta qa xa z o ma x4 (cells + 1) (slots + 6)) : W p l e room_1 s m #[Value.ref b] below meth c H locs cells slots Q (F0 m 1243 ls []) := by
  obtain ⟨hx, hb, hml, hown, hts, hX, hbl, hN, hNX, hNC, hU, hZ⟩ := id C
  have F : CallFix p m c cL_law 9 s #[Value.ref b] wsL_law RL := ⟨hx, hb, hml, hown, hts⟩
  have hA : ∀ q : Nat, s.heap.size ≤ q → (fun q : Nat => s.heap.size ≤ q) q := fun _ h => h
  have hbA : ¬ (fun q : Nat => s.heap.size ≤ q) b := Nat.not_le.mpr hbl
  unfold tw_LW at hP hD
  refine lv_aload_n hx hb dL_law_1243 rfl (lv_at hl 1 rfl) ?_
  obtain ⟨v, Y2, M2, o1, o2, hI2⟩ := op_bestRule hI
  have hP := hP
  rw [List.append_assoc] at hP hD
  refine tw_callVi (ws' := tw_wW cI cQ a na pa ta qa xa z Y2 ++ (([(o, .inl (cL, 1, .inr (.inl f)))] : va_W) ++ tw_wM cI ma M)) F hN hK hP hD hS hA (mX3_bestRule l G cI cQ a na pa ta qa xa z Y H.size o1) (cwV 0 hts gL_law_X3_bestRule rfl rfl rfl (by decide +kernel) ⟨Nat.le_of_ble_eq_true rfl, Nat.le_of_ble_eq_true rfl⟩) [0, 1] rfl (List.range (tw_wW cI cQ a na pa ta qa xa z Y).length) (tw_ndR _) tw_pC lw_fW (tw_mix_hit _ rfl lw_nW) (ci := 3) (r0 := 0) rfl rfl rfl (As := []) (rest := []) rfl hl.1 rfl (Nat.le_of_ble_eq_true rfl) dL_law_1244 ⟨Nat.le_of_lt hcs.1, Nat.le_trans (Nat.le_add_right _ 6) hcs.2⟩ (fun H locs hP hD hS => ?_)
  rw [← List.append_assoc] at hP hD
  refine lv_aload_n hx hb dL_law_1247 rfl (lv_at hl 2 rfl) ?_
  refine tw_callVi (ws' := (tw_wW cI cQ a na pa ta qa xa z Y2 ++ ([(o, .inl (cL, 1, .inr (.inl f)))] : va_W)) ++ tw_wM cI ma M2) F hN hK hP hD hS hA (mX4_bestRule l G cI ma M H.size o2) (cwV 0 hts gL_law_X4_bestRule rfl rfl rfl (by decide +kernel) ⟨Nat.le_of_ble_eq_true rfl, Nat.le_of_ble_eq_true rfl⟩) [0] rfl ((List.range (tw_wM cI ma M).length).map (fun i => i + (tw_wW cI cQ a na pa ta qa xa z Y2 ++ ([(o, .inl (cL, 1, .inr (.inl f)))] : va_W)).length)) tw_snd tw_sC lw_fM (tw_sM lw_nM) (ci := 4) (r0 := 0) rfl rfl rfl (As := []) (rest := [.int v]) rfl hl.1 rfl (Nat.le_of_ble_eq_true rfl) dL_law_1248 ⟨Nat.le_of_lt hcs.1, Nat.le_trans (Nat.le_add_right _ 6) hcs.2⟩ (fun H locs hP hD hS => ?_)
  refine lv_icmp_eq (tgt := 1423) hx hb dL_law_1251 (by decide) (fun _ => ?_) (fun c => absurd rfl c)
  refine W.widen (k := cells + 1) (n := slots + 6) (Nat.le_succ _) (Nat.le_add_right _ 6) ?_
  exact kk Y2 f M2 H locs ls hI2 hP hD hS hl
set_option maxHeartbeats 4000000 in
set_option maxRecDepth 100000 in
theorem lc_ifFreed {p : Program} {l : Launch} {e : Env} {s : State} {m : MethodId} {below : List Frame} {meth : Method} {c : Code} (hst : l.stackTraces = false) {b L : Nat} {xs : Nat → Int32} (C : lw_L p s m c b L xs) {Q : State → Prop} {G : va_G} {cI cQ cL : ClassId} {a na pa ta qa xa : Nat → Nat} {z : Nat → Nat → Nat} {o : Nat} {ma : Nat → Nat} {Y : tw_Wl} {f : Nat → Int64} {M : tw_Md} {H : Heap} {locs : List Loc} {cells slots : Nat} {ls : Array Slot} {x4 : Int32} (h1 : vp_in (x4 + (1 : Int32)) L) (h2 : vp_in (x4 + (2 : Int32)) L) (h3 : vp_in (x4 + (3 : Int32)) L) (hI : sp_I Y M) (hK : va_K G vwCl [(cI, .int), (cQ, .object RX1), (cL, .long)] s) (hP : va_P G vwCl (tw_LW cI cQ cL a na pa ta qa xa z o ma Y f M) H) (hD : va_D (fun q : Nat => s.heap.size ≤ q) (tw_LW cI cQ cL a na pa ta qa xa z o ma Y f M)) (hS : va_S (fun q : Nat => s.heap.size ≤ q) s.heap H locs) (hl : lv_has ls 9 [(0, .ref b), (1, .ref (a 0)), (2, .ref (ma 0)), (3, .ref o), (4, .int x4)]) (hcs : cells + 1 ≤ 601650 ∧ slots + 6 ≤ 7291155) (kk : lw_K p l e s m below meth c b Q G cI cQ cL a na pa ta qa xa z o ma x4 (cells + 1) (slots + 6)) : W p l e room_1 s m #[Value.ref b] below meth c H locs cells slots Q (F0 m 1256 ls []) := by
  obtain ⟨hx, hb, hml, hown, hts, hX, hbl, hN, hNX, hNC, hU, hZ⟩ := id C
  have F : CallFix p m c cL_law 9 s #[Value.ref b] wsL_law RL := ⟨hx, hb, hml, hown, hts⟩
  have hA : ∀ q : Nat, s.heap.size ≤ q → (fun q : Nat => s.heap.size ≤ q) q := fun _ h => h
  have hbA : ¬ (fun q : Nat => s.heap.size ≤ q) b := Nat.not_le.mpr hbl
  unfold tw_LW at hP hD
  refine lv_aload_n hx hb dL_law_1256 rfl (lv_at hl 1 rfl) ?_
  refine lv_aload_n hx hb dL_law_1257 rfl (lv_at hl 0 rfl) ?_
  refine lv_iload hx hb dL_law_1258 (lv_at hl 4 rfl) ?_
  refine lv_iconst (v := (1 : Int32)) hx hb dL_law_1260 (by decide) ?_
  refine lv_iadd hx hb dL_law_1261 ?_
  refine va_sld hx hb hX hbl hbA hS h1 dL_law_1262 ?_
  refine lv_aload_n hx hb dL_law_1263 rfl (lv_at hl 3 rfl) ?_
  obtain ⟨kc, r, Y2, rb, M2, o1, o2, hI2, o3, o4, o5, o6⟩ := sp_A_t (op_ifFreed hI (xs (x4 + (1 : Int32)).toNatClampNeg))
  have hkc : kc = 0 ∨ kc = 3 := by
    rcases o3 with h | ⟨h, h9⟩ | ⟨h, h9⟩ | ⟨h, h9⟩
    · exact Or.inl h
    · exact absurd rfl h9
    · exact absurd rfl h9
    · exact Or.inr h
  refine lw_callH (w1' := tw_wW cI cQ a na pa ta qa xa z Y2 ++ ([(o, .inl (cL, 1, .inr (.inl (if kc = 0 then vp_updL f 0 (r).toInt64 else f))))] : va_W)) F hN hK hP hD hS hA hNX hNC hU hZ (hL_ifFreed l hst G cI cQ cL a na pa ta qa xa z o Y f H.size (xs (x4 + (1 : Int32)).toNatClampNeg) o1 hkc) (vx_cwSW 3 hts gL_law_L_ifFreed rfl rfl rfl (by decide +kernel) ⟨Nat.le_of_ble_eq_true rfl, Nat.le_of_ble_eq_true rfl⟩) [0, 1, 2] rfl lw_fO (As := [.ref (a 0), .int (xs (x4 + (1 : Int32)).toNatClampNeg), .ref o]) (rest := []) rfl hl.1 rfl (Nat.le_of_ble_eq_true rfl) dL_law_1264 hcs (fun H locs hP hD hS => ?_)
  refine lv_istore (lv' := [(5, .int (tw_hk 0 0 1 kc)), (0, .ref b), (1, .ref (a 0)), (2, .ref (ma 0)), (3, .ref o), (4, .int x4)]) hx hb dL_law_1267 hl (by decide) rfl (fun ls hl => ?_)
  refine lv_aload_n hx hb dL_law_1269 rfl (lv_at hl 3 rfl) ?_
  refine lv_aload_n hx hb dL_law_1270 rfl (lv_at hl 1 rfl) ?_
  refine lv_iload hx hb dL_law_1271 (lv_at hl 5 rfl) ?_
  refine lv_iconst (v := (1 : Int32)) hx hb dL_law_1273 (by decide) ?_
  refine lv_iadd hx hb dL_law_1274 ?_
  refine va_sld hx hb hX hbl hbA hS h1 dL_law_1275 ?_
  refine tw_callVi (ws' := (tw_wW cI cQ a na pa ta qa xa z Y2 ++ ([(o, .inl (cL, 1, .inr (.inl (if kc = 0 then vp_updL f 0 (r).toInt64 else f))))] : va_W)) ++ tw_wM cI ma M2) F hN hK hP hD hS hA (mX4_ifFreed l G cI ma M H.size (xs (x4 + (1 : Int32)).toNatClampNeg) o2) (cwV 1 hts gL_law_X4_ifFreed rfl rfl rfl (by decide +kernel) ⟨Nat.le_of_ble_eq_true rfl, Nat.le_of_ble_eq_true rfl⟩) [0] rfl ((List.range (tw_wM cI ma M).length).map (fun i => i + (tw_wW cI cQ a na pa ta qa xa z Y2 ++ ([(o, .inl (cL, 1, .inr (.inl (if kc = 0 then vp_updL f 0 (r).toInt64 else f))))] : va_W)).length)) tw_snd tw_sC lw_fM (tw_sM lw_nM) (ci := 4) (r0 := 0) rfl rfl rfl (As := [.int (xs (x4 + (1 : Int32)).toNatClampNeg)]) (rest := []) rfl hl.1 rfl (Nat.le_of_ble_eq_true rfl) dL_law_1276 hcs (fun H locs hP hD hS => ?_)
  refine lv_istore (lv' := [(6, .int rb), (5, .int (tw_hk 0 0 1 kc)), (0, .ref b), (1, .ref (a 0)), (2, .ref (ma 0)), (3, .ref o), (4, .int x4)]) hx hb dL_law_1279 hl (by decide) rfl (fun ls hl => ?_)
  refine lv_aload_n hx hb dL_law_1281 rfl (lv_at hl 4 rfl) ?_
  refine tw_callVi (rv := M2.2.2.2.2.2.2.1) (ws' := (tw_wW cI cQ a na pa ta qa xa z Y2 ++ ([(o, .inl (cL, 1, .inr (.inl (if kc = 0 then vp_updL f 0 (r).toInt64 else f))))] : va_W)) ++ (tw_wM cI ma M2)) F hN hK hP hD hS hA (mX4_thrown l G cI ma M2 H.size rfl) (cwV 0 hts gL_law_X4_thrown rfl rfl rfl (by decide +kernel) ⟨Nat.le_of_ble_eq_true rfl, Nat.le_of_ble_eq_true rfl⟩) [0] rfl ((List.range (tw_wM cI ma M2).length).map (fun i => i + (tw_wW cI cQ a na pa ta qa xa z Y2 ++ ([(o, .inl (cL, 1, .inr (.inl (if kc = 0 then vp_updL f 0 (r).toInt64 else f))))] : va_W)).length)) tw_snd tw_sC lw_fM (tw_sM lw_nM) (ci := 4) (r0 := 0) rfl rfl rfl (As := []) (rest := []) rfl hl.1 rfl (Nat.le_of_ble_eq_true rfl) dL_law_1282 hcs (fun H locs hP hD hS => ?_)
  refine lv_iload hx hb dL_law_1285 (lv_at hl 1 rfl) ?_
  refine lv_icmp_eq (tgt := 1292) hx hb dL_law_1287 (by decide) (fun _ => ?_) (fun c => absurd o4 c)
  refine lv_iload hx hb dL_law_1292 (lv_at hl 1 rfl) ?_
  refine lv_if_ne (tgt := 1309) hx hb dL_law_1294 (by decide) (fun c5 => ?_) (fun c5 => ?_)
  · refine lv_goto (tgt := 1423) hx hb dL_law_1309 (by decide) ?_
    exact kk Y2 (if kc = 0 then vp_updL f 0 (r).toInt64 else f) M2 H locs ls hI2 hP hD hS (lv_sub hl [2, 3, 4, 5, 6] rfl)
  · have hk0 : kc = 0 := Classical.byContradiction (fun q => o6 q c5)
    refine lv_aload_n hx hb dL_law_1297 rfl (lv_at hl 5 rfl) ?_
    refine lv_iconst (v := (0 : Int32)) hx hb dL_law_1298 (by decide) ?_
    refine va_lald (f := (if kc = 0 then vp_updL f 0 (r).toInt64 else f)) (n := 1) hx hb hK hP (tw_wW cI cQ a na pa ta qa xa z Y2).length 2 (by rw [List.getElem?_append_left (by rw [List.length_append]; exact Nat.lt_succ_self _)]; exact tw_get_l) rfl (i := (0 : Int32)) (tw_vin (by decide)) dL_law_1299 ?_
    refine lv_iload hx hb dL_law_1300 (lv_at hl 0 rfl) ?_
    refine lv_i2l hx hb dL_law_1302 rfl ?_
    refine W.lcmp hx hb dL_law_1303 ?_
    have he9 : lg_cmp ((if kc = 0 then vp_updL f 0 (r).toInt64 else f) (0 : Int32).toNatClampNeg) rb.toInt64 = 0 := by
      have : (if kc = 0 then vp_updL f 0 (r).toInt64 else f) (0 : Int32).toNatClampNeg = rb.toInt64 := by
        rw [if_pos hk0, ← o5 hk0]
        rfl
      rw [this]; exact lw_cmp_eq _
    refine lv_if_eq (tgt := 1309) hx hb dL_law_1304 (by decide) (fun _ => ?_) (fun c => absurd he9 c)
    refine lv_goto (tgt := 1423) hx hb dL_law_1309 (by decide) ?_
    exact kk Y2 (if kc = 0 then vp_updL f 0 (r).toInt64 else f) M2 H locs ls hI2 hP hD hS (lv_sub hl [2, 3, 4, 5, 6] rfl)
set_option maxHeartbeats 4000000 in
set_option maxRecDepth 100000 in
theorem lc_worstSlip {p : Program} {l : Launch} {e : Env} {s : State} {m : MethodId} {below : List Frame} {meth : Method} {c : Code} (hst : l.stackTraces = false) {b L : Nat} {xs : Nat → Int32} (C : lw_L p s m c b L xs) {Q : State → Prop} {G : va_G} {cI cQ cL : ClassId} {a na pa ta qa xa : Nat → Nat} {z : Nat → Nat → Nat} {o : Nat} {ma : Nat → Nat} {Y : tw_Wl} {f : Nat → Int64} {M : tw_Md} {H : Heap} {locs : List Loc} {cells slots : Nat} {ls : Array Slot} {x4 : Int32} (h1 : vp_in (x4 + (1 : Int32)) L) (h2 : vp_in (x4 + (2 : Int32)) L) (h3 : vp_in (x4 + (3 : Int32)) L) (hI : sp_I Y M) (hK : va_K G vwCl [(cI, .int), (cQ, .object RX1), (cL, .long)] s) (hP : va_P G vwCl (tw_LW cI cQ cL a na pa ta qa xa z o ma Y f M) H) (hD : va_D (fun q : Nat => s.heap.size ≤ q) (tw_LW cI cQ cL a na pa ta qa xa z o ma Y f M)) (hS : va_S (fun q : Nat => s.heap.size ≤ q) s.heap H locs) (hl : lv_has ls 9 [(0, .ref b), (1, .ref (a 0)), (2, .ref (ma 0)), (3, .ref o), (4, .int x4)]) (hcs : cells + 1 ≤ 601650 ∧ slots + 6 ≤ 7291155) (kk : lw_K p l e s m below meth c b Q G cI cQ cL a na pa ta qa xa z o ma x4 (cells + 1) (slots + 6)) : W p l e room_1 s m #[Value.ref b] below meth c H locs cells slots Q (F0 m 1312 ls []) := by
  obtain ⟨hx, hb, hml, hown, hts, hX, hbl, hN, hNX, hNC, hU, hZ⟩ := id C
  have F : CallFix p m c cL_law 9 s #[Value.ref b] wsL_law RL := ⟨hx, hb, hml, hown, hts⟩
  have hA : ∀ q : Nat, s.heap.size ≤ q → (fun q : Nat => s.heap.size ≤ q) q := fun _ h => h
  have hbA : ¬ (fun q : Nat => s.heap.size ≤ q) b := Nat.not_le.mpr hbl
  unfold tw_LW at hP hD
  refine lv_aload_n hx hb dL_law_1312 rfl (lv_at hl 1 rfl) ?_
  refine lv_aload_n hx hb dL_law_1313 rfl (lv_at hl 0 rfl) ?_
  refine lv_iload hx hb dL_law_1314 (lv_at hl 4 rfl) ?_
  refine lv_iconst (v := (1 : Int32)) hx hb dL_law_1316 (by decide) ?_
  refine lv_iadd hx hb dL_law_1317 ?_
  refine va_sld hx hb hX hbl hbA hS h1 dL_law_1318 ?_
  refine lv_aload_n hx hb dL_law_1319 rfl (lv_at hl 3 rfl) ?_
  obtain ⟨kc, r, Y2, rb, M2, o1, o2, hI2, o3, o4, o5, o6⟩ := sp_A_t (op_worstSlip hI (xs (x4 + (1 : Int32)).toNatClampNeg))
  have hkc : kc = 0 ∨ kc = 1 := by
    rcases o3 with h | ⟨h, h9⟩ | ⟨h, h9⟩ | ⟨h, h9⟩
    · exact Or.inl h
    · exact Or.inr h
    · exact absurd rfl h9
    · exact absurd rfl h9
  refine lw_callH (w1' := tw_wW cI cQ a na pa ta qa xa z Y2 ++ ([(o, .inl (cL, 1, .inr (.inl (if kc = 0 then vp_updL f 0 (r).toInt64 else f))))] : va_W)) F hN hK hP hD hS hA hNX hNC hU hZ (hL_worstSlip l hst G cI cQ cL a na pa ta qa xa z o Y f H.size (xs (x4 + (1 : Int32)).toNatClampNeg) o1 hkc) (vx_cwSW 3 hts gL_law_L_worstSlip rfl rfl rfl (by decide +kernel) ⟨Nat.le_of_ble_eq_true rfl, Nat.le_of_ble_eq_true rfl⟩) [0, 1, 2] rfl lw_fO (As := [.ref (a 0), .int (xs (x4 + (1 : Int32)).toNatClampNeg), .ref o]) (rest := []) rfl hl.1 rfl (Nat.le_of_ble_eq_true rfl) dL_law_1320 hcs (fun H locs hP hD hS => ?_)
  refine lv_istore (lv' := [(5, .int (tw_hk 1 0 0 kc)), (0, .ref b), (1, .ref (a 0)), (2, .ref (ma 0)), (3, .ref o), (4, .int x4)]) hx hb dL_law_1323 hl (by decide) rfl (fun ls hl => ?_)
  refine lv_aload_n hx hb dL_law_1325 rfl (lv_at hl 3 rfl) ?_
  refine lv_aload_n hx hb dL_law_1326 rfl (lv_at hl 1 rfl) ?_
  refine lv_iload hx hb dL_law_1327 (lv_at hl 5 rfl) ?_
  refine lv_iconst (v := (1 : Int32)) hx hb dL_law_1329 (by decide) ?_
  refine lv_iadd hx hb dL_law_1330 ?_
  refine va_sld hx hb hX hbl hbA hS h1 dL_law_1331 ?_
  refine tw_callVi (ws' := (tw_wW cI cQ a na pa ta qa xa z Y2 ++ ([(o, .inl (cL, 1, .inr (.inl (if kc = 0 then vp_updL f 0 (r).toInt64 else f))))] : va_W)) ++ tw_wM cI ma M2) F hN hK hP hD hS hA (mX4_worstSlip l G cI ma M H.size (xs (x4 + (1 : Int32)).toNatClampNeg) o2) (cwV 1 hts gL_law_X4_worstSlip rfl rfl rfl (by decide +kernel) ⟨Nat.le_of_ble_eq_true rfl, Nat.le_of_ble_eq_true rfl⟩) [0] rfl ((List.range (tw_wM cI ma M).length).map (fun i => i + (tw_wW cI cQ a na pa ta qa xa z Y2 ++ ([(o, .inl (cL, 1, .inr (.inl (if kc = 0 then vp_updL f 0 (r).toInt64 else f))))] : va_W)).length)) tw_snd tw_sC lw_fM (tw_sM lw_nM) (ci := 4) (r0 := 0) rfl rfl rfl (As := [.int (xs (x4 + (1 : Int32)).toNatClampNeg)]) (rest := []) rfl hl.1 rfl (Nat.le_of_ble_eq_true rfl) dL_law_1332 hcs (fun H locs hP hD hS => ?_)
  refine lv_istore (lv' := [(6, .int rb), (5, .int (tw_hk 1 0 0 kc)), (0, .ref b), (1, .ref (a 0)), (2, .ref (ma 0)), (3, .ref o), (4, .int x4)]) hx hb dL_law_1335 hl (by decide) rfl (fun ls hl => ?_)
  refine lv_aload_n hx hb dL_law_1337 rfl (lv_at hl 4 rfl) ?_
  refine tw_callVi (rv := M2.2.2.2.2.2.2.1) (ws' := (tw_wW cI cQ a na pa ta qa xa z Y2 ++ ([(o, .inl (cL, 1, .inr (.inl (if kc = 0 then vp_updL f 0 (r).toInt64 else f))))] : va_W)) ++ (tw_wM cI ma M2)) F hN hK hP hD hS hA (mX4_thrown l G cI ma M2 H.size rfl) (cwV 0 hts gL_law_X4_thrown rfl rfl rfl (by decide +kernel) ⟨Nat.le_of_ble_eq_true rfl, Nat.le_of_ble_eq_true rfl⟩) [0] rfl ((List.range (tw_wM cI ma M2).length).map (fun i => i + (tw_wW cI cQ a na pa ta qa xa z Y2 ++ ([(o, .inl (cL, 1, .inr (.inl (if kc = 0 then vp_updL f 0 (r).toInt64 else f))))] : va_W)).length)) tw_snd tw_sC lw_fM (tw_sM lw_nM) (ci := 4) (r0 := 0) rfl rfl rfl (As := []) (rest := []) rfl hl.1 rfl (Nat.le_of_ble_eq_true rfl) dL_law_1338 hcs (fun H locs hP hD hS => ?_)
  refine lv_iload hx hb dL_law_1341 (lv_at hl 1 rfl) ?_
  refine lv_icmp_eq (tgt := 1348) hx hb dL_law_1343 (by decide) (fun _ => ?_) (fun c => absurd o4 c)
  refine lv_iload hx hb dL_law_1348 (lv_at hl 1 rfl) ?_
  refine lv_if_ne (tgt := 1365) hx hb dL_law_1350 (by decide) (fun c5 => ?_) (fun c5 => ?_)
  · refine lv_goto (tgt := 1423) hx hb dL_law_1365 (by decide) ?_
    exact kk Y2 (if kc = 0 then vp_updL f 0 (r).toInt64 else f) M2 H locs ls hI2 hP hD hS (lv_sub hl [2, 3, 4, 5, 6] rfl)
  · have hk0 : kc = 0 := Classical.byContradiction (fun q => o6 q c5)
    refine lv_aload_n hx hb dL_law_1353 rfl (lv_at hl 5 rfl) ?_
    refine lv_iconst (v := (0 : Int32)) hx hb dL_law_1354 (by decide) ?_
    refine va_lald (f := (if kc = 0 then vp_updL f 0 (r).toInt64 else f)) (n := 1) hx hb hK hP (tw_wW cI cQ a na pa ta qa xa z Y2).length 2 (by rw [List.getElem?_append_left (by rw [List.length_append]; exact Nat.lt_succ_self _)]; exact tw_get_l) rfl (i := (0 : Int32)) (tw_vin (by decide)) dL_law_1355 ?_
    refine lv_iload hx hb dL_law_1356 (lv_at hl 0 rfl) ?_
    refine lv_i2l hx hb dL_law_1358 rfl ?_
    refine W.lcmp hx hb dL_law_1359 ?_
    have he9 : lg_cmp ((if kc = 0 then vp_updL f 0 (r).toInt64 else f) (0 : Int32).toNatClampNeg) rb.toInt64 = 0 := by
      have : (if kc = 0 then vp_updL f 0 (r).toInt64 else f) (0 : Int32).toNatClampNeg = rb.toInt64 := by
        rw [if_pos hk0, ← o5 hk0]
        rfl
      rw [this]; exact lw_cmp_eq _
    refine lv_if_eq (tgt := 1365) hx hb dL_law_1360 (by decide) (fun _ => ?_) (fun c => absurd he9 c)
    refine lv_goto (tgt := 1423) hx hb dL_law_1365 (by decide) ?_
    exact kk Y2 (if kc = 0 then vp_updL f 0 (r).toInt64 else f) M2 H locs ls hI2 hP hD hS (lv_sub hl [2, 3, 4, 5, 6] rfl)
set_option maxHeartbeats 4000000 in
set_option maxRecDepth 100000 in
theorem lc_busyness {p : Program} {l : Launch} {e : Env} {s : State} {m : MethodId} {below : List Frame} {meth : Method} {c : Code} (hst : l.stackTraces = false) {b L : Nat} {xs : Nat → Int32} (C : lw_L p s m c b L xs) {Q : State → Prop} {G : va_G} {cI cQ cL : ClassId} {a na pa ta qa xa : Nat → Nat} {z : Nat → Nat → Nat} {o : Nat} {ma : Nat → Nat} {Y : tw_Wl} {f : Nat → Int64} {M : tw_Md} {H : Heap} {locs : List Loc} {cells slots : Nat} {ls : Array Slot} {x4 : Int32} (h1 : vp_in (x4 + (1 : Int32)) L) (h2 : vp_in (x4 + (2 : Int32)) L) (h3 : vp_in (x4 + (3 : Int32)) L) (hI : sp_I Y M) (hK : va_K G vwCl [(cI, .int), (cQ, .object RX1), (cL, .long)] s) (hP : va_P G vwCl (tw_LW cI cQ cL a na pa ta qa xa z o ma Y f M) H) (hD : va_D (fun q : Nat => s.heap.size ≤ q) (tw_LW cI cQ cL a na pa ta qa xa z o ma Y f M)) (hS : va_S (fun q : Nat => s.heap.size ≤ q) s.heap H locs) (hl : lv_has ls 9 [(0, .ref b), (1, .ref (a 0)), (2, .ref (ma 0)), (3, .ref o), (4, .int x4)]) (hcs : cells + 1 ≤ 601650 ∧ slots + 6 ≤ 7291155) (kk : lw_K p l e s m below meth c b Q G cI cQ cL a na pa ta qa xa z o ma x4 (cells + 1) (slots + 6)) : W p l e room_1 s m #[Value.ref b] below meth c H locs cells slots Q (F0 m 1368 ls []) := by
  obtain ⟨hx, hb, hml, hown, hts, hX, hbl, hN, hNX, hNC, hU, hZ⟩ := id C
  have F : CallFix p m c cL_law 9 s #[Value.ref b] wsL_law RL := ⟨hx, hb, hml, hown, hts⟩
  have hA : ∀ q : Nat, s.heap.size ≤ q → (fun q : Nat => s.heap.size ≤ q) q := fun _ h => h
  have hbA : ¬ (fun q : Nat => s.heap.size ≤ q) b := Nat.not_le.mpr hbl
  unfold tw_LW at hP hD
  refine lv_aload_n hx hb dL_law_1368 rfl (lv_at hl 1 rfl) ?_
  obtain ⟨v, M2, o1, o2, hI2⟩ := op_busyness hI
  have hP := hP
  rw [List.append_assoc] at hP hD
  refine tw_callVd (ws' := tw_wW cI cQ a na pa ta qa xa z Y ++ (([(o, .inl (cL, 1, .inr (.inl f)))] : va_W) ++ tw_wM cI ma M)) F hN hK hP hD hS hA (mX3_busyness l G cI cQ a na pa ta qa xa z Y H.size o1) (cwV 0 hts gL_law_X3_busyness rfl rfl rfl (by decide +kernel) ⟨Nat.le_of_ble_eq_true rfl, Nat.le_of_ble_eq_true rfl⟩) [0, 1] rfl (List.range (tw_wW cI cQ a na pa ta qa xa z Y).length) (tw_ndR _) tw_pC lw_fW (tw_mix_hit _ rfl lw_nW) (ci := 3) (r0 := 0) rfl rfl rfl (As := []) (rest := []) rfl hl.1 rfl (Nat.le_of_ble_eq_true rfl) dL_law_1369 ⟨Nat.le_of_lt hcs.1, Nat.le_trans (Nat.le_add_right _ 6) hcs.2⟩ (fun H locs hP hD hS => ?_)
  rw [← List.append_assoc] at hP hD
  refine lv_dstore (lv' := [(5, .double v), (0, .ref b), (1, .ref (a 0)), (2, .ref (ma 0)), (3, .ref o), (4, .int x4)]) hx hb dL_law_1372 hl (by decide) rfl (fun ls hl => ?_)
  refine lv_aload_n hx hb dL_law_1374 rfl (lv_at hl 3 rfl) ?_
  refine tw_callVd (ws' := (tw_wW cI cQ a na pa ta qa xa z Y ++ ([(o, .inl (cL, 1, .inr (.inl f)))] : va_W)) ++ tw_wM cI ma M2) F hN hK hP hD hS hA (mX4_busyness l G cI ma M H.size o2) (cwV 0 hts gL_law_X4_busyness rfl rfl rfl (by decide +kernel) ⟨Nat.le_of_ble_eq_true rfl, Nat.le_of_ble_eq_true rfl⟩) [0] rfl ((List.range (tw_wM cI ma M).length).map (fun i => i + (tw_wW cI cQ a na pa ta qa xa z Y ++ ([(o, .inl (cL, 1, .inr (.inl f)))] : va_W)).length)) tw_snd tw_sC lw_fM (tw_sM lw_nM) (ci := 4) (r0 := 0) rfl rfl rfl (As := []) (rest := []) rfl hl.1 rfl (Nat.le_of_ble_eq_true rfl) dL_law_1375 ⟨Nat.le_of_lt hcs.1, Nat.le_trans (Nat.le_add_right _ 6) hcs.2⟩ (fun H locs hP hD hS => ?_)
  refine lv_dstore (lv' := [(7, .double v), (5, .double v), (0, .ref b), (1, .ref (a 0)), (2, .ref (ma 0)), (3, .ref o), (4, .int x4)]) hx hb dL_law_1378 hl (by decide) rfl (fun ls hl => ?_)
  refine lv_dload hx hb dL_law_1380 (lv_at hl 1 rfl) ?_
  refine lv_dload hx hb dL_law_1382 (lv_at hl 0 rfl) ?_
  refine lv_dcmp hx hb dL_law_1384 ?_
  refine lv_if_eq (tgt := 1406) hx hb dL_law_1385 (by decide) (fun _ => ?_) (fun c7 => ?_)
  · refine lv_goto (tgt := 1423) hx hb dL_law_1406 (by decide) ?_
    refine W.widen (k := cells + 1) (n := slots + 6) (Nat.le_succ _) (Nat.le_add_right _ 6) ?_
    exact kk Y f M2 H locs ls hI2 hP hD hS (lv_sub hl [2, 3, 4, 5, 6] rfl)
  · refine lv_dload hx hb dL_law_1388 (lv_at hl 1 rfl) ?_
    refine lv_dload hx hb dL_law_1390 (lv_at hl 1 rfl) ?_
    refine lv_dcmp hx hb dL_law_1392 ?_
    refine lv_if_eq (tgt := 1404) hx hb dL_law_1393 (by decide) (fun c => absurd c c7) (fun _ => ?_)
    refine lv_dload hx hb dL_law_1396 (lv_at hl 0 rfl) ?_
    refine lv_dload hx hb dL_law_1398 (lv_at hl 0 rfl) ?_
    refine lv_dcmp hx hb dL_law_1400 ?_
    refine lv_if_ne (tgt := 1406) hx hb dL_law_1401 (by decide) (fun _ => ?_) (fun c => absurd c c7)
    refine lv_goto (tgt := 1423) hx hb dL_law_1406 (by decide) ?_
    refine W.widen (k := cells + 1) (n := slots + 6) (Nat.le_succ _) (Nat.le_add_right _ 6) ?_
    exact kk Y f M2 H locs ls hI2 hP hD hS (lv_sub hl [2, 3, 4, 5, 6] rfl)
set_option maxHeartbeats 4000000 in
set_option maxRecDepth 100000 in
theorem lc_digest {p : Program} {l : Launch} {e : Env} {s : State} {m : MethodId} {below : List Frame} {meth : Method} {c : Code} (hst : l.stackTraces = false) {b L : Nat} {xs : Nat → Int32} (C : lw_L p s m c b L xs) {Q : State → Prop} {G : va_G} {cI cQ cL : ClassId} {a na pa ta qa xa : Nat → Nat} {z : Nat → Nat → Nat} {o : Nat} {ma : Nat → Nat} {Y : tw_Wl} {f : Nat → Int64} {M : tw_Md} {H : Heap} {locs : List Loc} {cells slots : Nat} {ls : Array Slot} {x4 : Int32} (h1 : vp_in (x4 + (1 : Int32)) L) (h2 : vp_in (x4 + (2 : Int32)) L) (h3 : vp_in (x4 + (3 : Int32)) L) (hI : sp_I Y M) (hK : va_K G vwCl [(cI, .int), (cQ, .object RX1), (cL, .long)] s) (hP : va_P G vwCl (tw_LW cI cQ cL a na pa ta qa xa z o ma Y f M) H) (hD : va_D (fun q : Nat => s.heap.size ≤ q) (tw_LW cI cQ cL a na pa ta qa xa z o ma Y f M)) (hS : va_S (fun q : Nat => s.heap.size ≤ q) s.heap H locs) (hl : lv_has ls 9 [(0, .ref b), (1, .ref (a 0)), (2, .ref (ma 0)), (3, .ref o), (4, .int x4)]) (hcs : cells + 1 ≤ 601650 ∧ slots + 6 ≤ 7291155) (kk : lw_K p l e s m below meth c b Q G cI cQ cL a na pa ta qa xa z o ma x4 (cells + 1) (slots + 6)) : W p l e room_1 s m #[Value.ref b] below meth c H locs cells slots Q (F0 m 1409 ls []) := by
  obtain ⟨hx, hb, hml, hown, hts, hX, hbl, hN, hNX, hNC, hU, hZ⟩ := id C
  have F : CallFix p m c cL_law 9 s #[Value.ref b] wsL_law RL := ⟨hx, hb, hml, hown, hts⟩
  have hA : ∀ q : Nat, s.heap.size ≤ q → (fun q : Nat => s.heap.size ≤ q) q := fun _ h => h
  have hbA : ¬ (fun q : Nat => s.heap.size ≤ q) b := Nat.not_le.mpr hbl
  unfold tw_LW at hP hD
  refine lv_aload_n hx hb dL_law_1409 rfl (lv_at hl 1 rfl) ?_
  obtain ⟨v, Y2, M2, o1, o2, hI2⟩ := op_digest hI
  have hP := hP
  rw [List.append_assoc] at hP hD
  refine tw_callVl (ws' := tw_wW cI cQ a na pa ta qa xa z Y2 ++ (([(o, .inl (cL, 1, .inr (.inl f)))] : va_W) ++ tw_wM cI ma M)) F hN hK hP hD hS hA (mX3_digest l G cI cQ a na pa ta qa xa z Y H.size o1) (cwV 0 hts gL_law_X3_digest rfl rfl rfl (by decide +kernel) ⟨Nat.le_of_ble_eq_true rfl, Nat.le_of_ble_eq_true rfl⟩) [0, 1] rfl (List.range (tw_wW cI cQ a na pa ta qa xa z Y).length) (tw_ndR _) tw_pC lw_fW (tw_mix_hit _ rfl lw_nW) (ci := 3) (r0 := 0) rfl rfl rfl (As := []) (rest := []) rfl hl.1 rfl (Nat.le_of_ble_eq_true rfl) dL_law_1410 ⟨Nat.le_of_lt hcs.1, Nat.le_trans (Nat.le_add_right _ 6) hcs.2⟩ (fun H locs hP hD hS => ?_)
  rw [← List.append_assoc] at hP hD
  refine lv_aload_n hx hb dL_law_1413 rfl (lv_at hl 2 rfl) ?_
  refine tw_callVl (ws' := (tw_wW cI cQ a na pa ta qa xa z Y2 ++ ([(o, .inl (cL, 1, .inr (.inl f)))] : va_W)) ++ tw_wM cI ma M2) F hN hK hP hD hS hA (mX4_digest l G cI ma M H.size o2) (cwV 0 hts gL_law_X4_digest rfl rfl rfl (by decide +kernel) ⟨Nat.le_of_ble_eq_true rfl, Nat.le_of_ble_eq_true rfl⟩) [0] rfl ((List.range (tw_wM cI ma M).length).map (fun i => i + (tw_wW cI cQ a na pa ta qa xa z Y2 ++ ([(o, .inl (cL, 1, .inr (.inl f)))] : va_W)).length)) tw_snd tw_sC lw_fM (tw_sM lw_nM) (ci := 4) (r0 := 0) rfl rfl rfl (As := []) (rest := [.long v]) rfl hl.1 rfl (Nat.le_of_ble_eq_true rfl) dL_law_1414 ⟨Nat.le_of_lt hcs.1, Nat.le_trans (Nat.le_add_right _ 6) hcs.2⟩ (fun H locs hP hD hS => ?_)
  refine W.lcmp hx hb dL_law_1417 ?_
  refine lv_if_eq (tgt := 1423) hx hb dL_law_1418 (by decide) (fun _ => ?_) (fun c => absurd (lw_cmp_eq _) c)
  refine W.widen (k := cells + 1) (n := slots + 6) (Nat.le_succ _) (Nat.le_add_right _ 6) ?_
  exact kk Y2 f M2 H locs ls hI2 hP hD hS hl
