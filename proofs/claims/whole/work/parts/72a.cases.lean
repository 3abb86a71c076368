/-! the law, case by case -/
set_option maxHeartbeats 4000000 in
set_option maxRecDepth 100000 in
theorem lc_add {p : Program} {l : Launch} {e : Env} {s : State} {m : MethodId} {below : List Frame} {meth : Method} {c : Code} (hst : l.stackTraces = false) {b L : Nat} {xs : Nat → Int32} (C : lw_L p s m c b L xs) {Q : State → Prop} {G : va_G} {cI cQ cL : ClassId} {a na pa ta qa xa : Nat → Nat} {z : Nat → Nat → Nat} {o : Nat} {ma : Nat → Nat} {Y : tw_Wl} {f : Nat → Int64} {M : tw_Md} {H : Heap} {locs : List Loc} {cells slots : Nat} {ls : Array Slot} {x4 : Int32} (h1 : vp_in (x4 + (1 : Int32)) L) (h2 : vp_in (x4 + (2 : Int32)) L) (h3 : vp_in (x4 + (3 : Int32)) L) (hI : sp_I Y M) (hK : va_K G vwCl [(cI, .int), (cQ, .object RX1), (cL, .long)] s) (hP : va_P G vwCl (tw_LW cI cQ cL a na pa ta qa xa z o ma Y f M) H) (hD : va_D (fun q : Nat => s.heap.size ≤ q) (tw_LW cI cQ cL a na pa ta qa xa z o ma Y f M)) (hS : va_S (fun q : Nat => s.heap.size ≤ q) s.heap H locs) (hl : lv_has ls 9 [(0, .ref b), (1, .ref (a 0)), (2, .ref (ma 0)), (3, .ref o), (4, .int x4)]) (hcs : cells + 1 ≤ 601650 ∧ slots + 6 ≤ 7291155) (kk : lw_K p l e s m below meth c b Q G cI cQ cL a na pa ta qa xa z o ma x4 (cells + 1) (slots + 6)) : W p l e room_1 s m #[Value.ref b] below meth c H locs cells slots Q (F0 m 148 ls []) := by
  obtain ⟨hx, hb, hml, hown, hts, hX, hbl, hN, hNX, hNC, hU, hZ⟩ := id C
  have F : CallFix p m c cL_law 9 s #[Value.ref b] wsL_law RL := ⟨hx, hb, hml, hown, hts⟩
  have hA : ∀ q : Nat, s.heap.size ≤ q → (fun q : Nat => s.heap.size ≤ q) q := fun _ h => h
  have hbA : ¬ (fun q : Nat => s.heap.size ≤ q) b := Nat.not_le.mpr hbl
  unfold tw_LW at hP hD
  refine lv_aload_n hx hb dL_law_148 rfl (lv_at hl 1 rfl) ?_
  refine lv_aload_n hx hb dL_law_149 rfl (lv_at hl 0 rfl) ?_
  refine lv_iload hx hb dL_law_150 (lv_at hl 4 rfl) ?_
  refine lv_iconst (v := (1 : Int32)) hx hb dL_law_152 (by decide) ?_
  refine lv_iadd hx hb dL_law_153 ?_
  refine va_sld hx hb hX hbl hbA hS h1 dL_law_154 ?_
  refine lv_aload_n hx hb dL_law_155 rfl (lv_at hl 0 rfl) ?_
  refine lv_iload hx hb dL_law_156 (lv_at hl 4 rfl) ?_
  refine lv_iconst (v := (2 : Int32)) hx hb dL_law_158 (by decide) ?_
  refine lv_iadd hx hb dL_law_159 ?_
  refine va_sld hx hb hX hbl hbA hS h2 dL_law_160 ?_
  refine lv_aload_n hx hb dL_law_161 rfl (lv_at hl 0 rfl) ?_
  refine lv_iload hx hb dL_law_162 (lv_at hl 4 rfl) ?_
  refine lv_iconst (v := (3 : Int32)) hx hb dL_law_164 (by decide) ?_
  refine lv_iadd hx hb dL_law_165 ?_
  refine va_sld hx hb hX hbl hbA hS h3 dL_law_166 ?_
  refine lv_aload_n hx hb dL_law_167 rfl (lv_at hl 3 rfl) ?_
  obtain ⟨kc, r, Y2, rb, M2, o1, o2, hI2, o3, o4, o5, o6⟩ := sp_A_t (op_add hI (xs (x4 + (1 : Int32)).toNatClampNeg) (xs (x4 + (2 : Int32)).toNatClampNeg) (xs (x4 + (3 : Int32)).toNatClampNeg))
  have hkc : kc = 0 ∨ kc = 1 ∨ kc = 2 := by
    rcases o3 with h | ⟨h, h9⟩ | ⟨h, h9⟩ | ⟨h, h9⟩
    · exact Or.inl h
    · exact Or.inr (Or.inl h)
    · exact Or.inr (Or.inr h)
    · exact absurd rfl h9
  refine lw_callH (w1' := tw_wW cI cQ a na pa ta qa xa z Y2 ++ ([(o, .inl (cL, 1, .inr (.inl (if kc = 0 then vp_updL f 0 (r).toInt64 else f))))] : va_W)) F hN hK hP hD hS hA hNX hNC hU hZ (hL_add l hst G cI cQ cL a na pa ta qa xa z o Y f H.size (xs (x4 + (1 : Int32)).toNatClampNeg) (xs (x4 + (2 : Int32)).toNatClampNeg) (xs (x4 + (3 : Int32)).toNatClampNeg) o1 hkc) (vx_cwSW 5 hts gL_law_L_add rfl rfl rfl (by decide +kernel) ⟨Nat.le_of_ble_eq_true rfl, Nat.le_of_ble_eq_true rfl⟩) [0, 1, 2] rfl lw_fO (As := [.ref (a 0), .int (xs (x4 + (1 : Int32)).toNatClampNeg), .int (xs (x4 + (2 : Int32)).toNatClampNeg), .int (xs (x4 + (3 : Int32)).toNatClampNeg), .ref o]) (rest := []) rfl hl.1 rfl (Nat.le_of_ble_eq_true rfl) dL_law_168 hcs (fun H locs hP hD hS => ?_)
  refine lv_istore (lv' := [(5, .int (tw_hk 1 2 0 kc)), (0, .ref b), (1, .ref (a 0)), (2, .ref (ma 0)), (3, .ref o), (4, .int x4)]) hx hb dL_law_171 hl (by decide) rfl (fun ls hl => ?_)
  refine lv_aload_n hx hb dL_law_173 rfl (lv_at hl 3 rfl) ?_
  refine lv_aload_n hx hb dL_law_174 rfl (lv_at hl 1 rfl) ?_
  refine lv_iload hx hb dL_law_175 (lv_at hl 5 rfl) ?_
  refine lv_iconst (v := (1 : Int32)) hx hb dL_law_177 (by decide) ?_
  refine lv_iadd hx hb dL_law_178 ?_
  refine va_sld hx hb hX hbl hbA hS h1 dL_law_179 ?_
  refine lv_aload_n hx hb dL_law_180 rfl (lv_at hl 1 rfl) ?_
  refine lv_iload hx hb dL_law_181 (lv_at hl 5 rfl) ?_
  refine lv_iconst (v := (2 : Int32)) hx hb dL_law_183 (by decide) ?_
  refine lv_iadd hx hb dL_law_184 ?_
  refine va_sld hx hb hX hbl hbA hS h2 dL_law_185 ?_
  refine lv_aload_n hx hb dL_law_186 rfl (lv_at hl 1 rfl) ?_
  refine lv_iload hx hb dL_law_187 (lv_at hl 5 rfl) ?_
  refine lv_iconst (v := (3 : Int32)) hx hb dL_law_189 (by decide) ?_
  refine lv_iadd hx hb dL_law_190 ?_
  refine va_sld hx hb hX hbl hbA hS h3 dL_law_191 ?_
  refine tw_callVi (ws' := (tw_wW cI cQ a na pa ta qa xa z Y2 ++ ([(o, .inl (cL, 1, .inr (.inl (if kc = 0 then vp_updL f 0 (r).toInt64 else f))))] : va_W)) ++ tw_wM cI ma M2) F hN hK hP hD hS hA (mX4_add l G cI ma M H.size (xs (x4 + (1 : Int32)).toNatClampNeg) (xs (x4 + (2 : Int32)).toNatClampNeg) (xs (x4 + (3 : Int32)).toNatClampNeg) o2) (cwV 3 hts gL_law_X4_add rfl rfl rfl (by decide +kernel) ⟨Nat.le_of_ble_eq_true rfl, Nat.le_of_ble_eq_true rfl⟩) [0] rfl ((List.range (tw_wM cI ma M).length).map (fun i => i + (tw_wW cI cQ a na pa ta qa xa z Y2 ++ ([(o, .inl (cL, 1, .inr (.inl (if kc = 0 then vp_updL f 0 (r).toInt64 else f))))] : va_W)).length)) tw_snd tw_sC lw_fM (tw_sM lw_nM) (ci := 4) (r0 := 0) rfl rfl rfl (As := [.int (xs (x4 + (1 : Int32)).toNatClampNeg), .int (xs (x4 + (2 : Int32)).toNatClampNeg), .int (xs (x4 + (3 : Int32)).toNatClampNeg)]) (rest := []) rfl hl.1 rfl (Nat.le_of_ble_eq_true rfl) dL_law_192 hcs (fun H locs hP hD hS => ?_)
  refine lv_istore (lv' := [(6, .int rb), (5, .int (tw_hk 1 2 0 kc)), (0, .ref b), (1, .ref (a 0)), (2, .ref (ma 0)), (3, .ref o), (4, .int x4)]) hx hb dL_law_195 hl (by decide) rfl (fun ls hl => ?_)
  refine lv_aload_n hx hb dL_law_197 rfl (lv_at hl 4 rfl) ?_
  refine tw_callVi (rv := M2.2.2.2.2.2.2.1) (ws' := (tw_wW cI cQ a na pa ta qa xa z Y2 ++ ([(o, .inl (cL, 1, .inr (.inl (if kc = 0 then vp_updL f 0 (r).toInt64 else f))))] : va_W)) ++ (tw_wM cI ma M2)) F hN hK hP hD hS hA (mX4_thrown l G cI ma M2 H.size rfl) (cwV 0 hts gL_law_X4_thrown rfl rfl rfl (by decide +kernel) ⟨Nat.le_of_ble_eq_true rfl, Nat.le_of_ble_eq_true rfl⟩) [0] rfl ((List.range (tw_wM cI ma M2).length).map (fun i => i + (tw_wW cI cQ a na pa ta qa xa z Y2 ++ ([(o, .inl (cL, 1, .inr (.inl (if kc = 0 then vp_updL f 0 (r).toInt64 else f))))] : va_W)).length)) tw_snd tw_sC lw_fM (tw_sM lw_nM) (ci := 4) (r0 := 0) rfl rfl rfl (As := []) (rest := []) rfl hl.1 rfl (Nat.le_of_ble_eq_true rfl) dL_law_198 hcs (fun H locs hP hD hS => ?_)
  refine lv_iload hx hb dL_law_201 (lv_at hl 1 rfl) ?_
  refine lv_icmp_eq (tgt := 208) hx hb dL_law_203 (by decide) (fun _ => ?_) (fun c => absurd o4 c)
  refine lv_iload hx hb dL_law_208 (lv_at hl 1 rfl) ?_
  refine lv_if_ne (tgt := 225) hx hb dL_law_210 (by decide) (fun c5 => ?_) (fun c5 => ?_)
  · refine lv_goto (tgt := 1423) hx hb dL_law_225 (by decide) ?_
    exact kk Y2 (if kc = 0 then vp_updL f 0 (r).toInt64 else f) M2 H locs ls hI2 hP hD hS (lv_sub hl [2, 3, 4, 5, 6] rfl)
  · have hk0 : kc = 0 := Classical.byContradiction (fun q => o6 q c5)
    refine lv_aload_n hx hb dL_law_213 rfl (lv_at hl 5 rfl) ?_
    refine lv_iconst (v := (0 : Int32)) hx hb dL_law_214 (by decide) ?_
    refine va_lald (f := (if kc = 0 then vp_updL f 0 (r).toInt64 else f)) (n := 1) hx hb hK hP (tw_wW cI cQ a na pa ta qa xa z Y2).length 2 (by rw [List.getElem?_append_left (by rw [List.length_append]; exact Nat.lt_succ_self _)]; exact tw_get_l) rfl (i := (0 : Int32)) (tw_vin (by decide)) dL_law_215 ?_
    refine lv_iload hx hb dL_law_216 (lv_at hl 0 rfl) ?_
    refine lv_i2l hx hb dL_law_218 rfl ?_
    refine W.lcmp hx hb dL_law_219 ?_
    have he9 : lg_cmp ((if kc = 0 then vp_updL f 0 (r).toInt64 else f) (0 : Int32).toNatClampNeg) rb.toInt64 = 0 := by
      have : (if kc = 0 then vp_updL f 0 (r).toInt64 else f) (0 : Int32).toNatClampNeg = rb.toInt64 := by
        rw [if_pos hk0, ← o5 hk0]
        rfl
      rw [this]; exact lw_cmp_eq _
    refine lv_if_eq (tgt := 225) hx hb dL_law_220 (by decide) (fun _ => ?_) (fun c => absurd he9 c)
    refine lv_goto (tgt := 1423) hx hb dL_law_225 (by decide) ?_
    exact kk Y2 (if kc = 0 then vp_updL f 0 (r).toInt64 else f) M2 H locs ls hI2 hP hD hS (lv_sub hl [2, 3, 4, 5, 6] rfl)
set_option maxHeartbeats 4000000 in
set_option maxRecDepth 100000 in
theorem lc_remove {p : Program} {l : Launch} {e : Env} {s : State} {m : MethodId} {below : List Frame} {meth : Method} {c : Code} (hst : l.stackTraces = false) {b L : Nat} {xs : Nat → Int32} (C : lw_L p s m c b L xs) {Q : State → Prop} {G : va_G} {cI cQ cL : ClassId} {a na pa ta qa xa : Nat → Nat} {z : Nat → Nat → Nat} {o : Nat} {ma : Nat → Nat} {Y : tw_Wl} {f : Nat → Int64} {M : tw_Md} {H : Heap} {locs : List Loc} {cells slots : Nat} {ls : Array Slot} {x4 : Int32} (h1 : vp_in (x4 + (1 : Int32)) L) (h2 : vp_in (x4 + (2 : Int32)) L) (h3 : vp_in (x4 + (3 : Int32)) L) (hI : sp_I Y M) (hK : va_K G vwCl [(cI, .int), (cQ, .object RX1), (cL, .long)] s) (hP : va_P G vwCl (tw_LW cI cQ cL a na pa ta qa xa z o ma Y f M) H) (hD : va_D (fun q : Nat => s.heap.size ≤ q) (tw_LW cI cQ cL a na pa ta qa xa z o ma Y f M)) (hS : va_S (fun q : Nat => s.heap.size ≤ q) s.heap H locs) (hl : lv_has ls 9 [(0, .ref b), (1, .ref (a 0)), (2, .ref (ma 0)), (3, .ref o), (4, .int x4)]) (hcs : cells + 1 ≤ 601650 ∧ slots + 6 ≤ 7291155) (kk : lw_K p l e s m below meth c b Q G cI cQ cL a na pa ta qa xa z o ma x4 (cells + 1) (slots + 6)) : W p l e room_1 s m #[Value.ref b] below meth c H locs cells slots Q (F0 m 228 ls []) := by
  obtain ⟨hx, hb, hml, hown, hts, hX, hbl, hN, hNX, hNC, hU, hZ⟩ := id C
  have F : CallFix p m c cL_law 9 s #[Value.ref b] wsL_law RL := ⟨hx, hb, hml, hown, hts⟩
  have hA : ∀ q : Nat, s.heap.size ≤ q → (fun q : Nat => s.heap.size ≤ q) q := fun _ h => h
  have hbA : ¬ (fun q : Nat => s.heap.size ≤ q) b := Nat.not_le.mpr hbl
  unfold tw_LW at hP hD
  refine lv_aload_n hx hb dL_law_228 rfl (lv_at hl 1 rfl) ?_
  refine lv_aload_n hx hb dL_law_229 rfl (lv_at hl 0 rfl) ?_
  refine lv_iload hx hb dL_law_230 (lv_at hl 4 rfl) ?_
  refine lv_iconst (v := (1 : Int32)) hx hb dL_law_232 (by decide) ?_
  refine lv_iadd hx hb dL_law_233 ?_
  refine va_sld hx hb hX hbl hbA hS h1 dL_law_234 ?_
  refine lv_aload_n hx hb dL_law_235 rfl (lv_at hl 3 rfl) ?_
  obtain ⟨kc, r, Y2, rb, M2, o1, o2, hI2, o3, o4, o5, o6⟩ := sp_A_t (op_remove hI (xs (x4 + (1 : Int32)).toNatClampNeg))
  have hkc : kc = 0 ∨ kc = 3 := by
    rcases o3 with h | ⟨h, h9⟩ | ⟨h, h9⟩ | ⟨h, h9⟩
    · exact Or.inl h
    · exact absurd rfl h9
    · exact absurd rfl h9
    · exact Or.inr h
  refine lw_callH (w1' := tw_wW cI cQ a na pa ta qa xa z Y2 ++ ([(o, .inl (cL, 1, .inr (.inl (if kc = 0 then vp_updL f 0 (r).toInt64 else f))))] : va_W)) F hN hK hP hD hS hA hNX hNC hU hZ (hL_remove l hst G cI cQ cL a na pa ta qa xa z o Y f H.size (xs (x4 + (1 : Int32)).toNatClampNeg) o1 hkc) (vx_cwSW 3 hts gL_law_L_remove rfl rfl rfl (by decide +kernel) ⟨Nat.le_of_ble_eq_true rfl, Nat.le_of_ble_eq_true rfl⟩) [0, 1, 2] rfl lw_fO (As := [.ref (a 0), .int (xs (x4 + (1 : Int32)).toNatClampNeg), .ref o]) (rest := []) rfl hl.1 rfl (Nat.le_of_ble_eq_true rfl) dL_law_236 hcs (fun H locs hP hD hS => ?_)
  refine lv_istore (lv' := [(5, .int (tw_hk 0 0 1 kc)), (0, .ref b), (1, .ref (a 0)), (2, .ref (ma 0)), (3, .ref o), (4, .int x4)]) hx hb dL_law_239 hl (by decide) rfl (fun ls hl => ?_)
  refine lv_aload_n hx hb dL_law_241 rfl (lv_at hl 3 rfl) ?_
  refine lv_aload_n hx hb dL_law_242 rfl (lv_at hl 1 rfl) ?_
  refine lv_iload hx hb dL_law_243 (lv_at hl 5 rfl) ?_
  refine lv_iconst (v := (1 : Int32)) hx hb dL_law_245 (by decide) ?_
  refine lv_iadd hx hb dL_law_246 ?_
  refine va_sld hx hb hX hbl hbA hS h1 dL_law_247 ?_
  refine tw_callVi (ws' := (tw_wW cI cQ a na pa ta qa xa z Y2 ++ ([(o, .inl (cL, 1, .inr (.inl (if kc = 0 then vp_updL f 0 (r).toInt64 else f))))] : va_W)) ++ tw_wM cI ma M2) F hN hK hP hD hS hA (mX4_remove l G cI ma M H.size (xs (x4 + (1 : Int32)).toNatClampNeg) o2) (cwV 1 hts gL_law_X4_remove rfl rfl rfl (by decide +kernel) ⟨Nat.le_of_ble_eq_true rfl, Nat.le_of_ble_eq_true rfl⟩) [0] rfl ((List.range (tw_wM cI ma M).length).map (fun i => i + (tw_wW cI cQ a na pa ta qa xa z Y2 ++ ([(o, .inl (cL, 1, .inr (.inl (if kc = 0 then vp_updL f 0 (r).toInt64 else f))))] : va_W)).length)) tw_snd tw_sC lw_fM (tw_sM lw_nM) (ci := 4) (r0 := 0) rfl rfl rfl (As := [.int (xs (x4 + (1 : Int32)).toNatClampNeg)]) (rest := []) rfl hl.1 rfl (Nat.le_of_ble_eq_true rfl) dL_law_248 hcs (fun H locs hP hD hS => ?_)
  refine lv_istore (lv' := [(6, .int rb), (5, .int (tw_hk 0 0 1 kc)), (0, .ref b), (1, .ref (a 0)), (2, .ref (ma 0)), (3, .ref o), (4, .int x4)]) hx hb dL_law_251 hl (by decide) rfl (fun ls hl => ?_)
  refine lv_aload_n hx hb dL_law_253 rfl (lv_at hl 4 rfl) ?_
  refine tw_callVi (rv := M2.2.2.2.2.2.2.1) (ws' := (tw_wW cI cQ a na pa ta qa xa z Y2 ++ ([(o, .inl (cL, 1, .inr (.inl (if kc = 0 then vp_updL f 0 (r).toInt64 else f))))] : va_W)) ++ (tw_wM cI ma M2)) F hN hK hP hD hS hA (mX4_thrown l G cI ma M2 H.size rfl) (cwV 0 hts gL_law_X4_thrown rfl rfl rfl (by decide +kernel) ⟨Nat.le_of_ble_eq_true rfl, Nat.le_of_ble_eq_true rfl⟩) [0] rfl ((List.range (tw_wM cI ma M2).length).map (fun i => i + (tw_wW cI cQ a na pa ta qa xa z Y2 ++ ([(o, .inl (cL, 1, .inr (.inl (if kc = 0 then vp_updL f 0 (r).toInt64 else f))))] : va_W)).length)) tw_snd tw_sC lw_fM (tw_sM lw_nM) (ci := 4) (r0 := 0) rfl rfl rfl (As := []) (rest := []) rfl hl.1 rfl (Nat.le_of_ble_eq_true rfl) dL_law_254 hcs (fun H locs hP hD hS => ?_)
  refine lv_iload hx hb dL_law_257 (lv_at hl 1 rfl) ?_
  refine lv_icmp_eq (tgt := 264) hx hb dL_law_259 (by decide) (fun _ => ?_) (fun c => absurd o4 c)
  refine lv_iload hx hb dL_law_264 (lv_at hl 1 rfl) ?_
  refine lv_if_ne (tgt := 281) hx hb dL_law_266 (by decide) (fun c5 => ?_) (fun c5 => ?_)
  · refine lv_goto (tgt := 1423) hx hb dL_law_281 (by decide) ?_
    exact kk Y2 (if kc = 0 then vp_updL f 0 (r).toInt64 else f) M2 H locs ls hI2 hP hD hS (lv_sub hl [2, 3, 4, 5, 6] rfl)
  · have hk0 : kc = 0 := Classical.byContradiction (fun q => o6 q c5)
    refine lv_aload_n hx hb dL_law_269 rfl (lv_at hl 5 rfl) ?_
    refine lv_iconst (v := (0 : Int32)) hx hb dL_law_270 (by decide) ?_
    refine va_lald (f := (if kc = 0 then vp_updL f 0 (r).toInt64 else f)) (n := 1) hx hb hK hP (tw_wW cI cQ a na pa ta qa xa z Y2).length 2 (by rw [List.getElem?_append_left (by rw [List.length_append]; exact Nat.lt_succ_self _)]; exact tw_get_l) rfl (i := (0 : Int32)) (tw_vin (by decide)) dL_law_271 ?_
    refine lv_iload hx hb dL_law_272 (lv_at hl 0 rfl) ?_
    refine lv_i2l hx hb dL_law_274 rfl ?_
    refine W.lcmp hx hb dL_law_275 ?_
    have he9 : lg_cmp ((if kc = 0 then vp_updL f 0 (r).toInt64 else f) (0 : Int32).toNatClampNeg) rb.toInt64 = 0 := by
      have : (if kc = 0 then vp_updL f 0 (r).toInt64 else f) (0 : Int32).toNatClampNeg = rb.toInt64 := by
        rw [if_pos hk0, ← o5 hk0]
        rfl
      rw [this]; exact lw_cmp_eq _
    refine lv_if_eq (tgt := 281) hx hb dL_law_276 (by decide) (fun _ => ?_) (fun c => absurd he9 c)
    refine lv_goto (tgt := 1423) hx hb dL_law_281 (by decide) ?_
    exact kk Y2 (if kc = 0 then vp_updL f 0 (r).toInt64 else f) M2 H locs ls hI2 hP hD hS (lv_sub hl [2, 3, 4, 5, 6] rfl)
set_option maxHeartbeats 4000000 in
set_option maxRecDepth 100000 in
theorem lc_need {p : Program} {l : Launch} {e : Env} {s : State} {m : MethodId} {below : List Frame} {meth : Method} {c : Code} (hst : l.stackTraces = false) {b L : Nat} {xs : Nat → Int32} (C : lw_L p s m c b L xs) {Q : State → Prop} {G : va_G} {cI cQ cL : ClassId} {a na pa ta qa xa : Nat → Nat} {z : Nat → Nat → Nat} {o : Nat} {ma : Nat → Nat} {Y : tw_Wl} {f : Nat → Int64} {M : tw_Md} {H : Heap} {locs : List Loc} {cells slots : Nat} {ls : Array Slot} {x4 : Int32} (h1 : vp_in (x4 + (1 : Int32)) L) (h2 : vp_in (x4 + (2 : Int32)) L) (h3 : vp_in (x4 + (3 : Int32)) L) (hI : sp_I Y M) (hK : va_K G vwCl [(cI, .int), (cQ, .object RX1), (cL, .long)] s) (hP : va_P G vwCl (tw_LW cI cQ cL a na pa ta qa xa z o ma Y f M) H) (hD : va_D (fun q : Nat => s.heap.size ≤ q) (tw_LW cI cQ cL a na pa ta qa xa z o ma Y f M)) (hS : va_S (fun q : Nat => s.heap.size ≤ q) s.heap H locs) (hl : lv_has ls 9 [(0, .ref b), (1, .ref (a 0)), (2, .ref (ma 0)), (3, .ref o), (4, .int x4)]) (hcs : cells + 1 ≤ 601650 ∧ slots + 6 ≤ 7291155) (kk : lw_K p l e s m below meth c b Q G cI cQ cL a na pa ta qa xa z o ma x4 (cells + 1) (slots + 6)) : W p l e room_1 s m #[Value.ref b] below meth c H locs cells slots Q (F0 m 284 ls []) := by
  obtain ⟨hx, hb, hml, hown, hts, hX, hbl, hN, hNX, hNC, hU, hZ⟩ := id C
  have F : CallFix p m c cL_law 9 s #[Value.ref b] wsL_law RL := ⟨hx, hb, hml, hown, hts⟩
  have hA : ∀ q : Nat, s.heap.size ≤ q → (fun q : Nat => s.heap.size ≤ q) q := fun _ h => h
  have hbA : ¬ (fun q : Nat => s.heap.size ≤ q) b := Nat.not_le.mpr hbl
  unfold tw_LW at hP hD
  refine lv_aload_n hx hb dL_law_284 rfl (lv_at hl 1 rfl) ?_
  refine lv_aload_n hx hb dL_law_285 rfl (lv_at hl 0 rfl) ?_
  refine lv_iload hx hb dL_law_286 (lv_at hl 4 rfl) ?_
  refine lv_iconst (v := (1 : Int32)) hx hb dL_law_288 (by decide) ?_
  refine lv_iadd hx hb dL_law_289 ?_
  refine va_sld hx hb hX hbl hbA hS h1 dL_law_290 ?_
  refine lv_aload_n hx hb dL_law_291 rfl (lv_at hl 0 rfl) ?_
  refine lv_iload hx hb dL_law_292 (lv_at hl 4 rfl) ?_
  refine lv_iconst (v := (2 : Int32)) hx hb dL_law_294 (by decide) ?_
  refine lv_iadd hx hb dL_law_295 ?_
  refine va_sld hx hb hX hbl hbA hS h2 dL_law_296 ?_
  refine lv_aload_n hx hb dL_law_297 rfl (lv_at hl 0 rfl) ?_
  refine lv_iload hx hb dL_law_298 (lv_at hl 4 rfl) ?_
  refine lv_iconst (v := (3 : Int32)) hx hb dL_law_300 (by decide) ?_
  refine lv_iadd hx hb dL_law_301 ?_
  refine va_sld hx hb hX hbl hbA hS h3 dL_law_302 ?_
  refine lv_if_eq (tgt := 310) hx hb dL_law_303 (by decide) (fun c0 => ?_) (fun c0 => ?_)
  · refine lv_iconst (v := (0 : Int32)) hx hb dL_law_310 (by decide) ?_
    refine lv_aload_n hx hb dL_law_311 rfl (lv_at hl 3 rfl) ?_
    obtain ⟨kc, r, Y2, rb, M2, o1, o2, hI2, o3, o4, o5, o6⟩ := sp_A_t (op_need hI (xs (x4 + (1 : Int32)).toNatClampNeg) (xs (x4 + (2 : Int32)).toNatClampNeg) (0 : Int32))
    have hkc : kc = 0 ∨ kc = 1 ∨ kc = 3 := by
      rcases o3 with h | ⟨h, h9⟩ | ⟨h, h9⟩ | ⟨h, h9⟩
      · exact Or.inl h
      · exact Or.inr (Or.inl h)
      · exact absurd rfl h9
      · exact Or.inr (Or.inr h)
    refine lw_callH (w1' := tw_wW cI cQ a na pa ta qa xa z Y2 ++ ([(o, .inl (cL, 1, .inr (.inl (if kc = 0 then vp_updL f 0 (r).toInt64 else f))))] : va_W)) F hN hK hP hD hS hA hNX hNC hU hZ (hL_need l hst G cI cQ cL a na pa ta qa xa z o Y f H.size (xs (x4 + (1 : Int32)).toNatClampNeg) (xs (x4 + (2 : Int32)).toNatClampNeg) (0 : Int32) o1 hkc) (vx_cwSW 5 hts gL_law_L_need rfl rfl rfl (by decide +kernel) ⟨Nat.le_of_ble_eq_true rfl, Nat.le_of_ble_eq_true rfl⟩) [0, 1, 2] rfl lw_fO (As := [.ref (a 0), .int (xs (x4 + (1 : Int32)).toNatClampNeg), .int (xs (x4 + (2 : Int32)).toNatClampNeg), .int (0 : Int32), .ref o]) (rest := []) rfl hl.1 rfl (Nat.le_of_ble_eq_true rfl) dL_law_312 hcs (fun H locs hP hD hS => ?_)
    refine lv_istore (lv' := [(5, .int (tw_hk 2 0 1 kc)), (0, .ref b), (1, .ref (a 0)), (2, .ref (ma 0)), (3, .ref o), (4, .int x4)]) hx hb dL_law_315 hl (by decide) rfl (fun ls hl => ?_)
    refine lv_aload_n hx hb dL_law_317 rfl (lv_at hl 3 rfl) ?_
    refine lv_aload_n hx hb dL_law_318 rfl (lv_at hl 1 rfl) ?_
    refine lv_iload hx hb dL_law_319 (lv_at hl 5 rfl) ?_
    refine lv_iconst (v := (1 : Int32)) hx hb dL_law_321 (by decide) ?_
    refine lv_iadd hx hb dL_law_322 ?_
    refine va_sld hx hb hX hbl hbA hS h1 dL_law_323 ?_
    refine lv_aload_n hx hb dL_law_324 rfl (lv_at hl 1 rfl) ?_
    refine lv_iload hx hb dL_law_325 (lv_at hl 5 rfl) ?_
    refine lv_iconst (v := (2 : Int32)) hx hb dL_law_327 (by decide) ?_
    refine lv_iadd hx hb dL_law_328 ?_
    refine va_sld hx hb hX hbl hbA hS h2 dL_law_329 ?_
    refine lv_aload_n hx hb dL_law_330 rfl (lv_at hl 1 rfl) ?_
    refine lv_iload hx hb dL_law_331 (lv_at hl 5 rfl) ?_
    refine lv_iconst (v := (3 : Int32)) hx hb dL_law_333 (by decide) ?_
    refine lv_iadd hx hb dL_law_334 ?_
    refine va_sld hx hb hX hbl hbA hS h3 dL_law_335 ?_
    refine lv_if_eq (tgt := 343) hx hb dL_law_336 (by decide) (fun _ => ?_) (fun c => absurd c0 c)
    refine lv_iconst (v := (0 : Int32)) hx hb dL_law_343 (by decide) ?_
    refine tw_callVi (ws' := (tw_wW cI cQ a na pa ta qa xa z Y2 ++ ([(o, .inl (cL, 1, .inr (.inl (if kc = 0 then vp_updL f 0 (r).toInt64 else f))))] : va_W)) ++ tw_wM cI ma M2) F hN hK hP hD hS hA (mX4_need l G cI ma M H.size (xs (x4 + (1 : Int32)).toNatClampNeg) (xs (x4 + (2 : Int32)).toNatClampNeg) (0 : Int32) o2) (cwV 3 hts gL_law_X4_need rfl rfl rfl (by decide +kernel) ⟨Nat.le_of_ble_eq_true rfl, Nat.le_of_ble_eq_true rfl⟩) [0] rfl ((List.range (tw_wM cI ma M).length).map (fun i => i + (tw_wW cI cQ a na pa ta qa xa z Y2 ++ ([(o, .inl (cL, 1, .inr (.inl (if kc = 0 then vp_updL f 0 (r).toInt64 else f))))] : va_W)).length)) tw_snd tw_sC lw_fM (tw_sM lw_nM) (ci := 4) (r0 := 0) rfl rfl rfl (As := [.int (xs (x4 + (1 : Int32)).toNatClampNeg), .int (xs (x4 + (2 : Int32)).toNatClampNeg), .int (0 : Int32)]) (rest := []) rfl hl.1 rfl (Nat.le_of_ble_eq_true rfl) dL_law_344 hcs (fun H locs hP hD hS => ?_)
    refine lv_istore (lv' := [(6, .int rb), (5, .int (tw_hk 2 0 1 kc)), (0, .ref b), (1, .ref (a 0)), (2, .ref (ma 0)), (3, .ref o), (4, .int x4)]) hx hb dL_law_347 hl (by decide) rfl (fun ls hl => ?_)
    refine lv_aload_n hx hb dL_law_349 rfl (lv_at hl 4 rfl) ?_
    refine tw_callVi (rv := M2.2.2.2.2.2.2.1) (ws' := (tw_wW cI cQ a na pa ta qa xa z Y2 ++ ([(o, .inl (cL, 1, .inr (.inl (if kc = 0 then vp_updL f 0 (r).toInt64 else f))))] : va_W)) ++ (tw_wM cI ma M2)) F hN hK hP hD hS hA (mX4_thrown l G cI ma M2 H.size rfl) (cwV 0 hts gL_law_X4_thrown rfl rfl rfl (by decide +kernel) ⟨Nat.le_of_ble_eq_true rfl, Nat.le_of_ble_eq_true rfl⟩) [0] rfl ((List.range (tw_wM cI ma M2).length).map (fun i => i + (tw_wW cI cQ a na pa ta qa xa z Y2 ++ ([(o, .inl (cL, 1, .inr (.inl (if kc = 0 then vp_updL f 0 (r).toInt64 else f))))] : va_W)).length)) tw_snd tw_sC lw_fM (tw_sM lw_nM) (ci := 4) (r0 := 0) rfl rfl rfl (As := []) (rest := []) rfl hl.1 rfl (Nat.le_of_ble_eq_true rfl) dL_law_350 hcs (fun H locs hP hD hS => ?_)
    refine lv_iload hx hb dL_law_353 (lv_at hl 1 rfl) ?_
    refine lv_icmp_eq (tgt := 360) hx hb dL_law_355 (by decide) (fun _ => ?_) (fun c => absurd o4 c)
    refine lv_iload hx hb dL_law_360 (lv_at hl 1 rfl) ?_
    refine lv_if_ne (tgt := 377) hx hb dL_law_362 (by decide) (fun c5 => ?_) (fun c5 => ?_)
    · refine lv_goto (tgt := 1423) hx hb dL_law_377 (by decide) ?_
      exact kk Y2 (if kc = 0 then vp_updL f 0 (r).toInt64 else f) M2 H locs ls hI2 hP hD hS (lv_sub hl [2, 3, 4, 5, 6] rfl)
    · have hk0 : kc = 0 := Classical.byContradiction (fun q => o6 q c5)
      refine lv_aload_n hx hb dL_law_365 rfl (lv_at hl 5 rfl) ?_
      refine lv_iconst (v := (0 : Int32)) hx hb dL_law_366 (by decide) ?_
      refine va_lald (f := (if kc = 0 then vp_updL f 0 (r).toInt64 else f)) (n := 1) hx hb hK hP (tw_wW cI cQ a na pa ta qa xa z Y2).length 2 (by rw [List.getElem?_append_left (by rw [List.length_append]; exact Nat.lt_succ_self _)]; exact tw_get_l) rfl (i := (0 : Int32)) (tw_vin (by decide)) dL_law_367 ?_
      refine lv_iload hx hb dL_law_368 (lv_at hl 0 rfl) ?_
      refine lv_i2l hx hb dL_law_370 rfl ?_
      refine W.lcmp hx hb dL_law_371 ?_
      have he9 : lg_cmp ((if kc = 0 then vp_updL f 0 (r).toInt64 else f) (0 : Int32).toNatClampNeg) rb.toInt64 = 0 := by
        have : (if kc = 0 then vp_updL f 0 (r).toInt64 else f) (0 : Int32).toNatClampNeg = rb.toInt64 := by
          rw [if_pos hk0, ← o5 hk0]
          rfl
        rw [this]; exact lw_cmp_eq _
      refine lv_if_eq (tgt := 377) hx hb dL_law_372 (by decide) (fun _ => ?_) (fun c => absurd he9 c)
      refine lv_goto (tgt := 1423) hx hb dL_law_377 (by decide) ?_
      exact kk Y2 (if kc = 0 then vp_updL f 0 (r).toInt64 else f) M2 H locs ls hI2 hP hD hS (lv_sub hl [2, 3, 4, 5, 6] rfl)
  · refine lv_iconst (v := (1 : Int32)) hx hb dL_law_306 (by decide) ?_
    refine lv_goto (tgt := 311) hx hb dL_law_307 (by decide) ?_
    refine lv_aload_n hx hb dL_law_311 rfl (lv_at hl 3 rfl) ?_
    obtain ⟨kc, r, Y2, rb, M2, o1, o2, hI2, o3, o4, o5, o6⟩ := sp_A_t (op_need hI (xs (x4 + (1 : Int32)).toNatClampNeg) (xs (x4 + (2 : Int32)).toNatClampNeg) (1 : Int32))
    have hkc : kc = 0 ∨ kc = 1 ∨ kc = 3 := by
      rcases o3 with h | ⟨h, h9⟩ | ⟨h, h9⟩ | ⟨h, h9⟩
      · exact Or.inl h
      · exact Or.inr (Or.inl h)
      · exact absurd rfl h9
      · exact Or.inr (Or.inr h)
    refine lw_callH (w1' := tw_wW cI cQ a na pa ta qa xa z Y2 ++ ([(o, .inl (cL, 1, .inr (.inl (if kc = 0 then vp_updL f 0 (r).toInt64 else f))))] : va_W)) F hN hK hP hD hS hA hNX hNC hU hZ (hL_need l hst G cI cQ cL a na pa ta qa xa z o Y f H.size (xs (x4 + (1 : Int32)).toNatClampNeg) (xs (x4 + (2 : Int32)).toNatClampNeg) (1 : Int32) o1 hkc) (vx_cwSW 5 hts gL_law_L_need rfl rfl rfl (by decide +kernel) ⟨Nat.le_of_ble_eq_true rfl, Nat.le_of_ble_eq_true rfl⟩) [0, 1, 2] rfl lw_fO (As := [.ref (a 0), .int (xs (x4 + (1 : Int32)).toNatClampNeg), .int (xs (x4 + (2 : Int32)).toNatClampNeg), .int (1 : Int32), .ref o]) (rest := []) rfl hl.1 rfl (Nat.le_of_ble_eq_true rfl) dL_law_312 hcs (fun H locs hP hD hS => ?_)
    refine lv_istore (lv' := [(5, .int (tw_hk 2 0 1 kc)), (0, .ref b), (1, .ref (a 0)), (2, .ref (ma 0)), (3, .ref o), (4, .int x4)]) hx hb dL_law_315 hl (by decide) rfl (fun ls hl => ?_)
    refine lv_aload_n hx hb dL_law_317 rfl (lv_at hl 3 rfl) ?_
    refine lv_aload_n hx hb dL_law_318 rfl (lv_at hl 1 rfl) ?_
    refine lv_iload hx hb dL_law_319 (lv_at hl 5 rfl) ?_
    refine lv_iconst (v := (1 : Int32)) hx hb dL_law_321 (by decide) ?_
    refine lv_iadd hx hb dL_law_322 ?_
    refine va_sld hx hb hX hbl hbA hS h1 dL_law_323 ?_
    refine lv_aload_n hx hb dL_law_324 rfl (lv_at hl 1 rfl) ?_
    refine lv_iload hx hb dL_law_325 (lv_at hl 5 rfl) ?_
    refine lv_iconst (v := (2 : Int32)) hx hb dL_law_327 (by decide) ?_
    refine lv_iadd hx hb dL_law_328 ?_
    refine va_sld hx hb hX hbl hbA hS h2 dL_law_329 ?_
    refine lv_aload_n hx hb dL_law_330 rfl (lv_at hl 1 rfl) ?_
    refine lv_iload hx hb dL_law_331 (lv_at hl 5 rfl) ?_
    refine lv_iconst (v := (3 : Int32)) hx hb dL_law_333 (by decide) ?_
    refine lv_iadd hx hb dL_law_334 ?_
    refine va_sld hx hb hX hbl hbA hS h3 dL_law_335 ?_
    refine lv_if_eq (tgt := 343) hx hb dL_law_336 (by decide) (fun c => absurd c c0) (fun _ => ?_)
    refine lv_iconst (v := (1 : Int32)) hx hb dL_law_339 (by decide) ?_
    refine lv_goto (tgt := 344) hx hb dL_law_340 (by decide) ?_
    refine tw_callVi (ws' := (tw_wW cI cQ a na pa ta qa xa z Y2 ++ ([(o, .inl (cL, 1, .inr (.inl (if kc = 0 then vp_updL f 0 (r).toInt64 else f))))] : va_W)) ++ tw_wM cI ma M2) F hN hK hP hD hS hA (mX4_need l G cI ma M H.size (xs (x4 + (1 : Int32)).toNatClampNeg) (xs (x4 + (2 : Int32)).toNatClampNeg) (1 : Int32) o2) (cwV 3 hts gL_law_X4_need rfl rfl rfl (by decide +kernel) ⟨Nat.le_of_ble_eq_true rfl, Nat.le_of_ble_eq_true rfl⟩) [0] rfl ((List.range (tw_wM cI ma M).length).map (fun i => i + (tw_wW cI cQ a na pa ta qa xa z Y2 ++ ([(o, .inl (cL, 1, .inr (.inl (if kc = 0 then vp_updL f 0 (r).toInt64 else f))))] : va_W)).length)) tw_snd tw_sC lw_fM (tw_sM lw_nM) (ci := 4) (r0 := 0) rfl rfl rfl (As := [.int (xs (x4 + (1 : Int32)).toNatClampNeg), .int (xs (x4 + (2 : Int32)).toNatClampNeg), .int (1 : Int32)]) (rest := []) rfl hl.1 rfl (Nat.le_of_ble_eq_true rfl) dL_law_344 hcs (fun H locs hP hD hS => ?_)
    refine lv_istore (lv' := [(6, .int rb), (5, .int (tw_hk 2 0 1 kc)), (0, .ref b), (1, .ref (a 0)), (2, .ref (ma 0)), (3, .ref o), (4, .int x4)]) hx hb dL_law_347 hl (by decide) rfl (fun ls hl => ?_)
    refine lv_aload_n hx hb dL_law_349 rfl (lv_at hl 4 rfl) ?_
    refine tw_callVi (rv := M2.2.2.2.2.2.2.1) (ws' := (tw_wW cI cQ a na pa ta qa xa z Y2 ++ ([(o, .inl (cL, 1, .inr (.inl (if kc = 0 then vp_updL f 0 (r).toInt64 else f))))] : va_W)) ++ (tw_wM cI ma M2)) F hN hK hP hD hS hA (mX4_thrown l G cI ma M2 H.size rfl) (cwV 0 hts gL_law_X4_thrown rfl rfl rfl (by decide +kernel) ⟨Nat.le_of_ble_eq_true rfl, Nat.le_of_ble_eq_true rfl⟩) [0] rfl ((List.range (tw_wM cI ma M2).length).map (fun i => i + (tw_wW cI cQ a na pa ta qa xa z Y2 ++ ([(o, .inl (cL, 1, .inr (.inl (if kc = 0 then vp_updL f 0 (r).toInt64 else f))))] : va_W)).length)) tw_snd tw_sC lw_fM (tw_sM lw_nM) (ci := 4) (r0 := 0) rfl rfl rfl (As := []) (rest := []) rfl hl.1 rfl (Nat.le_of_ble_eq_true rfl) dL_law_350 hcs (fun H locs hP hD hS => ?_)
    refine lv_iload hx hb dL_law_353 (lv_at hl 1 rfl) ?_
    refine lv_icmp_eq (tgt := 360) hx hb dL_law_355 (by decide) (fun _ => ?_) (fun c => absurd o4 c)
    refine lv_iload hx hb dL_law_360 (lv_at hl 1 rfl) ?_
    refine lv_if_ne (tgt := 377) hx hb dL_law_362 (by decide) (fun c5 => ?_) (fun c5 => ?_)
    · refine lv_goto (tgt := 1423) hx hb dL_law_377 (by decide) ?_
      exact kk Y2 (if kc = 0 then vp_updL f 0 (r).toInt64 else f) M2 H locs ls hI2 hP hD hS (lv_sub hl [2, 3, 4, 5, 6] rfl)
    · have hk0 : kc = 0 := Classical.byContradiction (fun q => o6 q c5)
      refine lv_aload_n hx hb dL_law_365 rfl (lv_at hl 5 rfl) ?_
      refine lv_iconst (v := (0 : Int32)) hx hb dL_law_366 (by decide) ?_
      refine va_lald (f := (if kc = 0 then vp_updL f 0 (r).toInt64 else f)) (n := 1) hx hb hK hP (tw_wW cI cQ a na pa ta qa xa z Y2).length 2 (by rw [List.getElem?_append_left (by rw [List.length_append]; exact Nat.lt_succ_self _)]; exact tw_get_l) rfl (i := (0 : Int32)) (tw_vin (by decide)) dL_law_367 ?_
      refine lv_iload hx hb dL_law_368 (lv_at hl 0 rfl) ?_
      refine lv_i2l hx hb dL_law_370 rfl ?_
      refine W.lcmp hx hb dL_law_371 ?_
      have he9 : lg_cmp ((if kc = 0 then vp_updL f 0 (r).toInt64 else f) (0 : Int32).toNatClampNeg) rb.toInt64 = 0 := by
        have : (if kc = 0 then vp_updL f 0 (r).toInt64 else f) (0 : Int32).toNatClampNeg = rb.toInt64 := by
          rw [if_pos hk0, ← o5 hk0]
          rfl
        rw [this]; exact lw_cmp_eq _
      refine lv_if_eq (tgt := 377) hx hb dL_law_372 (by decide) (fun _ => ?_) (fun c => absurd he9 c)
      refine lv_goto (tgt := 1423) hx hb dL_law_377 (by decide) ?_
      exact kk Y2 (if kc = 0 then vp_updL f 0 (r).toInt64 else f) M2 H locs ls hI2 hP hD hS (lv_sub hl [2, 3, 4, 5, 6] rfl)
set_option maxHeartbeats 4000000 in
set_option maxRecDepth 100000 in
theorem lc_change {p : Program} {l : Launch} {e : Env} {s : State} {m : MethodId} {below : List Frame} {meth : Method} {c : Code} (hst : l.stackTraces = false) {b L : Nat} {xs : Nat → Int32} (C : lw_L p s m c b L xs) {Q : State → Prop} {G : va_G} {cI cQ cL : ClassId} {a na pa ta qa xa : Nat → Nat} {z : Nat → Nat → Nat} {o : Nat} {ma : Nat → Nat} {Y : tw_Wl} {f : Nat → Int64} {M : tw_Md} {H : Heap} {locs : List Loc} {cells slots : Nat} {ls : Array Slot} {x4 : Int32} (h1 : vp_in (x4 + (1 : Int32)) L) (h2 : vp_in (x4 + (2 : Int32)) L) (h3 : vp_in (x4 + (3 : Int32)) L) (hI : sp_I Y M) (hK : va_K G vwCl [(cI, .int), (cQ, .object RX1), (cL, .long)] s) (hP : va_P G vwCl (tw_LW cI cQ cL a na pa ta qa xa z o ma Y f M) H) (hD : va_D (fun q : Nat => s.heap.size ≤ q) (tw_LW cI cQ cL a na pa ta qa xa z o ma Y f M)) (hS : va_S (fun q : Nat => s.heap.size ≤ q) s.heap H locs) (hl : lv_has ls 9 [(0, .ref b), (1, .ref (a 0)), (2, .ref (ma 0)), (3, .ref o), (4, .int x4)]) (hcs : cells + 1 ≤ 601650 ∧ slots + 6 ≤ 7291155) (kk : lw_K p l e s m below meth c b Q G cI cQ cL a na pa ta qa xa z o ma x4 (cells + 1) (slots + 6)) : W p l e room_1 s m #[Value.ref b] below meth c H locs cells slots Q (F0 m 380 ls []) := by
  obtain ⟨hx, hb, hml, hown, hts, hX, hbl, hN, hNX, hNC, hU, hZ⟩ := id C
  have F : CallFix p m c cL_law 9 s #[Value.ref b] wsL_law RL := ⟨hx, hb, hml, hown, hts⟩
  have hA : ∀ q : Nat, s.heap.size ≤ q → (fun q : Nat => s.heap.size ≤ q) q := fun _ h => h
  have hbA : ¬ (fun q : Nat => s.heap.size ≤ q) b := Nat.not_le.mpr hbl
  unfold tw_LW at hP hD
  refine lv_aload_n hx hb dL_law_380 rfl (lv_at hl 1 rfl) ?_
  refine lv_aload_n hx hb dL_law_381 rfl (lv_at hl 0 rfl) ?_
  refine lv_iload hx hb dL_law_382 (lv_at hl 4 rfl) ?_
  refine lv_iconst (v := (1 : Int32)) hx hb dL_law_384 (by decide) ?_
  refine lv_iadd hx hb dL_law_385 ?_
  refine va_sld hx hb hX hbl hbA hS h1 dL_law_386 ?_
  refine lv_aload_n hx hb dL_law_387 rfl (lv_at hl 0 rfl) ?_
  refine lv_iload hx hb dL_law_388 (lv_at hl 4 rfl) ?_
  refine lv_iconst (v := (2 : Int32)) hx hb dL_law_390 (by decide) ?_
  refine lv_iadd hx hb dL_law_391 ?_
  refine va_sld hx hb hX hbl hbA hS h2 dL_law_392 ?_
  refine lv_aload_n hx hb dL_law_393 rfl (lv_at hl 0 rfl) ?_
  refine lv_iload hx hb dL_law_394 (lv_at hl 4 rfl) ?_
  refine lv_iconst (v := (3 : Int32)) hx hb dL_law_396 (by decide) ?_
  refine lv_iadd hx hb dL_law_397 ?_
  refine va_sld hx hb hX hbl hbA hS h3 dL_law_398 ?_
  refine lv_aload_n hx hb dL_law_399 rfl (lv_at hl 3 rfl) ?_
  obtain ⟨kc, r, Y2, rb, M2, o1, o2, hI2, o3, o4, o5, o6⟩ := sp_A_t (op_change hI (xs (x4 + (1 : Int32)).toNatClampNeg) (xs (x4 + (2 : Int32)).toNatClampNeg) (xs (x4 + (3 : Int32)).toNatClampNeg))
  have hkc : kc = 0 ∨ kc = 1 ∨ kc = 3 := by
    rcases o3 with h | ⟨h, h9⟩ | ⟨h, h9⟩ | ⟨h, h9⟩
    · exact Or.inl h
    · exact Or.inr (Or.inl h)
    · exact absurd rfl h9
    · exact Or.inr (Or.inr h)
  refine lw_callH (w1' := tw_wW cI cQ a na pa ta qa xa z Y2 ++ ([(o, .inl (cL, 1, .inr (.inl (if kc = 0 then vp_updL f 0 (r).toInt64 else f))))] : va_W)) F hN hK hP hD hS hA hNX hNC hU hZ (hL_change l hst G cI cQ cL a na pa ta qa xa z o Y f H.size (xs (x4 + (1 : Int32)).toNatClampNeg) (xs (x4 + (2 : Int32)).toNatClampNeg) (xs (x4 + (3 : Int32)).toNatClampNeg) o1 hkc) (vx_cwSW 5 hts gL_law_L_change rfl rfl rfl (by decide +kernel) ⟨Nat.le_of_ble_eq_true rfl, Nat.le_of_ble_eq_true rfl⟩) [0, 1, 2] rfl lw_fO (As := [.ref (a 0), .int (xs (x4 + (1 : Int32)).toNatClampNeg), .int (xs (x4 + (2 : Int32)).toNatClampNeg), .int (xs (x4 + (3 : Int32)).toNatClampNeg), .ref o]) (rest := []) rfl hl.1 rfl (Nat.le_of_ble_eq_true rfl) dL_law_400 hcs (fun H locs hP hD hS => ?_)
  refine lv_istore (lv' := [(5, .int (tw_hk 2 0 1 kc)), (0, .ref b), (1, .ref (a 0)), (2, .ref (ma 0)), (3, .ref o), (4, .int x4)]) hx hb dL_law_403 hl (by decide) rfl (fun ls hl => ?_)
  refine lv_aload_n hx hb dL_law_405 rfl (lv_at hl 3 rfl) ?_
  refine lv_aload_n hx hb dL_law_406 rfl (lv_at hl 1 rfl) ?_
  refine lv_iload hx hb dL_law_407 (lv_at hl 5 rfl) ?_
  refine lv_iconst (v := (1 : Int32)) hx hb dL_law_409 (by decide) ?_
  refine lv_iadd hx hb dL_law_410 ?_
  refine va_sld hx hb hX hbl hbA hS h1 dL_law_411 ?_
  refine lv_aload_n hx hb dL_law_412 rfl (lv_at hl 1 rfl) ?_
  refine lv_iload hx hb dL_law_413 (lv_at hl 5 rfl) ?_
  refine lv_iconst (v := (2 : Int32)) hx hb dL_law_415 (by decide) ?_
  refine lv_iadd hx hb dL_law_416 ?_
  refine va_sld hx hb hX hbl hbA hS h2 dL_law_417 ?_
  refine lv_aload_n hx hb dL_law_418 rfl (lv_at hl 1 rfl) ?_
  refine lv_iload hx hb dL_law_419 (lv_at hl 5 rfl) ?_
  refine lv_iconst (v := (3 : Int32)) hx hb dL_law_421 (by decide) ?_
  refine lv_iadd hx hb dL_law_422 ?_
  refine va_sld hx hb hX hbl hbA hS h3 dL_law_423 ?_
  refine tw_callVi (ws' := (tw_wW cI cQ a na pa ta qa xa z Y2 ++ ([(o, .inl (cL, 1, .inr (.inl (if kc = 0 then vp_updL f 0 (r).toInt64 else f))))] : va_W)) ++ tw_wM cI ma M2) F hN hK hP hD hS hA (mX4_change l G cI ma M H.size (xs (x4 + (1 : Int32)).toNatClampNeg) (xs (x4 + (2 : Int32)).toNatClampNeg) (xs (x4 + (3 : Int32)).toNatClampNeg) o2) (cwV 3 hts gL_law_X4_change rfl rfl rfl (by decide +kernel) ⟨Nat.le_of_ble_eq_true rfl, Nat.le_of_ble_eq_true rfl⟩) [0] rfl ((List.range (tw_wM cI ma M).length).map (fun i => i + (tw_wW cI cQ a na pa ta qa xa z Y2 ++ ([(o, .inl (cL, 1, .inr (.inl (if kc = 0 then vp_updL f 0 (r).toInt64 else f))))] : va_W)).length)) tw_snd tw_sC lw_fM (tw_sM lw_nM) (ci := 4) (r0 := 0) rfl rfl rfl (As := [.int (xs (x4 + (1 : Int32)).toNatClampNeg), .int (xs (x4 + (2 : Int32)).toNatClampNeg), .int (xs (x4 + (3 : Int32)).toNatClampNeg)]) (rest := []) rfl hl.1 rfl (Nat.le_of_ble_eq_true rfl) dL_law_424 hcs (fun H locs hP hD hS => ?_)
  refine lv_istore (lv' := [(6, .int rb), (5, .int (tw_hk 2 0 1 kc)), (0, .ref b), (1, .ref (a 0)), (2, .ref (ma 0)), (3, .ref o), (4, .int x4)]) hx hb dL_law_427 hl (by decide) rfl (fun ls hl => ?_)
  refine lv_aload_n hx hb dL_law_429 rfl (lv_at hl 4 rfl) ?_
  refine tw_callVi (rv := M2.2.2.2.2.2.2.1) (ws' := (tw_wW cI cQ a na pa ta qa xa z Y2 ++ ([(o, .inl (cL, 1, .inr (.inl (if kc = 0 then vp_updL f 0 (r).toInt64 else f))))] : va_W)) ++ (tw_wM cI ma M2)) F hN hK hP hD hS hA (mX4_thrown l G cI ma M2 H.size rfl) (cwV 0 hts gL_law_X4_thrown rfl rfl rfl (by decide +kernel) ⟨Nat.le_of_ble_eq_true rfl, Nat.le_of_ble_eq_true rfl⟩) [0] rfl ((List.range (tw_wM cI ma M2).length).map (fun i => i + (tw_wW cI cQ a na pa ta qa xa z Y2 ++ ([(o, .inl (cL, 1, .inr (.inl (if kc = 0 then vp_updL f 0 (r).toInt64 else f))))] : va_W)).length)) tw_snd tw_sC lw_fM (tw_sM lw_nM) (ci := 4) (r0 := 0) rfl rfl rfl (As := []) (rest := []) rfl hl.1 rfl (Nat.le_of_ble_eq_true rfl) dL_law_430 hcs (fun H locs hP hD hS => ?_)
  refine lv_iload hx hb dL_law_433 (lv_at hl 1 rfl) ?_
  refine lv_icmp_eq (tgt := 440) hx hb dL_law_435 (by decide) (fun _ => ?_) (fun c => absurd o4 c)
  refine lv_iload hx hb dL_law_440 (lv_at hl 1 rfl) ?_
  refine lv_if_ne (tgt := 457) hx hb dL_law_442 (by decide) (fun c5 => ?_) (fun c5 => ?_)
  · refine lv_goto (tgt := 1423) hx hb dL_law_457 (by decide) ?_
    exact kk Y2 (if kc = 0 then vp_updL f 0 (r).toInt64 else f) M2 H locs ls hI2 hP hD hS (lv_sub hl [2, 3, 4, 5, 6] rfl)
  · have hk0 : kc = 0 := Classical.byContradiction (fun q => o6 q c5)
    refine lv_aload_n hx hb dL_law_445 rfl (lv_at hl 5 rfl) ?_
    refine lv_iconst (v := (0 : Int32)) hx hb dL_law_446 (by decide) ?_
    refine va_lald (f := (if kc = 0 then vp_updL f 0 (r).toInt64 else f)) (n := 1) hx hb hK hP (tw_wW cI cQ a na pa ta qa xa z Y2).length 2 (by rw [List.getElem?_append_left (by rw [List.length_append]; exact Nat.lt_succ_self _)]; exact tw_get_l) rfl (i := (0 : Int32)) (tw_vin (by decide)) dL_law_447 ?_
    refine lv_iload hx hb dL_law_448 (lv_at hl 0 rfl) ?_
    refine lv_i2l hx hb dL_law_450 rfl ?_
    refine W.lcmp hx hb dL_law_451 ?_
    have he9 : lg_cmp ((if kc = 0 then vp_updL f 0 (r).toInt64 else f) (0 : Int32).toNatClampNeg) rb.toInt64 = 0 := by
      have : (if kc = 0 then vp_updL f 0 (r).toInt64 else f) (0 : Int32).toNatClampNeg = rb.toInt64 := by
        rw [if_pos hk0, ← o5 hk0]
        rfl
      rw [this]; exact lw_cmp_eq _
    refine lv_if_eq (tgt := 457) hx hb dL_law_452 (by decide) (fun _ => ?_) (fun c => absurd he9 c)
    refine lv_goto (tgt := 1423) hx hb dL_law_457 (by decide) ?_
    exact kk Y2 (if kc = 0 then vp_updL f 0 (r).toInt64 else f) M2 H locs ls hI2 hP hD hS (lv_sub hl [2, 3, 4, 5, 6] rfl)
set_option maxHeartbeats 4000000 in
set_option maxRecDepth 100000 in
theorem lc_slip {p : Program} {l : Launch} {e : Env} {s : State} {m : MethodId} {below : List Frame} {meth : Method} {c : Code} (hst : l.stackTraces = false) {b L : Nat} {xs : Nat → Int32} (C : lw_L p s m c b L xs) {Q : State → Prop} {G : va_G} {cI cQ cL : ClassId} {a na pa ta qa xa : Nat → Nat} {z : Nat → Nat → Nat} {o : Nat} {ma : Nat → Nat} {Y : tw_Wl} {f : Nat → Int64} {M : tw_Md} {H : Heap} {locs : List Loc} {cells slots : Nat} {ls : Array Slot} {x4 : Int32} (h1 : vp_in (x4 + (1 : Int32)) L) (h2 : vp_in (x4 + (2 : Int32)) L) (h3 : vp_in (x4 + (3 : Int32)) L) (hI : sp_I Y M) (hK : va_K G vwCl [(cI, .int), (cQ, .object RX1), (cL, .long)] s) (hP : va_P G vwCl (tw_LW cI cQ cL a na pa ta qa xa z o ma Y f M) H) (hD : va_D (fun q : Nat => s.heap.size ≤ q) (tw_LW cI cQ cL a na pa ta qa xa z o ma Y f M)) (hS : va_S (fun q : Nat => s.heap.size ≤ q) s.heap H locs) (hl : lv_has ls 9 [(0, .ref b), (1, .ref (a 0)), (2, .ref (ma 0)), (3, .ref o), (4, .int x4)]) (hcs : cells + 1 ≤ 601650 ∧ slots + 6 ≤ 7291155) (kk : lw_K p l e s m below meth c b Q G cI cQ cL a na pa ta qa xa z o ma x4 (cells + 1) (slots + 6)) : W p l e room_1 s m #[Value.ref b] below meth c H locs cells slots Q (F0 m 460 ls []) := by
  obtain ⟨hx, hb, hml, hown, hts, hX, hbl, hN, hNX, hNC, hU, hZ⟩ := id C
  have F : CallFix p m c cL_law 9 s #[Value.ref b] wsL_law RL := ⟨hx, hb, hml, hown, hts⟩
  have hA : ∀ q : Nat, s.heap.size ≤ q → (fun q : Nat => s.heap.size ≤ q) q := fun _ h => h
  have hbA : ¬ (fun q : Nat => s.heap.size ≤ q) b := Nat.not_le.mpr hbl
  unfold tw_LW at hP hD
  refine lv_aload_n hx hb dL_law_460 rfl (lv_at hl 1 rfl) ?_
  refine lv_aload_n hx hb dL_law_461 rfl (lv_at hl 0 rfl) ?_
  refine lv_iload hx hb dL_law_462 (lv_at hl 4 rfl) ?_
  refine lv_iconst (v := (1 : Int32)) hx hb dL_law_464 (by decide) ?_
  refine lv_iadd hx hb dL_law_465 ?_
  refine va_sld hx hb hX hbl hbA hS h1 dL_law_466 ?_
  refine lv_aload_n hx hb dL_law_467 rfl (lv_at hl 0 rfl) ?_
  refine lv_iload hx hb dL_law_468 (lv_at hl 4 rfl) ?_
  refine lv_iconst (v := (2 : Int32)) hx hb dL_law_470 (by decide) ?_
  refine lv_iadd hx hb dL_law_471 ?_
  refine va_sld hx hb hX hbl hbA hS h2 dL_law_472 ?_
  refine lv_aload_n hx hb dL_law_473 rfl (lv_at hl 3 rfl) ?_
  obtain ⟨kc, r, Y2, rb, M2, o1, o2, hI2, o3, o4, o5, o6⟩ := sp_A_t (op_slip hI (xs (x4 + (1 : Int32)).toNatClampNeg) (xs (x4 + (2 : Int32)).toNatClampNeg))
  have hkc : kc = 0 ∨ kc = 1 ∨ kc = 2 ∨ kc = 3 := by
    rcases o3 with h | ⟨h, h9⟩ | ⟨h, h9⟩ | ⟨h, h9⟩
    · exact Or.inl h
    · exact Or.inr (Or.inl h)
    · exact Or.inr (Or.inr (Or.inl h))
    · exact Or.inr (Or.inr (Or.inr h))
  refine lw_callH (w1' := tw_wW cI cQ a na pa ta qa xa z Y2 ++ ([(o, .inl (cL, 1, .inr (.inl (if kc = 0 then vp_updL f 0 (r).toInt64 else f))))] : va_W)) F hN hK hP hD hS hA hNX hNC hU hZ (hL_slip l hst G cI cQ cL a na pa ta qa xa z o Y f H.size (xs (x4 + (1 : Int32)).toNatClampNeg) (xs (x4 + (2 : Int32)).toNatClampNeg) o1 hkc) (vx_cwSW 4 hts gL_law_L_slip rfl rfl rfl (by decide +kernel) ⟨Nat.le_of_ble_eq_true rfl, Nat.le_of_ble_eq_true rfl⟩) [0, 1, 2] rfl lw_fO (As := [.ref (a 0), .int (xs (x4 + (1 : Int32)).toNatClampNeg), .int (xs (x4 + (2 : Int32)).toNatClampNeg), .ref o]) (rest := []) rfl hl.1 rfl (Nat.le_of_ble_eq_true rfl) dL_law_474 hcs (fun H locs hP hD hS => ?_)
  refine lv_istore (lv' := [(5, .int (tw_hk 2 3 1 kc)), (0, .ref b), (1, .ref (a 0)), (2, .ref (ma 0)), (3, .ref o), (4, .int x4)]) hx hb dL_law_477 hl (by decide) rfl (fun ls hl => ?_)
  refine lv_aload_n hx hb dL_law_479 rfl (lv_at hl 3 rfl) ?_
  refine lv_aload_n hx hb dL_law_480 rfl (lv_at hl 1 rfl) ?_
  refine lv_iload hx hb dL_law_481 (lv_at hl 5 rfl) ?_
  refine lv_iconst (v := (1 : Int32)) hx hb dL_law_483 (by decide) ?_
  refine lv_iadd hx hb dL_law_484 ?_
  refine va_sld hx hb hX hbl hbA hS h1 dL_law_485 ?_
  refine lv_aload_n hx hb dL_law_486 rfl (lv_at hl 1 rfl) ?_
  refine lv_iload hx hb dL_law_487 (lv_at hl 5 rfl) ?_
  refine lv_iconst (v := (2 : Int32)) hx hb dL_law_489 (by decide) ?_
  refine lv_iadd hx hb dL_law_490 ?_
  refine va_sld hx hb hX hbl hbA hS h2 dL_law_491 ?_
  refine tw_callVi (ws' := (tw_wW cI cQ a na pa ta qa xa z Y2 ++ ([(o, .inl (cL, 1, .inr (.inl (if kc = 0 then vp_updL f 0 (r).toInt64 else f))))] : va_W)) ++ tw_wM cI ma M2) F hN hK hP hD hS hA (mX4_slip l G cI ma M H.size (xs (x4 + (1 : Int32)).toNatClampNeg) (xs (x4 + (2 : Int32)).toNatClampNeg) o2) (cwV 2 hts gL_law_X4_slip rfl rfl rfl (by decide +kernel) ⟨Nat.le_of_ble_eq_true rfl, Nat.le_of_ble_eq_true rfl⟩) [0] rfl ((List.range (tw_wM cI ma M).length).map (fun i => i + (tw_wW cI cQ a na pa ta qa xa z Y2 ++ ([(o, .inl (cL, 1, .inr (.inl (if kc = 0 then vp_updL f 0 (r).toInt64 else f))))] : va_W)).length)) tw_snd tw_sC lw_fM (tw_sM lw_nM) (ci := 4) (r0 := 0) rfl rfl rfl (As := [.int (xs (x4 + (1 : Int32)).toNatClampNeg), .int (xs (x4 + (2 : Int32)).toNatClampNeg)]) (rest := []) rfl hl.1 rfl (Nat.le_of_ble_eq_true rfl) dL_law_492 hcs (fun H locs hP hD hS => ?_)
  refine lv_istore (lv' := [(6, .int rb), (5, .int (tw_hk 2 3 1 kc)), (0, .ref b), (1, .ref (a 0)), (2, .ref (ma 0)), (3, .ref o), (4, .int x4)]) hx hb dL_law_495 hl (by decide) rfl (fun ls hl => ?_)
  refine lv_aload_n hx hb dL_law_497 rfl (lv_at hl 4 rfl) ?_
  refine tw_callVi (rv := M2.2.2.2.2.2.2.1) (ws' := (tw_wW cI cQ a na pa ta qa xa z Y2 ++ ([(o, .inl (cL, 1, .inr (.inl (if kc = 0 then vp_updL f 0 (r).toInt64 else f))))] : va_W)) ++ (tw_wM cI ma M2)) F hN hK hP hD hS hA (mX4_thrown l G cI ma M2 H.size rfl) (cwV 0 hts gL_law_X4_thrown rfl rfl rfl (by decide +kernel) ⟨Nat.le_of_ble_eq_true rfl, Nat.le_of_ble_eq_true rfl⟩) [0] rfl ((List.range (tw_wM cI ma M2).length).map (fun i => i + (tw_wW cI cQ a na pa ta qa xa z Y2 ++ ([(o, .inl (cL, 1, .inr (.inl (if kc = 0 then vp_updL f 0 (r).toInt64 else f))))] : va_W)).length)) tw_snd tw_sC lw_fM (tw_sM lw_nM) (ci := 4) (r0 := 0) rfl rfl rfl (As := []) (rest := []) rfl hl.1 rfl (Nat.le_of_ble_eq_true rfl) dL_law_498 hcs (fun H locs hP hD hS => ?_)
  refine lv_iload hx hb dL_law_501 (lv_at hl 1 rfl) ?_
  refine lv_icmp_eq (tgt := 508) hx hb dL_law_503 (by decide) (fun _ => ?_) (fun c => absurd o4 c)
  refine lv_iload hx hb dL_law_508 (lv_at hl 1 rfl) ?_
  refine lv_if_ne (tgt := 525) hx hb dL_law_510 (by decide) (fun c5 => ?_) (fun c5 => ?_)
  · refine lv_goto (tgt := 1423) hx hb dL_law_525 (by decide) ?_
    exact kk Y2 (if kc = 0 then vp_updL f 0 (r).toInt64 else f) M2 H locs ls hI2 hP hD hS (lv_sub hl [2, 3, 4, 5, 6] rfl)
  · have hk0 : kc = 0 := Classical.byContradiction (fun q => o6 q c5)
    refine lv_aload_n hx hb dL_law_513 rfl (lv_at hl 5 rfl) ?_
    refine lv_iconst (v := (0 : Int32)) hx hb dL_law_514 (by decide) ?_
    refine va_lald (f := (if kc = 0 then vp_updL f 0 (r).toInt64 else f)) (n := 1) hx hb hK hP (tw_wW cI cQ a na pa ta qa xa z Y2).length 2 (by rw [List.getElem?_append_left (by rw [List.length_append]; exact Nat.lt_succ_self _)]; exact tw_get_l) rfl (i := (0 : Int32)) (tw_vin (by decide)) dL_law_515 ?_
    refine lv_iload hx hb dL_law_516 (lv_at hl 0 rfl) ?_
    refine lv_i2l hx hb dL_law_518 rfl ?_
    refine W.lcmp hx hb dL_law_519 ?_
    have he9 : lg_cmp ((if kc = 0 then vp_updL f 0 (r).toInt64 else f) (0 : Int32).toNatClampNeg) rb.toInt64 = 0 := by
      have : (if kc = 0 then vp_updL f 0 (r).toInt64 else f) (0 : Int32).toNatClampNeg = rb.toInt64 := by
        rw [if_pos hk0, ← o5 hk0]
        rfl
      rw [this]; exact lw_cmp_eq _
    refine lv_if_eq (tgt := 525) hx hb dL_law_520 (by decide) (fun _ => ?_) (fun c => absurd he9 c)
    refine lv_goto (tgt := 1423) hx hb dL_law_525 (by decide) ?_
    exact kk Y2 (if kc = 0 then vp_updL f 0 (r).toInt64 else f) M2 H locs ls hI2 hP hD hS (lv_sub hl [2, 3, 4, 5, 6] rfl)
set_option maxHeartbeats 4000000 in
set_option maxRecDepth 100000 in
theorem lc_borrow {p : Program} {l : Launch} {e : Env} {s : State} {m : MethodId} {below : List Frame} {meth : Method} {c : Code} (hst : l.stackTraces = false) {b L : Nat} {xs : Nat → Int32} (C : lw_L p s m c b L xs) {Q : State → Prop} {G : va_G} {cI cQ cL : ClassId} {a na pa ta qa xa : Nat → Nat} {z : Nat → Nat → Nat} {o : Nat} {ma : Nat → Nat} {Y : tw_Wl} {f : Nat → Int64} {M : tw_Md} {H : Heap} {locs : List Loc} {cells slots : Nat} {ls : Array Slot} {x4 : Int32} (h1 : vp_in (x4 + (1 : Int32)) L) (h2 : vp_in (x4 + (2 : Int32)) L) (h3 : vp_in (x4 + (3 : Int32)) L) (hI : sp_I Y M) (hK : va_K G vwCl [(cI, .int), (cQ, .object RX1), (cL, .long)] s) (hP : va_P G vwCl (tw_LW cI cQ cL a na pa ta qa xa z o ma Y f M) H) (hD : va_D (fun q : Nat => s.heap.size ≤ q) (tw_LW cI cQ cL a na pa ta qa xa z o ma Y f M)) (hS : va_S (fun q : Nat => s.heap.size ≤ q) s.heap H locs) (hl : lv_has ls 9 [(0, .ref b), (1, .ref (a 0)), (2, .ref (ma 0)), (3, .ref o), (4, .int x4)]) (hcs : cells + 1 ≤ 601650 ∧ slots + 6 ≤ 7291155) (kk : lw_K p l e s m below meth c b Q G cI cQ cL a na pa ta qa xa z o ma x4 (cells + 1) (slots + 6)) : W p l e room_1 s m #[Value.ref b] below meth c H locs cells slots Q (F0 m 528 ls []) := by
  obtain ⟨hx, hb, hml, hown, hts, hX, hbl, hN, hNX, hNC, hU, hZ⟩ := id C
  have F : CallFix p m c cL_law 9 s #[Value.ref b] wsL_law RL := ⟨hx, hb, hml, hown, hts⟩
  have hA : ∀ q : Nat, s.heap.size ≤ q → (fun q : Nat => s.heap.size ≤ q) q := fun _ h => h
  have hbA : ¬ (fun q : Nat => s.heap.size ≤ q) b := Nat.not_le.mpr hbl
  unfold tw_LW at hP hD
  refine lv_aload_n hx hb dL_law_528 rfl (lv_at hl 1 rfl) ?_
  refine lv_aload_n hx hb dL_law_529 rfl (lv_at hl 0 rfl) ?_
  refine lv_iload hx hb dL_law_530 (lv_at hl 4 rfl) ?_
  refine lv_iconst (v := (1 : Int32)) hx hb dL_law_532 (by decide) ?_
  refine lv_iadd hx hb dL_law_533 ?_
  refine va_sld hx hb hX hbl hbA hS h1 dL_law_534 ?_
  refine lv_aload_n hx hb dL_law_535 rfl (lv_at hl 0 rfl) ?_
  refine lv_iload hx hb dL_law_536 (lv_at hl 4 rfl) ?_
  refine lv_iconst (v := (2 : Int32)) hx hb dL_law_538 (by decide) ?_
  refine lv_iadd hx hb dL_law_539 ?_
  refine va_sld hx hb hX hbl hbA hS h2 dL_law_540 ?_
  refine lv_aload_n hx hb dL_law_541 rfl (lv_at hl 0 rfl) ?_
  refine lv_iload hx hb dL_law_542 (lv_at hl 4 rfl) ?_
  refine lv_iconst (v := (3 : Int32)) hx hb dL_law_544 (by decide) ?_
  refine lv_iadd hx hb dL_law_545 ?_
  refine va_sld hx hb hX hbl hbA hS h3 dL_law_546 ?_
  refine lv_aload_n hx hb dL_law_547 rfl (lv_at hl 3 rfl) ?_
  obtain ⟨kc, r, Y2, rb, M2, o1, o2, hI2, o3, o4, o5, o6⟩ := sp_A_t (op_borrow hI (xs (x4 + (1 : Int32)).toNatClampNeg) (xs (x4 + (2 : Int32)).toNatClampNeg) (xs (x4 + (3 : Int32)).toNatClampNeg))
  have hkc : kc = 0 ∨ kc = 1 ∨ kc = 3 := by
    rcases o3 with h | ⟨h, h9⟩ | ⟨h, h9⟩ | ⟨h, h9⟩
    · exact Or.inl h
    · exact Or.inr (Or.inl h)
    · exact absurd rfl h9
    · exact Or.inr (Or.inr h)
  refine lw_callH (w1' := tw_wW cI cQ a na pa ta qa xa z Y2 ++ ([(o, .inl (cL, 1, .inr (.inl (if kc = 0 then vp_updL f 0 (r).toInt64 else f))))] : va_W)) F hN hK hP hD hS hA hNX hNC hU hZ (hL_borrow l hst G cI cQ cL a na pa ta qa xa z o Y f H.size (xs (x4 + (1 : Int32)).toNatClampNeg) (xs (x4 + (2 : Int32)).toNatClampNeg) (xs (x4 + (3 : Int32)).toNatClampNeg) o1 hkc) (vx_cwSW 5 hts gL_law_L_borrow rfl rfl rfl (by decide +kernel) ⟨Nat.le_of_ble_eq_true rfl, Nat.le_of_ble_eq_true rfl⟩) [0, 1, 2] rfl lw_fO (As := [.ref (a 0), .int (xs (x4 + (1 : Int32)).toNatClampNeg), .int (xs (x4 + (2 : Int32)).toNatClampNeg), .int (xs (x4 + (3 : Int32)).toNatClampNeg), .ref o]) (rest := []) rfl hl.1 rfl (Nat.le_of_ble_eq_true rfl) dL_law_548 hcs (fun H locs hP hD hS => ?_)
  refine lv_istore (lv' := [(5, .int (tw_hk 2 0 1 kc)), (0, .ref b), (1, .ref (a 0)), (2, .ref (ma 0)), (3, .ref o), (4, .int x4)]) hx hb dL_law_551 hl (by decide) rfl (fun ls hl => ?_)
  refine lv_aload_n hx hb dL_law_553 rfl (lv_at hl 3 rfl) ?_
  refine lv_aload_n hx hb dL_law_554 rfl (lv_at hl 1 rfl) ?_
  refine lv_iload hx hb dL_law_555 (lv_at hl 5 rfl) ?_
  refine lv_iconst (v := (1 : Int32)) hx hb dL_law_557 (by decide) ?_
  refine lv_iadd hx hb dL_law_558 ?_
  refine va_sld hx hb hX hbl hbA hS h1 dL_law_559 ?_
  refine lv_aload_n hx hb dL_law_560 rfl (lv_at hl 1 rfl) ?_
  refine lv_iload hx hb dL_law_561 (lv_at hl 5 rfl) ?_
  refine lv_iconst (v := (2 : Int32)) hx hb dL_law_563 (by decide) ?_
  refine lv_iadd hx hb dL_law_564 ?_
  refine va_sld hx hb hX hbl hbA hS h2 dL_law_565 ?_
  refine lv_aload_n hx hb dL_law_566 rfl (lv_at hl 1 rfl) ?_
  refine lv_iload hx hb dL_law_567 (lv_at hl 5 rfl) ?_
  refine lv_iconst (v := (3 : Int32)) hx hb dL_law_569 (by decide) ?_
  refine lv_iadd hx hb dL_law_570 ?_
  refine va_sld hx hb hX hbl hbA hS h3 dL_law_571 ?_
  refine tw_callVi (ws' := (tw_wW cI cQ a na pa ta qa xa z Y2 ++ ([(o, .inl (cL, 1, .inr (.inl (if kc = 0 then vp_updL f 0 (r).toInt64 else f))))] : va_W)) ++ tw_wM cI ma M2) F hN hK hP hD hS hA (mX4_borrow l G cI ma M H.size (xs (x4 + (1 : Int32)).toNatClampNeg) (xs (x4 + (2 : Int32)).toNatClampNeg) (xs (x4 + (3 : Int32)).toNatClampNeg) o2) (cwV 3 hts gL_law_X4_borrow rfl rfl rfl (by decide +kernel) ⟨Nat.le_of_ble_eq_true rfl, Nat.le_of_ble_eq_true rfl⟩) [0] rfl ((List.range (tw_wM cI ma M).length).map (fun i => i + (tw_wW cI cQ a na pa ta qa xa z Y2 ++ ([(o, .inl (cL, 1, .inr (.inl (if kc = 0 then vp_updL f 0 (r).toInt64 else f))))] : va_W)).length)) tw_snd tw_sC lw_fM (tw_sM lw_nM) (ci := 4) (r0 := 0) rfl rfl rfl (As := [.int (xs (x4 + (1 : Int32)).toNatClampNeg), .int (xs (x4 + (2 : Int32)).toNatClampNeg), .int (xs (x4 + (3 : Int32)).toNatClampNeg)]) (rest := []) rfl hl.1 rfl (Nat.le_of_ble_eq_true rfl) dL_law_572 hcs (fun H locs hP hD hS => ?_)
  refine lv_istore (lv' := [(6, .int rb), (5, .int (tw_hk 2 0 1 kc)), (0, .ref b), (1, .ref (a 0)), (2, .ref (ma 0)), (3, .ref o), (4, .int x4)]) hx hb dL_law_575 hl (by decide) rfl (fun ls hl => ?_)
  refine lv_aload_n hx hb dL_law_577 rfl (lv_at hl 4 rfl) ?_
  refine tw_callVi (rv := M2.2.2.2.2.2.2.1) (ws' := (tw_wW cI cQ a na pa ta qa xa z Y2 ++ ([(o, .inl (cL, 1, .inr (.inl (if kc = 0 then vp_updL f 0 (r).toInt64 else f))))] : va_W)) ++ (tw_wM cI ma M2)) F hN hK hP hD hS hA (mX4_thrown l G cI ma M2 H.size rfl) (cwV 0 hts gL_law_X4_thrown rfl rfl rfl (by decide +kernel) ⟨Nat.le_of_ble_eq_true rfl, Nat.le_of_ble_eq_true rfl⟩) [0] rfl ((List.range (tw_wM cI ma M2).length).map (fun i => i + (tw_wW cI cQ a na pa ta qa xa z Y2 ++ ([(o, .inl (cL, 1, .inr (.inl (if kc = 0 then vp_updL f 0 (r).toInt64 else f))))] : va_W)).length)) tw_snd tw_sC lw_fM (tw_sM lw_nM) (ci := 4) (r0 := 0) rfl rfl rfl (As := []) (rest := []) rfl hl.1 rfl (Nat.le_of_ble_eq_true rfl) dL_law_578 hcs (fun H locs hP hD hS => ?_)
  refine lv_iload hx hb dL_law_581 (lv_at hl 1 rfl) ?_
  refine lv_icmp_eq (tgt := 588) hx hb dL_law_583 (by decide) (fun _ => ?_) (fun c => absurd o4 c)
  refine lv_iload hx hb dL_law_588 (lv_at hl 1 rfl) ?_
  refine lv_if_ne (tgt := 605) hx hb dL_law_590 (by decide) (fun c5 => ?_) (fun c5 => ?_)
  · refine lv_goto (tgt := 1423) hx hb dL_law_605 (by decide) ?_
    exact kk Y2 (if kc = 0 then vp_updL f 0 (r).toInt64 else f) M2 H locs ls hI2 hP hD hS (lv_sub hl [2, 3, 4, 5, 6] rfl)
  · have hk0 : kc = 0 := Classical.byContradiction (fun q => o6 q c5)
    refine lv_aload_n hx hb dL_law_593 rfl (lv_at hl 5 rfl) ?_
    refine lv_iconst (v := (0 : Int32)) hx hb dL_law_594 (by decide) ?_
    refine va_lald (f := (if kc = 0 then vp_updL f 0 (r).toInt64 else f)) (n := 1) hx hb hK hP (tw_wW cI cQ a na pa ta qa xa z Y2).length 2 (by rw [List.getElem?_append_left (by rw [List.length_append]; exact Nat.lt_succ_self _)]; exact tw_get_l) rfl (i := (0 : Int32)) (tw_vin (by decide)) dL_law_595 ?_
    refine lv_iload hx hb dL_law_596 (lv_at hl 0 rfl) ?_
    refine lv_i2l hx hb dL_law_598 rfl ?_
    refine W.lcmp hx hb dL_law_599 ?_
    have he9 : lg_cmp ((if kc = 0 then vp_updL f 0 (r).toInt64 else f) (0 : Int32).toNatClampNeg) rb.toInt64 = 0 := by
      have : (if kc = 0 then vp_updL f 0 (r).toInt64 else f) (0 : Int32).toNatClampNeg = rb.toInt64 := by
        rw [if_pos hk0, ← o5 hk0]
        rfl
      rw [this]; exact lw_cmp_eq _
    refine lv_if_eq (tgt := 605) hx hb dL_law_600 (by decide) (fun _ => ?_) (fun c => absurd he9 c)
    refine lv_goto (tgt := 1423) hx hb dL_law_605 (by decide) ?_
    exact kk Y2 (if kc = 0 then vp_updL f 0 (r).toInt64 else f) M2 H locs ls hI2 hP hD hS (lv_sub hl [2, 3, 4, 5, 6] rfl)
