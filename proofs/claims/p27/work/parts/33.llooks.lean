abbrev rmL_looks : Room := { frames := 7, cells := 0, slots := 0, locals := 169 }
set_option maxHeartbeats 4000000 in
set_option maxRecDepth 100000 in
theorem mL_looks (l : Launch) (G : va_G) (cI : ClassId) (cQ : ClassId) (a na pa ta qa xa : Nat → Nat) (z : Nat → Nat → Nat) (Y : tw_Wl) (sz : Nat)  {rv : Int32 × tw_Wl} (h : fL_looks Y = some rv) : tw_Mi l yL_looks wsL_looks rmL_looks G [(cI, .int), (cQ, .object RX1)] (tw_wW cI cQ a na pa ta qa xa z Y) [.ref (a 0)] sz rv.1 (tw_wW cI cQ a na pa ta qa xa z rv.2) := by
  refine tw_ofi (ty := .boolean) (cc := cL_looks) (maxL := 5) (own := RL) (by decide) rfl rfl (Nat.le_of_ble_eq_true rfl) ?_
  intro p e s m args below meth c Q A ls H locs F hN hK hP hD hS hA hl hq
  obtain ⟨hx, hb, hml, hown, hts⟩ := id F
  have hl : lv_has ls 5 [(0, .ref (a 0))] := hl
  unfold fL_looks at h
  have L261 : ∀ (t0 : Int32) (Y : tw_Wl) (H : Heap) (locs : List Loc) (ls : Array Slot), fL_looks_261 t0 Y = some rv → lv_has ls 5 [(0, .ref (a 0))] → va_P G vwCl (tw_wW cI cQ a na pa ta qa xa z Y) H → va_D A (tw_wW cI cQ a na pa ta qa xa z Y) → va_S A s.heap H locs → W p l e rmL_looks s m args below meth c H locs 0 0 Q (F0 m 261 ls [.int t0]) := by
    intro t0 Y H locs ls h hl hP hD hS
    unfold fL_looks_261 at h
    refine lv_aload_n hx hb dL_looks_261 rfl (lv_at hl 0 rfl) ?_
    obtain ⟨r262, e262, h⟩ := tw_bs h
    refine tw_callVdF (ws' := (tw_wW cI cQ a na pa ta qa xa z Y)) (As := []) (rest := [.int t0]) F hN hK hP hD hS hA (mX3_busyness l G cI cQ a na pa ta qa xa z Y H.size e262) (cwV 0 hts gL_looks_X3_busyness rfl rfl rfl (by decide +kernel) ⟨(Nat.le_of_ble_eq_true rfl), (Nat.le_of_ble_eq_true rfl)⟩) rfl (r0 := 0) (ci := 3) rfl rfl rfl rfl hl.1 rfl (Nat.le_of_ble_eq_true rfl) dL_looks_262 ⟨Nat.zero_le _, Nat.zero_le _⟩ (fun H locs hP hD hS => ?_)
    refine lv_dconst0 hx hb dL_looks_265 ?_
    refine lv_dcmp hx hb dL_looks_266 ?_
    refine lv_if_le (tgt := 274) hx hb dL_looks_267 (by decide) (fun c267 => ?_) (fun c267 => ?_)
    · replace h := tw_t c267 h
      refine lv_iconst (v := (0 : Int32)) hx hb dL_looks_274 (by decide) ?_
      refine lv_icmp_ne (tgt := 282) hx hb dL_looks_275 (by decide) (fun c275 => ?_) (fun c275 => ?_)
      · replace h := tw_t c275 h
        refine lv_iconst (v := (0 : Int32)) hx hb dL_looks_282 (by decide) ?_
        exact hq H locs _ ls (0 : Int32) (tw_rt (fun r => r.1 = (0 : Int32)) h rfl) rfl (tw_rt (fun r => va_P G vwCl (tw_wW cI cQ a na pa ta qa xa z r.2) H) h hP) hS dL_looks_283
      · replace h := tw_fn c275 h
        refine lv_iconst (v := (1 : Int32)) hx hb dL_looks_278 (by decide) ?_
        refine lv_goto (tgt := 283) hx hb dL_looks_279 (by decide) ?_
        exact hq H locs _ ls (1 : Int32) (tw_rt (fun r => r.1 = (1 : Int32)) h rfl) rfl (tw_rt (fun r => va_P G vwCl (tw_wW cI cQ a na pa ta qa xa z r.2) H) h hP) hS dL_looks_283
    · replace h := tw_f c267 h
      refine lv_iconst (v := (1 : Int32)) hx hb dL_looks_270 (by decide) ?_
      refine lv_goto (tgt := 275) hx hb dL_looks_271 (by decide) ?_
      refine lv_icmp_ne (tgt := 282) hx hb dL_looks_275 (by decide) (fun c275 => ?_) (fun c275 => ?_)
      · replace h := tw_t c275 h
        refine lv_iconst (v := (0 : Int32)) hx hb dL_looks_282 (by decide) ?_
        exact hq H locs _ ls (0 : Int32) (tw_rt (fun r => r.1 = (0 : Int32)) h rfl) rfl (tw_rt (fun r => va_P G vwCl (tw_wW cI cQ a na pa ta qa xa z r.2) H) h hP) hS dL_looks_283
      · replace h := tw_fn c275 h
        refine lv_iconst (v := (1 : Int32)) hx hb dL_looks_278 (by decide) ?_
        refine lv_goto (tgt := 283) hx hb dL_looks_279 (by decide) ?_
        exact hq H locs _ ls (1 : Int32) (tw_rt (fun r => r.1 = (1 : Int32)) h rfl) rfl (tw_rt (fun r => va_P G vwCl (tw_wW cI cQ a na pa ta qa xa z r.2) H) h hP) hS dL_looks_283
  have L225 : ∀ (Y : tw_Wl) (H : Heap) (locs : List Loc) (ls : Array Slot), fL_looks_225 Y = some rv → lv_has ls 5 [(0, .ref (a 0))] → va_P G vwCl (tw_wW cI cQ a na pa ta qa xa z Y) H → va_D A (tw_wW cI cQ a na pa ta qa xa z Y) → va_S A s.heap H locs → W p l e rmL_looks s m args below meth c H locs 0 0 Q (F0 m 225 ls []) := by
    intro Y H locs ls h hl hP hD hS
    unfold fL_looks_225 at h
    refine lv_aload_n hx hb dL_looks_225 rfl (lv_at hl 0 rfl) ?_
    refine lv_bipush (v := (7 : Int32)) hx hb dL_looks_226 (by decide) ?_
    obtain ⟨r228, e228, h⟩ := tw_bs h
    obtain ⟨k228, h⟩ := tw_qs h
    refine tw_callViF (ws' := (tw_wW cI cQ a na pa ta qa xa z r228.2.2)) (As := [.int (7 : Int32)]) (rest := []) F hN hK hP hD hS hA (mX3_count l G cI cQ a na pa ta qa xa z Y H.size (7 : Int32) e228 k228) (cwV 1 hts gL_looks_X3_count rfl rfl rfl (by decide +kernel) ⟨(Nat.le_of_ble_eq_true rfl), (Nat.le_of_ble_eq_true rfl)⟩) rfl (r0 := 0) (ci := 3) rfl rfl rfl rfl hl.1 rfl (Nat.le_of_ble_eq_true rfl) dL_looks_228 ⟨Nat.zero_le _, Nat.zero_le _⟩ (fun H locs hP hD hS => ?_)
    refine lv_aload_n hx hb dL_looks_231 rfl (lv_at hl 0 rfl) ?_
    refine lv_iconst (v := (4 : Int32)) hx hb dL_looks_232 (by decide) ?_
    obtain ⟨r233, e233, h⟩ := tw_bs h
    obtain ⟨k233, h⟩ := tw_qs h
    refine tw_callViF (ws' := (tw_wW cI cQ a na pa ta qa xa z r233.2.2)) (As := [.int (4 : Int32)]) (rest := [.int r228.2.1]) F hN hK hP hD hS hA (mX3_count l G cI cQ a na pa ta qa xa z r228.2.2 H.size (4 : Int32) e233 k233) (cwV 1 hts gL_looks_X3_count rfl rfl rfl (by decide +kernel) ⟨(Nat.le_of_ble_eq_true rfl), (Nat.le_of_ble_eq_true rfl)⟩) rfl (r0 := 0) (ci := 3) rfl rfl rfl rfl hl.1 rfl (Nat.le_of_ble_eq_true rfl) dL_looks_233 ⟨Nat.zero_le _, Nat.zero_le _⟩ (fun H locs hP hD hS => ?_)
    refine lv_icmp_gt (tgt := 282) hx hb dL_looks_236 (by decide) (fun c236 => ?_) (fun c236 => ?_)
    · replace h := tw_t c236 h
      refine lv_iconst (v := (0 : Int32)) hx hb dL_looks_282 (by decide) ?_
      exact hq H locs _ ls (0 : Int32) (tw_rt (fun r => r.1 = (0 : Int32)) h rfl) rfl (tw_rt (fun r => va_P G vwCl (tw_wW cI cQ a na pa ta qa xa z r.2) H) h hP) hS dL_looks_283
    · replace h := tw_f c236 h
      refine lv_aload_n hx hb dL_looks_239 rfl (lv_at hl 0 rfl) ?_
      obtain ⟨r240, e240, h⟩ := tw_bs h
      refine tw_callVdF (ws' := (tw_wW cI cQ a na pa ta qa xa z r233.2.2)) (As := []) (rest := []) F hN hK hP hD hS hA (mX3_busyness l G cI cQ a na pa ta qa xa z r233.2.2 H.size e240) (cwV 0 hts gL_looks_X3_busyness rfl rfl rfl (by decide +kernel) ⟨(Nat.le_of_ble_eq_true rfl), (Nat.le_of_ble_eq_true rfl)⟩) rfl (r0 := 0) (ci := 3) rfl rfl rfl rfl hl.1 rfl (Nat.le_of_ble_eq_true rfl) dL_looks_240 ⟨Nat.zero_le _, Nat.zero_le _⟩ (fun H locs hP hD hS => ?_)
      refine lv_dconst0 hx hb dL_looks_243 ?_
      refine lv_dcmp hx hb dL_looks_244 ?_
      refine lv_if_lt (tgt := 282) hx hb dL_looks_245 (by decide) (fun c245 => ?_) (fun c245 => ?_)
      · replace h := tw_t c245 h
        refine lv_iconst (v := (0 : Int32)) hx hb dL_looks_282 (by decide) ?_
        exact hq H locs _ ls (0 : Int32) (tw_rt (fun r => r.1 = (0 : Int32)) h rfl) rfl (tw_rt (fun r => va_P G vwCl (tw_wW cI cQ a na pa ta qa xa z r.2) H) h hP) hS dL_looks_283
      · replace h := tw_f c245 h
        refine lv_aload_n hx hb dL_looks_248 rfl (lv_at hl 0 rfl) ?_
        refine lv_iconst (v := (1 : Int32)) hx hb dL_looks_249 (by decide) ?_
        obtain ⟨r250, e250, h⟩ := tw_bs h
        obtain ⟨k250, h⟩ := tw_qs h
        refine tw_callViF (ws' := (tw_wW cI cQ a na pa ta qa xa z r250.2.2)) (As := [.int (1 : Int32)]) (rest := []) F hN hK hP hD hS hA (mX3_count l G cI cQ a na pa ta qa xa z r233.2.2 H.size (1 : Int32) e250 k250) (cwV 1 hts gL_looks_X3_count rfl rfl rfl (by decide +kernel) ⟨(Nat.le_of_ble_eq_true rfl), (Nat.le_of_ble_eq_true rfl)⟩) rfl (r0 := 0) (ci := 3) rfl rfl rfl rfl hl.1 rfl (Nat.le_of_ble_eq_true rfl) dL_looks_250 ⟨Nat.zero_le _, Nat.zero_le _⟩ (fun H locs hP hD hS => ?_)
        refine lv_if_le (tgt := 260) hx hb dL_looks_253 (by decide) (fun c253 => ?_) (fun c253 => ?_)
        · replace h := tw_t c253 h
          refine lv_iconst (v := (0 : Int32)) hx hb dL_looks_260 (by decide) ?_
          exact L261 (0 : Int32) r250.2.2 H locs ls h (lv_sub hl [0] rfl) hP hD hS
        · replace h := tw_f c253 h
          refine lv_iconst (v := (1 : Int32)) hx hb dL_looks_256 (by decide) ?_
          refine lv_goto (tgt := 261) hx hb dL_looks_257 (by decide) ?_
          exact L261 (1 : Int32) r250.2.2 H locs ls h (lv_sub hl [0] rfl) hP hD hS
  have L198 : ∀ (t0 : Int32) (Y : tw_Wl) (H : Heap) (locs : List Loc) (ls : Array Slot), fL_looks_198 t0 Y = some rv → lv_has ls 5 [(0, .ref (a 0))] → va_P G vwCl (tw_wW cI cQ a na pa ta qa xa z Y) H → va_D A (tw_wW cI cQ a na pa ta qa xa z Y) → va_S A s.heap H locs → W p l e rmL_looks s m args below meth c H locs 0 0 Q (F0 m 198 ls [.int t0]) := by
    intro t0 Y H locs ls h hl hP hD hS
    unfold fL_looks_198 at h
    refine lv_istore_n (lv' := [(1, .int t0), (0, .ref (a 0))]) hx hb dL_looks_198 rfl hl (by decide) rfl (fun ls hl => ?_)
    refine lv_iload_n hx hb dL_looks_199 rfl (lv_at hl 0 rfl) ?_
    refine lv_if_eq (tgt := 282) hx hb dL_looks_200 (by decide) (fun c200 => ?_) (fun c200 => ?_)
    · replace h := tw_t c200 h
      refine lv_iconst (v := (0 : Int32)) hx hb dL_looks_282 (by decide) ?_
      exact hq H locs _ ls (0 : Int32) (tw_rt (fun r => r.1 = (0 : Int32)) h rfl) rfl (tw_rt (fun r => va_P G vwCl (tw_wW cI cQ a na pa ta qa xa z r.2) H) h hP) hS dL_looks_283
    · replace h := tw_f c200 h
      refine lv_aload_n hx hb dL_looks_203 rfl (lv_at hl 1 rfl) ?_
      refine lv_iconst (v := (2 : Int32)) hx hb dL_looks_204 (by decide) ?_
      obtain ⟨r205, e205, h⟩ := tw_bs h
      obtain ⟨k205, h⟩ := tw_qs h
      refine tw_callViF (ws' := (tw_wW cI cQ a na pa ta qa xa z r205.2.2)) (As := [.int (2 : Int32)]) (rest := []) F hN hK hP hD hS hA (mX3_count l G cI cQ a na pa ta qa xa z Y H.size (2 : Int32) e205 k205) (cwV 1 hts gL_looks_X3_count rfl rfl rfl (by decide +kernel) ⟨(Nat.le_of_ble_eq_true rfl), (Nat.le_of_ble_eq_true rfl)⟩) rfl (r0 := 0) (ci := 3) rfl rfl rfl rfl hl.1 rfl (Nat.le_of_ble_eq_true rfl) dL_looks_205 ⟨Nat.zero_le _, Nat.zero_le _⟩ (fun H locs hP hD hS => ?_)
      refine lv_if_gt (tgt := 225) hx hb dL_looks_208 (by decide) (fun c208 => ?_) (fun c208 => ?_)
      · replace h := tw_t c208 h
        exact L225 r205.2.2 H locs ls h (lv_sub hl [1] rfl) hP hD hS
      · replace h := tw_f c208 h
        refine lv_aload_n hx hb dL_looks_211 rfl (lv_at hl 1 rfl) ?_
        refine lv_iconst (v := (3 : Int32)) hx hb dL_looks_212 (by decide) ?_
        obtain ⟨r213, e213, h⟩ := tw_bs h
        obtain ⟨k213, h⟩ := tw_qs h
        refine tw_callViF (ws' := (tw_wW cI cQ a na pa ta qa xa z r213.2.2)) (As := [.int (3 : Int32)]) (rest := []) F hN hK hP hD hS hA (mX3_count l G cI cQ a na pa ta qa xa z r205.2.2 H.size (3 : Int32) e213 k213) (cwV 1 hts gL_looks_X3_count rfl rfl rfl (by decide +kernel) ⟨(Nat.le_of_ble_eq_true rfl), (Nat.le_of_ble_eq_true rfl)⟩) rfl (r0 := 0) (ci := 3) rfl rfl rfl rfl hl.1 rfl (Nat.le_of_ble_eq_true rfl) dL_looks_213 ⟨Nat.zero_le _, Nat.zero_le _⟩ (fun H locs hP hD hS => ?_)
        refine lv_aload_n hx hb dL_looks_216 rfl (lv_at hl 1 rfl) ?_
        refine lv_bipush (v := (7 : Int32)) hx hb dL_looks_217 (by decide) ?_
        obtain ⟨r219, e219, h⟩ := tw_bs h
        obtain ⟨k219, h⟩ := tw_qs h
        refine tw_callViF (ws' := (tw_wW cI cQ a na pa ta qa xa z r219.2.2)) (As := [.int (7 : Int32)]) (rest := [.int r213.2.1]) F hN hK hP hD hS hA (mX3_count l G cI cQ a na pa ta qa xa z r213.2.2 H.size (7 : Int32) e219 k219) (cwV 1 hts gL_looks_X3_count rfl rfl rfl (by decide +kernel) ⟨(Nat.le_of_ble_eq_true rfl), (Nat.le_of_ble_eq_true rfl)⟩) rfl (r0 := 0) (ci := 3) rfl rfl rfl rfl hl.1 rfl (Nat.le_of_ble_eq_true rfl) dL_looks_219 ⟨Nat.zero_le _, Nat.zero_le _⟩ (fun H locs hP hD hS => ?_)
        refine lv_icmp_lt (tgt := 282) hx hb dL_looks_222 (by decide) (fun c222 => ?_) (fun c222 => ?_)
        · replace h := tw_t c222 h
          refine lv_iconst (v := (0 : Int32)) hx hb dL_looks_282 (by decide) ?_
          exact hq H locs _ ls (0 : Int32) (tw_rt (fun r => r.1 = (0 : Int32)) h rfl) rfl (tw_rt (fun r => va_P G vwCl (tw_wW cI cQ a na pa ta qa xa z r.2) H) h hP) hS dL_looks_283
        · replace h := tw_f c222 h
          exact L225 r219.2.2 H locs ls h (lv_sub hl [1] rfl) hP hD hS
  have L156 : ∀ (v1 : Int32) (Y : tw_Wl) (H : Heap) (locs : List Loc) (ls : Array Slot), fL_looks_156 v1 Y = some rv → lv_has ls 5 [(0, .ref (a 0)), (1, .int v1)] → va_P G vwCl (tw_wW cI cQ a na pa ta qa xa z Y) H → va_D A (tw_wW cI cQ a na pa ta qa xa z Y) → va_S A s.heap H locs → W p l e rmL_looks s m args below meth c H locs 0 0 Q (F0 m 156 ls []) := by
    intro v1 Y H locs ls h hl hP hD hS
    unfold fL_looks_156 at h
    refine lv_aload_n hx hb dL_looks_156 rfl (lv_at hl 0 rfl) ?_
    refine lv_iconst (v := (3 : Int32)) hx hb dL_looks_157 (by decide) ?_
    obtain ⟨r158, e158, h⟩ := tw_bs h
    obtain ⟨k158, h⟩ := tw_qs h
    refine tw_callViF (ws' := (tw_wW cI cQ a na pa ta qa xa z r158.2.2)) (As := [.int (3 : Int32)]) (rest := []) F hN hK hP hD hS hA (mX3_worstSlip l G cI cQ a na pa ta qa xa z Y H.size (3 : Int32) e158 k158) (cwV 1 hts gL_looks_X3_worstSlip rfl rfl rfl (by decide +kernel) ⟨(Nat.le_of_ble_eq_true rfl), (Nat.le_of_ble_eq_true rfl)⟩) rfl (r0 := 0) (ci := 3) rfl rfl rfl rfl hl.1 rfl (Nat.le_of_ble_eq_true rfl) dL_looks_158 ⟨Nat.zero_le _, Nat.zero_le _⟩ (fun H locs hP hD hS => ?_)
    refine lv_istore_n (lv' := [(2, .int r158.2.1), (0, .ref (a 0)), (1, .int v1)]) hx hb dL_looks_161 rfl hl (by decide) rfl (fun ls hl => ?_)
    refine lv_iload_n hx hb dL_looks_162 rfl (lv_at hl 2 rfl) ?_
    refine lv_if_eq (tgt := 197) hx hb dL_looks_163 (by decide) (fun c163 => ?_) (fun c163 => ?_)
    · replace h := tw_t c163 h
      refine lv_iconst (v := (0 : Int32)) hx hb dL_looks_197 (by decide) ?_
      exact L198 (0 : Int32) r158.2.2 H locs ls h (lv_sub hl [1] rfl) hP hD hS
    · replace h := tw_f c163 h
      refine lv_iload_n hx hb dL_looks_166 rfl (lv_at hl 0 rfl) ?_
      refine lv_iconst (v := (-1 : Int32)) hx hb dL_looks_167 (by decide) ?_
      refine lv_icmp_eq (tgt := 193) hx hb dL_looks_168 (by decide) (fun c168 => ?_) (fun c168 => ?_)
      · replace h := tw_t c168 h
        refine lv_iconst (v := (1 : Int32)) hx hb dL_looks_193 (by decide) ?_
        refine lv_goto (tgt := 198) hx hb dL_looks_194 (by decide) ?_
        exact L198 (1 : Int32) r158.2.2 H locs ls h (lv_sub hl [1] rfl) hP hD hS
      · replace h := tw_f c168 h
        refine lv_aload_n hx hb dL_looks_171 rfl (lv_at hl 1 rfl) ?_
        refine lv_iload_n hx hb dL_looks_172 rfl (lv_at hl 0 rfl) ?_
        refine lv_bipush (v := (6 : Int32)) hx hb dL_looks_173 (by decide) ?_
        obtain ⟨r175, e175, h⟩ := tw_bs h
        obtain ⟨k175, h⟩ := tw_qs h
        refine tw_callViF (ws' := (tw_wW cI cQ a na pa ta qa xa z r175.2.2)) (As := [.int r158.2.1, .int (6 : Int32)]) (rest := []) F hN hK hP hD hS hA (mX3_task l G cI cQ a na pa ta qa xa z r158.2.2 H.size r158.2.1 (6 : Int32) e175 k175) (cwV 2 hts gL_looks_X3_task rfl rfl rfl (by decide +kernel) ⟨(Nat.le_of_ble_eq_true rfl), (Nat.le_of_ble_eq_true rfl)⟩) rfl (r0 := 0) (ci := 3) rfl rfl rfl rfl hl.1 rfl (Nat.le_of_ble_eq_true rfl) dL_looks_175 ⟨Nat.zero_le _, Nat.zero_le _⟩ (fun H locs hP hD hS => ?_)
        refine lv_if_lt (tgt := 197) hx hb dL_looks_178 (by decide) (fun c178 => ?_) (fun c178 => ?_)
        · replace h := tw_t c178 h
          refine lv_iconst (v := (0 : Int32)) hx hb dL_looks_197 (by decide) ?_
          exact L198 (0 : Int32) r175.2.2 H locs ls h (lv_sub hl [1] rfl) hP hD hS
        · replace h := tw_f c178 h
          refine lv_aload_n hx hb dL_looks_181 rfl (lv_at hl 1 rfl) ?_
          refine lv_iload_n hx hb dL_looks_182 rfl (lv_at hl 0 rfl) ?_
          refine lv_bipush (v := (6 : Int32)) hx hb dL_looks_183 (by decide) ?_
          obtain ⟨r185, e185, h⟩ := tw_bs h
          obtain ⟨k185, h⟩ := tw_qs h
          refine tw_callViF (ws' := (tw_wW cI cQ a na pa ta qa xa z r185.2.2)) (As := [.int r158.2.1, .int (6 : Int32)]) (rest := []) F hN hK hP hD hS hA (mX3_task l G cI cQ a na pa ta qa xa z r175.2.2 H.size r158.2.1 (6 : Int32) e185 k185) (cwV 2 hts gL_looks_X3_task rfl rfl rfl (by decide +kernel) ⟨(Nat.le_of_ble_eq_true rfl), (Nat.le_of_ble_eq_true rfl)⟩) rfl (r0 := 0) (ci := 3) rfl rfl rfl rfl hl.1 rfl (Nat.le_of_ble_eq_true rfl) dL_looks_185 ⟨Nat.zero_le _, Nat.zero_le _⟩ (fun H locs hP hD hS => ?_)
          refine lv_bipush (v := (57 : Int32)) hx hb dL_looks_188 (by decide) ?_
          refine lv_icmp_gt (tgt := 197) hx hb dL_looks_190 (by decide) (fun c190 => ?_) (fun c190 => ?_)
          · replace h := tw_t c190 h
            refine lv_iconst (v := (0 : Int32)) hx hb dL_looks_197 (by decide) ?_
            exact L198 (0 : Int32) r185.2.2 H locs ls h (lv_sub hl [1] rfl) hP hD hS
          · replace h := tw_f c190 h
            refine lv_iconst (v := (1 : Int32)) hx hb dL_looks_193 (by decide) ?_
            refine lv_goto (tgt := 198) hx hb dL_looks_194 (by decide) ?_
            exact L198 (1 : Int32) r185.2.2 H locs ls h (lv_sub hl [1] rfl) hP hD hS
  have L60 : ∀ (n60 : Nat) (v1 : Int32) (v2 : Int32) (Y : tw_Wl) (H : Heap) (locs : List Loc) (ls : Array Slot), fL_looks_60 n60 v1 v2 Y = some rv → lv_has ls 5 [(0, .ref (a 0)), (1, .int v1), (2, .int v2)] → va_P G vwCl (tw_wW cI cQ a na pa ta qa xa z Y) H → va_D A (tw_wW cI cQ a na pa ta qa xa z Y) → va_S A s.heap H locs → W p l e rmL_looks s m args below meth c H locs 0 0 Q (F0 m 60 ls []) := by
    intro n60
    induction n60 with
    | zero =>
      intro v1 v2 Y H locs ls h
      rw [fL_looks_60] at h
      cases h
    | succ n60 ih60 =>
      intro v1 v2 Y H locs ls h hl hP hD hS
      rw [fL_looks_60] at h
      have L74 : ∀ (n74 : Nat) (v2 : Int32) (v3 : Int32) (v4 : Int32) (Y : tw_Wl) (H : Heap) (locs : List Loc) (ls : Array Slot), fL_looks_74 (fL_looks_60 n60) n74 v2 v3 v4 Y = some rv → lv_has ls 5 [(0, .ref (a 0)), (2, .int v2), (3, .int v3), (4, .int v4)] → va_P G vwCl (tw_wW cI cQ a na pa ta qa xa z Y) H → va_D A (tw_wW cI cQ a na pa ta qa xa z Y) → va_S A s.heap H locs → W p l e rmL_looks s m args below meth c H locs 0 0 Q (F0 m 74 ls []) := by
        intro n74
        induction n74 with
        | zero =>
          intro v2 v3 v4 Y H locs ls h
          rw [fL_looks_74] at h
          cases h
        | succ n74 ih74 =>
          intro v2 v3 v4 Y H locs ls h hl hP hD hS
          rw [fL_looks_74] at h
          refine lv_iload hx hb dL_looks_74 (lv_at hl 3 rfl) ?_
          refine lv_bipush (v := (100 : Int32)) hx hb dL_looks_76 (by decide) ?_
          refine lv_icmp_ge (tgt := 105) hx hb dL_looks_78 (by decide) (fun c78 => ?_) (fun c78 => ?_)
          · replace h := tw_t c78 h
            refine lv_aload_n hx hb dL_looks_105 rfl (lv_at hl 0 rfl) ?_
            refine lv_iload_n hx hb dL_looks_106 rfl (lv_at hl 1 rfl) ?_
            refine lv_iconst (v := (2 : Int32)) hx hb dL_looks_107 (by decide) ?_
            obtain ⟨r108, e108, h⟩ := tw_bs h
            obtain ⟨k108, h⟩ := tw_qs h
            refine tw_callViF (ws' := (tw_wW cI cQ a na pa ta qa xa z Y)) (As := [.int v2, .int (2 : Int32)]) (rest := []) F hN hK hP hD hS hA (mX3_hall l G cI cQ a na pa ta qa xa z Y H.size v2 (2 : Int32) e108 k108) (cwV 2 hts gL_looks_X3_hall rfl rfl rfl (by decide +kernel) ⟨(Nat.le_of_ble_eq_true rfl), (Nat.le_of_ble_eq_true rfl)⟩) rfl (r0 := 0) (ci := 3) rfl rfl rfl rfl hl.1 rfl (Nat.le_of_ble_eq_true rfl) dL_looks_108 ⟨Nat.zero_le _, Nat.zero_le _⟩ (fun H locs hP hD hS => ?_)
            refine lv_iload_n hx hb dL_looks_111 rfl (lv_at hl 2 rfl) ?_
            refine lv_icmp_ne (tgt := 148) hx hb dL_looks_112 (by decide) (fun c112 => ?_) (fun c112 => ?_)
            · replace h := tw_t c112 h
              refine lv_iconst (v := (0 : Int32)) hx hb dL_looks_148 (by decide) ?_
              refine lv_istore_n (lv' := [(1, .int (0 : Int32)), (0, .ref (a 0)), (2, .int v2), (3, .int v3), (4, .int v4)]) hx hb dL_looks_149 rfl hl (by decide) rfl (fun ls hl => ?_)
              refine lv_iinc (v := (v2 + 1)) (lv' := [(2, .int (v2 + 1)), (1, .int (0 : Int32)), (0, .ref (a 0)), (3, .int v3), (4, .int v4)]) hx hb dL_looks_150 hl (k := 2) rfl rfl (by decide) rfl (fun ls hl => ?_)
              refine lv_goto (tgt := 60) hx hb dL_looks_153 (by decide) ?_
              exact ih60 (0 : Int32) (v2 + 1) Y H locs ls h (lv_sub hl [2, 1, 0] rfl) hP hD hS
            · replace h := tw_fn c112 h
              refine lv_aload_n hx hb dL_looks_115 rfl (lv_at hl 0 rfl) ?_
              refine lv_iload_n hx hb dL_looks_116 rfl (lv_at hl 1 rfl) ?_
              refine lv_iconst (v := (0 : Int32)) hx hb dL_looks_117 (by decide) ?_
              obtain ⟨r118, e118, h⟩ := tw_bs h
              obtain ⟨k118, h⟩ := tw_qs h
              refine tw_callViF (ws' := (tw_wW cI cQ a na pa ta qa xa z Y)) (As := [.int v2, .int (0 : Int32)]) (rest := []) F hN hK hP hD hS hA (mX3_hall l G cI cQ a na pa ta qa xa z Y H.size v2 (0 : Int32) e118 k118) (cwV 2 hts gL_looks_X3_hall rfl rfl rfl (by decide +kernel) ⟨(Nat.le_of_ble_eq_true rfl), (Nat.le_of_ble_eq_true rfl)⟩) rfl (r0 := 0) (ci := 3) rfl rfl rfl rfl hl.1 rfl (Nat.le_of_ble_eq_true rfl) dL_looks_118 ⟨Nat.zero_le _, Nat.zero_le _⟩ (fun H locs hP hD hS => ?_)
              refine lv_aload_n hx hb dL_looks_121 rfl (lv_at hl 0 rfl) ?_
              refine lv_iload_n hx hb dL_looks_122 rfl (lv_at hl 1 rfl) ?_
              refine lv_iconst (v := (1 : Int32)) hx hb dL_looks_123 (by decide) ?_
              obtain ⟨r124, e124, h⟩ := tw_bs h
              obtain ⟨k124, h⟩ := tw_qs h
              refine tw_callViF (ws' := (tw_wW cI cQ a na pa ta qa xa z Y)) (As := [.int v2, .int (1 : Int32)]) (rest := [.int r118.2]) F hN hK hP hD hS hA (mX3_hall l G cI cQ a na pa ta qa xa z Y H.size v2 (1 : Int32) e124 k124) (cwV 2 hts gL_looks_X3_hall rfl rfl rfl (by decide +kernel) ⟨(Nat.le_of_ble_eq_true rfl), (Nat.le_of_ble_eq_true rfl)⟩) rfl (r0 := 0) (ci := 3) rfl rfl rfl rfl hl.1 rfl (Nat.le_of_ble_eq_true rfl) dL_looks_124 ⟨Nat.zero_le _, Nat.zero_le _⟩ (fun H locs hP hD hS => ?_)
              refine lv_icmp_gt (tgt := 148) hx hb dL_looks_127 (by decide) (fun c127 => ?_) (fun c127 => ?_)
              · replace h := tw_t c127 h
                refine lv_iconst (v := (0 : Int32)) hx hb dL_looks_148 (by decide) ?_
                refine lv_istore_n (lv' := [(1, .int (0 : Int32)), (0, .ref (a 0)), (2, .int v2), (3, .int v3), (4, .int v4)]) hx hb dL_looks_149 rfl hl (by decide) rfl (fun ls hl => ?_)
                refine lv_iinc (v := (v2 + 1)) (lv' := [(2, .int (v2 + 1)), (1, .int (0 : Int32)), (0, .ref (a 0)), (3, .int v3), (4, .int v4)]) hx hb dL_looks_150 hl (k := 2) rfl rfl (by decide) rfl (fun ls hl => ?_)
                refine lv_goto (tgt := 60) hx hb dL_looks_153 (by decide) ?_
                exact ih60 (0 : Int32) (v2 + 1) Y H locs ls h (lv_sub hl [2, 1, 0] rfl) hP hD hS
              · replace h := tw_f c127 h
                refine lv_aload_n hx hb dL_looks_130 rfl (lv_at hl 0 rfl) ?_
                refine lv_iload_n hx hb dL_looks_131 rfl (lv_at hl 1 rfl) ?_
                refine lv_iconst (v := (3 : Int32)) hx hb dL_looks_132 (by decide) ?_
                obtain ⟨r133, e133, h⟩ := tw_bs h
                obtain ⟨k133, h⟩ := tw_qs h
                refine tw_callViF (ws' := (tw_wW cI cQ a na pa ta qa xa z Y)) (As := [.int v2, .int (3 : Int32)]) (rest := []) F hN hK hP hD hS hA (mX3_hall l G cI cQ a na pa ta qa xa z Y H.size v2 (3 : Int32) e133 k133) (cwV 2 hts gL_looks_X3_hall rfl rfl rfl (by decide +kernel) ⟨(Nat.le_of_ble_eq_true rfl), (Nat.le_of_ble_eq_true rfl)⟩) rfl (r0 := 0) (ci := 3) rfl rfl rfl rfl hl.1 rfl (Nat.le_of_ble_eq_true rfl) dL_looks_133 ⟨Nat.zero_le _, Nat.zero_le _⟩ (fun H locs hP hD hS => ?_)
                refine lv_aload_n hx hb dL_looks_136 rfl (lv_at hl 0 rfl) ?_
                refine lv_iconst (v := (1 : Int32)) hx hb dL_looks_137 (by decide) ?_
                obtain ⟨r138, e138, h⟩ := tw_bs h
                obtain ⟨k138, h⟩ := tw_qs h
                refine tw_callViF (ws' := (tw_wW cI cQ a na pa ta qa xa z r138.2.2)) (As := [.int (1 : Int32)]) (rest := [.int r133.2]) F hN hK hP hD hS hA (mX3_count l G cI cQ a na pa ta qa xa z Y H.size (1 : Int32) e138 k138) (cwV 1 hts gL_looks_X3_count rfl rfl rfl (by decide +kernel) ⟨(Nat.le_of_ble_eq_true rfl), (Nat.le_of_ble_eq_true rfl)⟩) rfl (r0 := 0) (ci := 3) rfl rfl rfl rfl hl.1 rfl (Nat.le_of_ble_eq_true rfl) dL_looks_138 ⟨Nat.zero_le _, Nat.zero_le _⟩ (fun H locs hP hD hS => ?_)
                refine lv_icmp_gt (tgt := 148) hx hb dL_looks_141 (by decide) (fun c141 => ?_) (fun c141 => ?_)
                · replace h := tw_t c141 h
                  refine lv_iconst (v := (0 : Int32)) hx hb dL_looks_148 (by decide) ?_
                  refine lv_istore_n (lv' := [(1, .int (0 : Int32)), (0, .ref (a 0)), (2, .int v2), (3, .int v3), (4, .int v4)]) hx hb dL_looks_149 rfl hl (by decide) rfl (fun ls hl => ?_)
                  refine lv_iinc (v := (v2 + 1)) (lv' := [(2, .int (v2 + 1)), (1, .int (0 : Int32)), (0, .ref (a 0)), (3, .int v3), (4, .int v4)]) hx hb dL_looks_150 hl (k := 2) rfl rfl (by decide) rfl (fun ls hl => ?_)
                  refine lv_goto (tgt := 60) hx hb dL_looks_153 (by decide) ?_
                  exact ih60 (0 : Int32) (v2 + 1) r138.2.2 H locs ls h (lv_sub hl [2, 1, 0] rfl) hP hD hS
                · replace h := tw_f c141 h
                  refine lv_iconst (v := (1 : Int32)) hx hb dL_looks_144 (by decide) ?_
                  refine lv_goto (tgt := 149) hx hb dL_looks_145 (by decide) ?_
                  refine lv_istore_n (lv' := [(1, .int (1 : Int32)), (0, .ref (a 0)), (2, .int v2), (3, .int v3), (4, .int v4)]) hx hb dL_looks_149 rfl hl (by decide) rfl (fun ls hl => ?_)
                  refine lv_iinc (v := (v2 + 1)) (lv' := [(2, .int (v2 + 1)), (1, .int (1 : Int32)), (0, .ref (a 0)), (3, .int v3), (4, .int v4)]) hx hb dL_looks_150 hl (k := 2) rfl rfl (by decide) rfl (fun ls hl => ?_)
                  refine lv_goto (tgt := 60) hx hb dL_looks_153 (by decide) ?_
                  exact ih60 (1 : Int32) (v2 + 1) r138.2.2 H locs ls h (lv_sub hl [2, 1, 0] rfl) hP hD hS
          · replace h := tw_f c78 h
            refine lv_iload_n hx hb dL_looks_81 rfl (lv_at hl 2 rfl) ?_
            refine lv_aload_n hx hb dL_looks_82 rfl (lv_at hl 0 rfl) ?_
            refine lv_iload_n hx hb dL_looks_83 rfl (lv_at hl 1 rfl) ?_
            refine lv_iload hx hb dL_looks_84 (lv_at hl 3 rfl) ?_
            obtain ⟨r86, e86, h⟩ := tw_bs h
            obtain ⟨k86, h⟩ := tw_qs h
            refine tw_callViF (ws' := (tw_wW cI cQ a na pa ta qa xa z Y)) (As := [.int v2, .int v4]) (rest := [.int v3]) F hN hK hP hD hS hA (mX3_hallOn l G cI cQ a na pa ta qa xa z Y H.size v2 v4 e86 k86) (cwV 2 hts gL_looks_X3_hallOn rfl rfl rfl (by decide +kernel) ⟨(Nat.le_of_ble_eq_true rfl), (Nat.le_of_ble_eq_true rfl)⟩) rfl (r0 := 0) (ci := 3) rfl rfl rfl rfl hl.1 rfl (Nat.le_of_ble_eq_true rfl) dL_looks_86 ⟨Nat.zero_le _, Nat.zero_le _⟩ (fun H locs hP hD hS => ?_)
            refine lv_if_lt (tgt := 96) hx hb dL_looks_89 (by decide) (fun c89 => ?_) (fun c89 => ?_)
            · replace h := tw_t c89 h
              refine lv_iconst (v := (0 : Int32)) hx hb dL_looks_96 (by decide) ?_
              refine lv_iadd hx hb dL_looks_97 ?_
              refine lv_istore_n (lv' := [(3, .int (v3 + (0 : Int32))), (0, .ref (a 0)), (2, .int v2), (4, .int v4)]) hx hb dL_looks_98 rfl hl (by decide) rfl (fun ls hl => ?_)
              refine lv_iinc (v := (v4 + 1)) (lv' := [(4, .int (v4 + 1)), (3, .int (v3 + (0 : Int32))), (0, .ref (a 0)), (2, .int v2)]) hx hb dL_looks_99 hl (k := 3) rfl rfl (by decide) rfl (fun ls hl => ?_)
              refine lv_goto (tgt := 74) hx hb dL_looks_102 (by decide) ?_
              exact ih74 v2 (v3 + (0 : Int32)) (v4 + 1) Y H locs ls h (lv_sub hl [2, 3, 1, 0] rfl) hP hD hS
            · replace h := tw_f c89 h
              refine lv_iconst (v := (1 : Int32)) hx hb dL_looks_92 (by decide) ?_
              refine lv_goto (tgt := 97) hx hb dL_looks_93 (by decide) ?_
              refine lv_iadd hx hb dL_looks_97 ?_
              refine lv_istore_n (lv' := [(3, .int (v3 + (1 : Int32))), (0, .ref (a 0)), (2, .int v2), (4, .int v4)]) hx hb dL_looks_98 rfl hl (by decide) rfl (fun ls hl => ?_)
              refine lv_iinc (v := (v4 + 1)) (lv' := [(4, .int (v4 + 1)), (3, .int (v3 + (1 : Int32))), (0, .ref (a 0)), (2, .int v2)]) hx hb dL_looks_99 hl (k := 3) rfl rfl (by decide) rfl (fun ls hl => ?_)
              refine lv_goto (tgt := 74) hx hb dL_looks_102 (by decide) ?_
              exact ih74 v2 (v3 + (1 : Int32)) (v4 + 1) Y H locs ls h (lv_sub hl [2, 3, 1, 0] rfl) hP hD hS
      refine lv_iload_n hx hb dL_looks_60 rfl (lv_at hl 2 rfl) ?_
      refine lv_iconst (v := (4 : Int32)) hx hb dL_looks_61 (by decide) ?_
      refine lv_icmp_ge (tgt := 156) hx hb dL_looks_62 (by decide) (fun c62 => ?_) (fun c62 => ?_)
      · replace h := tw_t c62 h
        exact L156 v1 Y H locs ls h (lv_sub hl [0, 1] rfl) hP hD hS
      · replace h := tw_f c62 h
        refine lv_iload_n hx hb dL_looks_65 rfl (lv_at hl 1 rfl) ?_
        refine lv_if_eq (tgt := 156) hx hb dL_looks_66 (by decide) (fun c66 => ?_) (fun c66 => ?_)
        · replace h := tw_t c66 h
          exact L156 v1 Y H locs ls h (lv_sub hl [0, 1] rfl) hP hD hS
        · replace h := tw_f c66 h
          refine lv_iconst (v := (0 : Int32)) hx hb dL_looks_69 (by decide) ?_
          refine lv_istore_n (lv' := [(3, .int (0 : Int32)), (0, .ref (a 0)), (1, .int v1), (2, .int v2)]) hx hb dL_looks_70 rfl hl (by decide) rfl (fun ls hl => ?_)
          refine lv_iconst (v := (0 : Int32)) hx hb dL_looks_71 (by decide) ?_
          refine lv_istore (lv' := [(4, .int (0 : Int32)), (3, .int (0 : Int32)), (0, .ref (a 0)), (1, .int v1), (2, .int v2)]) hx hb dL_looks_72 hl (by decide) rfl (fun ls hl => ?_)
          exact L74 512 v2 (0 : Int32) (0 : Int32) Y H locs ls h (lv_sub hl [2, 4, 1, 0] rfl) hP hD hS
  refine lv_aload_n hx hb dL_looks_0 rfl (lv_at hl 0 rfl) ?_
  refine lv_aload_n hx hb dL_looks_1 rfl (lv_at hl 0 rfl) ?_
  obtain ⟨r2, e2, h⟩ := tw_bs h
  refine tw_callViF (ws' := (tw_wW cI cQ a na pa ta qa xa z Y)) (As := []) (rest := [.ref (a 0)]) F hN hK hP hD hS hA (mX3_setting l G cI cQ a na pa ta qa xa z Y H.size e2) (cwV 0 hts gL_looks_X3_setting rfl rfl rfl (by decide +kernel) ⟨(Nat.le_of_ble_eq_true rfl), (Nat.le_of_ble_eq_true rfl)⟩) rfl (r0 := 0) (ci := 3) rfl rfl rfl rfl hl.1 rfl (Nat.le_of_ble_eq_true rfl) dL_looks_2 ⟨Nat.zero_le _, Nat.zero_le _⟩ (fun H locs hP hD hS => ?_)
  refine lv_iconst (v := (0 : Int32)) hx hb dL_looks_5 (by decide) ?_
  obtain ⟨r6, e6, h⟩ := tw_bs h
  obtain ⟨k6, h⟩ := tw_qs h
  refine tw_callViF (ws' := (tw_wW cI cQ a na pa ta qa xa z r6.2.2)) (As := [.int r2, .int (0 : Int32)]) (rest := []) F hN hK hP hD hS hA (mX3_ifRule l G cI cQ a na pa ta qa xa z Y H.size r2 (0 : Int32) e6 k6) (cwV 2 hts gL_looks_X3_ifRule rfl rfl rfl (by decide +kernel) ⟨(Nat.le_of_ble_eq_true rfl), (Nat.le_of_ble_eq_true rfl)⟩) rfl (r0 := 0) (ci := 3) rfl rfl rfl rfl hl.1 rfl (Nat.le_of_ble_eq_true rfl) dL_looks_6 ⟨Nat.zero_le _, Nat.zero_le _⟩ (fun H locs hP hD hS => ?_)
  refine lv_aload_n hx hb dL_looks_9 rfl (lv_at hl 0 rfl) ?_
  refine lv_iconst (v := (3 : Int32)) hx hb dL_looks_10 (by decide) ?_
  obtain ⟨r11, e11, h⟩ := tw_bs h
  obtain ⟨k11, h⟩ := tw_qs h
  refine tw_callViF (ws' := (tw_wW cI cQ a na pa ta qa xa z r11.2.2)) (As := [.int (3 : Int32)]) (rest := [.int r6.2.1]) F hN hK hP hD hS hA (mX3_count l G cI cQ a na pa ta qa xa z r6.2.2 H.size (3 : Int32) e11 k11) (cwV 1 hts gL_looks_X3_count rfl rfl rfl (by decide +kernel) ⟨(Nat.le_of_ble_eq_true rfl), (Nat.le_of_ble_eq_true rfl)⟩) rfl (r0 := 0) (ci := 3) rfl rfl rfl rfl hl.1 rfl (Nat.le_of_ble_eq_true rfl) dL_looks_11 ⟨Nat.zero_le _, Nat.zero_le _⟩ (fun H locs hP hD hS => ?_)
  refine lv_icmp_ne (tgt := 56) hx hb dL_looks_14 (by decide) (fun c14 => ?_) (fun c14 => ?_)
  · replace h := tw_t c14 h
    refine lv_iconst (v := (0 : Int32)) hx hb dL_looks_56 (by decide) ?_
    refine lv_istore_n (lv' := [(1, .int (0 : Int32)), (0, .ref (a 0))]) hx hb dL_looks_57 rfl hl (by decide) rfl (fun ls hl => ?_)
    refine lv_iconst (v := (0 : Int32)) hx hb dL_looks_58 (by decide) ?_
    refine lv_istore_n (lv' := [(2, .int (0 : Int32)), (1, .int (0 : Int32)), (0, .ref (a 0))]) hx hb dL_looks_59 rfl hl (by decide) rfl (fun ls hl => ?_)
    exact L60 512 (0 : Int32) (0 : Int32) r11.2.2 H locs ls h (lv_sub hl [2, 1, 0] rfl) hP hD hS
  · replace h := tw_fn c14 h
    refine lv_aload_n hx hb dL_looks_17 rfl (lv_at hl 0 rfl) ?_
    refine lv_aload_n hx hb dL_looks_18 rfl (lv_at hl 0 rfl) ?_
    obtain ⟨r19, e19, h⟩ := tw_bs h
    refine tw_callViF (ws' := (tw_wW cI cQ a na pa ta qa xa z r11.2.2)) (As := []) (rest := [.ref (a 0)]) F hN hK hP hD hS hA (mX3_setting l G cI cQ a na pa ta qa xa z r11.2.2 H.size e19) (cwV 0 hts gL_looks_X3_setting rfl rfl rfl (by decide +kernel) ⟨(Nat.le_of_ble_eq_true rfl), (Nat.le_of_ble_eq_true rfl)⟩) rfl (r0 := 0) (ci := 3) rfl rfl rfl rfl hl.1 rfl (Nat.le_of_ble_eq_true rfl) dL_looks_19 ⟨Nat.zero_le _, Nat.zero_le _⟩ (fun H locs hP hD hS => ?_)
    refine lv_iconst (v := (1 : Int32)) hx hb dL_looks_22 (by decide) ?_
    obtain ⟨r23, e23, h⟩ := tw_bs h
    obtain ⟨k23, h⟩ := tw_qs h
    refine tw_callViF (ws' := (tw_wW cI cQ a na pa ta qa xa z r23.2.2)) (As := [.int r19, .int (1 : Int32)]) (rest := []) F hN hK hP hD hS hA (mX3_ifRule l G cI cQ a na pa ta qa xa z r11.2.2 H.size r19 (1 : Int32) e23 k23) (cwV 2 hts gL_looks_X3_ifRule rfl rfl rfl (by decide +kernel) ⟨(Nat.le_of_ble_eq_true rfl), (Nat.le_of_ble_eq_true rfl)⟩) rfl (r0 := 0) (ci := 3) rfl rfl rfl rfl hl.1 rfl (Nat.le_of_ble_eq_true rfl) dL_looks_23 ⟨Nat.zero_le _, Nat.zero_le _⟩ (fun H locs hP hD hS => ?_)
    refine lv_aload_n hx hb dL_looks_26 rfl (lv_at hl 0 rfl) ?_
    refine lv_iconst (v := (1 : Int32)) hx hb dL_looks_27 (by decide) ?_
    obtain ⟨r28, e28, h⟩ := tw_bs h
    obtain ⟨k28, h⟩ := tw_qs h
    refine tw_callViF (ws' := (tw_wW cI cQ a na pa ta qa xa z r28.2.2)) (As := [.int (1 : Int32)]) (rest := [.int r23.2.1]) F hN hK hP hD hS hA (mX3_count l G cI cQ a na pa ta qa xa z r23.2.2 H.size (1 : Int32) e28 k28) (cwV 1 hts gL_looks_X3_count rfl rfl rfl (by decide +kernel) ⟨(Nat.le_of_ble_eq_true rfl), (Nat.le_of_ble_eq_true rfl)⟩) rfl (r0 := 0) (ci := 3) rfl rfl rfl rfl hl.1 rfl (Nat.le_of_ble_eq_true rfl) dL_looks_28 ⟨Nat.zero_le _, Nat.zero_le _⟩ (fun H locs hP hD hS => ?_)
    refine lv_icmp_ne (tgt := 56) hx hb dL_looks_31 (by decide) (fun c31 => ?_) (fun c31 => ?_)
    · replace h := tw_t c31 h
      refine lv_iconst (v := (0 : Int32)) hx hb dL_looks_56 (by decide) ?_
      refine lv_istore_n (lv' := [(1, .int (0 : Int32)), (0, .ref (a 0))]) hx hb dL_looks_57 rfl hl (by decide) rfl (fun ls hl => ?_)
      refine lv_iconst (v := (0 : Int32)) hx hb dL_looks_58 (by decide) ?_
      refine lv_istore_n (lv' := [(2, .int (0 : Int32)), (1, .int (0 : Int32)), (0, .ref (a 0))]) hx hb dL_looks_59 rfl hl (by decide) rfl (fun ls hl => ?_)
      exact L60 512 (0 : Int32) (0 : Int32) r28.2.2 H locs ls h (lv_sub hl [2, 1, 0] rfl) hP hD hS
    · replace h := tw_fn c31 h
      refine lv_aload_n hx hb dL_looks_34 rfl (lv_at hl 0 rfl) ?_
      refine lv_aload_n hx hb dL_looks_35 rfl (lv_at hl 0 rfl) ?_
      obtain ⟨r36, e36, h⟩ := tw_bs h
      refine tw_callViF (ws' := (tw_wW cI cQ a na pa ta qa xa z r28.2.2)) (As := []) (rest := [.ref (a 0)]) F hN hK hP hD hS hA (mX3_setting l G cI cQ a na pa ta qa xa z r28.2.2 H.size e36) (cwV 0 hts gL_looks_X3_setting rfl rfl rfl (by decide +kernel) ⟨(Nat.le_of_ble_eq_true rfl), (Nat.le_of_ble_eq_true rfl)⟩) rfl (r0 := 0) (ci := 3) rfl rfl rfl rfl hl.1 rfl (Nat.le_of_ble_eq_true rfl) dL_looks_36 ⟨Nat.zero_le _, Nat.zero_le _⟩ (fun H locs hP hD hS => ?_)
      refine lv_iconst (v := (2 : Int32)) hx hb dL_looks_39 (by decide) ?_
      obtain ⟨r40, e40, h⟩ := tw_bs h
      obtain ⟨k40, h⟩ := tw_qs h
      refine tw_callViF (ws' := (tw_wW cI cQ a na pa ta qa xa z r40.2.2)) (As := [.int r36, .int (2 : Int32)]) (rest := []) F hN hK hP hD hS hA (mX3_ifRule l G cI cQ a na pa ta qa xa z r28.2.2 H.size r36 (2 : Int32) e40 k40) (cwV 2 hts gL_looks_X3_ifRule rfl rfl rfl (by decide +kernel) ⟨(Nat.le_of_ble_eq_true rfl), (Nat.le_of_ble_eq_true rfl)⟩) rfl (r0 := 0) (ci := 3) rfl rfl rfl rfl hl.1 rfl (Nat.le_of_ble_eq_true rfl) dL_looks_40 ⟨Nat.zero_le _, Nat.zero_le _⟩ (fun H locs hP hD hS => ?_)
      refine lv_aload_n hx hb dL_looks_43 rfl (lv_at hl 0 rfl) ?_
      refine lv_bipush (v := (6 : Int32)) hx hb dL_looks_44 (by decide) ?_
      obtain ⟨r46, e46, h⟩ := tw_bs h
      obtain ⟨k46, h⟩ := tw_qs h
      refine tw_callViF (ws' := (tw_wW cI cQ a na pa ta qa xa z r46.2.2)) (As := [.int (6 : Int32)]) (rest := [.int r40.2.1]) F hN hK hP hD hS hA (mX3_count l G cI cQ a na pa ta qa xa z r40.2.2 H.size (6 : Int32) e46 k46) (cwV 1 hts gL_looks_X3_count rfl rfl rfl (by decide +kernel) ⟨(Nat.le_of_ble_eq_true rfl), (Nat.le_of_ble_eq_true rfl)⟩) rfl (r0 := 0) (ci := 3) rfl rfl rfl rfl hl.1 rfl (Nat.le_of_ble_eq_true rfl) dL_looks_46 ⟨Nat.zero_le _, Nat.zero_le _⟩ (fun H locs hP hD hS => ?_)
      refine lv_icmp_ne (tgt := 56) hx hb dL_looks_49 (by decide) (fun c49 => ?_) (fun c49 => ?_)
      · replace h := tw_t c49 h
        refine lv_iconst (v := (0 : Int32)) hx hb dL_looks_56 (by decide) ?_
        refine lv_istore_n (lv' := [(1, .int (0 : Int32)), (0, .ref (a 0))]) hx hb dL_looks_57 rfl hl (by decide) rfl (fun ls hl => ?_)
        refine lv_iconst (v := (0 : Int32)) hx hb dL_looks_58 (by decide) ?_
        refine lv_istore_n (lv' := [(2, .int (0 : Int32)), (1, .int (0 : Int32)), (0, .ref (a 0))]) hx hb dL_looks_59 rfl hl (by decide) rfl (fun ls hl => ?_)
        exact L60 512 (0 : Int32) (0 : Int32) r46.2.2 H locs ls h (lv_sub hl [2, 1, 0] rfl) hP hD hS
      · replace h := tw_fn c49 h
        refine lv_iconst (v := (1 : Int32)) hx hb dL_looks_52 (by decide) ?_
        refine lv_goto (tgt := 57) hx hb dL_looks_53 (by decide) ?_
        refine lv_istore_n (lv' := [(1, .int (1 : Int32)), (0, .ref (a 0))]) hx hb dL_looks_57 rfl hl (by decide) rfl (fun ls hl => ?_)
        refine lv_iconst (v := (0 : Int32)) hx hb dL_looks_58 (by decide) ?_
        refine lv_istore_n (lv' := [(2, .int (0 : Int32)), (1, .int (1 : Int32)), (0, .ref (a 0))]) hx hb dL_looks_59 rfl hl (by decide) rfl (fun ls hl => ?_)
        exact L60 512 (1 : Int32) (0 : Int32) r46.2.2 H locs ls h (lv_sub hl [2, 1, 0] rfl) hP hD hS
