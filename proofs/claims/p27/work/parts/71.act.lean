/-! the law's act -/
def fL_act_48 (L : Nat) (xs : Nat → Int32) (p2 : Int32)  (t0 : Int32) (v3 : Int32) (v4 : Int32) (v5 : Int32) (v6 : Int32) (Y : tw_Wl) : Option (Int32 × tw_Wl) :=
  (fL_cell L xs p2).bind fun r52 =>
  (fL_low r52 (16 : Int32)).bind fun r57 =>
  if (5 : Int32) ≤ r57 then
    if ¬ r57 = (5 : Int32) then
      if ¬ r57 = (6 : Int32) then
        if ¬ r57 = (7 : Int32) then
          if ¬ v6 = 0 then
            if (11 : Int32) ≤ r57 then
              if ¬ r57 = (11 : Int32) then
                if ¬ r57 = (12 : Int32) then
                  if ¬ r57 = (13 : Int32) then
                    (fL_low v4 (20 : Int32)).bind fun r315 =>
                    (fL_slip Y t0 ((1 : Int32) + r315)).bind fun r319 =>
                    some (r319.1, r319.2)
                  else
                    (fL_low v4 (61 : Int32)).bind fun r298 =>
                    (fX3_change Y t0 (3 : Int32) r298).bind fun r301 =>
                    tw_q (r301.1 = 0) <|
                    some (r301.2.1, r301.2.2)
                else
                  (fL_low v4 (9 : Int32)).bind fun r275 =>
                  (fX3_change Y t0 (0 : Int32) ((1 : Int32) + r275)).bind fun r279 =>
                  tw_q (r279.1 = 0) <|
                  some (r279.2.1, r279.2.2)
              else
                (fL_low v5 (2 : Int32)).bind fun r227 =>
                if ¬ r227 = 0 then
                  (fL_low v4 (7 : Int32)).bind fun r250 =>
                  (fX3_change Y t0 (1 : Int32) (r250 - (1 : Int32))).bind fun r255 =>
                  tw_q (r255.1 = 0) <|
                  some (r255.2.1, r255.2.2)
                else
                  (fX3_remove Y t0).bind fun r236 =>
                  tw_q (r236.1 = 0) <|
                  some (r236.2.1, r236.2.2)
            else
              if ¬ t0 = 0 then
                (fL_low v4 t0).bind fun r196 =>
                (fL_low v5 (4 : Int32)).bind fun r202 =>
                if r202 ≤ 0 then
                  (fX3_need Y t0 r196 (0 : Int32)).bind fun r213 =>
                  tw_q (r213.1 = 0) <|
                  some (r213.2.1, r213.2.2)
                else
                  (fX3_need Y t0 r196 (1 : Int32)).bind fun r213 =>
                  tw_q (r213.1 = 0) <|
                  some (r213.2.1, r213.2.2)
              else
                some ((0 : Int32), Y)
          else
            some ((-200 : Int32), Y)
        else
          (fL_undo Y).bind fun r160 =>
          some (r160.1, r160.2)
      else
        (fL_low v3 (4 : Int32)).bind fun r145 =>
        (fX3_rule Y r145).bind fun r148 =>
        tw_q (r148.1 = 0) <|
        some (r148.2.1, r148.2.2)
    else
      (fL_low v3 (60 : Int32)).bind fun r107 =>
      (fL_low v4 (4 : Int32)).bind fun r116 =>
      (fL_low v5 (40 : Int32)).bind fun r127 =>
      (fX3_borrow Y r116 r107 (r107 + r127)).bind fun r131 =>
      tw_q (r131.1 = 0) <|
      some (r131.2.1, r131.2.2)
  else
    (fL_low v3 (9 : Int32)).bind fun r73 =>
    (fL_low v4 (6 : Int32)).bind fun r81 =>
    (fL_low v5 (5 : Int32)).bind fun r89 =>
    (fL_add Y ((1 : Int32) + r73) (r81 - (1 : Int32)) (r89 - (1 : Int32))).bind fun r94 =>
    some (r94.1, r94.2)
def fL_act (Y : tw_Wl) (L : Nat) (xs : Nat → Int32) (p2 : Int32) : Option (Int32 × tw_Wl) :=
  (fL_cell L xs (p2 + (1 : Int32))).bind fun r4 =>
  (fL_cell L xs (p2 + (2 : Int32))).bind fun r12 =>
  (fL_cell L xs (p2 + (3 : Int32))).bind fun r21 =>
  (fX3_count Y (0 : Int32)).bind fun r28 =>
  tw_q (r28.1 = 0) <|
  if ¬ r28.2.1 = 0 then
    (fL_low r4 r28.2.1).bind fun r45 =>
    fL_act_48 L xs p2 r45 r4 r12 r21 r28.2.1 r28.2.2
  else
    fL_act_48 L xs p2 (0 : Int32) r4 r12 r21 r28.2.1 r28.2.2
abbrev rmL_act : Room := { frames := 8, cells := 1, slots := 6, locals := 169 }
set_option maxHeartbeats 4000000 in
set_option maxRecDepth 100000 in
theorem mL_act (l : Launch) (hst : l.stackTraces = false) (b : Nat) (G : va_G) (cI : ClassId) (cQ : ClassId) (a na pa ta qa xa : Nat → Nat) (z : Nat → Nat → Nat) (Y : tw_Wl) (L : Nat) (xs : Nat → Int32) (sz : Nat) (p2 : Int32) {rv : Int32 × tw_Wl} (h : fL_act Y L xs p2 = some rv) : tw_Ma l yL_act wsL_act rmL_act G [(cI, .int), (cQ, .object RX1)] b L xs (tw_wW cI cQ a na pa ta qa xa z Y) [.ref (a 0), .ref b, .int p2] sz rv.1 (tw_wW cI cQ a na pa ta qa xa z rv.2) := by
  refine tw_ofa (cc := cL_act) (maxL := 10) (own := RL) (by decide) rfl rfl (Nat.le_of_ble_eq_true rfl) ?_
  intro p e s m args below meth c Q A ls H locs F hN hK hP hD hS hA hl hNX hNC hU hZ hX hbl hbA hq
  obtain ⟨hx, hb, hml, hown, hts⟩ := id F
  have hl : lv_has ls 10 [(0, .ref (a 0)), (1, .ref b), (2, .int p2)] := hl
  unfold fL_act at h
  have L48 : ∀ (t0 : Int32) (v3 : Int32) (v4 : Int32) (v5 : Int32) (v6 : Int32) (Y : tw_Wl) (H : Heap) (locs : List Loc) (ls : Array Slot), fL_act_48 L xs p2 t0 v3 v4 v5 v6 Y = some rv → lv_has ls 10 [(0, .ref (a 0)), (1, .ref b), (2, .int p2), (3, .int v3), (4, .int v4), (5, .int v5), (6, .int v6)] → va_P G vwCl (tw_wW cI cQ a na pa ta qa xa z Y) H → va_D A (tw_wW cI cQ a na pa ta qa xa z Y) → va_S A s.heap H locs → W p l e rmL_act s m args below meth c H locs 0 0 Q (F0 m 48 ls [.int t0]) := by
    intro t0 v3 v4 v5 v6 Y H locs ls h hl hP hD hS
    unfold fL_act_48 at h
    refine lv_istore (lv' := [(7, .int t0), (0, .ref (a 0)), (1, .ref b), (2, .int p2), (3, .int v3), (4, .int v4), (5, .int v5), (6, .int v6)]) hx hb dL_act_48 hl (by decide) rfl (fun ls hl => ?_)
    refine lv_aload_n hx hb dL_act_50 rfl (lv_at hl 2 rfl) ?_
    refine lv_iload_n hx hb dL_act_51 rfl (lv_at hl 3 rfl) ?_
    obtain ⟨r52, e52, h⟩ := tw_bs h
    refine tw_callK (As := [.ref b, .int p2]) (rest := []) F hP hD hS hA hX hbl hbA (mL_cell l b L xs H.size p2 e52) (va_cwS 2 hts gL_act_L_cell rfl rfl rfl (by decide +kernel) ⟨(Nat.le_of_ble_eq_true rfl), (Nat.le_of_ble_eq_true rfl)⟩) rfl hl.1 rfl (Nat.le_of_ble_eq_true rfl) dL_act_52 ⟨Nat.zero_le _, Nat.zero_le _⟩ (fun H locs hP hD hS => ?_)
    refine lv_bipush (v := (16 : Int32)) hx hb dL_act_55 (by decide) ?_
    obtain ⟨r57, e57, h⟩ := tw_bs h
    refine tw_callSi (ws' := (tw_wW cI cQ a na pa ta qa xa z Y)) (As := [.int r52, .int (16 : Int32)]) (rest := []) F hN hK hP hD hS hA (mL_low l G cI H.size r52 (16 : Int32) e57) (va_cwS 2 hts gL_act_L_low rfl rfl rfl (by decide +kernel) ⟨(Nat.le_of_ble_eq_true rfl), (Nat.le_of_ble_eq_true rfl)⟩) [0] rfl [] (by decide) rfl rfl rfl rfl hl.1 rfl (Nat.le_of_ble_eq_true rfl) dL_act_57 ⟨Nat.zero_le _, Nat.zero_le _⟩ (fun H locs hP hD hS => ?_)
    refine lv_istore (lv' := [(8, .int r57), (7, .int t0), (0, .ref (a 0)), (1, .ref b), (2, .int p2), (3, .int v3), (4, .int v4), (5, .int v5), (6, .int v6)]) hx hb dL_act_60 hl (by decide) rfl (fun ls hl => ?_)
    refine lv_iload hx hb dL_act_62 (lv_at hl 0 rfl) ?_
    refine lv_iconst (v := (5 : Int32)) hx hb dL_act_64 (by decide) ?_
    refine lv_icmp_ge (tgt := 98) hx hb dL_act_65 (by decide) (fun c65 => ?_) (fun c65 => ?_)
    · replace h := tw_t c65 h
      refine lv_iload hx hb dL_act_98 (lv_at hl 0 rfl) ?_
      refine lv_iconst (v := (5 : Int32)) hx hb dL_act_100 (by decide) ?_
      refine lv_icmp_ne (tgt := 135) hx hb dL_act_101 (by decide) (fun c101 => ?_) (fun c101 => ?_)
      · replace h := tw_t c101 h
        refine lv_iload hx hb dL_act_135 (lv_at hl 0 rfl) ?_
        refine lv_bipush (v := (6 : Int32)) hx hb dL_act_137 (by decide) ?_
        refine lv_icmp_ne (tgt := 152) hx hb dL_act_139 (by decide) (fun c139 => ?_) (fun c139 => ?_)
        · replace h := tw_t c139 h
          refine lv_iload hx hb dL_act_152 (lv_at hl 0 rfl) ?_
          refine lv_bipush (v := (7 : Int32)) hx hb dL_act_154 (by decide) ?_
          refine lv_icmp_ne (tgt := 164) hx hb dL_act_156 (by decide) (fun c156 => ?_) (fun c156 => ?_)
          · replace h := tw_t c156 h
            refine lv_iload hx hb dL_act_164 (lv_at hl 8 rfl) ?_
            refine lv_if_ne (tgt := 173) hx hb dL_act_166 (by decide) (fun c166 => ?_) (fun c166 => ?_)
            · replace h := tw_t c166 h
              refine lv_iload hx hb dL_act_173 (lv_at hl 0 rfl) ?_
              refine lv_bipush (v := (11 : Int32)) hx hb dL_act_175 (by decide) ?_
              refine lv_icmp_ge (tgt := 217) hx hb dL_act_177 (by decide) (fun c177 => ?_) (fun c177 => ?_)
              · replace h := tw_t c177 h
                refine lv_iload hx hb dL_act_217 (lv_at hl 0 rfl) ?_
                refine lv_bipush (v := (11 : Int32)) hx hb dL_act_219 (by decide) ?_
                refine lv_icmp_ne (tgt := 259) hx hb dL_act_221 (by decide) (fun c221 => ?_) (fun c221 => ?_)
                · replace h := tw_t c221 h
                  refine lv_iload hx hb dL_act_259 (lv_at hl 0 rfl) ?_
                  refine lv_bipush (v := (12 : Int32)) hx hb dL_act_261 (by decide) ?_
                  refine lv_icmp_ne (tgt := 283) hx hb dL_act_263 (by decide) (fun c263 => ?_) (fun c263 => ?_)
                  · replace h := tw_t c263 h
                    refine lv_iload hx hb dL_act_283 (lv_at hl 0 rfl) ?_
                    refine lv_bipush (v := (13 : Int32)) hx hb dL_act_285 (by decide) ?_
                    refine lv_icmp_ne (tgt := 307) hx hb dL_act_287 (by decide) (fun c287 => ?_) (fun c287 => ?_)
                    · replace h := tw_t c287 h
                      refine lv_aload_n hx hb dL_act_307 rfl (lv_at hl 2 rfl) ?_
                      refine lv_iload hx hb dL_act_308 (lv_at hl 1 rfl) ?_
                      refine lv_iconst (v := (1 : Int32)) hx hb dL_act_310 (by decide) ?_
                      refine lv_iload hx hb dL_act_311 (lv_at hl 6 rfl) ?_
                      refine lv_bipush (v := (20 : Int32)) hx hb dL_act_313 (by decide) ?_
                      obtain ⟨r315, e315, h⟩ := tw_bs h
                      refine tw_callSi (ws' := (tw_wW cI cQ a na pa ta qa xa z Y)) (As := [.int v4, .int (20 : Int32)]) (rest := [.int (1 : Int32), .int t0, .ref (a 0)]) F hN hK hP hD hS hA (mL_low l G cI H.size v4 (20 : Int32) e315) (va_cwS 2 hts gL_act_L_low rfl rfl rfl (by decide +kernel) ⟨(Nat.le_of_ble_eq_true rfl), (Nat.le_of_ble_eq_true rfl)⟩) [0] rfl [] (by decide) rfl rfl rfl rfl hl.1 rfl (Nat.le_of_ble_eq_true rfl) dL_act_315 ⟨Nat.zero_le _, Nat.zero_le _⟩ (fun H locs hP hD hS => ?_)
                      refine lv_iadd hx hb dL_act_318 ?_
                      obtain ⟨r319, e319, h⟩ := tw_bs h
                      refine tw_callHF (w1' := (tw_wW cI cQ a na pa ta qa xa z r319.2)) (As := [.ref (a 0), .int t0, .int ((1 : Int32) + r315)]) (rest := []) F hN hK hP hD hS hA hNX hNC hU hZ (hL_slip l hst G cI cQ a na pa ta qa xa z Y H.size t0 ((1 : Int32) + r315) e319) (vx_cwSW 3 hts gL_act_L_slip rfl rfl rfl (by decide +kernel) ⟨(Nat.le_of_ble_eq_true rfl), (Nat.le_of_ble_eq_true rfl)⟩) [0, 1] rfl lw_fW rfl hl.1 rfl (Nat.le_of_ble_eq_true rfl) dL_act_319 ⟨(Nat.le_of_ble_eq_true rfl), (Nat.le_of_ble_eq_true rfl)⟩ (fun H locs hP hD hS => ?_)
                      exact hq H locs _ ls r319.1 _ _ (tw_rt (fun r => r.1 = r319.1) h rfl) (tw_rt (fun r => va_P G vwCl (tw_wW cI cQ a na pa ta qa xa z r.2) H) h hP) hS dL_act_322 (Nat.le_of_ble_eq_true rfl) (Nat.le_of_ble_eq_true rfl)
                    · replace h := tw_fn c287 h
                      refine lv_aload_n hx hb dL_act_290 rfl (lv_at hl 2 rfl) ?_
                      refine lv_iload hx hb dL_act_291 (lv_at hl 1 rfl) ?_
                      refine lv_iconst (v := (3 : Int32)) hx hb dL_act_293 (by decide) ?_
                      refine lv_iload hx hb dL_act_294 (lv_at hl 6 rfl) ?_
                      refine lv_bipush (v := (61 : Int32)) hx hb dL_act_296 (by decide) ?_
                      obtain ⟨r298, e298, h⟩ := tw_bs h
                      refine tw_callSi (ws' := (tw_wW cI cQ a na pa ta qa xa z Y)) (As := [.int v4, .int (61 : Int32)]) (rest := [.int (3 : Int32), .int t0, .ref (a 0)]) F hN hK hP hD hS hA (mL_low l G cI H.size v4 (61 : Int32) e298) (va_cwS 2 hts gL_act_L_low rfl rfl rfl (by decide +kernel) ⟨(Nat.le_of_ble_eq_true rfl), (Nat.le_of_ble_eq_true rfl)⟩) [0] rfl [] (by decide) rfl rfl rfl rfl hl.1 rfl (Nat.le_of_ble_eq_true rfl) dL_act_298 ⟨Nat.zero_le _, Nat.zero_le _⟩ (fun H locs hP hD hS => ?_)
                      obtain ⟨r301, e301, h⟩ := tw_bs h
                      obtain ⟨k301, h⟩ := tw_qs h
                      refine tw_callViF (ws' := (tw_wW cI cQ a na pa ta qa xa z r301.2.2)) (As := [.int t0, .int (3 : Int32), .int r298]) (rest := []) F hN hK hP hD hS hA (mX3_change l G cI cQ a na pa ta qa xa z Y H.size t0 (3 : Int32) r298 e301 k301) (cwV 3 hts gL_act_X3_change rfl rfl rfl (by decide +kernel) ⟨(Nat.le_of_ble_eq_true rfl), (Nat.le_of_ble_eq_true rfl)⟩) rfl (r0 := 0) (ci := 3) rfl rfl rfl rfl hl.1 rfl (Nat.le_of_ble_eq_true rfl) dL_act_301 ⟨Nat.zero_le _, Nat.zero_le _⟩ (fun H locs hP hD hS => ?_)
                      refine lv_goto (tgt := 322) hx hb dL_act_304 (by decide) ?_
                      exact hq H locs _ ls r301.2.1 _ _ (tw_rt (fun r => r.1 = r301.2.1) h rfl) (tw_rt (fun r => va_P G vwCl (tw_wW cI cQ a na pa ta qa xa z r.2) H) h hP) hS dL_act_322 (Nat.le_of_ble_eq_true rfl) (Nat.le_of_ble_eq_true rfl)
                  · replace h := tw_fn c263 h
                    refine lv_aload_n hx hb dL_act_266 rfl (lv_at hl 2 rfl) ?_
                    refine lv_iload hx hb dL_act_267 (lv_at hl 1 rfl) ?_
                    refine lv_iconst (v := (0 : Int32)) hx hb dL_act_269 (by decide) ?_
                    refine lv_iconst (v := (1 : Int32)) hx hb dL_act_270 (by decide) ?_
                    refine lv_iload hx hb dL_act_271 (lv_at hl 6 rfl) ?_
                    refine lv_bipush (v := (9 : Int32)) hx hb dL_act_273 (by decide) ?_
                    obtain ⟨r275, e275, h⟩ := tw_bs h
                    refine tw_callSi (ws' := (tw_wW cI cQ a na pa ta qa xa z Y)) (As := [.int v4, .int (9 : Int32)]) (rest := [.int (1 : Int32), .int (0 : Int32), .int t0, .ref (a 0)]) F hN hK hP hD hS hA (mL_low l G cI H.size v4 (9 : Int32) e275) (va_cwS 2 hts gL_act_L_low rfl rfl rfl (by decide +kernel) ⟨(Nat.le_of_ble_eq_true rfl), (Nat.le_of_ble_eq_true rfl)⟩) [0] rfl [] (by decide) rfl rfl rfl rfl hl.1 rfl (Nat.le_of_ble_eq_true rfl) dL_act_275 ⟨Nat.zero_le _, Nat.zero_le _⟩ (fun H locs hP hD hS => ?_)
                    refine lv_iadd hx hb dL_act_278 ?_
                    obtain ⟨r279, e279, h⟩ := tw_bs h
                    obtain ⟨k279, h⟩ := tw_qs h
                    refine tw_callViF (ws' := (tw_wW cI cQ a na pa ta qa xa z r279.2.2)) (As := [.int t0, .int (0 : Int32), .int ((1 : Int32) + r275)]) (rest := []) F hN hK hP hD hS hA (mX3_change l G cI cQ a na pa ta qa xa z Y H.size t0 (0 : Int32) ((1 : Int32) + r275) e279 k279) (cwV 3 hts gL_act_X3_change rfl rfl rfl (by decide +kernel) ⟨(Nat.le_of_ble_eq_true rfl), (Nat.le_of_ble_eq_true rfl)⟩) rfl (r0 := 0) (ci := 3) rfl rfl rfl rfl hl.1 rfl (Nat.le_of_ble_eq_true rfl) dL_act_279 ⟨Nat.zero_le _, Nat.zero_le _⟩ (fun H locs hP hD hS => ?_)
                    exact hq H locs _ ls r279.2.1 _ _ (tw_rt (fun r => r.1 = r279.2.1) h rfl) (tw_rt (fun r => va_P G vwCl (tw_wW cI cQ a na pa ta qa xa z r.2) H) h hP) hS dL_act_282 (Nat.le_of_ble_eq_true rfl) (Nat.le_of_ble_eq_true rfl)
                · replace h := tw_fn c221 h
                  refine lv_iload hx hb dL_act_224 (lv_at hl 7 rfl) ?_
                  refine lv_iconst (v := (2 : Int32)) hx hb dL_act_226 (by decide) ?_
                  obtain ⟨r227, e227, h⟩ := tw_bs h
                  refine tw_callSi (ws' := (tw_wW cI cQ a na pa ta qa xa z Y)) (As := [.int v5, .int (2 : Int32)]) (rest := []) F hN hK hP hD hS hA (mL_low l G cI H.size v5 (2 : Int32) e227) (va_cwS 2 hts gL_act_L_low rfl rfl rfl (by decide +kernel) ⟨(Nat.le_of_ble_eq_true rfl), (Nat.le_of_ble_eq_true rfl)⟩) [0] rfl [] (by decide) rfl rfl rfl rfl hl.1 rfl (Nat.le_of_ble_eq_true rfl) dL_act_227 ⟨Nat.zero_le _, Nat.zero_le _⟩ (fun H locs hP hD hS => ?_)
                  refine lv_if_ne (tgt := 242) hx hb dL_act_230 (by decide) (fun c230 => ?_) (fun c230 => ?_)
                  · replace h := tw_t c230 h
                    refine lv_aload_n hx hb dL_act_242 rfl (lv_at hl 2 rfl) ?_
                    refine lv_iload hx hb dL_act_243 (lv_at hl 1 rfl) ?_
                    refine lv_iconst (v := (1 : Int32)) hx hb dL_act_245 (by decide) ?_
                    refine lv_iload hx hb dL_act_246 (lv_at hl 6 rfl) ?_
                    refine lv_bipush (v := (7 : Int32)) hx hb dL_act_248 (by decide) ?_
                    obtain ⟨r250, e250, h⟩ := tw_bs h
                    refine tw_callSi (ws' := (tw_wW cI cQ a na pa ta qa xa z Y)) (As := [.int v4, .int (7 : Int32)]) (rest := [.int (1 : Int32), .int t0, .ref (a 0)]) F hN hK hP hD hS hA (mL_low l G cI H.size v4 (7 : Int32) e250) (va_cwS 2 hts gL_act_L_low rfl rfl rfl (by decide +kernel) ⟨(Nat.le_of_ble_eq_true rfl), (Nat.le_of_ble_eq_true rfl)⟩) [0] rfl [] (by decide) rfl rfl rfl rfl hl.1 rfl (Nat.le_of_ble_eq_true rfl) dL_act_250 ⟨Nat.zero_le _, Nat.zero_le _⟩ (fun H locs hP hD hS => ?_)
                    refine lv_iconst (v := (1 : Int32)) hx hb dL_act_253 (by decide) ?_
                    refine lv_isub hx hb dL_act_254 ?_
                    obtain ⟨r255, e255, h⟩ := tw_bs h
                    obtain ⟨k255, h⟩ := tw_qs h
                    refine tw_callViF (ws' := (tw_wW cI cQ a na pa ta qa xa z r255.2.2)) (As := [.int t0, .int (1 : Int32), .int (r250 - (1 : Int32))]) (rest := []) F hN hK hP hD hS hA (mX3_change l G cI cQ a na pa ta qa xa z Y H.size t0 (1 : Int32) (r250 - (1 : Int32)) e255 k255) (cwV 3 hts gL_act_X3_change rfl rfl rfl (by decide +kernel) ⟨(Nat.le_of_ble_eq_true rfl), (Nat.le_of_ble_eq_true rfl)⟩) rfl (r0 := 0) (ci := 3) rfl rfl rfl rfl hl.1 rfl (Nat.le_of_ble_eq_true rfl) dL_act_255 ⟨Nat.zero_le _, Nat.zero_le _⟩ (fun H locs hP hD hS => ?_)
                    exact hq H locs _ ls r255.2.1 _ _ (tw_rt (fun r => r.1 = r255.2.1) h rfl) (tw_rt (fun r => va_P G vwCl (tw_wW cI cQ a na pa ta qa xa z r.2) H) h hP) hS dL_act_258 (Nat.le_of_ble_eq_true rfl) (Nat.le_of_ble_eq_true rfl)
                  · replace h := tw_fn c230 h
                    refine lv_aload_n hx hb dL_act_233 rfl (lv_at hl 2 rfl) ?_
                    refine lv_iload hx hb dL_act_234 (lv_at hl 1 rfl) ?_
                    obtain ⟨r236, e236, h⟩ := tw_bs h
                    obtain ⟨k236, h⟩ := tw_qs h
                    refine tw_callViF (ws' := (tw_wW cI cQ a na pa ta qa xa z r236.2.2)) (As := [.int t0]) (rest := []) F hN hK hP hD hS hA (mX3_remove l G cI cQ a na pa ta qa xa z Y H.size t0 e236 k236) (cwV 1 hts gL_act_X3_remove rfl rfl rfl (by decide +kernel) ⟨(Nat.le_of_ble_eq_true rfl), (Nat.le_of_ble_eq_true rfl)⟩) rfl (r0 := 0) (ci := 3) rfl rfl rfl rfl hl.1 rfl (Nat.le_of_ble_eq_true rfl) dL_act_236 ⟨Nat.zero_le _, Nat.zero_le _⟩ (fun H locs hP hD hS => ?_)
                    refine lv_goto (tgt := 258) hx hb dL_act_239 (by decide) ?_
                    exact hq H locs _ ls r236.2.1 _ _ (tw_rt (fun r => r.1 = r236.2.1) h rfl) (tw_rt (fun r => va_P G vwCl (tw_wW cI cQ a na pa ta qa xa z r.2) H) h hP) hS dL_act_258 (Nat.le_of_ble_eq_true rfl) (Nat.le_of_ble_eq_true rfl)
              · replace h := tw_f c177 h
                refine lv_iload hx hb dL_act_180 (lv_at hl 1 rfl) ?_
                refine lv_if_ne (tgt := 189) hx hb dL_act_182 (by decide) (fun c182 => ?_) (fun c182 => ?_)
                · replace h := tw_t c182 h
                  refine lv_aload_n hx hb dL_act_189 rfl (lv_at hl 2 rfl) ?_
                  refine lv_iload hx hb dL_act_190 (lv_at hl 1 rfl) ?_
                  refine lv_iload hx hb dL_act_192 (lv_at hl 6 rfl) ?_
                  refine lv_iload hx hb dL_act_194 (lv_at hl 1 rfl) ?_
                  obtain ⟨r196, e196, h⟩ := tw_bs h
                  refine tw_callSi (ws' := (tw_wW cI cQ a na pa ta qa xa z Y)) (As := [.int v4, .int t0]) (rest := [.int t0, .ref (a 0)]) F hN hK hP hD hS hA (mL_low l G cI H.size v4 t0 e196) (va_cwS 2 hts gL_act_L_low rfl rfl rfl (by decide +kernel) ⟨(Nat.le_of_ble_eq_true rfl), (Nat.le_of_ble_eq_true rfl)⟩) [0] rfl [] (by decide) rfl rfl rfl rfl hl.1 rfl (Nat.le_of_ble_eq_true rfl) dL_act_196 ⟨Nat.zero_le _, Nat.zero_le _⟩ (fun H locs hP hD hS => ?_)
                  refine lv_iload hx hb dL_act_199 (lv_at hl 7 rfl) ?_
                  refine lv_iconst (v := (4 : Int32)) hx hb dL_act_201 (by decide) ?_
                  obtain ⟨r202, e202, h⟩ := tw_bs h
                  refine tw_callSi (ws' := (tw_wW cI cQ a na pa ta qa xa z Y)) (As := [.int v5, .int (4 : Int32)]) (rest := [.int r196, .int t0, .ref (a 0)]) F hN hK hP hD hS hA (mL_low l G cI H.size v5 (4 : Int32) e202) (va_cwS 2 hts gL_act_L_low rfl rfl rfl (by decide +kernel) ⟨(Nat.le_of_ble_eq_true rfl), (Nat.le_of_ble_eq_true rfl)⟩) [0] rfl [] (by decide) rfl rfl rfl rfl hl.1 rfl (Nat.le_of_ble_eq_true rfl) dL_act_202 ⟨Nat.zero_le _, Nat.zero_le _⟩ (fun H locs hP hD hS => ?_)
                  refine lv_if_le (tgt := 212) hx hb dL_act_205 (by decide) (fun c205 => ?_) (fun c205 => ?_)
                  · replace h := tw_t c205 h
                    refine lv_iconst (v := (0 : Int32)) hx hb dL_act_212 (by decide) ?_
                    obtain ⟨r213, e213, h⟩ := tw_bs h
                    obtain ⟨k213, h⟩ := tw_qs h
                    refine tw_callViF (ws' := (tw_wW cI cQ a na pa ta qa xa z r213.2.2)) (As := [.int t0, .int r196, .int (0 : Int32)]) (rest := []) F hN hK hP hD hS hA (mX3_need l G cI cQ a na pa ta qa xa z Y H.size t0 r196 (0 : Int32) e213 k213) (cwV 3 hts gL_act_X3_need rfl rfl rfl (by decide +kernel) ⟨(Nat.le_of_ble_eq_true rfl), (Nat.le_of_ble_eq_true rfl)⟩) rfl (r0 := 0) (ci := 3) rfl rfl rfl rfl hl.1 rfl (Nat.le_of_ble_eq_true rfl) dL_act_213 ⟨Nat.zero_le _, Nat.zero_le _⟩ (fun H locs hP hD hS => ?_)
                    exact hq H locs _ ls r213.2.1 _ _ (tw_rt (fun r => r.1 = r213.2.1) h rfl) (tw_rt (fun r => va_P G vwCl (tw_wW cI cQ a na pa ta qa xa z r.2) H) h hP) hS dL_act_216 (Nat.le_of_ble_eq_true rfl) (Nat.le_of_ble_eq_true rfl)
                  · replace h := tw_f c205 h
                    refine lv_iconst (v := (1 : Int32)) hx hb dL_act_208 (by decide) ?_
                    refine lv_goto (tgt := 213) hx hb dL_act_209 (by decide) ?_
                    obtain ⟨r213, e213, h⟩ := tw_bs h
                    obtain ⟨k213, h⟩ := tw_qs h
                    refine tw_callViF (ws' := (tw_wW cI cQ a na pa ta qa xa z r213.2.2)) (As := [.int t0, .int r196, .int (1 : Int32)]) (rest := []) F hN hK hP hD hS hA (mX3_need l G cI cQ a na pa ta qa xa z Y H.size t0 r196 (1 : Int32) e213 k213) (cwV 3 hts gL_act_X3_need rfl rfl rfl (by decide +kernel) ⟨(Nat.le_of_ble_eq_true rfl), (Nat.le_of_ble_eq_true rfl)⟩) rfl (r0 := 0) (ci := 3) rfl rfl rfl rfl hl.1 rfl (Nat.le_of_ble_eq_true rfl) dL_act_213 ⟨Nat.zero_le _, Nat.zero_le _⟩ (fun H locs hP hD hS => ?_)
                    exact hq H locs _ ls r213.2.1 _ _ (tw_rt (fun r => r.1 = r213.2.1) h rfl) (tw_rt (fun r => va_P G vwCl (tw_wW cI cQ a na pa ta qa xa z r.2) H) h hP) hS dL_act_216 (Nat.le_of_ble_eq_true rfl) (Nat.le_of_ble_eq_true rfl)
                · replace h := tw_fn c182 h
                  refine lv_iconst (v := (0 : Int32)) hx hb dL_act_185 (by decide) ?_
                  refine lv_goto (tgt := 216) hx hb dL_act_186 (by decide) ?_
                  exact hq H locs _ ls (0 : Int32) _ _ (tw_rt (fun r => r.1 = (0 : Int32)) h rfl) (tw_rt (fun r => va_P G vwCl (tw_wW cI cQ a na pa ta qa xa z r.2) H) h hP) hS dL_act_216 (Nat.le_of_ble_eq_true rfl) (Nat.le_of_ble_eq_true rfl)
            · replace h := tw_fn c166 h
              refine lv_sipush (v := (-200 : Int32)) hx hb dL_act_169 (by decide) ?_
              exact hq H locs _ ls (-200 : Int32) _ _ (tw_rt (fun r => r.1 = (-200 : Int32)) h rfl) (tw_rt (fun r => va_P G vwCl (tw_wW cI cQ a na pa ta qa xa z r.2) H) h hP) hS dL_act_172 (Nat.le_of_ble_eq_true rfl) (Nat.le_of_ble_eq_true rfl)
          · replace h := tw_fn c156 h
            refine lv_aload_n hx hb dL_act_159 rfl (lv_at hl 2 rfl) ?_
            obtain ⟨r160, e160, h⟩ := tw_bs h
            refine tw_callHF (w1' := (tw_wW cI cQ a na pa ta qa xa z r160.2)) (As := [.ref (a 0)]) (rest := []) F hN hK hP hD hS hA hNX hNC hU hZ (hL_undo l hst G cI cQ a na pa ta qa xa z Y H.size e160) (vx_cwSW 1 hts gL_act_L_undo rfl rfl rfl (by decide +kernel) ⟨(Nat.le_of_ble_eq_true rfl), (Nat.le_of_ble_eq_true rfl)⟩) [0, 1] rfl lw_fW rfl hl.1 rfl (Nat.le_of_ble_eq_true rfl) dL_act_160 ⟨(Nat.le_of_ble_eq_true rfl), (Nat.le_of_ble_eq_true rfl)⟩ (fun H locs hP hD hS => ?_)
            exact hq H locs _ ls r160.1 _ _ (tw_rt (fun r => r.1 = r160.1) h rfl) (tw_rt (fun r => va_P G vwCl (tw_wW cI cQ a na pa ta qa xa z r.2) H) h hP) hS dL_act_163 (Nat.le_of_ble_eq_true rfl) (Nat.le_of_ble_eq_true rfl)
        · replace h := tw_fn c139 h
          refine lv_aload_n hx hb dL_act_142 rfl (lv_at hl 2 rfl) ?_
          refine lv_iload_n hx hb dL_act_143 rfl (lv_at hl 5 rfl) ?_
          refine lv_iconst (v := (4 : Int32)) hx hb dL_act_144 (by decide) ?_
          obtain ⟨r145, e145, h⟩ := tw_bs h
          refine tw_callSi (ws' := (tw_wW cI cQ a na pa ta qa xa z Y)) (As := [.int v3, .int (4 : Int32)]) (rest := [.ref (a 0)]) F hN hK hP hD hS hA (mL_low l G cI H.size v3 (4 : Int32) e145) (va_cwS 2 hts gL_act_L_low rfl rfl rfl (by decide +kernel) ⟨(Nat.le_of_ble_eq_true rfl), (Nat.le_of_ble_eq_true rfl)⟩) [0] rfl [] (by decide) rfl rfl rfl rfl hl.1 rfl (Nat.le_of_ble_eq_true rfl) dL_act_145 ⟨Nat.zero_le _, Nat.zero_le _⟩ (fun H locs hP hD hS => ?_)
          obtain ⟨r148, e148, h⟩ := tw_bs h
          obtain ⟨k148, h⟩ := tw_qs h
          refine tw_callViF (ws' := (tw_wW cI cQ a na pa ta qa xa z r148.2.2)) (As := [.int r145]) (rest := []) F hN hK hP hD hS hA (mX3_rule l G cI cQ a na pa ta qa xa z Y H.size r145 e148 k148) (cwV 1 hts gL_act_X3_rule rfl rfl rfl (by decide +kernel) ⟨(Nat.le_of_ble_eq_true rfl), (Nat.le_of_ble_eq_true rfl)⟩) rfl (r0 := 0) (ci := 3) rfl rfl rfl rfl hl.1 rfl (Nat.le_of_ble_eq_true rfl) dL_act_148 ⟨Nat.zero_le _, Nat.zero_le _⟩ (fun H locs hP hD hS => ?_)
          exact hq H locs _ ls r148.2.1 _ _ (tw_rt (fun r => r.1 = r148.2.1) h rfl) (tw_rt (fun r => va_P G vwCl (tw_wW cI cQ a na pa ta qa xa z r.2) H) h hP) hS dL_act_151 (Nat.le_of_ble_eq_true rfl) (Nat.le_of_ble_eq_true rfl)
      · replace h := tw_fn c101 h
        refine lv_iload_n hx hb dL_act_104 rfl (lv_at hl 5 rfl) ?_
        refine lv_bipush (v := (60 : Int32)) hx hb dL_act_105 (by decide) ?_
        obtain ⟨r107, e107, h⟩ := tw_bs h
        refine tw_callSi (ws' := (tw_wW cI cQ a na pa ta qa xa z Y)) (As := [.int v3, .int (60 : Int32)]) (rest := []) F hN hK hP hD hS hA (mL_low l G cI H.size v3 (60 : Int32) e107) (va_cwS 2 hts gL_act_L_low rfl rfl rfl (by decide +kernel) ⟨(Nat.le_of_ble_eq_true rfl), (Nat.le_of_ble_eq_true rfl)⟩) [0] rfl [] (by decide) rfl rfl rfl rfl hl.1 rfl (Nat.le_of_ble_eq_true rfl) dL_act_107 ⟨Nat.zero_le _, Nat.zero_le _⟩ (fun H locs hP hD hS => ?_)
        refine lv_istore (lv' := [(9, .int r107), (8, .int r57), (7, .int t0), (0, .ref (a 0)), (1, .ref b), (2, .int p2), (3, .int v3), (4, .int v4), (5, .int v5), (6, .int v6)]) hx hb dL_act_110 hl (by decide) rfl (fun ls hl => ?_)
        refine lv_aload_n hx hb dL_act_112 rfl (lv_at hl 3 rfl) ?_
        refine lv_iload hx hb dL_act_113 (lv_at hl 7 rfl) ?_
        refine lv_iconst (v := (4 : Int32)) hx hb dL_act_115 (by decide) ?_
        obtain ⟨r116, e116, h⟩ := tw_bs h
        refine tw_callSi (ws' := (tw_wW cI cQ a na pa ta qa xa z Y)) (As := [.int v4, .int (4 : Int32)]) (rest := [.ref (a 0)]) F hN hK hP hD hS hA (mL_low l G cI H.size v4 (4 : Int32) e116) (va_cwS 2 hts gL_act_L_low rfl rfl rfl (by decide +kernel) ⟨(Nat.le_of_ble_eq_true rfl), (Nat.le_of_ble_eq_true rfl)⟩) [0] rfl [] (by decide) rfl rfl rfl rfl hl.1 rfl (Nat.le_of_ble_eq_true rfl) dL_act_116 ⟨Nat.zero_le _, Nat.zero_le _⟩ (fun H locs hP hD hS => ?_)
        refine lv_iload hx hb dL_act_119 (lv_at hl 0 rfl) ?_
        refine lv_iload hx hb dL_act_121 (lv_at hl 0 rfl) ?_
        refine lv_iload hx hb dL_act_123 (lv_at hl 8 rfl) ?_
        refine lv_bipush (v := (40 : Int32)) hx hb dL_act_125 (by decide) ?_
        obtain ⟨r127, e127, h⟩ := tw_bs h
        refine tw_callSi (ws' := (tw_wW cI cQ a na pa ta qa xa z Y)) (As := [.int v5, .int (40 : Int32)]) (rest := [.int r107, .int r107, .int r116, .ref (a 0)]) F hN hK hP hD hS hA (mL_low l G cI H.size v5 (40 : Int32) e127) (va_cwS 2 hts gL_act_L_low rfl rfl rfl (by decide +kernel) ⟨(Nat.le_of_ble_eq_true rfl), (Nat.le_of_ble_eq_true rfl)⟩) [0] rfl [] (by decide) rfl rfl rfl rfl hl.1 rfl (Nat.le_of_ble_eq_true rfl) dL_act_127 ⟨Nat.zero_le _, Nat.zero_le _⟩ (fun H locs hP hD hS => ?_)
        refine lv_iadd hx hb dL_act_130 ?_
        obtain ⟨r131, e131, h⟩ := tw_bs h
        obtain ⟨k131, h⟩ := tw_qs h
        refine tw_callViF (ws' := (tw_wW cI cQ a na pa ta qa xa z r131.2.2)) (As := [.int r116, .int r107, .int (r107 + r127)]) (rest := []) F hN hK hP hD hS hA (mX3_borrow l G cI cQ a na pa ta qa xa z Y H.size r116 r107 (r107 + r127) e131 k131) (cwV 3 hts gL_act_X3_borrow rfl rfl rfl (by decide +kernel) ⟨(Nat.le_of_ble_eq_true rfl), (Nat.le_of_ble_eq_true rfl)⟩) rfl (r0 := 0) (ci := 3) rfl rfl rfl rfl hl.1 rfl (Nat.le_of_ble_eq_true rfl) dL_act_131 ⟨Nat.zero_le _, Nat.zero_le _⟩ (fun H locs hP hD hS => ?_)
        exact hq H locs _ ls r131.2.1 _ _ (tw_rt (fun r => r.1 = r131.2.1) h rfl) (tw_rt (fun r => va_P G vwCl (tw_wW cI cQ a na pa ta qa xa z r.2) H) h hP) hS dL_act_134 (Nat.le_of_ble_eq_true rfl) (Nat.le_of_ble_eq_true rfl)
    · replace h := tw_f c65 h
      refine lv_aload_n hx hb dL_act_68 rfl (lv_at hl 2 rfl) ?_
      refine lv_iconst (v := (1 : Int32)) hx hb dL_act_69 (by decide) ?_
      refine lv_iload_n hx hb dL_act_70 rfl (lv_at hl 5 rfl) ?_
      refine lv_bipush (v := (9 : Int32)) hx hb dL_act_71 (by decide) ?_
      obtain ⟨r73, e73, h⟩ := tw_bs h
      refine tw_callSi (ws' := (tw_wW cI cQ a na pa ta qa xa z Y)) (As := [.int v3, .int (9 : Int32)]) (rest := [.int (1 : Int32), .ref (a 0)]) F hN hK hP hD hS hA (mL_low l G cI H.size v3 (9 : Int32) e73) (va_cwS 2 hts gL_act_L_low rfl rfl rfl (by decide +kernel) ⟨(Nat.le_of_ble_eq_true rfl), (Nat.le_of_ble_eq_true rfl)⟩) [0] rfl [] (by decide) rfl rfl rfl rfl hl.1 rfl (Nat.le_of_ble_eq_true rfl) dL_act_73 ⟨Nat.zero_le _, Nat.zero_le _⟩ (fun H locs hP hD hS => ?_)
      refine lv_iadd hx hb dL_act_76 ?_
      refine lv_iload hx hb dL_act_77 (lv_at hl 6 rfl) ?_
      refine lv_bipush (v := (6 : Int32)) hx hb dL_act_79 (by decide) ?_
      obtain ⟨r81, e81, h⟩ := tw_bs h
      refine tw_callSi (ws' := (tw_wW cI cQ a na pa ta qa xa z Y)) (As := [.int v4, .int (6 : Int32)]) (rest := [.int ((1 : Int32) + r73), .ref (a 0)]) F hN hK hP hD hS hA (mL_low l G cI H.size v4 (6 : Int32) e81) (va_cwS 2 hts gL_act_L_low rfl rfl rfl (by decide +kernel) ⟨(Nat.le_of_ble_eq_true rfl), (Nat.le_of_ble_eq_true rfl)⟩) [0] rfl [] (by decide) rfl rfl rfl rfl hl.1 rfl (Nat.le_of_ble_eq_true rfl) dL_act_81 ⟨Nat.zero_le _, Nat.zero_le _⟩ (fun H locs hP hD hS => ?_)
      refine lv_iconst (v := (1 : Int32)) hx hb dL_act_84 (by decide) ?_
      refine lv_isub hx hb dL_act_85 ?_
      refine lv_iload hx hb dL_act_86 (lv_at hl 7 rfl) ?_
      refine lv_iconst (v := (5 : Int32)) hx hb dL_act_88 (by decide) ?_
      obtain ⟨r89, e89, h⟩ := tw_bs h
      refine tw_callSi (ws' := (tw_wW cI cQ a na pa ta qa xa z Y)) (As := [.int v5, .int (5 : Int32)]) (rest := [.int (r81 - (1 : Int32)), .int ((1 : Int32) + r73), .ref (a 0)]) F hN hK hP hD hS hA (mL_low l G cI H.size v5 (5 : Int32) e89) (va_cwS 2 hts gL_act_L_low rfl rfl rfl (by decide +kernel) ⟨(Nat.le_of_ble_eq_true rfl), (Nat.le_of_ble_eq_true rfl)⟩) [0] rfl [] (by decide) rfl rfl rfl rfl hl.1 rfl (Nat.le_of_ble_eq_true rfl) dL_act_89 ⟨Nat.zero_le _, Nat.zero_le _⟩ (fun H locs hP hD hS => ?_)
      refine lv_iconst (v := (1 : Int32)) hx hb dL_act_92 (by decide) ?_
      refine lv_isub hx hb dL_act_93 ?_
      obtain ⟨r94, e94, h⟩ := tw_bs h
      refine tw_callHF (w1' := (tw_wW cI cQ a na pa ta qa xa z r94.2)) (As := [.ref (a 0), .int ((1 : Int32) + r73), .int (r81 - (1 : Int32)), .int (r89 - (1 : Int32))]) (rest := []) F hN hK hP hD hS hA hNX hNC hU hZ (hL_add l hst G cI cQ a na pa ta qa xa z Y H.size ((1 : Int32) + r73) (r81 - (1 : Int32)) (r89 - (1 : Int32)) e94) (vx_cwSW 4 hts gL_act_L_add rfl rfl rfl (by decide +kernel) ⟨(Nat.le_of_ble_eq_true rfl), (Nat.le_of_ble_eq_true rfl)⟩) [0, 1] rfl lw_fW rfl hl.1 rfl (Nat.le_of_ble_eq_true rfl) dL_act_94 ⟨(Nat.le_of_ble_eq_true rfl), (Nat.le_of_ble_eq_true rfl)⟩ (fun H locs hP hD hS => ?_)
      exact hq H locs _ ls r94.1 _ _ (tw_rt (fun r => r.1 = r94.1) h rfl) (tw_rt (fun r => va_P G vwCl (tw_wW cI cQ a na pa ta qa xa z r.2) H) h hP) hS dL_act_97 (Nat.le_of_ble_eq_true rfl) (Nat.le_of_ble_eq_true rfl)
  refine lv_aload_n hx hb dL_act_0 rfl (lv_at hl 1 rfl) ?_
  refine lv_iload_n hx hb dL_act_1 rfl (lv_at hl 2 rfl) ?_
  refine lv_iconst (v := (1 : Int32)) hx hb dL_act_2 (by decide) ?_
  refine lv_iadd hx hb dL_act_3 ?_
  obtain ⟨r4, e4, h⟩ := tw_bs h
  refine tw_callK (As := [.ref b, .int (p2 + (1 : Int32))]) (rest := []) F hP hD hS hA hX hbl hbA (mL_cell l b L xs H.size (p2 + (1 : Int32)) e4) (va_cwS 2 hts gL_act_L_cell rfl rfl rfl (by decide +kernel) ⟨(Nat.le_of_ble_eq_true rfl), (Nat.le_of_ble_eq_true rfl)⟩) rfl hl.1 rfl (Nat.le_of_ble_eq_true rfl) dL_act_4 ⟨Nat.zero_le _, Nat.zero_le _⟩ (fun H locs hP hD hS => ?_)
  refine lv_istore_n (lv' := [(3, .int r4), (0, .ref (a 0)), (1, .ref b), (2, .int p2)]) hx hb dL_act_7 rfl hl (by decide) rfl (fun ls hl => ?_)
  refine lv_aload_n hx hb dL_act_8 rfl (lv_at hl 2 rfl) ?_
  refine lv_iload_n hx hb dL_act_9 rfl (lv_at hl 3 rfl) ?_
  refine lv_iconst (v := (2 : Int32)) hx hb dL_act_10 (by decide) ?_
  refine lv_iadd hx hb dL_act_11 ?_
  obtain ⟨r12, e12, h⟩ := tw_bs h
  refine tw_callK (As := [.ref b, .int (p2 + (2 : Int32))]) (rest := []) F hP hD hS hA hX hbl hbA (mL_cell l b L xs H.size (p2 + (2 : Int32)) e12) (va_cwS 2 hts gL_act_L_cell rfl rfl rfl (by decide +kernel) ⟨(Nat.le_of_ble_eq_true rfl), (Nat.le_of_ble_eq_true rfl)⟩) rfl hl.1 rfl (Nat.le_of_ble_eq_true rfl) dL_act_12 ⟨Nat.zero_le _, Nat.zero_le _⟩ (fun H locs hP hD hS => ?_)
  refine lv_istore (lv' := [(4, .int r12), (3, .int r4), (0, .ref (a 0)), (1, .ref b), (2, .int p2)]) hx hb dL_act_15 hl (by decide) rfl (fun ls hl => ?_)
  refine lv_aload_n hx hb dL_act_17 rfl (lv_at hl 3 rfl) ?_
  refine lv_iload_n hx hb dL_act_18 rfl (lv_at hl 4 rfl) ?_
  refine lv_iconst (v := (3 : Int32)) hx hb dL_act_19 (by decide) ?_
  refine lv_iadd hx hb dL_act_20 ?_
  obtain ⟨r21, e21, h⟩ := tw_bs h
  refine tw_callK (As := [.ref b, .int (p2 + (3 : Int32))]) (rest := []) F hP hD hS hA hX hbl hbA (mL_cell l b L xs H.size (p2 + (3 : Int32)) e21) (va_cwS 2 hts gL_act_L_cell rfl rfl rfl (by decide +kernel) ⟨(Nat.le_of_ble_eq_true rfl), (Nat.le_of_ble_eq_true rfl)⟩) rfl hl.1 rfl (Nat.le_of_ble_eq_true rfl) dL_act_21 ⟨Nat.zero_le _, Nat.zero_le _⟩ (fun H locs hP hD hS => ?_)
  refine lv_istore (lv' := [(5, .int r21), (4, .int r12), (3, .int r4), (0, .ref (a 0)), (1, .ref b), (2, .int p2)]) hx hb dL_act_24 hl (by decide) rfl (fun ls hl => ?_)
  refine lv_aload_n hx hb dL_act_26 rfl (lv_at hl 3 rfl) ?_
  refine lv_iconst (v := (0 : Int32)) hx hb dL_act_27 (by decide) ?_
  obtain ⟨r28, e28, h⟩ := tw_bs h
  obtain ⟨k28, h⟩ := tw_qs h
  refine tw_callViF (ws' := (tw_wW cI cQ a na pa ta qa xa z r28.2.2)) (As := [.int (0 : Int32)]) (rest := []) F hN hK hP hD hS hA (mX3_count l G cI cQ a na pa ta qa xa z Y H.size (0 : Int32) e28 k28) (cwV 1 hts gL_act_X3_count rfl rfl rfl (by decide +kernel) ⟨(Nat.le_of_ble_eq_true rfl), (Nat.le_of_ble_eq_true rfl)⟩) rfl (r0 := 0) (ci := 3) rfl rfl rfl rfl hl.1 rfl (Nat.le_of_ble_eq_true rfl) dL_act_28 ⟨Nat.zero_le _, Nat.zero_le _⟩ (fun H locs hP hD hS => ?_)
  refine lv_istore (lv' := [(6, .int r28.2.1), (5, .int r21), (4, .int r12), (3, .int r4), (0, .ref (a 0)), (1, .ref b), (2, .int p2)]) hx hb dL_act_31 hl (by decide) rfl (fun ls hl => ?_)
  refine lv_iload hx hb dL_act_33 (lv_at hl 0 rfl) ?_
  refine lv_if_ne (tgt := 42) hx hb dL_act_35 (by decide) (fun c35 => ?_) (fun c35 => ?_)
  · replace h := tw_t c35 h
    refine lv_iload_n hx hb dL_act_42 rfl (lv_at hl 3 rfl) ?_
    refine lv_iload hx hb dL_act_43 (lv_at hl 0 rfl) ?_
    obtain ⟨r45, e45, h⟩ := tw_bs h
    refine tw_callSi (ws' := (tw_wW cI cQ a na pa ta qa xa z r28.2.2)) (As := [.int r4, .int r28.2.1]) (rest := []) F hN hK hP hD hS hA (mL_low l G cI H.size r4 r28.2.1 e45) (va_cwS 2 hts gL_act_L_low rfl rfl rfl (by decide +kernel) ⟨(Nat.le_of_ble_eq_true rfl), (Nat.le_of_ble_eq_true rfl)⟩) [0] rfl [] (by decide) rfl rfl rfl rfl hl.1 rfl (Nat.le_of_ble_eq_true rfl) dL_act_45 ⟨Nat.zero_le _, Nat.zero_le _⟩ (fun H locs hP hD hS => ?_)
    exact L48 r45 r4 r12 r21 r28.2.1 r28.2.2 H locs ls h (lv_sub hl [4, 5, 6, 3, 2, 1, 0] rfl) hP hD hS
  · replace h := tw_fn c35 h
    refine lv_iconst (v := (0 : Int32)) hx hb dL_act_38 (by decide) ?_
    refine lv_goto (tgt := 48) hx hb dL_act_39 (by decide) ?_
    exact L48 (0 : Int32) r4 r12 r21 r28.2.1 r28.2.2 H locs ls h (lv_sub hl [4, 5, 6, 3, 2, 1, 0] rfl) hP hD hS
