abbrev rmL_low : Room := { frames := 0, cells := 0, slots := 0, locals := 0 }
set_option maxRecDepth 20000 in
theorem qL_low_0 : (Cond.constant RL 7 2147483647) ∈ wsL_low := (List.mem_cons_of_mem _ (List.mem_of_getElem? (i := 0) rfl))
set_option maxHeartbeats 4000000 in
set_option maxRecDepth 100000 in
theorem mL_low (l : Launch) (G : va_G) (cI : ClassId)   (sz : Nat) (p0 : Int32) (p1 : Int32) {rv : Int32} (h : fL_low p0 p1 = some rv) : tw_Mi l yL_low wsL_low rmL_low G [(cI, .int)] ([] : va_W) [.int p0, .int p1] sz rv ([] : va_W) := by
  refine tw_ofi (ty := .int) (cc := cL_low) (maxL := 2) (own := RL) (by decide) rfl rfl (Nat.le_of_ble_eq_true rfl) ?_
  intro p e s m args below meth c Q A ls H locs F hN hK hP hD hS hA hl hq
  obtain ⟨hx, hb, hml, hown, hts⟩ := id F
  have hl : lv_has ls 2 [(0, .int p0), (1, .int p1)] := hl
  unfold fL_low at h
  refine lv_iload_n hx hb dL_low_0 rfl (lv_at hl 0 rfl) ?_
  refine lv_ldc hx hb hown (hts _ qL_low_0) dL_low_1 ?_
  refine lv_iand hx hb dL_low_3 ?_
  refine lv_iload_n hx hb dL_low_4 rfl (lv_at hl 1 rfl) ?_
  obtain ⟨g5, h⟩ := tw_qs h
  refine lv_irem hx hb dL_low_5 g5 ?_
  exact hq H locs _ ls ((p0 &&& (2147483647 : Int32)) - (p0 &&& (2147483647 : Int32)) / p1 * p1) (tw_rt (fun r => r = ((p0 &&& (2147483647 : Int32)) - (p0 &&& (2147483647 : Int32)) / p1 * p1)) h rfl) rfl hP hS dL_low_6
abbrev rmL_plan : Room := { frames := 7, cells := 0, slots := 0, locals := 169 }
set_option maxHeartbeats 4000000 in
set_option maxRecDepth 100000 in
theorem mL_plan (l : Launch) (G : va_G) (cI : ClassId) (cQ : ClassId) (a na pa ta qa xa : Nat → Nat) (z : Nat → Nat → Nat) (Y : tw_Wl) (sz : Nat)  {rv : Int32 × tw_Wl} (h : fL_plan Y = some rv) : tw_Mi l yL_plan wsL_plan rmL_plan G [(cI, .int), (cQ, .object RX1)] (tw_wW cI cQ a na pa ta qa xa z Y) [.ref (a 0)] sz rv.1 (tw_wW cI cQ a na pa ta qa xa z rv.2) := by
  refine tw_ofi (ty := .boolean) (cc := cL_plan) (maxL := 14) (own := RL) (by decide) rfl rfl (Nat.le_of_ble_eq_true rfl) ?_
  intro p e s m args below meth c Q A ls H locs F hN hK hP hD hS hA hl hq
  obtain ⟨hx, hb, hml, hown, hts⟩ := id F
  have hl : lv_has ls 14 [(0, .ref (a 0))] := hl
  unfold fL_plan at h
  have L447 : ∀ (v1 : Int32) (v2 : Int32) (v3 : Int32) (v4 : Int32) (v5 : Int32) (v6 : Int32) (Y : tw_Wl) (H : Heap) (locs : List Loc) (ls : Array Slot), fL_plan_447 v1 v2 v3 v4 v5 v6 Y = some rv → lv_has ls 14 [(0, .ref (a 0)), (1, .int v1), (2, .int v2), (3, .int v3), (4, .int v4), (5, .int v5), (6, .int v6)] → va_P G vwCl (tw_wW cI cQ a na pa ta qa xa z Y) H → va_D A (tw_wW cI cQ a na pa ta qa xa z Y) → va_S A s.heap H locs → W p l e rmL_plan s m args below meth c H locs 0 0 Q (F0 m 447 ls []) := by
    intro v1 v2 v3 v4 v5 v6 Y H locs ls h hl hP hD hS
    unfold fL_plan_447 at h
    refine lv_iload hx hb dL_plan_447 (lv_at hl 6 rfl) ?_
    refine lv_if_eq (tgt := 506) hx hb dL_plan_449 (by decide) (fun c449 => ?_) (fun c449 => ?_)
    · replace h := tw_t c449 h
      refine lv_iconst (v := (0 : Int32)) hx hb dL_plan_506 (by decide) ?_
      exact hq H locs _ ls (0 : Int32) (tw_rt (fun r => r.1 = (0 : Int32)) h rfl) rfl (tw_rt (fun r => va_P G vwCl (tw_wW cI cQ a na pa ta qa xa z r.2) H) h hP) hS dL_plan_507
    · replace h := tw_f c449 h
      refine lv_iload_n hx hb dL_plan_452 rfl (lv_at hl 2 rfl) ?_
      refine lv_aload_n hx hb dL_plan_453 rfl (lv_at hl 0 rfl) ?_
      refine lv_iconst (v := (1 : Int32)) hx hb dL_plan_454 (by decide) ?_
      obtain ⟨r455, e455, h⟩ := tw_bs h
      obtain ⟨k455, h⟩ := tw_qs h
      refine tw_callViF (ws' := (tw_wW cI cQ a na pa ta qa xa z r455.2.2)) (As := [.int (1 : Int32)]) (rest := [.int v2]) F hN hK hP hD hS hA (mX3_count l G cI cQ a na pa ta qa xa z Y H.size (1 : Int32) e455 k455) (cwV 1 hts gL_plan_X3_count rfl rfl rfl (by decide +kernel) ⟨(Nat.le_of_ble_eq_true rfl), (Nat.le_of_ble_eq_true rfl)⟩) rfl (r0 := 0) (ci := 3) rfl rfl rfl rfl hl.1 rfl (Nat.le_of_ble_eq_true rfl) dL_plan_455 ⟨Nat.zero_le _, Nat.zero_le _⟩ (fun H locs hP hD hS => ?_)
      refine lv_icmp_ne (tgt := 506) hx hb dL_plan_458 (by decide) (fun c458 => ?_) (fun c458 => ?_)
      · replace h := tw_t c458 h
        refine lv_iconst (v := (0 : Int32)) hx hb dL_plan_506 (by decide) ?_
        exact hq H locs _ ls (0 : Int32) (tw_rt (fun r => r.1 = (0 : Int32)) h rfl) rfl (tw_rt (fun r => va_P G vwCl (tw_wW cI cQ a na pa ta qa xa z r.2) H) h hP) hS dL_plan_507
      · replace h := tw_fn c458 h
        refine lv_iload_n hx hb dL_plan_461 rfl (lv_at hl 1 rfl) ?_
        refine lv_iload_n hx hb dL_plan_462 rfl (lv_at hl 2 rfl) ?_
        refine lv_isub hx hb dL_plan_463 ?_
        refine lv_aload_n hx hb dL_plan_464 rfl (lv_at hl 0 rfl) ?_
        refine lv_iconst (v := (2 : Int32)) hx hb dL_plan_465 (by decide) ?_
        obtain ⟨r466, e466, h⟩ := tw_bs h
        obtain ⟨k466, h⟩ := tw_qs h
        refine tw_callViF (ws' := (tw_wW cI cQ a na pa ta qa xa z r466.2.2)) (As := [.int (2 : Int32)]) (rest := [.int (v1 - v2)]) F hN hK hP hD hS hA (mX3_count l G cI cQ a na pa ta qa xa z r455.2.2 H.size (2 : Int32) e466 k466) (cwV 1 hts gL_plan_X3_count rfl rfl rfl (by decide +kernel) ⟨(Nat.le_of_ble_eq_true rfl), (Nat.le_of_ble_eq_true rfl)⟩) rfl (r0 := 0) (ci := 3) rfl rfl rfl rfl hl.1 rfl (Nat.le_of_ble_eq_true rfl) dL_plan_466 ⟨Nat.zero_le _, Nat.zero_le _⟩ (fun H locs hP hD hS => ?_)
        refine lv_icmp_ne (tgt := 506) hx hb dL_plan_469 (by decide) (fun c469 => ?_) (fun c469 => ?_)
        · replace h := tw_t c469 h
          refine lv_iconst (v := (0 : Int32)) hx hb dL_plan_506 (by decide) ?_
          exact hq H locs _ ls (0 : Int32) (tw_rt (fun r => r.1 = (0 : Int32)) h rfl) rfl (tw_rt (fun r => va_P G vwCl (tw_wW cI cQ a na pa ta qa xa z r.2) H) h hP) hS dL_plan_507
        · replace h := tw_fn c469 h
          refine lv_iload hx hb dL_plan_472 (lv_at hl 5 rfl) ?_
          refine lv_aload_n hx hb dL_plan_474 rfl (lv_at hl 0 rfl) ?_
          refine lv_iconst (v := (3 : Int32)) hx hb dL_plan_475 (by decide) ?_
          obtain ⟨r476, e476, h⟩ := tw_bs h
          obtain ⟨k476, h⟩ := tw_qs h
          refine tw_callViF (ws' := (tw_wW cI cQ a na pa ta qa xa z r476.2.2)) (As := [.int (3 : Int32)]) (rest := [.int v5]) F hN hK hP hD hS hA (mX3_count l G cI cQ a na pa ta qa xa z r466.2.2 H.size (3 : Int32) e476 k476) (cwV 1 hts gL_plan_X3_count rfl rfl rfl (by decide +kernel) ⟨(Nat.le_of_ble_eq_true rfl), (Nat.le_of_ble_eq_true rfl)⟩) rfl (r0 := 0) (ci := 3) rfl rfl rfl rfl hl.1 rfl (Nat.le_of_ble_eq_true rfl) dL_plan_476 ⟨Nat.zero_le _, Nat.zero_le _⟩ (fun H locs hP hD hS => ?_)
          refine lv_icmp_ne (tgt := 506) hx hb dL_plan_479 (by decide) (fun c479 => ?_) (fun c479 => ?_)
          · replace h := tw_t c479 h
            refine lv_iconst (v := (0 : Int32)) hx hb dL_plan_506 (by decide) ?_
            exact hq H locs _ ls (0 : Int32) (tw_rt (fun r => r.1 = (0 : Int32)) h rfl) rfl (tw_rt (fun r => va_P G vwCl (tw_wW cI cQ a na pa ta qa xa z r.2) H) h hP) hS dL_plan_507
          · replace h := tw_fn c479 h
            refine lv_iload_n hx hb dL_plan_482 rfl (lv_at hl 3 rfl) ?_
            refine lv_aload_n hx hb dL_plan_483 rfl (lv_at hl 0 rfl) ?_
            refine lv_bipush (v := (6 : Int32)) hx hb dL_plan_484 (by decide) ?_
            obtain ⟨r486, e486, h⟩ := tw_bs h
            obtain ⟨k486, h⟩ := tw_qs h
            refine tw_callViF (ws' := (tw_wW cI cQ a na pa ta qa xa z r486.2.2)) (As := [.int (6 : Int32)]) (rest := [.int v3]) F hN hK hP hD hS hA (mX3_count l G cI cQ a na pa ta qa xa z r476.2.2 H.size (6 : Int32) e486 k486) (cwV 1 hts gL_plan_X3_count rfl rfl rfl (by decide +kernel) ⟨(Nat.le_of_ble_eq_true rfl), (Nat.le_of_ble_eq_true rfl)⟩) rfl (r0 := 0) (ci := 3) rfl rfl rfl rfl hl.1 rfl (Nat.le_of_ble_eq_true rfl) dL_plan_486 ⟨Nat.zero_le _, Nat.zero_le _⟩ (fun H locs hP hD hS => ?_)
            refine lv_icmp_ne (tgt := 506) hx hb dL_plan_489 (by decide) (fun c489 => ?_) (fun c489 => ?_)
            · replace h := tw_t c489 h
              refine lv_iconst (v := (0 : Int32)) hx hb dL_plan_506 (by decide) ?_
              exact hq H locs _ ls (0 : Int32) (tw_rt (fun r => r.1 = (0 : Int32)) h rfl) rfl (tw_rt (fun r => va_P G vwCl (tw_wW cI cQ a na pa ta qa xa z r.2) H) h hP) hS dL_plan_507
            · replace h := tw_fn c489 h
              refine lv_iload hx hb dL_plan_492 (lv_at hl 4 rfl) ?_
              refine lv_aload_n hx hb dL_plan_494 rfl (lv_at hl 0 rfl) ?_
              refine lv_iconst (v := (5 : Int32)) hx hb dL_plan_495 (by decide) ?_
              obtain ⟨r496, e496, h⟩ := tw_bs h
              obtain ⟨k496, h⟩ := tw_qs h
              refine tw_callViF (ws' := (tw_wW cI cQ a na pa ta qa xa z r496.2.2)) (As := [.int (5 : Int32)]) (rest := [.int v4]) F hN hK hP hD hS hA (mX3_count l G cI cQ a na pa ta qa xa z r486.2.2 H.size (5 : Int32) e496 k496) (cwV 1 hts gL_plan_X3_count rfl rfl rfl (by decide +kernel) ⟨(Nat.le_of_ble_eq_true rfl), (Nat.le_of_ble_eq_true rfl)⟩) rfl (r0 := 0) (ci := 3) rfl rfl rfl rfl hl.1 rfl (Nat.le_of_ble_eq_true rfl) dL_plan_496 ⟨Nat.zero_le _, Nat.zero_le _⟩ (fun H locs hP hD hS => ?_)
              refine lv_icmp_ne (tgt := 506) hx hb dL_plan_499 (by decide) (fun c499 => ?_) (fun c499 => ?_)
              · replace h := tw_t c499 h
                refine lv_iconst (v := (0 : Int32)) hx hb dL_plan_506 (by decide) ?_
                exact hq H locs _ ls (0 : Int32) (tw_rt (fun r => r.1 = (0 : Int32)) h rfl) rfl (tw_rt (fun r => va_P G vwCl (tw_wW cI cQ a na pa ta qa xa z r.2) H) h hP) hS dL_plan_507
              · replace h := tw_fn c499 h
                refine lv_iconst (v := (1 : Int32)) hx hb dL_plan_502 (by decide) ?_
                refine lv_goto (tgt := 507) hx hb dL_plan_503 (by decide) ?_
                exact hq H locs _ ls (1 : Int32) (tw_rt (fun r => r.1 = (1 : Int32)) h rfl) rfl (tw_rt (fun r => va_P G vwCl (tw_wW cI cQ a na pa ta qa xa z r.2) H) h hP) hS dL_plan_507
  have L22 : ∀ (n22 : Nat) (v1 : Int32) (v2 : Int32) (v3 : Int32) (v4 : Int32) (v5 : Int32) (v6 : Int32) (v7 : Int32) (Y : tw_Wl) (H : Heap) (locs : List Loc) (ls : Array Slot), fL_plan_22 n22 v1 v2 v3 v4 v5 v6 v7 Y = some rv → lv_has ls 14 [(0, .ref (a 0)), (1, .int v1), (2, .int v2), (3, .int v3), (4, .int v4), (5, .int v5), (6, .int v6), (7, .int v7)] → va_P G vwCl (tw_wW cI cQ a na pa ta qa xa z Y) H → va_D A (tw_wW cI cQ a na pa ta qa xa z Y) → va_S A s.heap H locs → W p l e rmL_plan s m args below meth c H locs 0 0 Q (F0 m 22 ls []) := by
    intro n22
    induction n22 with
    | zero =>
      intro v1 v2 v3 v4 v5 v6 v7 Y H locs ls h
      rw [fL_plan_22] at h
      cases h
    | succ n22 ih22 =>
      intro v1 v2 v3 v4 v5 v6 v7 Y H locs ls h hl hP hD hS
      rw [fL_plan_22] at h
      have L354 : ∀ (n354 : Nat) (v1 : Int32) (v2 : Int32) (v3 : Int32) (v4 : Int32) (v5 : Int32) (v6 : Int32) (v7 : Int32) (v9 : Int32) (v11 : Int32) (v12 : Int32) (v13 : Int32) (Y : tw_Wl) (H : Heap) (locs : List Loc) (ls : Array Slot), fL_plan_354 (fL_plan_22 n22) n354 v1 v2 v3 v4 v5 v6 v7 v9 v11 v12 v13 Y = some rv → lv_has ls 14 [(0, .ref (a 0)), (1, .int v1), (2, .int v2), (3, .int v3), (4, .int v4), (5, .int v5), (6, .int v6), (7, .int v7), (9, .int v9), (11, .int v11), (12, .int v12), (13, .int v13)] → va_P G vwCl (tw_wW cI cQ a na pa ta qa xa z Y) H → va_D A (tw_wW cI cQ a na pa ta qa xa z Y) → va_S A s.heap H locs → W p l e rmL_plan s m args below meth c H locs 0 0 Q (F0 m 354 ls []) := by
        intro n354
        induction n354 with
        | zero =>
          intro v1 v2 v3 v4 v5 v6 v7 v9 v11 v12 v13 Y H locs ls h
          rw [fL_plan_354] at h
          cases h
        | succ n354 ih354 =>
          intro v1 v2 v3 v4 v5 v6 v7 v9 v11 v12 v13 Y H locs ls h hl hP hD hS
          rw [fL_plan_354] at h
          have L385 : ∀ (v1 : Int32) (v2 : Int32) (v3 : Int32) (v4 : Int32) (v5 : Int32) (v7 : Int32) (v9 : Int32) (v11 : Int32) (v12 : Int32) (v13 : Int32) (Y : tw_Wl) (H : Heap) (locs : List Loc) (ls : Array Slot), fL_plan_385 (fL_plan_22 n22) (fL_plan_354 (fL_plan_22 n22) n354) v1 v2 v3 v4 v5 v7 v9 v11 v12 v13 Y = some rv → lv_has ls 14 [(0, .ref (a 0)), (1, .int v1), (2, .int v2), (3, .int v3), (4, .int v4), (5, .int v5), (7, .int v7), (9, .int v9), (11, .int v11), (12, .int v12), (13, .int v13)] → va_P G vwCl (tw_wW cI cQ a na pa ta qa xa z Y) H → va_D A (tw_wW cI cQ a na pa ta qa xa z Y) → va_S A s.heap H locs → W p l e rmL_plan s m args below meth c H locs 0 0 Q (F0 m 385 ls []) := by
            intro v1 v2 v3 v4 v5 v7 v9 v11 v12 v13 Y H locs ls h hl hP hD hS
            unfold fL_plan_385 at h
            refine lv_iload hx hb dL_plan_385 (lv_at hl 9 rfl) ?_
            refine lv_iconst (v := (-1 : Int32)) hx hb dL_plan_387 (by decide) ?_
            refine lv_icmp_eq (tgt := 428) hx hb dL_plan_388 (by decide) (fun c388 => ?_) (fun c388 => ?_)
            · replace h := tw_t c388 h
              refine lv_iconst (v := (1 : Int32)) hx hb dL_plan_428 (by decide) ?_
              refine lv_goto (tgt := 433) hx hb dL_plan_429 (by decide) ?_
              refine lv_istore (lv' := [(6, .int (1 : Int32)), (0, .ref (a 0)), (1, .int v1), (2, .int v2), (3, .int v3), (4, .int v4), (5, .int v5), (7, .int v7), (9, .int v9), (11, .int v11), (12, .int v12), (13, .int v13)]) hx hb dL_plan_433 hl (by decide) rfl (fun ls hl => ?_)
              refine lv_iinc (v := (v13 + 1)) (lv' := [(13, .int (v13 + 1)), (6, .int (1 : Int32)), (0, .ref (a 0)), (1, .int v1), (2, .int v2), (3, .int v3), (4, .int v4), (5, .int v5), (7, .int v7), (9, .int v9), (11, .int v11), (12, .int v12)]) hx hb dL_plan_435 hl (k := 11) rfl rfl (by decide) rfl (fun ls hl => ?_)
              refine lv_goto (tgt := 354) hx hb dL_plan_438 (by decide) ?_
              exact ih354 v1 v2 v3 v4 v5 (1 : Int32) v7 v9 v11 v12 (v13 + 1) Y H locs ls h (lv_sub hl [2, 3, 4, 5, 6, 7, 1, 8, 9, 10, 11, 0] rfl) hP hD hS
            · replace h := tw_f c388 h
              refine lv_aload_n hx hb dL_plan_391 rfl (lv_at hl 0 rfl) ?_
              refine lv_iload hx hb dL_plan_392 (lv_at hl 9 rfl) ?_
              refine lv_iload hx hb dL_plan_394 (lv_at hl 10 rfl) ?_
              obtain ⟨r396, e396, h⟩ := tw_bs h
              obtain ⟨k396, h⟩ := tw_qs h
              refine tw_callViF (ws' := (tw_wW cI cQ a na pa ta qa xa z Y)) (As := [.int v12, .int v13]) (rest := []) F hN hK hP hD hS hA (mX3_hallOn l G cI cQ a na pa ta qa xa z Y H.size v12 v13 e396 k396) (cwV 2 hts gL_plan_X3_hallOn rfl rfl rfl (by decide +kernel) ⟨(Nat.le_of_ble_eq_true rfl), (Nat.le_of_ble_eq_true rfl)⟩) rfl (r0 := 0) (ci := 3) rfl rfl rfl rfl hl.1 rfl (Nat.le_of_ble_eq_true rfl) dL_plan_396 ⟨Nat.zero_le _, Nat.zero_le _⟩ (fun H locs hP hD hS => ?_)
              refine lv_iload hx hb dL_plan_399 (lv_at hl 6 rfl) ?_
              refine lv_icmp_ne (tgt := 432) hx hb dL_plan_401 (by decide) (fun c401 => ?_) (fun c401 => ?_)
              · replace h := tw_t c401 h
                refine lv_iconst (v := (0 : Int32)) hx hb dL_plan_432 (by decide) ?_
                refine lv_istore (lv' := [(6, .int (0 : Int32)), (0, .ref (a 0)), (1, .int v1), (2, .int v2), (3, .int v3), (4, .int v4), (5, .int v5), (7, .int v7), (9, .int v9), (11, .int v11), (12, .int v12), (13, .int v13)]) hx hb dL_plan_433 hl (by decide) rfl (fun ls hl => ?_)
                refine lv_iinc (v := (v13 + 1)) (lv' := [(13, .int (v13 + 1)), (6, .int (0 : Int32)), (0, .ref (a 0)), (1, .int v1), (2, .int v2), (3, .int v3), (4, .int v4), (5, .int v5), (7, .int v7), (9, .int v9), (11, .int v11), (12, .int v12)]) hx hb dL_plan_435 hl (k := 11) rfl rfl (by decide) rfl (fun ls hl => ?_)
                refine lv_goto (tgt := 354) hx hb dL_plan_438 (by decide) ?_
                exact ih354 v1 v2 v3 v4 v5 (0 : Int32) v7 v9 v11 v12 (v13 + 1) Y H locs ls h (lv_sub hl [2, 3, 4, 5, 6, 7, 1, 8, 9, 10, 11, 0] rfl) hP hD hS
              · replace h := tw_fn c401 h
                refine lv_iload hx hb dL_plan_404 (lv_at hl 10 rfl) ?_
                refine lv_aload_n hx hb dL_plan_406 rfl (lv_at hl 0 rfl) ?_
                refine lv_iload hx hb dL_plan_407 (lv_at hl 9 rfl) ?_
                refine lv_iconst (v := (0 : Int32)) hx hb dL_plan_409 (by decide) ?_
                obtain ⟨r410, e410, h⟩ := tw_bs h
                obtain ⟨k410, h⟩ := tw_qs h
                refine tw_callViF (ws' := (tw_wW cI cQ a na pa ta qa xa z Y)) (As := [.int v12, .int (0 : Int32)]) (rest := [.int v13]) F hN hK hP hD hS hA (mX3_hall l G cI cQ a na pa ta qa xa z Y H.size v12 (0 : Int32) e410 k410) (cwV 2 hts gL_plan_X3_hall rfl rfl rfl (by decide +kernel) ⟨(Nat.le_of_ble_eq_true rfl), (Nat.le_of_ble_eq_true rfl)⟩) rfl (r0 := 0) (ci := 3) rfl rfl rfl rfl hl.1 rfl (Nat.le_of_ble_eq_true rfl) dL_plan_410 ⟨Nat.zero_le _, Nat.zero_le _⟩ (fun H locs hP hD hS => ?_)
                refine lv_icmp_lt (tgt := 432) hx hb dL_plan_413 (by decide) (fun c413 => ?_) (fun c413 => ?_)
                · replace h := tw_t c413 h
                  refine lv_iconst (v := (0 : Int32)) hx hb dL_plan_432 (by decide) ?_
                  refine lv_istore (lv' := [(6, .int (0 : Int32)), (0, .ref (a 0)), (1, .int v1), (2, .int v2), (3, .int v3), (4, .int v4), (5, .int v5), (7, .int v7), (9, .int v9), (11, .int v11), (12, .int v12), (13, .int v13)]) hx hb dL_plan_433 hl (by decide) rfl (fun ls hl => ?_)
                  refine lv_iinc (v := (v13 + 1)) (lv' := [(13, .int (v13 + 1)), (6, .int (0 : Int32)), (0, .ref (a 0)), (1, .int v1), (2, .int v2), (3, .int v3), (4, .int v4), (5, .int v5), (7, .int v7), (9, .int v9), (11, .int v11), (12, .int v12)]) hx hb dL_plan_435 hl (k := 11) rfl rfl (by decide) rfl (fun ls hl => ?_)
                  refine lv_goto (tgt := 354) hx hb dL_plan_438 (by decide) ?_
                  exact ih354 v1 v2 v3 v4 v5 (0 : Int32) v7 v9 v11 v12 (v13 + 1) Y H locs ls h (lv_sub hl [2, 3, 4, 5, 6, 7, 1, 8, 9, 10, 11, 0] rfl) hP hD hS
                · replace h := tw_f c413 h
                  refine lv_iload hx hb dL_plan_416 (lv_at hl 10 rfl) ?_
                  refine lv_aload_n hx hb dL_plan_418 rfl (lv_at hl 0 rfl) ?_
                  refine lv_iload hx hb dL_plan_419 (lv_at hl 9 rfl) ?_
                  refine lv_iconst (v := (1 : Int32)) hx hb dL_plan_421 (by decide) ?_
                  obtain ⟨r422, e422, h⟩ := tw_bs h
                  obtain ⟨k422, h⟩ := tw_qs h
                  refine tw_callViF (ws' := (tw_wW cI cQ a na pa ta qa xa z Y)) (As := [.int v12, .int (1 : Int32)]) (rest := [.int v13]) F hN hK hP hD hS hA (mX3_hall l G cI cQ a na pa ta qa xa z Y H.size v12 (1 : Int32) e422 k422) (cwV 2 hts gL_plan_X3_hall rfl rfl rfl (by decide +kernel) ⟨(Nat.le_of_ble_eq_true rfl), (Nat.le_of_ble_eq_true rfl)⟩) rfl (r0 := 0) (ci := 3) rfl rfl rfl rfl hl.1 rfl (Nat.le_of_ble_eq_true rfl) dL_plan_422 ⟨Nat.zero_le _, Nat.zero_le _⟩ (fun H locs hP hD hS => ?_)
                  refine lv_icmp_gt (tgt := 432) hx hb dL_plan_425 (by decide) (fun c425 => ?_) (fun c425 => ?_)
                  · replace h := tw_t c425 h
                    refine lv_iconst (v := (0 : Int32)) hx hb dL_plan_432 (by decide) ?_
                    refine lv_istore (lv' := [(6, .int (0 : Int32)), (0, .ref (a 0)), (1, .int v1), (2, .int v2), (3, .int v3), (4, .int v4), (5, .int v5), (7, .int v7), (9, .int v9), (11, .int v11), (12, .int v12), (13, .int v13)]) hx hb dL_plan_433 hl (by decide) rfl (fun ls hl => ?_)
                    refine lv_iinc (v := (v13 + 1)) (lv' := [(13, .int (v13 + 1)), (6, .int (0 : Int32)), (0, .ref (a 0)), (1, .int v1), (2, .int v2), (3, .int v3), (4, .int v4), (5, .int v5), (7, .int v7), (9, .int v9), (11, .int v11), (12, .int v12)]) hx hb dL_plan_435 hl (k := 11) rfl rfl (by decide) rfl (fun ls hl => ?_)
                    refine lv_goto (tgt := 354) hx hb dL_plan_438 (by decide) ?_
                    exact ih354 v1 v2 v3 v4 v5 (0 : Int32) v7 v9 v11 v12 (v13 + 1) Y H locs ls h (lv_sub hl [2, 3, 4, 5, 6, 7, 1, 8, 9, 10, 11, 0] rfl) hP hD hS
                  · replace h := tw_f c425 h
                    refine lv_iconst (v := (1 : Int32)) hx hb dL_plan_428 (by decide) ?_
                    refine lv_goto (tgt := 433) hx hb dL_plan_429 (by decide) ?_
                    refine lv_istore (lv' := [(6, .int (1 : Int32)), (0, .ref (a 0)), (1, .int v1), (2, .int v2), (3, .int v3), (4, .int v4), (5, .int v5), (7, .int v7), (9, .int v9), (11, .int v11), (12, .int v12), (13, .int v13)]) hx hb dL_plan_433 hl (by decide) rfl (fun ls hl => ?_)
                    refine lv_iinc (v := (v13 + 1)) (lv' := [(13, .int (v13 + 1)), (6, .int (1 : Int32)), (0, .ref (a 0)), (1, .int v1), (2, .int v2), (3, .int v3), (4, .int v4), (5, .int v5), (7, .int v7), (9, .int v9), (11, .int v11), (12, .int v12)]) hx hb dL_plan_435 hl (k := 11) rfl rfl (by decide) rfl (fun ls hl => ?_)
                    refine lv_goto (tgt := 354) hx hb dL_plan_438 (by decide) ?_
                    exact ih354 v1 v2 v3 v4 v5 (1 : Int32) v7 v9 v11 v12 (v13 + 1) Y H locs ls h (lv_sub hl [2, 3, 4, 5, 6, 7, 1, 8, 9, 10, 11, 0] rfl) hP hD hS
          refine lv_iload hx hb dL_plan_354 (lv_at hl 11 rfl) ?_
          refine lv_iload hx hb dL_plan_356 (lv_at hl 8 rfl) ?_
          refine lv_icmp_ge (tgt := 441) hx hb dL_plan_358 (by decide) (fun c358 => ?_) (fun c358 => ?_)
          · replace h := tw_t c358 h
            refine lv_iinc (v := (v7 + 1)) (lv' := [(7, .int (v7 + 1)), (0, .ref (a 0)), (1, .int v1), (2, .int v2), (3, .int v3), (4, .int v4), (5, .int v5), (6, .int v6), (9, .int v9), (11, .int v11), (12, .int v12), (13, .int v13)]) hx hb dL_plan_441 hl (k := 7) rfl rfl (by decide) rfl (fun ls hl => ?_)
            refine lv_goto (tgt := 22) hx hb dL_plan_444 (by decide) ?_
            exact ih22 v1 v2 v3 v4 v5 v6 (v7 + 1) Y H locs ls h (lv_sub hl [1, 2, 3, 4, 5, 6, 7, 0] rfl) hP hD hS
          · replace h := tw_f c358 h
            refine lv_iload hx hb dL_plan_361 (lv_at hl 6 rfl) ?_
            refine lv_if_eq (tgt := 441) hx hb dL_plan_363 (by decide) (fun c363 => ?_) (fun c363 => ?_)
            · replace h := tw_t c363 h
              refine lv_iinc (v := (v7 + 1)) (lv' := [(7, .int (v7 + 1)), (0, .ref (a 0)), (1, .int v1), (2, .int v2), (3, .int v3), (4, .int v4), (5, .int v5), (6, .int v6), (9, .int v9), (11, .int v11), (12, .int v12), (13, .int v13)]) hx hb dL_plan_441 hl (k := 7) rfl rfl (by decide) rfl (fun ls hl => ?_)
              refine lv_goto (tgt := 22) hx hb dL_plan_444 (by decide) ?_
              exact ih22 v1 v2 v3 v4 v5 v6 (v7 + 1) Y H locs ls h (lv_sub hl [1, 2, 3, 4, 5, 6, 7, 0] rfl) hP hD hS
            · replace h := tw_f c363 h
              refine lv_iload hx hb dL_plan_366 (lv_at hl 9 rfl) ?_
              refine lv_iconst (v := (-1 : Int32)) hx hb dL_plan_368 (by decide) ?_
              refine lv_icmp_eq (tgt := 385) hx hb dL_plan_369 (by decide) (fun c369 => ?_) (fun c369 => ?_)
              · replace h := tw_t c369 h
                exact L385 v1 v2 v3 v4 v5 v7 v9 v11 v12 v13 Y H locs ls h (lv_sub hl [0, 1, 2, 3, 4, 5, 7, 8, 9, 10, 11] rfl) hP hD hS
              · replace h := tw_f c369 h
                refine lv_aload_n hx hb dL_plan_372 rfl (lv_at hl 0 rfl) ?_
                refine lv_iload hx hb dL_plan_373 (lv_at hl 9 rfl) ?_
                refine lv_iload hx hb dL_plan_375 (lv_at hl 11 rfl) ?_
                obtain ⟨r377, e377, h⟩ := tw_bs h
                obtain ⟨k377, h⟩ := tw_qs h
                refine tw_callViF (ws' := (tw_wW cI cQ a na pa ta qa xa z Y)) (As := [.int v11, .int v13]) (rest := []) F hN hK hP hD hS hA (mX3_personOn l G cI cQ a na pa ta qa xa z Y H.size v11 v13 e377 k377) (cwV 2 hts gL_plan_X3_personOn rfl rfl rfl (by decide +kernel) ⟨(Nat.le_of_ble_eq_true rfl), (Nat.le_of_ble_eq_true rfl)⟩) rfl (r0 := 0) (ci := 3) rfl rfl rfl rfl hl.1 rfl (Nat.le_of_ble_eq_true rfl) dL_plan_377 ⟨Nat.zero_le _, Nat.zero_le _⟩ (fun H locs hP hD hS => ?_)
                refine lv_iload hx hb dL_plan_380 (lv_at hl 7 rfl) ?_
                refine lv_icmp_ne (tgt := 432) hx hb dL_plan_382 (by decide) (fun c382 => ?_) (fun c382 => ?_)
                · replace h := tw_t c382 h
                  refine lv_iconst (v := (0 : Int32)) hx hb dL_plan_432 (by decide) ?_
                  refine lv_istore (lv' := [(6, .int (0 : Int32)), (0, .ref (a 0)), (1, .int v1), (2, .int v2), (3, .int v3), (4, .int v4), (5, .int v5), (7, .int v7), (9, .int v9), (11, .int v11), (12, .int v12), (13, .int v13)]) hx hb dL_plan_433 hl (by decide) rfl (fun ls hl => ?_)
                  refine lv_iinc (v := (v13 + 1)) (lv' := [(13, .int (v13 + 1)), (6, .int (0 : Int32)), (0, .ref (a 0)), (1, .int v1), (2, .int v2), (3, .int v3), (4, .int v4), (5, .int v5), (7, .int v7), (9, .int v9), (11, .int v11), (12, .int v12)]) hx hb dL_plan_435 hl (k := 11) rfl rfl (by decide) rfl (fun ls hl => ?_)
                  refine lv_goto (tgt := 354) hx hb dL_plan_438 (by decide) ?_
                  exact ih354 v1 v2 v3 v4 v5 (0 : Int32) v7 v9 v11 v12 (v13 + 1) Y H locs ls h (lv_sub hl [2, 3, 4, 5, 6, 7, 1, 8, 9, 10, 11, 0] rfl) hP hD hS
                · replace h := tw_fn c382 h
                  exact L385 v1 v2 v3 v4 v5 v7 v9 v11 v12 v13 Y H locs ls h (lv_sub hl [0, 1, 2, 3, 4, 5, 7, 8, 9, 10, 11] rfl) hP hD hS
      have L332 : ∀ (v1 : Int32) (v2 : Int32) (v3 : Int32) (v4 : Int32) (v5 : Int32) (v6 : Int32) (v7 : Int32) (v8 : Int32) (v9 : Int32) (Y : tw_Wl) (H : Heap) (locs : List Loc) (ls : Array Slot), fL_plan_332 (fL_plan_22 n22) v1 v2 v3 v4 v5 v6 v7 v8 v9 Y = some rv → lv_has ls 14 [(0, .ref (a 0)), (1, .int v1), (2, .int v2), (3, .int v3), (4, .int v4), (5, .int v5), (6, .int v6), (7, .int v7), (8, .int v8), (9, .int v9)] → va_P G vwCl (tw_wW cI cQ a na pa ta qa xa z Y) H → va_D A (tw_wW cI cQ a na pa ta qa xa z Y) → va_S A s.heap H locs → W p l e rmL_plan s m args below meth c H locs 0 0 Q (F0 m 332 ls []) := by
        intro v1 v2 v3 v4 v5 v6 v7 v8 v9 Y H locs ls h hl hP hD hS
        unfold fL_plan_332 at h
        refine lv_aload_n hx hb dL_plan_332 rfl (lv_at hl 0 rfl) ?_
        refine lv_iload hx hb dL_plan_333 (lv_at hl 7 rfl) ?_
        refine lv_iconst (v := (1 : Int32)) hx hb dL_plan_335 (by decide) ?_
        obtain ⟨r336, e336, h⟩ := tw_bs h
        obtain ⟨k336, h⟩ := tw_qs h
        refine tw_callViF (ws' := (tw_wW cI cQ a na pa ta qa xa z r336.2.2)) (As := [.int v7, .int (1 : Int32)]) (rest := []) F hN hK hP hD hS hA (mX3_task l G cI cQ a na pa ta qa xa z Y H.size v7 (1 : Int32) e336 k336) (cwV 2 hts gL_plan_X3_task rfl rfl rfl (by decide +kernel) ⟨(Nat.le_of_ble_eq_true rfl), (Nat.le_of_ble_eq_true rfl)⟩) rfl (r0 := 0) (ci := 3) rfl rfl rfl rfl hl.1 rfl (Nat.le_of_ble_eq_true rfl) dL_plan_336 ⟨Nat.zero_le _, Nat.zero_le _⟩ (fun H locs hP hD hS => ?_)
        refine lv_istore (lv' := [(11, .int r336.2.1), (0, .ref (a 0)), (1, .int v1), (2, .int v2), (3, .int v3), (4, .int v4), (5, .int v5), (6, .int v6), (7, .int v7), (8, .int v8), (9, .int v9)]) hx hb dL_plan_339 hl (by decide) rfl (fun ls hl => ?_)
        refine lv_aload_n hx hb dL_plan_341 rfl (lv_at hl 1 rfl) ?_
        refine lv_iload hx hb dL_plan_342 (lv_at hl 8 rfl) ?_
        refine lv_iconst (v := (2 : Int32)) hx hb dL_plan_344 (by decide) ?_
        obtain ⟨r345, e345, h⟩ := tw_bs h
        obtain ⟨k345, h⟩ := tw_qs h
        refine tw_callViF (ws' := (tw_wW cI cQ a na pa ta qa xa z r345.2.2)) (As := [.int v7, .int (2 : Int32)]) (rest := []) F hN hK hP hD hS hA (mX3_task l G cI cQ a na pa ta qa xa z r336.2.2 H.size v7 (2 : Int32) e345 k345) (cwV 2 hts gL_plan_X3_task rfl rfl rfl (by decide +kernel) ⟨(Nat.le_of_ble_eq_true rfl), (Nat.le_of_ble_eq_true rfl)⟩) rfl (r0 := 0) (ci := 3) rfl rfl rfl rfl hl.1 rfl (Nat.le_of_ble_eq_true rfl) dL_plan_345 ⟨Nat.zero_le _, Nat.zero_le _⟩ (fun H locs hP hD hS => ?_)
        refine lv_istore (lv' := [(12, .int r345.2.1), (11, .int r336.2.1), (0, .ref (a 0)), (1, .int v1), (2, .int v2), (3, .int v3), (4, .int v4), (5, .int v5), (6, .int v6), (7, .int v7), (8, .int v8), (9, .int v9)]) hx hb dL_plan_348 hl (by decide) rfl (fun ls hl => ?_)
        refine lv_iload hx hb dL_plan_350 (lv_at hl 10 rfl) ?_
        refine lv_istore (lv' := [(13, .int v8), (12, .int r345.2.1), (11, .int r336.2.1), (0, .ref (a 0)), (1, .int v1), (2, .int v2), (3, .int v3), (4, .int v4), (5, .int v5), (6, .int v6), (7, .int v7), (8, .int v8), (9, .int v9)]) hx hb dL_plan_352 hl (by decide) rfl (fun ls hl => ?_)
        exact L354 512 v1 v2 v3 v4 v5 v6 v7 v9 r336.2.1 r345.2.1 v8 r345.2.2 H locs ls h (lv_sub hl [3, 4, 5, 6, 7, 8, 9, 10, 12, 2, 1, 0] rfl) hP hD hS
      have L265 : ∀ (n265 : Nat) (v1 : Int32) (v2 : Int32) (v3 : Int32) (v4 : Int32) (v5 : Int32) (v6 : Int32) (v7 : Int32) (v8 : Int32) (v9 : Int32) (v10 : Int32) (v11 : Int32) (Y : tw_Wl) (H : Heap) (locs : List Loc) (ls : Array Slot), fL_plan_265 (fL_plan_22 n22) n265 v1 v2 v3 v4 v5 v6 v7 v8 v9 v10 v11 Y = some rv → lv_has ls 14 [(0, .ref (a 0)), (1, .int v1), (2, .int v2), (3, .int v3), (4, .int v4), (5, .int v5), (6, .int v6), (7, .int v7), (8, .int v8), (9, .int v9), (10, .int v10), (11, .int v11)] → va_P G vwCl (tw_wW cI cQ a na pa ta qa xa z Y) H → va_D A (tw_wW cI cQ a na pa ta qa xa z Y) → va_S A s.heap H locs → W p l e rmL_plan s m args below meth c H locs 0 0 Q (F0 m 265 ls []) := by
        intro n265
        induction n265 with
        | zero =>
          intro v1 v2 v3 v4 v5 v6 v7 v8 v9 v10 v11 Y H locs ls h
          rw [fL_plan_265] at h
          cases h
        | succ n265 ih265 =>
          intro v1 v2 v3 v4 v5 v6 v7 v8 v9 v10 v11 Y H locs ls h hl hP hD hS
          rw [fL_plan_265] at h
          refine lv_iload hx hb dL_plan_265 (lv_at hl 11 rfl) ?_
          refine lv_iload hx hb dL_plan_267 (lv_at hl 7 rfl) ?_
          refine lv_icmp_ge (tgt := 332) hx hb dL_plan_269 (by decide) (fun c269 => ?_) (fun c269 => ?_)
          · replace h := tw_t c269 h
            exact L332 v1 v2 v3 v4 v5 v6 v7 v8 v9 Y H locs ls h (lv_sub hl [0, 1, 2, 3, 4, 5, 6, 7, 8, 9] rfl) hP hD hS
          · replace h := tw_f c269 h
            refine lv_iload hx hb dL_plan_272 (lv_at hl 6 rfl) ?_
            refine lv_if_eq (tgt := 332) hx hb dL_plan_274 (by decide) (fun c274 => ?_) (fun c274 => ?_)
            · replace h := tw_t c274 h
              exact L332 v1 v2 v3 v4 v5 v6 v7 v8 v9 Y H locs ls h (lv_sub hl [0, 1, 2, 3, 4, 5, 6, 7, 8, 9] rfl) hP hD hS
            · replace h := tw_f c274 h
              refine lv_iload hx hb dL_plan_277 (lv_at hl 10 rfl) ?_
              refine lv_iload hx hb dL_plan_279 (lv_at hl 11 rfl) ?_
              refine lv_ishr hx hb dL_plan_281 ?_
              refine lv_iconst (v := (1 : Int32)) hx hb dL_plan_282 (by decide) ?_
              refine lv_iand hx hb dL_plan_283 ?_
              refine lv_if_eq (tgt := 319) hx hb dL_plan_284 (by decide) (fun c284 => ?_) (fun c284 => ?_)
              · replace h := tw_t c284 h
                refine lv_iconst (v := (1 : Int32)) hx hb dL_plan_319 (by decide) ?_
                refine lv_goto (tgt := 324) hx hb dL_plan_320 (by decide) ?_
                refine lv_istore (lv' := [(6, .int (1 : Int32)), (0, .ref (a 0)), (1, .int v1), (2, .int v2), (3, .int v3), (4, .int v4), (5, .int v5), (7, .int v7), (8, .int v8), (9, .int v9), (10, .int v10), (11, .int v11)]) hx hb dL_plan_324 hl (by decide) rfl (fun ls hl => ?_)
                refine lv_iinc (v := (v11 + 1)) (lv' := [(11, .int (v11 + 1)), (6, .int (1 : Int32)), (0, .ref (a 0)), (1, .int v1), (2, .int v2), (3, .int v3), (4, .int v4), (5, .int v5), (7, .int v7), (8, .int v8), (9, .int v9), (10, .int v10)]) hx hb dL_plan_326 hl (k := 11) rfl rfl (by decide) rfl (fun ls hl => ?_)
                refine lv_goto (tgt := 265) hx hb dL_plan_329 (by decide) ?_
                exact ih265 v1 v2 v3 v4 v5 (1 : Int32) v7 v8 v9 v10 (v11 + 1) Y H locs ls h (lv_sub hl [2, 3, 4, 5, 6, 7, 1, 8, 9, 10, 11, 0] rfl) hP hD hS
              · replace h := tw_f c284 h
                refine lv_aload_n hx hb dL_plan_287 rfl (lv_at hl 0 rfl) ?_
                refine lv_iload hx hb dL_plan_288 (lv_at hl 11 rfl) ?_
                refine lv_bipush (v := (6 : Int32)) hx hb dL_plan_290 (by decide) ?_
                obtain ⟨r292, e292, h⟩ := tw_bs h
                obtain ⟨k292, h⟩ := tw_qs h
                refine tw_callViF (ws' := (tw_wW cI cQ a na pa ta qa xa z r292.2.2)) (As := [.int v11, .int (6 : Int32)]) (rest := []) F hN hK hP hD hS hA (mX3_task l G cI cQ a na pa ta qa xa z Y H.size v11 (6 : Int32) e292 k292) (cwV 2 hts gL_plan_X3_task rfl rfl rfl (by decide +kernel) ⟨(Nat.le_of_ble_eq_true rfl), (Nat.le_of_ble_eq_true rfl)⟩) rfl (r0 := 0) (ci := 3) rfl rfl rfl rfl hl.1 rfl (Nat.le_of_ble_eq_true rfl) dL_plan_292 ⟨Nat.zero_le _, Nat.zero_le _⟩ (fun H locs hP hD hS => ?_)
                refine lv_if_lt (tgt := 323) hx hb dL_plan_295 (by decide) (fun c295 => ?_) (fun c295 => ?_)
                · replace h := tw_t c295 h
                  refine lv_iconst (v := (0 : Int32)) hx hb dL_plan_323 (by decide) ?_
                  refine lv_istore (lv' := [(6, .int (0 : Int32)), (0, .ref (a 0)), (1, .int v1), (2, .int v2), (3, .int v3), (4, .int v4), (5, .int v5), (7, .int v7), (8, .int v8), (9, .int v9), (10, .int v10), (11, .int v11)]) hx hb dL_plan_324 hl (by decide) rfl (fun ls hl => ?_)
                  refine lv_iinc (v := (v11 + 1)) (lv' := [(11, .int (v11 + 1)), (6, .int (0 : Int32)), (0, .ref (a 0)), (1, .int v1), (2, .int v2), (3, .int v3), (4, .int v4), (5, .int v5), (7, .int v7), (8, .int v8), (9, .int v9), (10, .int v10)]) hx hb dL_plan_326 hl (k := 11) rfl rfl (by decide) rfl (fun ls hl => ?_)
                  refine lv_goto (tgt := 265) hx hb dL_plan_329 (by decide) ?_
                  exact ih265 v1 v2 v3 v4 v5 (0 : Int32) v7 v8 v9 v10 (v11 + 1) r292.2.2 H locs ls h (lv_sub hl [2, 3, 4, 5, 6, 7, 1, 8, 9, 10, 11, 0] rfl) hP hD hS
                · replace h := tw_f c295 h
                  refine lv_aload_n hx hb dL_plan_298 rfl (lv_at hl 0 rfl) ?_
                  refine lv_iload hx hb dL_plan_299 (lv_at hl 11 rfl) ?_
                  refine lv_bipush (v := (6 : Int32)) hx hb dL_plan_301 (by decide) ?_
                  obtain ⟨r303, e303, h⟩ := tw_bs h
                  obtain ⟨k303, h⟩ := tw_qs h
                  refine tw_callViF (ws' := (tw_wW cI cQ a na pa ta qa xa z r303.2.2)) (As := [.int v11, .int (6 : Int32)]) (rest := []) F hN hK hP hD hS hA (mX3_task l G cI cQ a na pa ta qa xa z r292.2.2 H.size v11 (6 : Int32) e303 k303) (cwV 2 hts gL_plan_X3_task rfl rfl rfl (by decide +kernel) ⟨(Nat.le_of_ble_eq_true rfl), (Nat.le_of_ble_eq_true rfl)⟩) rfl (r0 := 0) (ci := 3) rfl rfl rfl rfl hl.1 rfl (Nat.le_of_ble_eq_true rfl) dL_plan_303 ⟨Nat.zero_le _, Nat.zero_le _⟩ (fun H locs hP hD hS => ?_)
                  refine lv_aload_n hx hb dL_plan_306 rfl (lv_at hl 0 rfl) ?_
                  refine lv_iload hx hb dL_plan_307 (lv_at hl 11 rfl) ?_
                  refine lv_iconst (v := (0 : Int32)) hx hb dL_plan_309 (by decide) ?_
                  obtain ⟨r310, e310, h⟩ := tw_bs h
                  obtain ⟨k310, h⟩ := tw_qs h
                  refine tw_callViF (ws' := (tw_wW cI cQ a na pa ta qa xa z r310.2.2)) (As := [.int v11, .int (0 : Int32)]) (rest := [.int r303.2.1]) F hN hK hP hD hS hA (mX3_task l G cI cQ a na pa ta qa xa z r303.2.2 H.size v11 (0 : Int32) e310 k310) (cwV 2 hts gL_plan_X3_task rfl rfl rfl (by decide +kernel) ⟨(Nat.le_of_ble_eq_true rfl), (Nat.le_of_ble_eq_true rfl)⟩) rfl (r0 := 0) (ci := 3) rfl rfl rfl rfl hl.1 rfl (Nat.le_of_ble_eq_true rfl) dL_plan_310 ⟨Nat.zero_le _, Nat.zero_le _⟩ (fun H locs hP hD hS => ?_)
                  refine lv_iadd hx hb dL_plan_313 ?_
                  refine lv_iload hx hb dL_plan_314 (lv_at hl 8 rfl) ?_
                  refine lv_icmp_gt (tgt := 323) hx hb dL_plan_316 (by decide) (fun c316 => ?_) (fun c316 => ?_)
                  · replace h := tw_t c316 h
                    refine lv_iconst (v := (0 : Int32)) hx hb dL_plan_323 (by decide) ?_
                    refine lv_istore (lv' := [(6, .int (0 : Int32)), (0, .ref (a 0)), (1, .int v1), (2, .int v2), (3, .int v3), (4, .int v4), (5, .int v5), (7, .int v7), (8, .int v8), (9, .int v9), (10, .int v10), (11, .int v11)]) hx hb dL_plan_324 hl (by decide) rfl (fun ls hl => ?_)
                    refine lv_iinc (v := (v11 + 1)) (lv' := [(11, .int (v11 + 1)), (6, .int (0 : Int32)), (0, .ref (a 0)), (1, .int v1), (2, .int v2), (3, .int v3), (4, .int v4), (5, .int v5), (7, .int v7), (8, .int v8), (9, .int v9), (10, .int v10)]) hx hb dL_plan_326 hl (k := 11) rfl rfl (by decide) rfl (fun ls hl => ?_)
                    refine lv_goto (tgt := 265) hx hb dL_plan_329 (by decide) ?_
                    exact ih265 v1 v2 v3 v4 v5 (0 : Int32) v7 v8 v9 v10 (v11 + 1) r310.2.2 H locs ls h (lv_sub hl [2, 3, 4, 5, 6, 7, 1, 8, 9, 10, 11, 0] rfl) hP hD hS
                  · replace h := tw_f c316 h
                    refine lv_iconst (v := (1 : Int32)) hx hb dL_plan_319 (by decide) ?_
                    refine lv_goto (tgt := 324) hx hb dL_plan_320 (by decide) ?_
                    refine lv_istore (lv' := [(6, .int (1 : Int32)), (0, .ref (a 0)), (1, .int v1), (2, .int v2), (3, .int v3), (4, .int v4), (5, .int v5), (7, .int v7), (8, .int v8), (9, .int v9), (10, .int v10), (11, .int v11)]) hx hb dL_plan_324 hl (by decide) rfl (fun ls hl => ?_)
                    refine lv_iinc (v := (v11 + 1)) (lv' := [(11, .int (v11 + 1)), (6, .int (1 : Int32)), (0, .ref (a 0)), (1, .int v1), (2, .int v2), (3, .int v3), (4, .int v4), (5, .int v5), (7, .int v7), (8, .int v8), (9, .int v9), (10, .int v10)]) hx hb dL_plan_326 hl (k := 11) rfl rfl (by decide) rfl (fun ls hl => ?_)
                    refine lv_goto (tgt := 265) hx hb dL_plan_329 (by decide) ?_
                    exact ih265 v1 v2 v3 v4 v5 (1 : Int32) v7 v8 v9 v10 (v11 + 1) r310.2.2 H locs ls h (lv_sub hl [2, 3, 4, 5, 6, 7, 1, 8, 9, 10, 11, 0] rfl) hP hD hS
      have L194 : ∀ (t0 : Int32) (v1 : Int32) (v2 : Int32) (v3 : Int32) (v4 : Int32) (v6 : Int32) (v7 : Int32) (v8 : Int32) (v9 : Int32) (v10 : Int32) (Y : tw_Wl) (H : Heap) (locs : List Loc) (ls : Array Slot), fL_plan_194 (fL_plan_22 n22) t0 v1 v2 v3 v4 v6 v7 v8 v9 v10 Y = some rv → lv_has ls 14 [(0, .ref (a 0)), (1, .int v1), (2, .int v2), (3, .int v3), (4, .int v4), (6, .int v6), (7, .int v7), (8, .int v8), (9, .int v9), (10, .int v10)] → va_P G vwCl (tw_wW cI cQ a na pa ta qa xa z Y) H → va_D A (tw_wW cI cQ a na pa ta qa xa z Y) → va_S A s.heap H locs → W p l e rmL_plan s m args below meth c H locs 0 0 Q (F0 m 194 ls [.int t0]) := by
        intro t0 v1 v2 v3 v4 v6 v7 v8 v9 v10 Y H locs ls h hl hP hD hS
        unfold fL_plan_194 at h
        refine lv_istore (lv' := [(5, .int t0), (0, .ref (a 0)), (1, .int v1), (2, .int v2), (3, .int v3), (4, .int v4), (6, .int v6), (7, .int v7), (8, .int v8), (9, .int v9), (10, .int v10)]) hx hb dL_plan_194 hl (by decide) rfl (fun ls hl => ?_)
        refine lv_iload hx hb dL_plan_196 (lv_at hl 6 rfl) ?_
        refine lv_if_eq (tgt := 259) hx hb dL_plan_198 (by decide) (fun c198 => ?_) (fun c198 => ?_)
        · replace h := tw_t c198 h
          refine lv_iconst (v := (0 : Int32)) hx hb dL_plan_259 (by decide) ?_
          refine lv_istore (lv' := [(6, .int (0 : Int32)), (5, .int t0), (0, .ref (a 0)), (1, .int v1), (2, .int v2), (3, .int v3), (4, .int v4), (7, .int v7), (8, .int v8), (9, .int v9), (10, .int v10)]) hx hb dL_plan_260 hl (by decide) rfl (fun ls hl => ?_)
          refine lv_iconst (v := (0 : Int32)) hx hb dL_plan_262 (by decide) ?_
          refine lv_istore (lv' := [(11, .int (0 : Int32)), (6, .int (0 : Int32)), (5, .int t0), (0, .ref (a 0)), (1, .int v1), (2, .int v2), (3, .int v3), (4, .int v4), (7, .int v7), (8, .int v8), (9, .int v9), (10, .int v10)]) hx hb dL_plan_263 hl (by decide) rfl (fun ls hl => ?_)
          exact L265 512 v1 v2 v3 v4 t0 (0 : Int32) v7 v8 v9 v10 (0 : Int32) Y H locs ls h (lv_sub hl [3, 4, 5, 6, 7, 2, 1, 8, 9, 10, 11, 0] rfl) hP hD hS
        · replace h := tw_f c198 h
          refine lv_iload hx hb dL_plan_201 (lv_at hl 8 rfl) ?_
          refine lv_aload_n hx hb dL_plan_203 rfl (lv_at hl 1 rfl) ?_
          refine lv_iload hx hb dL_plan_204 (lv_at hl 7 rfl) ?_
          refine lv_iconst (v := (3 : Int32)) hx hb dL_plan_206 (by decide) ?_
          obtain ⟨r207, e207, h⟩ := tw_bs h
          obtain ⟨k207, h⟩ := tw_qs h
          refine tw_callViF (ws' := (tw_wW cI cQ a na pa ta qa xa z r207.2.2)) (As := [.int v7, .int (3 : Int32)]) (rest := [.int v8]) F hN hK hP hD hS hA (mX3_task l G cI cQ a na pa ta qa xa z Y H.size v7 (3 : Int32) e207 k207) (cwV 2 hts gL_plan_X3_task rfl rfl rfl (by decide +kernel) ⟨(Nat.le_of_ble_eq_true rfl), (Nat.le_of_ble_eq_true rfl)⟩) rfl (r0 := 0) (ci := 3) rfl rfl rfl rfl hl.1 rfl (Nat.le_of_ble_eq_true rfl) dL_plan_207 ⟨Nat.zero_le _, Nat.zero_le _⟩ (fun H locs hP hD hS => ?_)
          refine lv_icmp_lt (tgt := 259) hx hb dL_plan_210 (by decide) (fun c210 => ?_) (fun c210 => ?_)
          · replace h := tw_t c210 h
            refine lv_iconst (v := (0 : Int32)) hx hb dL_plan_259 (by decide) ?_
            refine lv_istore (lv' := [(6, .int (0 : Int32)), (5, .int t0), (0, .ref (a 0)), (1, .int v1), (2, .int v2), (3, .int v3), (4, .int v4), (7, .int v7), (8, .int v8), (9, .int v9), (10, .int v10)]) hx hb dL_plan_260 hl (by decide) rfl (fun ls hl => ?_)
            refine lv_iconst (v := (0 : Int32)) hx hb dL_plan_262 (by decide) ?_
            refine lv_istore (lv' := [(11, .int (0 : Int32)), (6, .int (0 : Int32)), (5, .int t0), (0, .ref (a 0)), (1, .int v1), (2, .int v2), (3, .int v3), (4, .int v4), (7, .int v7), (8, .int v8), (9, .int v9), (10, .int v10)]) hx hb dL_plan_263 hl (by decide) rfl (fun ls hl => ?_)
            exact L265 512 v1 v2 v3 v4 t0 (0 : Int32) v7 v8 v9 v10 (0 : Int32) r207.2.2 H locs ls h (lv_sub hl [3, 4, 5, 6, 7, 2, 1, 8, 9, 10, 11, 0] rfl) hP hD hS
          · replace h := tw_f c210 h
            refine lv_iload hx hb dL_plan_213 (lv_at hl 9 rfl) ?_
            refine lv_bipush (v := (100 : Int32)) hx hb dL_plan_215 (by decide) ?_
            refine lv_icmp_gt (tgt := 259) hx hb dL_plan_217 (by decide) (fun c217 => ?_) (fun c217 => ?_)
            · replace h := tw_t c217 h
              refine lv_iconst (v := (0 : Int32)) hx hb dL_plan_259 (by decide) ?_
              refine lv_istore (lv' := [(6, .int (0 : Int32)), (5, .int t0), (0, .ref (a 0)), (1, .int v1), (2, .int v2), (3, .int v3), (4, .int v4), (7, .int v7), (8, .int v8), (9, .int v9), (10, .int v10)]) hx hb dL_plan_260 hl (by decide) rfl (fun ls hl => ?_)
              refine lv_iconst (v := (0 : Int32)) hx hb dL_plan_262 (by decide) ?_
              refine lv_istore (lv' := [(11, .int (0 : Int32)), (6, .int (0 : Int32)), (5, .int t0), (0, .ref (a 0)), (1, .int v1), (2, .int v2), (3, .int v3), (4, .int v4), (7, .int v7), (8, .int v8), (9, .int v9), (10, .int v10)]) hx hb dL_plan_263 hl (by decide) rfl (fun ls hl => ?_)
              exact L265 512 v1 v2 v3 v4 t0 (0 : Int32) v7 v8 v9 v10 (0 : Int32) r207.2.2 H locs ls h (lv_sub hl [3, 4, 5, 6, 7, 2, 1, 8, 9, 10, 11, 0] rfl) hP hD hS
            · replace h := tw_f c217 h
              refine lv_aload_n hx hb dL_plan_220 rfl (lv_at hl 1 rfl) ?_
              refine lv_iload hx hb dL_plan_221 (lv_at hl 7 rfl) ?_
              refine lv_bipush (v := (7 : Int32)) hx hb dL_plan_223 (by decide) ?_
              obtain ⟨r225, e225, h⟩ := tw_bs h
              obtain ⟨k225, h⟩ := tw_qs h
              refine tw_callViF (ws' := (tw_wW cI cQ a na pa ta qa xa z r225.2.2)) (As := [.int v7, .int (7 : Int32)]) (rest := []) F hN hK hP hD hS hA (mX3_task l G cI cQ a na pa ta qa xa z r207.2.2 H.size v7 (7 : Int32) e225 k225) (cwV 2 hts gL_plan_X3_task rfl rfl rfl (by decide +kernel) ⟨(Nat.le_of_ble_eq_true rfl), (Nat.le_of_ble_eq_true rfl)⟩) rfl (r0 := 0) (ci := 3) rfl rfl rfl rfl hl.1 rfl (Nat.le_of_ble_eq_true rfl) dL_plan_225 ⟨Nat.zero_le _, Nat.zero_le _⟩ (fun H locs hP hD hS => ?_)
              refine lv_if_lt (tgt := 259) hx hb dL_plan_228 (by decide) (fun c228 => ?_) (fun c228 => ?_)
              · replace h := tw_t c228 h
                refine lv_iconst (v := (0 : Int32)) hx hb dL_plan_259 (by decide) ?_
                refine lv_istore (lv' := [(6, .int (0 : Int32)), (5, .int t0), (0, .ref (a 0)), (1, .int v1), (2, .int v2), (3, .int v3), (4, .int v4), (7, .int v7), (8, .int v8), (9, .int v9), (10, .int v10)]) hx hb dL_plan_260 hl (by decide) rfl (fun ls hl => ?_)
                refine lv_iconst (v := (0 : Int32)) hx hb dL_plan_262 (by decide) ?_
                refine lv_istore (lv' := [(11, .int (0 : Int32)), (6, .int (0 : Int32)), (5, .int t0), (0, .ref (a 0)), (1, .int v1), (2, .int v2), (3, .int v3), (4, .int v4), (7, .int v7), (8, .int v8), (9, .int v9), (10, .int v10)]) hx hb dL_plan_263 hl (by decide) rfl (fun ls hl => ?_)
                exact L265 512 v1 v2 v3 v4 t0 (0 : Int32) v7 v8 v9 v10 (0 : Int32) r225.2.2 H locs ls h (lv_sub hl [3, 4, 5, 6, 7, 2, 1, 8, 9, 10, 11, 0] rfl) hP hD hS
              · replace h := tw_f c228 h
                refine lv_aload_n hx hb dL_plan_231 rfl (lv_at hl 1 rfl) ?_
                refine lv_iload hx hb dL_plan_232 (lv_at hl 7 rfl) ?_
                refine lv_bipush (v := (7 : Int32)) hx hb dL_plan_234 (by decide) ?_
                obtain ⟨r236, e236, h⟩ := tw_bs h
                obtain ⟨k236, h⟩ := tw_qs h
                refine tw_callViF (ws' := (tw_wW cI cQ a na pa ta qa xa z r236.2.2)) (As := [.int v7, .int (7 : Int32)]) (rest := []) F hN hK hP hD hS hA (mX3_task l G cI cQ a na pa ta qa xa z r225.2.2 H.size v7 (7 : Int32) e236 k236) (cwV 2 hts gL_plan_X3_task rfl rfl rfl (by decide +kernel) ⟨(Nat.le_of_ble_eq_true rfl), (Nat.le_of_ble_eq_true rfl)⟩) rfl (r0 := 0) (ci := 3) rfl rfl rfl rfl hl.1 rfl (Nat.le_of_ble_eq_true rfl) dL_plan_236 ⟨Nat.zero_le _, Nat.zero_le _⟩ (fun H locs hP hD hS => ?_)
                refine lv_bipush (v := (30 : Int32)) hx hb dL_plan_239 (by decide) ?_
                refine lv_icmp_gt (tgt := 259) hx hb dL_plan_241 (by decide) (fun c241 => ?_) (fun c241 => ?_)
                · replace h := tw_t c241 h
                  refine lv_iconst (v := (0 : Int32)) hx hb dL_plan_259 (by decide) ?_
                  refine lv_istore (lv' := [(6, .int (0 : Int32)), (5, .int t0), (0, .ref (a 0)), (1, .int v1), (2, .int v2), (3, .int v3), (4, .int v4), (7, .int v7), (8, .int v8), (9, .int v9), (10, .int v10)]) hx hb dL_plan_260 hl (by decide) rfl (fun ls hl => ?_)
                  refine lv_iconst (v := (0 : Int32)) hx hb dL_plan_262 (by decide) ?_
                  refine lv_istore (lv' := [(11, .int (0 : Int32)), (6, .int (0 : Int32)), (5, .int t0), (0, .ref (a 0)), (1, .int v1), (2, .int v2), (3, .int v3), (4, .int v4), (7, .int v7), (8, .int v8), (9, .int v9), (10, .int v10)]) hx hb dL_plan_263 hl (by decide) rfl (fun ls hl => ?_)
                  exact L265 512 v1 v2 v3 v4 t0 (0 : Int32) v7 v8 v9 v10 (0 : Int32) r236.2.2 H locs ls h (lv_sub hl [3, 4, 5, 6, 7, 2, 1, 8, 9, 10, 11, 0] rfl) hP hD hS
                · replace h := tw_f c241 h
                  refine lv_aload_n hx hb dL_plan_244 rfl (lv_at hl 1 rfl) ?_
                  refine lv_iload hx hb dL_plan_245 (lv_at hl 7 rfl) ?_
                  refine lv_bipush (v := (8 : Int32)) hx hb dL_plan_247 (by decide) ?_
                  obtain ⟨r249, e249, h⟩ := tw_bs h
                  obtain ⟨k249, h⟩ := tw_qs h
                  refine tw_callViF (ws' := (tw_wW cI cQ a na pa ta qa xa z r249.2.2)) (As := [.int v7, .int (8 : Int32)]) (rest := []) F hN hK hP hD hS hA (mX3_task l G cI cQ a na pa ta qa xa z r236.2.2 H.size v7 (8 : Int32) e249 k249) (cwV 2 hts gL_plan_X3_task rfl rfl rfl (by decide +kernel) ⟨(Nat.le_of_ble_eq_true rfl), (Nat.le_of_ble_eq_true rfl)⟩) rfl (r0 := 0) (ci := 3) rfl rfl rfl rfl hl.1 rfl (Nat.le_of_ble_eq_true rfl) dL_plan_249 ⟨Nat.zero_le _, Nat.zero_le _⟩ (fun H locs hP hD hS => ?_)
                  refine lv_if_lt (tgt := 259) hx hb dL_plan_252 (by decide) (fun c252 => ?_) (fun c252 => ?_)
                  · replace h := tw_t c252 h
                    refine lv_iconst (v := (0 : Int32)) hx hb dL_plan_259 (by decide) ?_
                    refine lv_istore (lv' := [(6, .int (0 : Int32)), (5, .int t0), (0, .ref (a 0)), (1, .int v1), (2, .int v2), (3, .int v3), (4, .int v4), (7, .int v7), (8, .int v8), (9, .int v9), (10, .int v10)]) hx hb dL_plan_260 hl (by decide) rfl (fun ls hl => ?_)
                    refine lv_iconst (v := (0 : Int32)) hx hb dL_plan_262 (by decide) ?_
                    refine lv_istore (lv' := [(11, .int (0 : Int32)), (6, .int (0 : Int32)), (5, .int t0), (0, .ref (a 0)), (1, .int v1), (2, .int v2), (3, .int v3), (4, .int v4), (7, .int v7), (8, .int v8), (9, .int v9), (10, .int v10)]) hx hb dL_plan_263 hl (by decide) rfl (fun ls hl => ?_)
                    exact L265 512 v1 v2 v3 v4 t0 (0 : Int32) v7 v8 v9 v10 (0 : Int32) r249.2.2 H locs ls h (lv_sub hl [3, 4, 5, 6, 7, 2, 1, 8, 9, 10, 11, 0] rfl) hP hD hS
                  · replace h := tw_f c252 h
                    refine lv_iconst (v := (1 : Int32)) hx hb dL_plan_255 (by decide) ?_
                    refine lv_goto (tgt := 260) hx hb dL_plan_256 (by decide) ?_
                    refine lv_istore (lv' := [(6, .int (1 : Int32)), (5, .int t0), (0, .ref (a 0)), (1, .int v1), (2, .int v2), (3, .int v3), (4, .int v4), (7, .int v7), (8, .int v8), (9, .int v9), (10, .int v10)]) hx hb dL_plan_260 hl (by decide) rfl (fun ls hl => ?_)
                    refine lv_iconst (v := (0 : Int32)) hx hb dL_plan_262 (by decide) ?_
                    refine lv_istore (lv' := [(11, .int (0 : Int32)), (6, .int (1 : Int32)), (5, .int t0), (0, .ref (a 0)), (1, .int v1), (2, .int v2), (3, .int v3), (4, .int v4), (7, .int v7), (8, .int v8), (9, .int v9), (10, .int v10)]) hx hb dL_plan_263 hl (by decide) rfl (fun ls hl => ?_)
                    exact L265 512 v1 v2 v3 v4 t0 (1 : Int32) v7 v8 v9 v10 (0 : Int32) r249.2.2 H locs ls h (lv_sub hl [3, 4, 5, 6, 7, 2, 1, 8, 9, 10, 11, 0] rfl) hP hD hS
      have L131 : ∀ (t0 : Int32) (t1 : Int32) (v1 : Int32) (v2 : Int32) (v3 : Int32) (v5 : Int32) (v6 : Int32) (v7 : Int32) (v8 : Int32) (v9 : Int32) (v10 : Int32) (Y : tw_Wl) (H : Heap) (locs : List Loc) (ls : Array Slot), fL_plan_131 (fL_plan_22 n22) t0 t1 v1 v2 v3 v5 v6 v7 v8 v9 v10 Y = some rv → lv_has ls 14 [(0, .ref (a 0)), (1, .int v1), (2, .int v2), (3, .int v3), (5, .int v5), (6, .int v6), (7, .int v7), (8, .int v8), (9, .int v9), (10, .int v10)] → va_P G vwCl (tw_wW cI cQ a na pa ta qa xa z Y) H → va_D A (tw_wW cI cQ a na pa ta qa xa z Y) → va_S A s.heap H locs → W p l e rmL_plan s m args below meth c H locs 0 0 Q (F0 m 131 ls [.int t1, .int t0]) := by
        intro t0 t1 v1 v2 v3 v5 v6 v7 v8 v9 v10 Y H locs ls h hl hP hD hS
        unfold fL_plan_131 at h
        refine lv_iadd hx hb dL_plan_131 ?_
        refine lv_istore (lv' := [(4, .int (t0 + t1)), (0, .ref (a 0)), (1, .int v1), (2, .int v2), (3, .int v3), (5, .int v5), (6, .int v6), (7, .int v7), (8, .int v8), (9, .int v9), (10, .int v10)]) hx hb dL_plan_132 hl (by decide) rfl (fun ls hl => ?_)
        refine lv_iload hx hb dL_plan_134 (lv_at hl 8 rfl) ?_
        refine lv_if_ge (tgt := 177) hx hb dL_plan_136 (by decide) (fun c136 => ?_) (fun c136 => ?_)
        · replace h := tw_t c136 h
          refine lv_iinc (v := (v2 + 1)) (lv' := [(2, .int (v2 + 1)), (4, .int (t0 + t1)), (0, .ref (a 0)), (1, .int v1), (3, .int v3), (5, .int v5), (6, .int v6), (7, .int v7), (8, .int v8), (9, .int v9), (10, .int v10)]) hx hb dL_plan_177 hl (k := 3) rfl rfl (by decide) rfl (fun ls hl => ?_)
          refine lv_iload hx hb dL_plan_180 (lv_at hl 9 rfl) ?_
          refine lv_iload hx hb dL_plan_182 (lv_at hl 5 rfl) ?_
          refine lv_icmp_le (tgt := 192) hx hb dL_plan_184 (by decide) (fun c184 => ?_) (fun c184 => ?_)
          · replace h := tw_t c184 h
            refine lv_iload hx hb dL_plan_192 (lv_at hl 5 rfl) ?_
            exact L194 v5 v1 (v2 + 1) v3 (t0 + t1) v6 v7 v8 v9 v10 Y H locs ls h (lv_sub hl [2, 3, 0, 4, 1, 6, 7, 8, 9, 10] rfl) hP hD hS
          · replace h := tw_f c184 h
            refine lv_iload hx hb dL_plan_187 (lv_at hl 9 rfl) ?_
            refine lv_goto (tgt := 194) hx hb dL_plan_189 (by decide) ?_
            exact L194 v9 v1 (v2 + 1) v3 (t0 + t1) v6 v7 v8 v9 v10 Y H locs ls h (lv_sub hl [2, 3, 0, 4, 1, 6, 7, 8, 9, 10] rfl) hP hD hS
        · replace h := tw_f c136 h
          refine lv_iload hx hb dL_plan_139 (lv_at hl 6 rfl) ?_
          refine lv_if_eq (tgt := 171) hx hb dL_plan_141 (by decide) (fun c141 => ?_) (fun c141 => ?_)
          · replace h := tw_t c141 h
            refine lv_iconst (v := (0 : Int32)) hx hb dL_plan_171 (by decide) ?_
            refine lv_istore (lv' := [(6, .int (0 : Int32)), (4, .int (t0 + t1)), (0, .ref (a 0)), (1, .int v1), (2, .int v2), (3, .int v3), (5, .int v5), (7, .int v7), (8, .int v8), (9, .int v9), (10, .int v10)]) hx hb dL_plan_172 hl (by decide) rfl (fun ls hl => ?_)
            refine lv_goto (tgt := 441) hx hb dL_plan_174 (by decide) ?_
            refine lv_iinc (v := (v7 + 1)) (lv' := [(7, .int (v7 + 1)), (6, .int (0 : Int32)), (4, .int (t0 + t1)), (0, .ref (a 0)), (1, .int v1), (2, .int v2), (3, .int v3), (5, .int v5), (8, .int v8), (9, .int v9), (10, .int v10)]) hx hb dL_plan_441 hl (k := 7) rfl rfl (by decide) rfl (fun ls hl => ?_)
            refine lv_goto (tgt := 22) hx hb dL_plan_444 (by decide) ?_
            exact ih22 v1 v2 v3 (t0 + t1) v5 (0 : Int32) (v7 + 1) Y H locs ls h (lv_sub hl [3, 4, 5, 6, 2, 7, 1, 0] rfl) hP hD hS
          · replace h := tw_f c141 h
            refine lv_aload_n hx hb dL_plan_144 rfl (lv_at hl 1 rfl) ?_
            refine lv_iload hx hb dL_plan_145 (lv_at hl 7 rfl) ?_
            refine lv_bipush (v := (7 : Int32)) hx hb dL_plan_147 (by decide) ?_
            obtain ⟨r149, e149, h⟩ := tw_bs h
            obtain ⟨k149, h⟩ := tw_qs h
            refine tw_callViF (ws' := (tw_wW cI cQ a na pa ta qa xa z r149.2.2)) (As := [.int v7, .int (7 : Int32)]) (rest := []) F hN hK hP hD hS hA (mX3_task l G cI cQ a na pa ta qa xa z Y H.size v7 (7 : Int32) e149 k149) (cwV 2 hts gL_plan_X3_task rfl rfl rfl (by decide +kernel) ⟨(Nat.le_of_ble_eq_true rfl), (Nat.le_of_ble_eq_true rfl)⟩) rfl (r0 := 0) (ci := 3) rfl rfl rfl rfl hl.1 rfl (Nat.le_of_ble_eq_true rfl) dL_plan_149 ⟨Nat.zero_le _, Nat.zero_le _⟩ (fun H locs hP hD hS => ?_)
            refine lv_iconst (v := (-1 : Int32)) hx hb dL_plan_152 (by decide) ?_
            refine lv_icmp_ne (tgt := 171) hx hb dL_plan_153 (by decide) (fun c153 => ?_) (fun c153 => ?_)
            · replace h := tw_t c153 h
              refine lv_iconst (v := (0 : Int32)) hx hb dL_plan_171 (by decide) ?_
              refine lv_istore (lv' := [(6, .int (0 : Int32)), (4, .int (t0 + t1)), (0, .ref (a 0)), (1, .int v1), (2, .int v2), (3, .int v3), (5, .int v5), (7, .int v7), (8, .int v8), (9, .int v9), (10, .int v10)]) hx hb dL_plan_172 hl (by decide) rfl (fun ls hl => ?_)
              refine lv_goto (tgt := 441) hx hb dL_plan_174 (by decide) ?_
              refine lv_iinc (v := (v7 + 1)) (lv' := [(7, .int (v7 + 1)), (6, .int (0 : Int32)), (4, .int (t0 + t1)), (0, .ref (a 0)), (1, .int v1), (2, .int v2), (3, .int v3), (5, .int v5), (8, .int v8), (9, .int v9), (10, .int v10)]) hx hb dL_plan_441 hl (k := 7) rfl rfl (by decide) rfl (fun ls hl => ?_)
              refine lv_goto (tgt := 22) hx hb dL_plan_444 (by decide) ?_
              exact ih22 v1 v2 v3 (t0 + t1) v5 (0 : Int32) (v7 + 1) r149.2.2 H locs ls h (lv_sub hl [3, 4, 5, 6, 2, 7, 1, 0] rfl) hP hD hS
            · replace h := tw_fn c153 h
              refine lv_aload_n hx hb dL_plan_156 rfl (lv_at hl 1 rfl) ?_
              refine lv_iload hx hb dL_plan_157 (lv_at hl 7 rfl) ?_
              refine lv_bipush (v := (8 : Int32)) hx hb dL_plan_159 (by decide) ?_
              obtain ⟨r161, e161, h⟩ := tw_bs h
              obtain ⟨k161, h⟩ := tw_qs h
              refine tw_callViF (ws' := (tw_wW cI cQ a na pa ta qa xa z r161.2.2)) (As := [.int v7, .int (8 : Int32)]) (rest := []) F hN hK hP hD hS hA (mX3_task l G cI cQ a na pa ta qa xa z r149.2.2 H.size v7 (8 : Int32) e161 k161) (cwV 2 hts gL_plan_X3_task rfl rfl rfl (by decide +kernel) ⟨(Nat.le_of_ble_eq_true rfl), (Nat.le_of_ble_eq_true rfl)⟩) rfl (r0 := 0) (ci := 3) rfl rfl rfl rfl hl.1 rfl (Nat.le_of_ble_eq_true rfl) dL_plan_161 ⟨Nat.zero_le _, Nat.zero_le _⟩ (fun H locs hP hD hS => ?_)
              refine lv_if_ne (tgt := 171) hx hb dL_plan_164 (by decide) (fun c164 => ?_) (fun c164 => ?_)
              · replace h := tw_t c164 h
                refine lv_iconst (v := (0 : Int32)) hx hb dL_plan_171 (by decide) ?_
                refine lv_istore (lv' := [(6, .int (0 : Int32)), (4, .int (t0 + t1)), (0, .ref (a 0)), (1, .int v1), (2, .int v2), (3, .int v3), (5, .int v5), (7, .int v7), (8, .int v8), (9, .int v9), (10, .int v10)]) hx hb dL_plan_172 hl (by decide) rfl (fun ls hl => ?_)
                refine lv_goto (tgt := 441) hx hb dL_plan_174 (by decide) ?_
                refine lv_iinc (v := (v7 + 1)) (lv' := [(7, .int (v7 + 1)), (6, .int (0 : Int32)), (4, .int (t0 + t1)), (0, .ref (a 0)), (1, .int v1), (2, .int v2), (3, .int v3), (5, .int v5), (8, .int v8), (9, .int v9), (10, .int v10)]) hx hb dL_plan_441 hl (k := 7) rfl rfl (by decide) rfl (fun ls hl => ?_)
                refine lv_goto (tgt := 22) hx hb dL_plan_444 (by decide) ?_
                exact ih22 v1 v2 v3 (t0 + t1) v5 (0 : Int32) (v7 + 1) r161.2.2 H locs ls h (lv_sub hl [3, 4, 5, 6, 2, 7, 1, 0] rfl) hP hD hS
              · replace h := tw_fn c164 h
                refine lv_iconst (v := (1 : Int32)) hx hb dL_plan_167 (by decide) ?_
                refine lv_goto (tgt := 172) hx hb dL_plan_168 (by decide) ?_
                refine lv_istore (lv' := [(6, .int (1 : Int32)), (4, .int (t0 + t1)), (0, .ref (a 0)), (1, .int v1), (2, .int v2), (3, .int v3), (5, .int v5), (7, .int v7), (8, .int v8), (9, .int v9), (10, .int v10)]) hx hb dL_plan_172 hl (by decide) rfl (fun ls hl => ?_)
                refine lv_goto (tgt := 441) hx hb dL_plan_174 (by decide) ?_
                refine lv_iinc (v := (v7 + 1)) (lv' := [(7, .int (v7 + 1)), (6, .int (1 : Int32)), (4, .int (t0 + t1)), (0, .ref (a 0)), (1, .int v1), (2, .int v2), (3, .int v3), (5, .int v5), (8, .int v8), (9, .int v9), (10, .int v10)]) hx hb dL_plan_441 hl (k := 7) rfl rfl (by decide) rfl (fun ls hl => ?_)
                refine lv_goto (tgt := 22) hx hb dL_plan_444 (by decide) ?_
                exact ih22 v1 v2 v3 (t0 + t1) v5 (1 : Int32) (v7 + 1) r161.2.2 H locs ls h (lv_sub hl [3, 4, 5, 6, 2, 7, 1, 0] rfl) hP hD hS
      have L100 : ∀ (t0 : Int32) (v1 : Int32) (v2 : Int32) (v3 : Int32) (v4 : Int32) (v5 : Int32) (v7 : Int32) (v8 : Int32) (v9 : Int32) (v10 : Int32) (Y : tw_Wl) (H : Heap) (locs : List Loc) (ls : Array Slot), fL_plan_100 (fL_plan_22 n22) t0 v1 v2 v3 v4 v5 v7 v8 v9 v10 Y = some rv → lv_has ls 14 [(0, .ref (a 0)), (1, .int v1), (2, .int v2), (3, .int v3), (4, .int v4), (5, .int v5), (7, .int v7), (8, .int v8), (9, .int v9), (10, .int v10)] → va_P G vwCl (tw_wW cI cQ a na pa ta qa xa z Y) H → va_D A (tw_wW cI cQ a na pa ta qa xa z Y) → va_S A s.heap H locs → W p l e rmL_plan s m args below meth c H locs 0 0 Q (F0 m 100 ls [.int t0]) := by
        intro t0 v1 v2 v3 v4 v5 v7 v8 v9 v10 Y H locs ls h hl hP hD hS
        unfold fL_plan_100 at h
        refine lv_istore (lv' := [(6, .int t0), (0, .ref (a 0)), (1, .int v1), (2, .int v2), (3, .int v3), (4, .int v4), (5, .int v5), (7, .int v7), (8, .int v8), (9, .int v9), (10, .int v10)]) hx hb dL_plan_100 hl (by decide) rfl (fun ls hl => ?_)
        refine lv_iload_n hx hb dL_plan_102 rfl (lv_at hl 4 rfl) ?_
        refine lv_aload_n hx hb dL_plan_103 rfl (lv_at hl 1 rfl) ?_
        refine lv_iload hx hb dL_plan_104 (lv_at hl 7 rfl) ?_
        refine lv_bipush (v := (8 : Int32)) hx hb dL_plan_106 (by decide) ?_
        obtain ⟨r108, e108, h⟩ := tw_bs h
        obtain ⟨k108, h⟩ := tw_qs h
        refine tw_callViF (ws' := (tw_wW cI cQ a na pa ta qa xa z r108.2.2)) (As := [.int v7, .int (8 : Int32)]) (rest := [.int v3]) F hN hK hP hD hS hA (mX3_task l G cI cQ a na pa ta qa xa z Y H.size v7 (8 : Int32) e108 k108) (cwV 2 hts gL_plan_X3_task rfl rfl rfl (by decide +kernel) ⟨(Nat.le_of_ble_eq_true rfl), (Nat.le_of_ble_eq_true rfl)⟩) rfl (r0 := 0) (ci := 3) rfl rfl rfl rfl hl.1 rfl (Nat.le_of_ble_eq_true rfl) dL_plan_108 ⟨Nat.zero_le _, Nat.zero_le _⟩ (fun H locs hP hD hS => ?_)
        refine lv_iadd hx hb dL_plan_111 ?_
        refine lv_istore_n (lv' := [(3, .int (v3 + r108.2.1)), (6, .int t0), (0, .ref (a 0)), (1, .int v1), (2, .int v2), (4, .int v4), (5, .int v5), (7, .int v7), (8, .int v8), (9, .int v9), (10, .int v10)]) hx hb dL_plan_112 rfl hl (by decide) rfl (fun ls hl => ?_)
        refine lv_iload hx hb dL_plan_113 (lv_at hl 5 rfl) ?_
        refine lv_aload_n hx hb dL_plan_115 rfl (lv_at hl 2 rfl) ?_
        refine lv_iload hx hb dL_plan_116 (lv_at hl 7 rfl) ?_
        refine lv_bipush (v := (7 : Int32)) hx hb dL_plan_118 (by decide) ?_
        obtain ⟨r120, e120, h⟩ := tw_bs h
        obtain ⟨k120, h⟩ := tw_qs h
        refine tw_callViF (ws' := (tw_wW cI cQ a na pa ta qa xa z r120.2.2)) (As := [.int v7, .int (7 : Int32)]) (rest := [.int v4]) F hN hK hP hD hS hA (mX3_task l G cI cQ a na pa ta qa xa z r108.2.2 H.size v7 (7 : Int32) e120 k120) (cwV 2 hts gL_plan_X3_task rfl rfl rfl (by decide +kernel) ⟨(Nat.le_of_ble_eq_true rfl), (Nat.le_of_ble_eq_true rfl)⟩) rfl (r0 := 0) (ci := 3) rfl rfl rfl rfl hl.1 rfl (Nat.le_of_ble_eq_true rfl) dL_plan_120 ⟨Nat.zero_le _, Nat.zero_le _⟩ (fun H locs hP hD hS => ?_)
        refine lv_if_ne (tgt := 130) hx hb dL_plan_123 (by decide) (fun c123 => ?_) (fun c123 => ?_)
        · replace h := tw_t c123 h
          refine lv_iconst (v := (0 : Int32)) hx hb dL_plan_130 (by decide) ?_
          exact L131 v4 (0 : Int32) v1 v2 (v3 + r108.2.1) v5 t0 v7 v8 v9 v10 r120.2.2 H locs ls h (lv_sub hl [2, 3, 4, 0, 6, 1, 7, 8, 9, 10] rfl) hP hD hS
        · replace h := tw_fn c123 h
          refine lv_iconst (v := (1 : Int32)) hx hb dL_plan_126 (by decide) ?_
          refine lv_goto (tgt := 131) hx hb dL_plan_127 (by decide) ?_
          exact L131 v4 (1 : Int32) v1 v2 (v3 + r108.2.1) v5 t0 v7 v8 v9 v10 r120.2.2 H locs ls h (lv_sub hl [2, 3, 4, 0, 6, 1, 7, 8, 9, 10] rfl) hP hD hS
      refine lv_iload hx hb dL_plan_22 (lv_at hl 7 rfl) ?_
      refine lv_iload_n hx hb dL_plan_24 rfl (lv_at hl 1 rfl) ?_
      refine lv_icmp_ge (tgt := 447) hx hb dL_plan_25 (by decide) (fun c25 => ?_) (fun c25 => ?_)
      · replace h := tw_t c25 h
        exact L447 v1 v2 v3 v4 v5 v6 Y H locs ls h (lv_sub hl [0, 1, 2, 3, 4, 5, 6] rfl) hP hD hS
      · replace h := tw_f c25 h
        refine lv_iload hx hb dL_plan_28 (lv_at hl 6 rfl) ?_
        refine lv_if_eq (tgt := 447) hx hb dL_plan_30 (by decide) (fun c30 => ?_) (fun c30 => ?_)
        · replace h := tw_t c30 h
          exact L447 v1 v2 v3 v4 v5 v6 Y H locs ls h (lv_sub hl [0, 1, 2, 3, 4, 5, 6] rfl) hP hD hS
        · replace h := tw_f c30 h
          refine lv_aload_n hx hb dL_plan_33 rfl (lv_at hl 0 rfl) ?_
          refine lv_iload hx hb dL_plan_34 (lv_at hl 7 rfl) ?_
          refine lv_bipush (v := (6 : Int32)) hx hb dL_plan_36 (by decide) ?_
          obtain ⟨r38, e38, h⟩ := tw_bs h
          obtain ⟨k38, h⟩ := tw_qs h
          refine tw_callViF (ws' := (tw_wW cI cQ a na pa ta qa xa z r38.2.2)) (As := [.int v7, .int (6 : Int32)]) (rest := []) F hN hK hP hD hS hA (mX3_task l G cI cQ a na pa ta qa xa z Y H.size v7 (6 : Int32) e38 k38) (cwV 2 hts gL_plan_X3_task rfl rfl rfl (by decide +kernel) ⟨(Nat.le_of_ble_eq_true rfl), (Nat.le_of_ble_eq_true rfl)⟩) rfl (r0 := 0) (ci := 3) rfl rfl rfl rfl hl.1 rfl (Nat.le_of_ble_eq_true rfl) dL_plan_38 ⟨Nat.zero_le _, Nat.zero_le _⟩ (fun H locs hP hD hS => ?_)
          refine lv_istore (lv' := [(8, .int r38.2.1), (0, .ref (a 0)), (1, .int v1), (2, .int v2), (3, .int v3), (4, .int v4), (5, .int v5), (6, .int v6), (7, .int v7)]) hx hb dL_plan_41 hl (by decide) rfl (fun ls hl => ?_)
          refine lv_iload hx hb dL_plan_43 (lv_at hl 0 rfl) ?_
          refine lv_aload_n hx hb dL_plan_45 rfl (lv_at hl 1 rfl) ?_
          refine lv_iload hx hb dL_plan_46 (lv_at hl 8 rfl) ?_
          refine lv_iconst (v := (0 : Int32)) hx hb dL_plan_48 (by decide) ?_
          obtain ⟨r49, e49, h⟩ := tw_bs h
          obtain ⟨k49, h⟩ := tw_qs h
          refine tw_callViF (ws' := (tw_wW cI cQ a na pa ta qa xa z r49.2.2)) (As := [.int v7, .int (0 : Int32)]) (rest := [.int r38.2.1]) F hN hK hP hD hS hA (mX3_task l G cI cQ a na pa ta qa xa z r38.2.2 H.size v7 (0 : Int32) e49 k49) (cwV 2 hts gL_plan_X3_task rfl rfl rfl (by decide +kernel) ⟨(Nat.le_of_ble_eq_true rfl), (Nat.le_of_ble_eq_true rfl)⟩) rfl (r0 := 0) (ci := 3) rfl rfl rfl rfl hl.1 rfl (Nat.le_of_ble_eq_true rfl) dL_plan_49 ⟨Nat.zero_le _, Nat.zero_le _⟩ (fun H locs hP hD hS => ?_)
          refine lv_iadd hx hb dL_plan_52 ?_
          refine lv_istore (lv' := [(9, .int (r38.2.1 + r49.2.1)), (8, .int r38.2.1), (0, .ref (a 0)), (1, .int v1), (2, .int v2), (3, .int v3), (4, .int v4), (5, .int v5), (6, .int v6), (7, .int v7)]) hx hb dL_plan_53 hl (by decide) rfl (fun ls hl => ?_)
          refine lv_aload_n hx hb dL_plan_55 rfl (lv_at hl 2 rfl) ?_
          refine lv_iload hx hb dL_plan_56 (lv_at hl 9 rfl) ?_
          refine lv_iconst (v := (4 : Int32)) hx hb dL_plan_58 (by decide) ?_
          obtain ⟨r59, e59, h⟩ := tw_bs h
          obtain ⟨k59, h⟩ := tw_qs h
          refine tw_callViF (ws' := (tw_wW cI cQ a na pa ta qa xa z r59.2.2)) (As := [.int v7, .int (4 : Int32)]) (rest := []) F hN hK hP hD hS hA (mX3_task l G cI cQ a na pa ta qa xa z r49.2.2 H.size v7 (4 : Int32) e59 k59) (cwV 2 hts gL_plan_X3_task rfl rfl rfl (by decide +kernel) ⟨(Nat.le_of_ble_eq_true rfl), (Nat.le_of_ble_eq_true rfl)⟩) rfl (r0 := 0) (ci := 3) rfl rfl rfl rfl hl.1 rfl (Nat.le_of_ble_eq_true rfl) dL_plan_59 ⟨Nat.zero_le _, Nat.zero_le _⟩ (fun H locs hP hD hS => ?_)
          refine lv_istore (lv' := [(10, .int r59.2.1), (9, .int (r38.2.1 + r49.2.1)), (8, .int r38.2.1), (0, .ref (a 0)), (1, .int v1), (2, .int v2), (3, .int v3), (4, .int v4), (5, .int v5), (6, .int v6), (7, .int v7)]) hx hb dL_plan_62 hl (by decide) rfl (fun ls hl => ?_)
          refine lv_iload hx hb dL_plan_64 (lv_at hl 0 rfl) ?_
          refine lv_iload hx hb dL_plan_66 (lv_at hl 10 rfl) ?_
          refine lv_ishr hx hb dL_plan_68 ?_
          refine lv_if_ne (tgt := 99) hx hb dL_plan_69 (by decide) (fun c69 => ?_) (fun c69 => ?_)
          · replace h := tw_t c69 h
            refine lv_iconst (v := (0 : Int32)) hx hb dL_plan_99 (by decide) ?_
            exact L100 (0 : Int32) v1 v2 v3 v4 v5 v7 r38.2.1 (r38.2.1 + r49.2.1) r59.2.1 r59.2.2 H locs ls h (lv_sub hl [3, 4, 5, 6, 7, 8, 10, 2, 1, 0] rfl) hP hD hS
          · replace h := tw_fn c69 h
            refine lv_aload_n hx hb dL_plan_72 rfl (lv_at hl 3 rfl) ?_
            refine lv_iload hx hb dL_plan_73 (lv_at hl 10 rfl) ?_
            refine lv_iconst (v := (0 : Int32)) hx hb dL_plan_75 (by decide) ?_
            obtain ⟨r76, e76, h⟩ := tw_bs h
            obtain ⟨k76, h⟩ := tw_qs h
            refine tw_callViF (ws' := (tw_wW cI cQ a na pa ta qa xa z r76.2.2)) (As := [.int v7, .int (0 : Int32)]) (rest := []) F hN hK hP hD hS hA (mX3_task l G cI cQ a na pa ta qa xa z r59.2.2 H.size v7 (0 : Int32) e76 k76) (cwV 2 hts gL_plan_X3_task rfl rfl rfl (by decide +kernel) ⟨(Nat.le_of_ble_eq_true rfl), (Nat.le_of_ble_eq_true rfl)⟩) rfl (r0 := 0) (ci := 3) rfl rfl rfl rfl hl.1 rfl (Nat.le_of_ble_eq_true rfl) dL_plan_76 ⟨Nat.zero_le _, Nat.zero_le _⟩ (fun H locs hP hD hS => ?_)
            refine lv_iconst (v := (1 : Int32)) hx hb dL_plan_79 (by decide) ?_
            refine lv_icmp_lt (tgt := 99) hx hb dL_plan_80 (by decide) (fun c80 => ?_) (fun c80 => ?_)
            · replace h := tw_t c80 h
              refine lv_iconst (v := (0 : Int32)) hx hb dL_plan_99 (by decide) ?_
              exact L100 (0 : Int32) v1 v2 v3 v4 v5 v7 r38.2.1 (r38.2.1 + r49.2.1) r59.2.1 r76.2.2 H locs ls h (lv_sub hl [3, 4, 5, 6, 7, 8, 10, 2, 1, 0] rfl) hP hD hS
            · replace h := tw_f c80 h
              refine lv_aload_n hx hb dL_plan_83 rfl (lv_at hl 3 rfl) ?_
              refine lv_iload hx hb dL_plan_84 (lv_at hl 10 rfl) ?_
              refine lv_iconst (v := (0 : Int32)) hx hb dL_plan_86 (by decide) ?_
              obtain ⟨r87, e87, h⟩ := tw_bs h
              obtain ⟨k87, h⟩ := tw_qs h
              refine tw_callViF (ws' := (tw_wW cI cQ a na pa ta qa xa z r87.2.2)) (As := [.int v7, .int (0 : Int32)]) (rest := []) F hN hK hP hD hS hA (mX3_task l G cI cQ a na pa ta qa xa z r76.2.2 H.size v7 (0 : Int32) e87 k87) (cwV 2 hts gL_plan_X3_task rfl rfl rfl (by decide +kernel) ⟨(Nat.le_of_ble_eq_true rfl), (Nat.le_of_ble_eq_true rfl)⟩) rfl (r0 := 0) (ci := 3) rfl rfl rfl rfl hl.1 rfl (Nat.le_of_ble_eq_true rfl) dL_plan_87 ⟨Nat.zero_le _, Nat.zero_le _⟩ (fun H locs hP hD hS => ?_)
              refine lv_bipush (v := (9 : Int32)) hx hb dL_plan_90 (by decide) ?_
              refine lv_icmp_gt (tgt := 99) hx hb dL_plan_92 (by decide) (fun c92 => ?_) (fun c92 => ?_)
              · replace h := tw_t c92 h
                refine lv_iconst (v := (0 : Int32)) hx hb dL_plan_99 (by decide) ?_
                exact L100 (0 : Int32) v1 v2 v3 v4 v5 v7 r38.2.1 (r38.2.1 + r49.2.1) r59.2.1 r87.2.2 H locs ls h (lv_sub hl [3, 4, 5, 6, 7, 8, 10, 2, 1, 0] rfl) hP hD hS
              · replace h := tw_f c92 h
                refine lv_iconst (v := (1 : Int32)) hx hb dL_plan_95 (by decide) ?_
                refine lv_goto (tgt := 100) hx hb dL_plan_96 (by decide) ?_
                exact L100 (1 : Int32) v1 v2 v3 v4 v5 v7 r38.2.1 (r38.2.1 + r49.2.1) r59.2.1 r87.2.2 H locs ls h (lv_sub hl [3, 4, 5, 6, 7, 8, 10, 2, 1, 0] rfl) hP hD hS
  refine lv_aload_n hx hb dL_plan_0 rfl (lv_at hl 0 rfl) ?_
  refine lv_iconst (v := (0 : Int32)) hx hb dL_plan_1 (by decide) ?_
  obtain ⟨r2, e2, h⟩ := tw_bs h
  obtain ⟨k2, h⟩ := tw_qs h
  refine tw_callViF (ws' := (tw_wW cI cQ a na pa ta qa xa z r2.2.2)) (As := [.int (0 : Int32)]) (rest := []) F hN hK hP hD hS hA (mX3_count l G cI cQ a na pa ta qa xa z Y H.size (0 : Int32) e2 k2) (cwV 1 hts gL_plan_X3_count rfl rfl rfl (by decide +kernel) ⟨(Nat.le_of_ble_eq_true rfl), (Nat.le_of_ble_eq_true rfl)⟩) rfl (r0 := 0) (ci := 3) rfl rfl rfl rfl hl.1 rfl (Nat.le_of_ble_eq_true rfl) dL_plan_2 ⟨Nat.zero_le _, Nat.zero_le _⟩ (fun H locs hP hD hS => ?_)
  refine lv_istore_n (lv' := [(1, .int r2.2.1), (0, .ref (a 0))]) hx hb dL_plan_5 rfl hl (by decide) rfl (fun ls hl => ?_)
  refine lv_iconst (v := (0 : Int32)) hx hb dL_plan_6 (by decide) ?_
  refine lv_istore_n (lv' := [(2, .int (0 : Int32)), (1, .int r2.2.1), (0, .ref (a 0))]) hx hb dL_plan_7 rfl hl (by decide) rfl (fun ls hl => ?_)
  refine lv_iconst (v := (0 : Int32)) hx hb dL_plan_8 (by decide) ?_
  refine lv_istore_n (lv' := [(3, .int (0 : Int32)), (2, .int (0 : Int32)), (1, .int r2.2.1), (0, .ref (a 0))]) hx hb dL_plan_9 rfl hl (by decide) rfl (fun ls hl => ?_)
  refine lv_iconst (v := (0 : Int32)) hx hb dL_plan_10 (by decide) ?_
  refine lv_istore (lv' := [(4, .int (0 : Int32)), (3, .int (0 : Int32)), (2, .int (0 : Int32)), (1, .int r2.2.1), (0, .ref (a 0))]) hx hb dL_plan_11 hl (by decide) rfl (fun ls hl => ?_)
  refine lv_iconst (v := (0 : Int32)) hx hb dL_plan_13 (by decide) ?_
  refine lv_istore (lv' := [(5, .int (0 : Int32)), (4, .int (0 : Int32)), (3, .int (0 : Int32)), (2, .int (0 : Int32)), (1, .int r2.2.1), (0, .ref (a 0))]) hx hb dL_plan_14 hl (by decide) rfl (fun ls hl => ?_)
  refine lv_iconst (v := (1 : Int32)) hx hb dL_plan_16 (by decide) ?_
  refine lv_istore (lv' := [(6, .int (1 : Int32)), (5, .int (0 : Int32)), (4, .int (0 : Int32)), (3, .int (0 : Int32)), (2, .int (0 : Int32)), (1, .int r2.2.1), (0, .ref (a 0))]) hx hb dL_plan_17 hl (by decide) rfl (fun ls hl => ?_)
  refine lv_iconst (v := (0 : Int32)) hx hb dL_plan_19 (by decide) ?_
  refine lv_istore (lv' := [(7, .int (0 : Int32)), (6, .int (1 : Int32)), (5, .int (0 : Int32)), (4, .int (0 : Int32)), (3, .int (0 : Int32)), (2, .int (0 : Int32)), (1, .int r2.2.1), (0, .ref (a 0))]) hx hb dL_plan_20 hl (by decide) rfl (fun ls hl => ?_)
  exact L22 512 r2.2.1 (0 : Int32) (0 : Int32) (0 : Int32) (0 : Int32) (1 : Int32) (0 : Int32) r2.2.2 H locs ls h (lv_sub hl [7, 6, 5, 4, 3, 2, 1, 0] rfl) hP hD hS
