abbrev rmX1_withoutBit : Room := { frames := 0, cells := 0, slots := 0, locals := 0 }
set_option maxHeartbeats 4000000 in
set_option maxRecDepth 100000 in
theorem mX1_withoutBit (l : Launch) (G : va_G) (cI : ClassId)   (sz : Nat) (p0 : Int32) (p1 : Int32) {rv : Int32} (h : fX1_withoutBit p0 p1 = some rv) : tw_Mi l yX1_withoutBit wsX1_withoutBit rmX1_withoutBit G [(cI, .int)] ([] : va_W) [.int p0, .int p1] sz rv ([] : va_W) := by
  refine tw_ofi (ty := .int) (cc := cX1_withoutBit) (maxL := 4) (own := RX1) (by decide) rfl rfl (Nat.le_of_ble_eq_true rfl) ?_
  intro p e s m args below meth c Q A ls H locs F hN hK hP hD hS hA hl hq
  obtain ⟨hx, hb, hml, hown, hts⟩ := id F
  have hl : lv_has ls 4 [(0, .int p0), (1, .int p1)] := hl
  unfold fX1_withoutBit at h
  refine lv_iload_n hx hb dX1_withoutBit_0 rfl (lv_at hl 0 rfl) ?_
  refine lv_iconst (v := (1 : Int32)) hx hb dX1_withoutBit_1 (by decide) ?_
  refine lv_iload_n hx hb dX1_withoutBit_2 rfl (lv_at hl 1 rfl) ?_
  refine lv_ishl hx hb dX1_withoutBit_3 ?_
  refine lv_iconst (v := (1 : Int32)) hx hb dX1_withoutBit_4 (by decide) ?_
  refine lv_isub hx hb dX1_withoutBit_5 ?_
  refine lv_iand hx hb dX1_withoutBit_6 ?_
  refine lv_istore_n (lv' := [(2, .int (p0 &&& (((1 : Int32) <<< (p1 &&& 31)) - (1 : Int32)))), (0, .int p0), (1, .int p1)]) hx hb dX1_withoutBit_7 rfl hl (by decide) rfl (fun ls hl => ?_)
  refine lv_iload_n hx hb dX1_withoutBit_8 rfl (lv_at hl 1 rfl) ?_
  refine lv_iload_n hx hb dX1_withoutBit_9 rfl (lv_at hl 2 rfl) ?_
  refine lv_iconst (v := (1 : Int32)) hx hb dX1_withoutBit_10 (by decide) ?_
  refine lv_iadd hx hb dX1_withoutBit_11 ?_
  refine lv_ishr hx hb dX1_withoutBit_12 ?_
  refine lv_iload_n hx hb dX1_withoutBit_13 rfl (lv_at hl 2 rfl) ?_
  refine lv_ishl hx hb dX1_withoutBit_14 ?_
  refine lv_istore_n (lv' := [(3, .int ((p0 >>> ((p1 + (1 : Int32)) &&& 31)) <<< (p1 &&& 31))), (2, .int (p0 &&& (((1 : Int32) <<< (p1 &&& 31)) - (1 : Int32)))), (0, .int p0), (1, .int p1)]) hx hb dX1_withoutBit_15 rfl hl (by decide) rfl (fun ls hl => ?_)
  refine lv_iload_n hx hb dX1_withoutBit_16 rfl (lv_at hl 1 rfl) ?_
  refine lv_iload_n hx hb dX1_withoutBit_17 rfl (lv_at hl 0 rfl) ?_
  refine lv_ior hx hb dX1_withoutBit_18 ?_
  exact hq H locs _ ls ((p0 &&& (((1 : Int32) <<< (p1 &&& 31)) - (1 : Int32))) ||| ((p0 >>> ((p1 + (1 : Int32)) &&& 31)) <<< (p1 &&& 31))) (tw_rt (fun r => r = ((p0 &&& (((1 : Int32) <<< (p1 &&& 31)) - (1 : Int32))) ||| ((p0 >>> ((p1 + (1 : Int32)) &&& 31)) <<< (p1 &&& 31)))) h rfl) rfl hP hS dX1_withoutBit_19
abbrev rmX1_isNeeded : Room := { frames := 0, cells := 0, slots := 0, locals := 0 }
set_option maxRecDepth 20000 in
theorem qX1_isNeeded_0 : (Cond.fieldLink RX1 24 "TheatreWall$State" "needs" "[I") ∈ wsX1_isNeeded := (List.mem_cons_of_mem _ (List.mem_append_left _ (List.mem_of_getElem? (i := 0) rfl)))
set_option maxRecDepth 20000 in
theorem iX1_isNeeded_X1 : ∀ w ∈ u_ws RX1 TX1 9, w ∈ wsX1_isNeeded := fun w h => (List.mem_cons_of_mem _ (List.mem_append_right _ h))
set_option maxHeartbeats 4000000 in
set_option maxRecDepth 100000 in
theorem mX1_isNeeded (l : Launch) (G : va_G) (cI : ClassId) (sa : Nat → Nat) (S : tw_St) (sz : Nat) (p1 : Int32) (p2 : Int32) {rv : Int32} (h : fX1_isNeeded S p1 p2 = some rv) : tw_Mi l yX1_isNeeded wsX1_isNeeded rmX1_isNeeded G [(cI, .int)] (tw_wS cI sa S) [.ref (sa 0), .int p1, .int p2] sz rv (tw_wS cI sa S) := by
  refine tw_ofi (ty := .boolean) (cc := cX1_isNeeded) (maxL := 3) (own := RX1) (by decide) rfl rfl (Nat.le_of_ble_eq_true rfl) ?_
  intro p e s m args below meth c Q A ls H locs F hN hK hP hD hS hA hl hq
  obtain ⟨hx, hb, hml, hown, hts⟩ := id F
  have hl : lv_has ls 3 [(0, .ref (sa 0)), (1, .int p1), (2, .int p2)] := hl
  unfold fX1_isNeeded at h
  refine lv_aload_n hx hb dX1_isNeeded_0 rfl (lv_at hl 0 rfl) ?_
  refine va_get (D := G) (ci := 1) (v := .ref (sa 5)) (C := RX1) (T := TX1) (N := 9) hx hb hts iX1_isNeeded_X1 hown hK hP 0 rfl rfl 4 (by decide) (hts _ qX1_isNeeded_0) (fun _ h9 => h9) rfl dX1_isNeeded_1 ?_
  refine lv_iload_n hx hb dX1_isNeeded_4 rfl (lv_at hl 1 rfl) ?_
  obtain ⟨g5, h⟩ := tw_gs h
  refine va_iald (f := S.2.2.2.2.1) (n := 12) hx hb hK hP 5 0 rfl rfl g5 dX1_isNeeded_5 ?_
  refine lv_iconst (v := (1 : Int32)) hx hb dX1_isNeeded_6 (by decide) ?_
  refine lv_iload_n hx hb dX1_isNeeded_7 rfl (lv_at hl 2 rfl) ?_
  refine lv_ishl hx hb dX1_isNeeded_8 ?_
  refine lv_iand hx hb dX1_isNeeded_9 ?_
  refine lv_if_eq (tgt := 17) hx hb dX1_isNeeded_10 (by decide) (fun c10 => ?_) (fun c10 => ?_)
  · replace h := tw_t c10 h
    refine lv_iconst (v := (0 : Int32)) hx hb dX1_isNeeded_17 (by decide) ?_
    exact hq H locs _ ls (0 : Int32) (tw_rt (fun r => r = (0 : Int32)) h rfl) rfl hP hS dX1_isNeeded_18
  · replace h := tw_f c10 h
    refine lv_iconst (v := (1 : Int32)) hx hb dX1_isNeeded_13 (by decide) ?_
    refine lv_goto (tgt := 18) hx hb dX1_isNeeded_14 (by decide) ?_
    exact hq H locs _ ls (1 : Int32) (tw_rt (fun r => r = (1 : Int32)) h rfl) rfl hP hS dX1_isNeeded_18
abbrev rmX1_followers : Room := { frames := 1, cells := 0, slots := 0, locals := 22 }
set_option maxRecDepth 20000 in
theorem qX1_followers_0 : (Cond.fieldLink RX1 33 "TheatreWall$State" "size" "I") ∈ wsX1_followers := (List.mem_cons_of_mem _ (List.mem_append_left _ (List.mem_of_getElem? (i := 0) rfl)))
set_option maxRecDepth 20000 in
theorem iX1_followers_X1 : ∀ w ∈ u_ws RX1 TX1 9, w ∈ wsX1_followers := fun w h => (List.mem_cons_of_mem _ (List.mem_append_right _ h))
set_option maxHeartbeats 4000000 in
set_option maxRecDepth 100000 in
theorem mX1_followers (l : Launch) (G : va_G) (cI : ClassId) (sa : Nat → Nat) (S : tw_St) (sz : Nat) (p1 : Int32) {rv : Int32} (h : fX1_followers S p1 = some rv) : tw_Mi l yX1_followers wsX1_followers rmX1_followers G [(cI, .int)] (tw_wS cI sa S) [.ref (sa 0), .int p1] sz rv (tw_wS cI sa S) := by
  refine tw_ofi (ty := .int) (cc := cX1_followers) (maxL := 4) (own := RX1) (by decide) rfl rfl (Nat.le_of_ble_eq_true rfl) ?_
  intro p e s m args below meth c Q A ls H locs F hN hK hP hD hS hA hl hq
  obtain ⟨hx, hb, hml, hown, hts⟩ := id F
  have hl : lv_has ls 4 [(0, .ref (sa 0)), (1, .int p1)] := hl
  unfold fX1_followers at h
  have L6 : ∀ (n6 : Nat) (v2 : Int32) (v3 : Int32) (H : Heap) (locs : List Loc) (ls : Array Slot), fX1_followers_6 S p1 n6 v2 v3 = some rv → lv_has ls 4 [(0, .ref (sa 0)), (1, .int p1), (2, .int v2), (3, .int v3)] → va_P G vwCl (tw_wS cI sa S) H → va_D A (tw_wS cI sa S) → va_S A s.heap H locs → W p l e rmX1_followers s m args below meth c H locs 0 0 Q (F0 m 6 ls []) := by
    intro n6
    induction n6 with
    | zero =>
      intro v2 v3 H locs ls h
      rw [fX1_followers_6] at h
      cases h
    | succ n6 ih6 =>
      intro v2 v3 H locs ls h hl hP hD hS
      rw [fX1_followers_6] at h
      refine lv_iload_n hx hb dX1_followers_6 rfl (lv_at hl 3 rfl) ?_
      refine lv_aload_n hx hb dX1_followers_7 rfl (lv_at hl 0 rfl) ?_
      refine va_get (D := G) (ci := 1) (v := .int S.2.2.2.2.2.2.2.1) (C := RX1) (T := TX1) (N := 9) hx hb hts iX1_followers_X1 hown hK hP 0 rfl rfl 7 (by decide) (hts _ qX1_followers_0) (fun _ h9 => h9) rfl dX1_followers_8 ?_
      refine lv_icmp_ge (tgt := 32) hx hb dX1_followers_11 (by decide) (fun c11 => ?_) (fun c11 => ?_)
      · replace h := tw_t c11 h
        refine lv_iload_n hx hb dX1_followers_32 rfl (lv_at hl 2 rfl) ?_
        exact hq H locs _ ls v2 (tw_rt (fun r => r = v2) h rfl) rfl hP hS dX1_followers_33
      · replace h := tw_f c11 h
        refine lv_aload_n hx hb dX1_followers_14 rfl (lv_at hl 0 rfl) ?_
        refine lv_iload_n hx hb dX1_followers_15 rfl (lv_at hl 3 rfl) ?_
        refine lv_iload_n hx hb dX1_followers_16 rfl (lv_at hl 1 rfl) ?_
        obtain ⟨r17, e17, h⟩ := tw_bs h
        refine tw_callViF (ws' := (tw_wS cI sa S)) (As := [.int v3, .int p1]) (rest := []) F hN hK hP hD hS hA (mX1_isNeeded l G cI sa S H.size v3 p1 e17) (cwV 2 hts gX1_followers_X1_isNeeded rfl rfl rfl (by decide +kernel) ⟨(Nat.le_of_ble_eq_true rfl), (Nat.le_of_ble_eq_true rfl)⟩) rfl (r0 := 0) (ci := 1) rfl rfl rfl rfl hl.1 rfl (Nat.le_of_ble_eq_true rfl) dX1_followers_17 ⟨Nat.zero_le _, Nat.zero_le _⟩ (fun H locs hP hD hS => ?_)
        refine lv_if_eq (tgt := 26) hx hb dX1_followers_20 (by decide) (fun c20 => ?_) (fun c20 => ?_)
        · replace h := tw_t c20 h
          refine lv_iinc (v := (v3 + 1)) (lv' := [(3, .int (v3 + 1)), (0, .ref (sa 0)), (1, .int p1), (2, .int v2)]) hx hb dX1_followers_26 hl (k := 3) rfl rfl (by decide) rfl (fun ls hl => ?_)
          refine lv_goto (tgt := 6) hx hb dX1_followers_29 (by decide) ?_
          exact ih6 v2 (v3 + 1) H locs ls h (lv_sub hl [1, 2, 3, 0] rfl) hP hD hS
        · replace h := tw_f c20 h
          refine lv_iinc (v := (v2 + 1)) (lv' := [(2, .int (v2 + 1)), (0, .ref (sa 0)), (1, .int p1), (3, .int v3)]) hx hb dX1_followers_23 hl (k := 2) rfl rfl (by decide) rfl (fun ls hl => ?_)
          refine lv_iinc (v := (v3 + 1)) (lv' := [(3, .int (v3 + 1)), (2, .int (v2 + 1)), (0, .ref (sa 0)), (1, .int p1)]) hx hb dX1_followers_26 hl (k := 3) rfl rfl (by decide) rfl (fun ls hl => ?_)
          refine lv_goto (tgt := 6) hx hb dX1_followers_29 (by decide) ?_
          exact ih6 (v2 + 1) (v3 + 1) H locs ls h (lv_sub hl [2, 3, 1, 0] rfl) hP hD hS
  refine lv_iconst (v := (0 : Int32)) hx hb dX1_followers_0 (by decide) ?_
  refine lv_istore_n (lv' := [(2, .int (0 : Int32)), (0, .ref (sa 0)), (1, .int p1)]) hx hb dX1_followers_1 rfl hl (by decide) rfl (fun ls hl => ?_)
  refine lv_iload_n hx hb dX1_followers_2 rfl (lv_at hl 2 rfl) ?_
  refine lv_iconst (v := (1 : Int32)) hx hb dX1_followers_3 (by decide) ?_
  refine lv_iadd hx hb dX1_followers_4 ?_
  refine lv_istore_n (lv' := [(3, .int (p1 + (1 : Int32))), (2, .int (0 : Int32)), (0, .ref (sa 0)), (1, .int p1)]) hx hb dX1_followers_5 rfl hl (by decide) rfl (fun ls hl => ?_)
  exact L6 512 (0 : Int32) (p1 + (1 : Int32)) H locs ls h (lv_sub hl [2, 3, 1, 0] rfl) hP hD hS
abbrev rmX1_lengthOfAll : Room := { frames := 0, cells := 0, slots := 0, locals := 0 }
set_option maxRecDepth 20000 in
theorem qX1_lengthOfAll_0 : (Cond.fieldLink RX1 33 "TheatreWall$State" "size" "I") ∈ wsX1_lengthOfAll := (List.mem_cons_of_mem _ (List.mem_append_left _ (List.mem_of_getElem? (i := 0) rfl)))
set_option maxRecDepth 20000 in
theorem qX1_lengthOfAll_1 : (Cond.fieldLink RX1 9 "TheatreWall$State" "lengths" "[I") ∈ wsX1_lengthOfAll := (List.mem_cons_of_mem _ (List.mem_append_left _ (List.mem_of_getElem? (i := 1) rfl)))
set_option maxRecDepth 20000 in
theorem iX1_lengthOfAll_X1 : ∀ w ∈ u_ws RX1 TX1 9, w ∈ wsX1_lengthOfAll := fun w h => (List.mem_cons_of_mem _ (List.mem_append_right _ h))
set_option maxHeartbeats 4000000 in
set_option maxRecDepth 100000 in
theorem mX1_lengthOfAll (l : Launch) (G : va_G) (cI : ClassId) (sa : Nat → Nat) (S : tw_St) (sz : Nat)  {rv : Int32} (h : fX1_lengthOfAll S = some rv) : tw_Mi l yX1_lengthOfAll wsX1_lengthOfAll rmX1_lengthOfAll G [(cI, .int)] (tw_wS cI sa S) [.ref (sa 0)] sz rv (tw_wS cI sa S) := by
  refine tw_ofi (ty := .int) (cc := cX1_lengthOfAll) (maxL := 3) (own := RX1) (by decide) rfl rfl (Nat.le_of_ble_eq_true rfl) ?_
  intro p e s m args below meth c Q A ls H locs F hN hK hP hD hS hA hl hq
  obtain ⟨hx, hb, hml, hown, hts⟩ := id F
  have hl : lv_has ls 3 [(0, .ref (sa 0))] := hl
  unfold fX1_lengthOfAll at h
  have L4 : ∀ (n4 : Nat) (v1 : Int32) (v2 : Int32) (H : Heap) (locs : List Loc) (ls : Array Slot), fX1_lengthOfAll_4 S n4 v1 v2 = some rv → lv_has ls 3 [(0, .ref (sa 0)), (1, .int v1), (2, .int v2)] → va_P G vwCl (tw_wS cI sa S) H → va_D A (tw_wS cI sa S) → va_S A s.heap H locs → W p l e rmX1_lengthOfAll s m args below meth c H locs 0 0 Q (F0 m 4 ls []) := by
    intro n4
    induction n4 with
    | zero =>
      intro v1 v2 H locs ls h
      rw [fX1_lengthOfAll_4] at h
      cases h
    | succ n4 ih4 =>
      intro v1 v2 H locs ls h hl hP hD hS
      rw [fX1_lengthOfAll_4] at h
      refine lv_iload_n hx hb dX1_lengthOfAll_4 rfl (lv_at hl 2 rfl) ?_
      refine lv_aload_n hx hb dX1_lengthOfAll_5 rfl (lv_at hl 0 rfl) ?_
      refine va_get (D := G) (ci := 1) (v := .int S.2.2.2.2.2.2.2.1) (C := RX1) (T := TX1) (N := 9) hx hb hts iX1_lengthOfAll_X1 hown hK hP 0 rfl rfl 7 (by decide) (hts _ qX1_lengthOfAll_0) (fun _ h9 => h9) rfl dX1_lengthOfAll_6 ?_
      refine lv_icmp_ge (tgt := 27) hx hb dX1_lengthOfAll_9 (by decide) (fun c9 => ?_) (fun c9 => ?_)
      · replace h := tw_t c9 h
        refine lv_iload_n hx hb dX1_lengthOfAll_27 rfl (lv_at hl 1 rfl) ?_
        exact hq H locs _ ls v1 (tw_rt (fun r => r = v1) h rfl) rfl hP hS dX1_lengthOfAll_28
      · replace h := tw_f c9 h
        refine lv_iload_n hx hb dX1_lengthOfAll_12 rfl (lv_at hl 1 rfl) ?_
        refine lv_aload_n hx hb dX1_lengthOfAll_13 rfl (lv_at hl 0 rfl) ?_
        refine va_get (D := G) (ci := 1) (v := .ref (sa 1)) (C := RX1) (T := TX1) (N := 9) hx hb hts iX1_lengthOfAll_X1 hown hK hP 0 rfl rfl 0 (by decide) (hts _ qX1_lengthOfAll_1) (fun _ h9 => h9) rfl dX1_lengthOfAll_14 ?_
        refine lv_iload_n hx hb dX1_lengthOfAll_17 rfl (lv_at hl 2 rfl) ?_
        obtain ⟨g18, h⟩ := tw_gs h
        refine va_iald (f := S.1) (n := 12) hx hb hK hP 1 0 rfl rfl g18 dX1_lengthOfAll_18 ?_
        refine lv_iadd hx hb dX1_lengthOfAll_19 ?_
        refine lv_istore_n (lv' := [(1, .int (v1 + (S.1 v2.toNatClampNeg))), (0, .ref (sa 0)), (2, .int v2)]) hx hb dX1_lengthOfAll_20 rfl hl (by decide) rfl (fun ls hl => ?_)
        refine lv_iinc (v := (v2 + 1)) (lv' := [(2, .int (v2 + 1)), (1, .int (v1 + (S.1 v2.toNatClampNeg))), (0, .ref (sa 0))]) hx hb dX1_lengthOfAll_21 hl (k := 2) rfl rfl (by decide) rfl (fun ls hl => ?_)
        refine lv_goto (tgt := 4) hx hb dX1_lengthOfAll_24 (by decide) ?_
        exact ih4 (v1 + (S.1 v2.toNatClampNeg)) (v2 + 1) H locs ls h (lv_sub hl [2, 1, 0] rfl) hP hD hS
  refine lv_iconst (v := (0 : Int32)) hx hb dX1_lengthOfAll_0 (by decide) ?_
  refine lv_istore_n (lv' := [(1, .int (0 : Int32)), (0, .ref (sa 0))]) hx hb dX1_lengthOfAll_1 rfl hl (by decide) rfl (fun ls hl => ?_)
  refine lv_iconst (v := (0 : Int32)) hx hb dX1_lengthOfAll_2 (by decide) ?_
  refine lv_istore_n (lv' := [(2, .int (0 : Int32)), (1, .int (0 : Int32)), (0, .ref (sa 0))]) hx hb dX1_lengthOfAll_3 rfl hl (by decide) rfl (fun ls hl => ?_)
  exact L4 512 (0 : Int32) (0 : Int32) H locs ls h (lv_sub hl [2, 1, 0] rfl) hP hD hS
abbrev rmX1_keyOf : Room := { frames := 2, cells := 0, slots := 0, locals := 45 }
set_option maxRecDepth 20000 in
theorem qX1_keyOf_0 : (Cond.fieldLink RX1 37 "TheatreWall$State" "order" "I") ∈ wsX1_keyOf := (List.mem_cons_of_mem _ (List.mem_append_left _ (List.mem_of_getElem? (i := 0) rfl)))
set_option maxRecDepth 20000 in
theorem qX1_keyOf_1 : (Cond.fieldLink RX1 9 "TheatreWall$State" "lengths" "[I") ∈ wsX1_keyOf := (List.mem_cons_of_mem _ (List.mem_append_left _ (List.mem_of_getElem? (i := 1) rfl)))
set_option maxRecDepth 20000 in
theorem qX1_keyOf_2 : (Cond.fieldLink RX1 21 "TheatreWall$State" "earliest" "[I") ∈ wsX1_keyOf := (List.mem_cons_of_mem _ (List.mem_append_left _ (List.mem_of_getElem? (i := 2) rfl)))
set_option maxRecDepth 20000 in
theorem iX1_keyOf_X1 : ∀ w ∈ u_ws RX1 TX1 9, w ∈ wsX1_keyOf := fun w h => (List.mem_cons_of_mem _ (List.mem_append_right _ h))
set_option maxHeartbeats 4000000 in
set_option maxRecDepth 100000 in
theorem mX1_keyOf (l : Launch) (G : va_G) (cI : ClassId) (sa : Nat → Nat) (S : tw_St) (sz : Nat) (p1 : Int32) {rv : Int32} (h : fX1_keyOf S p1 = some rv) : tw_Mi l yX1_keyOf wsX1_keyOf rmX1_keyOf G [(cI, .int)] (tw_wS cI sa S) [.ref (sa 0), .int p1] sz rv (tw_wS cI sa S) := by
  refine tw_ofi (ty := .int) (cc := cX1_keyOf) (maxL := 2) (own := RX1) (by decide) rfl rfl (Nat.le_of_ble_eq_true rfl) ?_
  intro p e s m args below meth c Q A ls H locs F hN hK hP hD hS hA hl hq
  obtain ⟨hx, hb, hml, hown, hts⟩ := id F
  have hl : lv_has ls 2 [(0, .ref (sa 0)), (1, .int p1)] := hl
  unfold fX1_keyOf at h
  refine lv_aload_n hx hb dX1_keyOf_0 rfl (lv_at hl 0 rfl) ?_
  refine va_get (D := G) (ci := 1) (v := .int S.2.2.2.2.2.2.2.2) (C := RX1) (T := TX1) (N := 9) hx hb hts iX1_keyOf_X1 hown hK hP 0 rfl rfl 8 (by decide) (hts _ qX1_keyOf_0) (fun _ h9 => h9) rfl dX1_keyOf_1 ?_
  by_cases c4_1 : S.2.2.2.2.2.2.2.2 = 1
  · replace h := tw_t c4_1 h
    refine tw_tab (v := 1) (tgt := 32) hx hb dX1_keyOf_4 c4_1 (by decide) (by decide) rfl (by decide) ?_
    refine lv_aload_n hx hb dX1_keyOf_32 rfl (lv_at hl 0 rfl) ?_
    refine va_get (D := G) (ci := 1) (v := .ref (sa 1)) (C := RX1) (T := TX1) (N := 9) hx hb hts iX1_keyOf_X1 hown hK hP 0 rfl rfl 0 (by decide) (hts _ qX1_keyOf_1) (fun _ h9 => h9) rfl dX1_keyOf_33 ?_
    refine lv_iload_n hx hb dX1_keyOf_36 rfl (lv_at hl 1 rfl) ?_
    obtain ⟨g37, h⟩ := tw_gs h
    refine va_iald (f := S.1) (n := 12) hx hb hK hP 1 0 rfl rfl g37 dX1_keyOf_37 ?_
    exact hq H locs _ ls (S.1 p1.toNatClampNeg) (tw_rt (fun r => r = (S.1 p1.toNatClampNeg)) h rfl) rfl hP hS dX1_keyOf_38
  · replace h := tw_f c4_1 h
    by_cases c4_2 : S.2.2.2.2.2.2.2.2 = 2
    · replace h := tw_t c4_2 h
      refine tw_tab (v := 2) (tgt := 39) hx hb dX1_keyOf_4 c4_2 (by decide) (by decide) rfl (by decide) ?_
      refine lv_aload_n hx hb dX1_keyOf_39 rfl (lv_at hl 0 rfl) ?_
      refine lv_iload_n hx hb dX1_keyOf_40 rfl (lv_at hl 1 rfl) ?_
      obtain ⟨r41, e41, h⟩ := tw_bs h
      refine tw_callViF (ws' := (tw_wS cI sa S)) (As := [.int p1]) (rest := []) F hN hK hP hD hS hA (mX1_followers l G cI sa S H.size p1 e41) (cwV 1 hts gX1_keyOf_X1_followers rfl rfl rfl (by decide +kernel) ⟨(Nat.le_of_ble_eq_true rfl), (Nat.le_of_ble_eq_true rfl)⟩) rfl (r0 := 0) (ci := 1) rfl rfl rfl rfl hl.1 rfl (Nat.le_of_ble_eq_true rfl) dX1_keyOf_41 ⟨Nat.zero_le _, Nat.zero_le _⟩ (fun H locs hP hD hS => ?_)
      exact hq H locs _ ls r41 (tw_rt (fun r => r = r41) h rfl) rfl hP hS dX1_keyOf_44
    · replace h := tw_f c4_2 h
      by_cases c4_3 : S.2.2.2.2.2.2.2.2 = 3
      · replace h := tw_t c4_3 h
        refine tw_tab (v := 3) (tgt := 45) hx hb dX1_keyOf_4 c4_3 (by decide) (by decide) rfl (by decide) ?_
        refine lv_aload_n hx hb dX1_keyOf_45 rfl (lv_at hl 0 rfl) ?_
        refine va_get (D := G) (ci := 1) (v := .ref (sa 4)) (C := RX1) (T := TX1) (N := 9) hx hb hts iX1_keyOf_X1 hown hK hP 0 rfl rfl 3 (by decide) (hts _ qX1_keyOf_2) (fun _ h9 => h9) rfl dX1_keyOf_46 ?_
        refine lv_iload_n hx hb dX1_keyOf_49 rfl (lv_at hl 1 rfl) ?_
        obtain ⟨g50, h⟩ := tw_gs h
        refine va_iald (f := S.2.2.2.1) (n := 12) hx hb hK hP 4 0 rfl rfl g50 dX1_keyOf_50 ?_
        exact hq H locs _ ls (S.2.2.2.1 p1.toNatClampNeg) (tw_rt (fun r => r = (S.2.2.2.1 p1.toNatClampNeg)) h rfl) rfl hP hS dX1_keyOf_51
      · replace h := tw_f c4_3 h
        have z1 := lv_neT c4_1 (a := 1) rfl
        have z2 := lv_neT c4_2 (a := 2) rfl
        have z3 := lv_neT c4_3 (a := 3) rfl
        refine lv_tableOut (tgt := 52) hx hb dX1_keyOf_4 (by omega) (by decide) ?_
        refine lv_iconst (v := (0 : Int32)) hx hb dX1_keyOf_52 (by decide) ?_
        exact hq H locs _ ls (0 : Int32) (tw_rt (fun r => r = (0 : Int32)) h rfl) rfl hP hS dX1_keyOf_53
abbrev rmX1_share : Room := { frames := 0, cells := 0, slots := 0, locals := 0 }
set_option maxRecDepth 20000 in
theorem qX1_share_0 : (Cond.fieldLink RX1 18 "TheatreWall$State" "halls" "[I") ∈ wsX1_share := (List.mem_cons_of_mem _ (List.mem_append_left _ (List.mem_of_getElem? (i := 1) rfl)))
set_option maxRecDepth 20000 in
theorem qX1_share_1 : (Cond.fieldLink RX1 15 "TheatreWall$State" "persons" "[I") ∈ wsX1_share := (List.mem_cons_of_mem _ (List.mem_append_left _ (List.mem_of_getElem? (i := 0) rfl)))
set_option maxRecDepth 20000 in
theorem iX1_share_X1 : ∀ w ∈ u_ws RX1 TX1 9, w ∈ wsX1_share := fun w h => (List.mem_cons_of_mem _ (List.mem_append_right _ h))
set_option maxHeartbeats 4000000 in
set_option maxRecDepth 100000 in
theorem mX1_share (l : Launch) (G : va_G) (cI : ClassId) (sa : Nat → Nat) (S : tw_St) (sz : Nat) (p1 : Int32) (p2 : Int32) {rv : Int32} (h : fX1_share S p1 p2 = some rv) : tw_Mi l yX1_share wsX1_share rmX1_share G [(cI, .int)] (tw_wS cI sa S) [.ref (sa 0), .int p1, .int p2] sz rv (tw_wS cI sa S) := by
  refine tw_ofi (ty := .boolean) (cc := cX1_share) (maxL := 5) (own := RX1) (by decide) rfl rfl (Nat.le_of_ble_eq_true rfl) ?_
  intro p e s m args below meth c Q A ls H locs F hN hK hP hD hS hA hl hq
  obtain ⟨hx, hb, hml, hown, hts⟩ := id F
  have hl : lv_has ls 5 [(0, .ref (sa 0)), (1, .int p1), (2, .int p2)] := hl
  unfold fX1_share at h
  have L61 : ∀ (t0 : Int32) (v3 : Int32) (H : Heap) (locs : List Loc) (ls : Array Slot), fX1_share_61 S p1 p2 t0 v3 = some rv → lv_has ls 5 [(3, .int v3)] → va_P G vwCl (tw_wS cI sa S) H → va_D A (tw_wS cI sa S) → va_S A s.heap H locs → W p l e rmX1_share s m args below meth c H locs 0 0 Q (F0 m 61 ls [.int t0]) := by
    intro t0 v3 H locs ls h hl hP hD hS
    unfold fX1_share_61 at h
    refine lv_istore (lv' := [(4, .int t0), (3, .int v3)]) hx hb dX1_share_61 hl (by decide) rfl (fun ls hl => ?_)
    refine lv_iload_n hx hb dX1_share_63 rfl (lv_at hl 1 rfl) ?_
    refine lv_if_ne (tgt := 72) hx hb dX1_share_64 (by decide) (fun c64 => ?_) (fun c64 => ?_)
    · replace h := tw_t c64 h
      refine lv_iconst (v := (1 : Int32)) hx hb dX1_share_72 (by decide) ?_
      refine lv_goto (tgt := 77) hx hb dX1_share_73 (by decide) ?_
      exact hq H locs _ ls (1 : Int32) (tw_rt (fun r => r = (1 : Int32)) h rfl) rfl hP hS dX1_share_77
    · replace h := tw_fn c64 h
      refine lv_iload hx hb dX1_share_67 (lv_at hl 0 rfl) ?_
      refine lv_if_eq (tgt := 76) hx hb dX1_share_69 (by decide) (fun c69 => ?_) (fun c69 => ?_)
      · replace h := tw_t c69 h
        refine lv_iconst (v := (0 : Int32)) hx hb dX1_share_76 (by decide) ?_
        exact hq H locs _ ls (0 : Int32) (tw_rt (fun r => r = (0 : Int32)) h rfl) rfl hP hS dX1_share_77
      · replace h := tw_f c69 h
        refine lv_iconst (v := (1 : Int32)) hx hb dX1_share_72 (by decide) ?_
        refine lv_goto (tgt := 77) hx hb dX1_share_73 (by decide) ?_
        exact hq H locs _ ls (1 : Int32) (tw_rt (fun r => r = (1 : Int32)) h rfl) rfl hP hS dX1_share_77
  have L30 : ∀ (t0 : Int32) (H : Heap) (locs : List Loc) (ls : Array Slot), fX1_share_30 S p1 p2 t0 = some rv → lv_has ls 5 [(0, .ref (sa 0)), (1, .int p1), (2, .int p2)] → va_P G vwCl (tw_wS cI sa S) H → va_D A (tw_wS cI sa S) → va_S A s.heap H locs → W p l e rmX1_share s m args below meth c H locs 0 0 Q (F0 m 30 ls [.int t0]) := by
    intro t0 H locs ls h hl hP hD hS
    unfold fX1_share_30 at h
    refine lv_istore_n (lv' := [(3, .int t0), (0, .ref (sa 0)), (1, .int p1), (2, .int p2)]) hx hb dX1_share_30 rfl hl (by decide) rfl (fun ls hl => ?_)
    refine lv_aload_n hx hb dX1_share_31 rfl (lv_at hl 1 rfl) ?_
    refine va_get (D := G) (ci := 1) (v := .ref (sa 3)) (C := RX1) (T := TX1) (N := 9) hx hb hts iX1_share_X1 hown hK hP 0 rfl rfl 2 (by decide) (hts _ qX1_share_0) (fun _ h9 => h9) rfl dX1_share_32 ?_
    refine lv_iload_n hx hb dX1_share_35 rfl (lv_at hl 2 rfl) ?_
    obtain ⟨g36, h⟩ := tw_gs h
    refine va_iald (f := S.2.2.1) (n := 12) hx hb hK hP 3 0 rfl rfl g36 dX1_share_36 ?_
    refine lv_iconst (v := (-1 : Int32)) hx hb dX1_share_37 (by decide) ?_
    refine lv_icmp_eq (tgt := 60) hx hb dX1_share_38 (by decide) (fun c38 => ?_) (fun c38 => ?_)
    · replace h := tw_t c38 h
      refine lv_iconst (v := (0 : Int32)) hx hb dX1_share_60 (by decide) ?_
      exact L61 (0 : Int32) t0 H locs ls h (lv_sub hl [0] rfl) hP hD hS
    · replace h := tw_f c38 h
      refine lv_aload_n hx hb dX1_share_41 rfl (lv_at hl 1 rfl) ?_
      refine va_get (D := G) (ci := 1) (v := .ref (sa 3)) (C := RX1) (T := TX1) (N := 9) hx hb hts iX1_share_X1 hown hK hP 0 rfl rfl 2 (by decide) (hts _ qX1_share_0) (fun _ h9 => h9) rfl dX1_share_42 ?_
      refine lv_iload_n hx hb dX1_share_45 rfl (lv_at hl 2 rfl) ?_
      obtain ⟨g46, h⟩ := tw_gs h
      refine va_iald (f := S.2.2.1) (n := 12) hx hb hK hP 3 0 rfl rfl g46 dX1_share_46 ?_
      refine lv_aload_n hx hb dX1_share_47 rfl (lv_at hl 1 rfl) ?_
      refine va_get (D := G) (ci := 1) (v := .ref (sa 3)) (C := RX1) (T := TX1) (N := 9) hx hb hts iX1_share_X1 hown hK hP 0 rfl rfl 2 (by decide) (hts _ qX1_share_0) (fun _ h9 => h9) rfl dX1_share_48 ?_
      refine lv_iload_n hx hb dX1_share_51 rfl (lv_at hl 3 rfl) ?_
      obtain ⟨g52, h⟩ := tw_gs h
      refine va_iald (f := S.2.2.1) (n := 12) hx hb hK hP 3 0 rfl rfl g52 dX1_share_52 ?_
      refine lv_icmp_ne (tgt := 60) hx hb dX1_share_53 (by decide) (fun c53 => ?_) (fun c53 => ?_)
      · replace h := tw_t c53 h
        refine lv_iconst (v := (0 : Int32)) hx hb dX1_share_60 (by decide) ?_
        exact L61 (0 : Int32) t0 H locs ls h (lv_sub hl [0] rfl) hP hD hS
      · replace h := tw_fn c53 h
        refine lv_iconst (v := (1 : Int32)) hx hb dX1_share_56 (by decide) ?_
        refine lv_goto (tgt := 61) hx hb dX1_share_57 (by decide) ?_
        exact L61 (1 : Int32) t0 H locs ls h (lv_sub hl [0] rfl) hP hD hS
  refine lv_aload_n hx hb dX1_share_0 rfl (lv_at hl 0 rfl) ?_
  refine va_get (D := G) (ci := 1) (v := .ref (sa 2)) (C := RX1) (T := TX1) (N := 9) hx hb hts iX1_share_X1 hown hK hP 0 rfl rfl 1 (by decide) (hts _ qX1_share_1) (fun _ h9 => h9) rfl dX1_share_1 ?_
  refine lv_iload_n hx hb dX1_share_4 rfl (lv_at hl 1 rfl) ?_
  obtain ⟨g5, h⟩ := tw_gs h
  refine va_iald (f := S.2.1) (n := 12) hx hb hK hP 2 0 rfl rfl g5 dX1_share_5 ?_
  refine lv_iconst (v := (-1 : Int32)) hx hb dX1_share_6 (by decide) ?_
  refine lv_icmp_eq (tgt := 29) hx hb dX1_share_7 (by decide) (fun c7 => ?_) (fun c7 => ?_)
  · replace h := tw_t c7 h
    refine lv_iconst (v := (0 : Int32)) hx hb dX1_share_29 (by decide) ?_
    exact L30 (0 : Int32) H locs ls h (lv_sub hl [0, 1, 2] rfl) hP hD hS
  · replace h := tw_f c7 h
    refine lv_aload_n hx hb dX1_share_10 rfl (lv_at hl 0 rfl) ?_
    refine va_get (D := G) (ci := 1) (v := .ref (sa 2)) (C := RX1) (T := TX1) (N := 9) hx hb hts iX1_share_X1 hown hK hP 0 rfl rfl 1 (by decide) (hts _ qX1_share_1) (fun _ h9 => h9) rfl dX1_share_11 ?_
    refine lv_iload_n hx hb dX1_share_14 rfl (lv_at hl 1 rfl) ?_
    obtain ⟨g15, h⟩ := tw_gs h
    refine va_iald (f := S.2.1) (n := 12) hx hb hK hP 2 0 rfl rfl g15 dX1_share_15 ?_
    refine lv_aload_n hx hb dX1_share_16 rfl (lv_at hl 0 rfl) ?_
    refine va_get (D := G) (ci := 1) (v := .ref (sa 2)) (C := RX1) (T := TX1) (N := 9) hx hb hts iX1_share_X1 hown hK hP 0 rfl rfl 1 (by decide) (hts _ qX1_share_1) (fun _ h9 => h9) rfl dX1_share_17 ?_
    refine lv_iload_n hx hb dX1_share_20 rfl (lv_at hl 2 rfl) ?_
    obtain ⟨g21, h⟩ := tw_gs h
    refine va_iald (f := S.2.1) (n := 12) hx hb hK hP 2 0 rfl rfl g21 dX1_share_21 ?_
    refine lv_icmp_ne (tgt := 29) hx hb dX1_share_22 (by decide) (fun c22 => ?_) (fun c22 => ?_)
    · replace h := tw_t c22 h
      refine lv_iconst (v := (0 : Int32)) hx hb dX1_share_29 (by decide) ?_
      exact L30 (0 : Int32) H locs ls h (lv_sub hl [0, 1, 2] rfl) hP hD hS
    · replace h := tw_fn c22 h
      refine lv_iconst (v := (1 : Int32)) hx hb dX1_share_25 (by decide) ?_
      refine lv_goto (tgt := 30) hx hb dX1_share_26 (by decide) ?_
      exact L30 (1 : Int32) H locs ls h (lv_sub hl [0, 1, 2] rfl) hP hD hS
abbrev rmX1_appendTask : Room := { frames := 0, cells := 0, slots := 0, locals := 0 }
set_option maxRecDepth 20000 in
theorem qX1_appendTask_0 : (Cond.fieldLink RX1 9 "TheatreWall$State" "lengths" "[I") ∈ wsX1_appendTask := (List.mem_cons_of_mem _ (List.mem_append_left _ (List.mem_of_getElem? (i := 0) rfl)))
set_option maxRecDepth 20000 in
theorem qX1_appendTask_1 : (Cond.fieldLink RX1 33 "TheatreWall$State" "size" "I") ∈ wsX1_appendTask := (List.mem_cons_of_mem _ (List.mem_append_left _ (List.mem_of_getElem? (i := 1) rfl)))
set_option maxRecDepth 20000 in
theorem qX1_appendTask_2 : (Cond.fieldLink RX1 15 "TheatreWall$State" "persons" "[I") ∈ wsX1_appendTask := (List.mem_cons_of_mem _ (List.mem_append_left _ (List.mem_of_getElem? (i := 2) rfl)))
set_option maxRecDepth 20000 in
theorem qX1_appendTask_3 : (Cond.fieldLink RX1 18 "TheatreWall$State" "halls" "[I") ∈ wsX1_appendTask := (List.mem_cons_of_mem _ (List.mem_append_left _ (List.mem_of_getElem? (i := 3) rfl)))
set_option maxRecDepth 20000 in
theorem qX1_appendTask_4 : (Cond.fieldLink RX1 21 "TheatreWall$State" "earliest" "[I") ∈ wsX1_appendTask := (List.mem_cons_of_mem _ (List.mem_append_left _ (List.mem_of_getElem? (i := 4) rfl)))
set_option maxRecDepth 20000 in
theorem qX1_appendTask_5 : (Cond.fieldLink RX1 24 "TheatreWall$State" "needs" "[I") ∈ wsX1_appendTask := (List.mem_cons_of_mem _ (List.mem_append_left _ (List.mem_of_getElem? (i := 5) rfl)))
set_option maxRecDepth 20000 in
theorem iX1_appendTask_X1 : ∀ w ∈ u_ws RX1 TX1 9, w ∈ wsX1_appendTask := fun w h => (List.mem_cons_of_mem _ (List.mem_append_right _ h))
set_option maxHeartbeats 4000000 in
set_option maxRecDepth 100000 in
theorem mX1_appendTask (l : Launch) (G : va_G) (cI : ClassId) (sa : Nat → Nat) (S : tw_St) (sz : Nat) (p1 : Int32) (p2 : Int32) (p3 : Int32) {rv : tw_St} (h : fX1_appendTask S p1 p2 p3 = some rv) : tw_Mv l yX1_appendTask wsX1_appendTask rmX1_appendTask G [(cI, .int)] (tw_wS cI sa S) [.ref (sa 0), .int p1, .int p2, .int p3] sz (tw_wS cI sa rv) := by
  refine tw_ofv (cc := cX1_appendTask) (maxL := 4) (own := RX1) (by decide) rfl rfl (Nat.le_of_ble_eq_true rfl) ?_
  intro p e s m args below meth c Q A ls H locs F hN hK hP hD hS hA hl hq
  obtain ⟨hx, hb, hml, hown, hts⟩ := id F
  have hl : lv_has ls 4 [(0, .ref (sa 0)), (1, .int p1), (2, .int p2), (3, .int p3)] := hl
  unfold fX1_appendTask at h
  refine lv_aload_n hx hb dX1_appendTask_0 rfl (lv_at hl 0 rfl) ?_
  refine va_get (D := G) (ci := 1) (v := .ref (sa 1)) (C := RX1) (T := TX1) (N := 9) hx hb hts iX1_appendTask_X1 hown hK hP 0 rfl rfl 0 (by decide) (hts _ qX1_appendTask_0) (fun _ h9 => h9) rfl dX1_appendTask_1 ?_
  refine lv_aload_n hx hb dX1_appendTask_4 rfl (lv_at hl 0 rfl) ?_
  refine va_get (D := G) (ci := 1) (v := .int S.2.2.2.2.2.2.2.1) (C := RX1) (T := TX1) (N := 9) hx hb hts iX1_appendTask_X1 hown hK hP 0 rfl rfl 7 (by decide) (hts _ qX1_appendTask_1) (fun _ h9 => h9) rfl dX1_appendTask_5 ?_
  refine lv_iload_n hx hb dX1_appendTask_8 rfl (lv_at hl 1 rfl) ?_
  obtain ⟨g9, h⟩ := tw_gs h
  refine tw_iast (ws' := (tw_wS cI sa ((upd S.1 S.2.2.2.2.2.2.2.1.toNatClampNeg p1), S.2.1, S.2.2.1, S.2.2.2.1, S.2.2.2.2.1, S.2.2.2.2.2.1, S.2.2.2.2.2.2.1, S.2.2.2.2.2.2.2.1, S.2.2.2.2.2.2.2.2))) (f := S.1) (n := 12) hx hb hK hP hD hS 1 0 rfl rfl g9 dX1_appendTask_9 rfl (fun H locs hP hD hS => ?_)
  refine lv_aload_n hx hb dX1_appendTask_10 rfl (lv_at hl 0 rfl) ?_
  refine va_get (D := G) (ci := 1) (v := .ref (sa 2)) (C := RX1) (T := TX1) (N := 9) hx hb hts iX1_appendTask_X1 hown hK hP 0 rfl rfl 1 (by decide) (hts _ qX1_appendTask_2) (fun _ h9 => h9) rfl dX1_appendTask_11 ?_
  refine lv_aload_n hx hb dX1_appendTask_14 rfl (lv_at hl 0 rfl) ?_
  refine va_get (D := G) (ci := 1) (v := .int S.2.2.2.2.2.2.2.1) (C := RX1) (T := TX1) (N := 9) hx hb hts iX1_appendTask_X1 hown hK hP 0 rfl rfl 7 (by decide) (hts _ qX1_appendTask_1) (fun _ h9 => h9) rfl dX1_appendTask_15 ?_
  refine lv_iload_n hx hb dX1_appendTask_18 rfl (lv_at hl 2 rfl) ?_
  obtain ⟨g19, h⟩ := tw_gs h
  refine tw_iast (ws' := (tw_wS cI sa ((upd S.1 S.2.2.2.2.2.2.2.1.toNatClampNeg p1), (upd S.2.1 S.2.2.2.2.2.2.2.1.toNatClampNeg p2), S.2.2.1, S.2.2.2.1, S.2.2.2.2.1, S.2.2.2.2.2.1, S.2.2.2.2.2.2.1, S.2.2.2.2.2.2.2.1, S.2.2.2.2.2.2.2.2))) (f := S.2.1) (n := 12) hx hb hK hP hD hS 2 0 rfl rfl g19 dX1_appendTask_19 rfl (fun H locs hP hD hS => ?_)
  refine lv_aload_n hx hb dX1_appendTask_20 rfl (lv_at hl 0 rfl) ?_
  refine va_get (D := G) (ci := 1) (v := .ref (sa 3)) (C := RX1) (T := TX1) (N := 9) hx hb hts iX1_appendTask_X1 hown hK hP 0 rfl rfl 2 (by decide) (hts _ qX1_appendTask_3) (fun _ h9 => h9) rfl dX1_appendTask_21 ?_
  refine lv_aload_n hx hb dX1_appendTask_24 rfl (lv_at hl 0 rfl) ?_
  refine va_get (D := G) (ci := 1) (v := .int S.2.2.2.2.2.2.2.1) (C := RX1) (T := TX1) (N := 9) hx hb hts iX1_appendTask_X1 hown hK hP 0 rfl rfl 7 (by decide) (hts _ qX1_appendTask_1) (fun _ h9 => h9) rfl dX1_appendTask_25 ?_
  refine lv_iload_n hx hb dX1_appendTask_28 rfl (lv_at hl 3 rfl) ?_
  obtain ⟨g29, h⟩ := tw_gs h
  refine tw_iast (ws' := (tw_wS cI sa ((upd S.1 S.2.2.2.2.2.2.2.1.toNatClampNeg p1), (upd S.2.1 S.2.2.2.2.2.2.2.1.toNatClampNeg p2), (upd S.2.2.1 S.2.2.2.2.2.2.2.1.toNatClampNeg p3), S.2.2.2.1, S.2.2.2.2.1, S.2.2.2.2.2.1, S.2.2.2.2.2.2.1, S.2.2.2.2.2.2.2.1, S.2.2.2.2.2.2.2.2))) (f := S.2.2.1) (n := 12) hx hb hK hP hD hS 3 0 rfl rfl g29 dX1_appendTask_29 rfl (fun H locs hP hD hS => ?_)
  refine lv_aload_n hx hb dX1_appendTask_30 rfl (lv_at hl 0 rfl) ?_
  refine va_get (D := G) (ci := 1) (v := .ref (sa 4)) (C := RX1) (T := TX1) (N := 9) hx hb hts iX1_appendTask_X1 hown hK hP 0 rfl rfl 3 (by decide) (hts _ qX1_appendTask_4) (fun _ h9 => h9) rfl dX1_appendTask_31 ?_
  refine lv_aload_n hx hb dX1_appendTask_34 rfl (lv_at hl 0 rfl) ?_
  refine va_get (D := G) (ci := 1) (v := .int S.2.2.2.2.2.2.2.1) (C := RX1) (T := TX1) (N := 9) hx hb hts iX1_appendTask_X1 hown hK hP 0 rfl rfl 7 (by decide) (hts _ qX1_appendTask_1) (fun _ h9 => h9) rfl dX1_appendTask_35 ?_
  refine lv_iconst (v := (0 : Int32)) hx hb dX1_appendTask_38 (by decide) ?_
  obtain ⟨g39, h⟩ := tw_gs h
  refine tw_iast (ws' := (tw_wS cI sa ((upd S.1 S.2.2.2.2.2.2.2.1.toNatClampNeg p1), (upd S.2.1 S.2.2.2.2.2.2.2.1.toNatClampNeg p2), (upd S.2.2.1 S.2.2.2.2.2.2.2.1.toNatClampNeg p3), (upd S.2.2.2.1 S.2.2.2.2.2.2.2.1.toNatClampNeg (0 : Int32)), S.2.2.2.2.1, S.2.2.2.2.2.1, S.2.2.2.2.2.2.1, S.2.2.2.2.2.2.2.1, S.2.2.2.2.2.2.2.2))) (f := S.2.2.2.1) (n := 12) hx hb hK hP hD hS 4 0 rfl rfl g39 dX1_appendTask_39 rfl (fun H locs hP hD hS => ?_)
  refine lv_aload_n hx hb dX1_appendTask_40 rfl (lv_at hl 0 rfl) ?_
  refine va_get (D := G) (ci := 1) (v := .ref (sa 5)) (C := RX1) (T := TX1) (N := 9) hx hb hts iX1_appendTask_X1 hown hK hP 0 rfl rfl 4 (by decide) (hts _ qX1_appendTask_5) (fun _ h9 => h9) rfl dX1_appendTask_41 ?_
  refine lv_aload_n hx hb dX1_appendTask_44 rfl (lv_at hl 0 rfl) ?_
  refine va_get (D := G) (ci := 1) (v := .int S.2.2.2.2.2.2.2.1) (C := RX1) (T := TX1) (N := 9) hx hb hts iX1_appendTask_X1 hown hK hP 0 rfl rfl 7 (by decide) (hts _ qX1_appendTask_1) (fun _ h9 => h9) rfl dX1_appendTask_45 ?_
  refine lv_iconst (v := (0 : Int32)) hx hb dX1_appendTask_48 (by decide) ?_
  obtain ⟨g49, h⟩ := tw_gs h
  refine tw_iast (ws' := (tw_wS cI sa ((upd S.1 S.2.2.2.2.2.2.2.1.toNatClampNeg p1), (upd S.2.1 S.2.2.2.2.2.2.2.1.toNatClampNeg p2), (upd S.2.2.1 S.2.2.2.2.2.2.2.1.toNatClampNeg p3), (upd S.2.2.2.1 S.2.2.2.2.2.2.2.1.toNatClampNeg (0 : Int32)), (upd S.2.2.2.2.1 S.2.2.2.2.2.2.2.1.toNatClampNeg (0 : Int32)), S.2.2.2.2.2.1, S.2.2.2.2.2.2.1, S.2.2.2.2.2.2.2.1, S.2.2.2.2.2.2.2.2))) (f := S.2.2.2.2.1) (n := 12) hx hb hK hP hD hS 5 0 rfl rfl g49 dX1_appendTask_49 rfl (fun H locs hP hD hS => ?_)
  refine lv_aload_n hx hb dX1_appendTask_50 rfl (lv_at hl 0 rfl) ?_
  refine lv_dup hx hb dX1_appendTask_51 rfl ?_
  refine va_get (D := G) (ci := 1) (v := .int S.2.2.2.2.2.2.2.1) (C := RX1) (T := TX1) (N := 9) hx hb hts iX1_appendTask_X1 hown hK hP 0 rfl rfl 7 (by decide) (hts _ qX1_appendTask_1) (fun _ h9 => h9) rfl dX1_appendTask_52 ?_
  refine lv_iconst (v := (1 : Int32)) hx hb dX1_appendTask_55 (by decide) ?_
  refine lv_iadd hx hb dX1_appendTask_56 ?_
  refine tw_put (ws' := (tw_wS cI sa ((upd S.1 S.2.2.2.2.2.2.2.1.toNatClampNeg p1), (upd S.2.1 S.2.2.2.2.2.2.2.1.toNatClampNeg p2), (upd S.2.2.1 S.2.2.2.2.2.2.2.1.toNatClampNeg p3), (upd S.2.2.2.1 S.2.2.2.2.2.2.2.1.toNatClampNeg (0 : Int32)), (upd S.2.2.2.2.1 S.2.2.2.2.2.2.2.1.toNatClampNeg (0 : Int32)), S.2.2.2.2.2.1, S.2.2.2.2.2.2.1, (S.2.2.2.2.2.2.2.1 + (1 : Int32)), S.2.2.2.2.2.2.2.2))) (D := G) (ci := 1) (v := .int (S.2.2.2.2.2.2.2.1 + (1 : Int32))) (ty := .int) (C := RX1) (T := TX1) (N := 9) hx hb hts iX1_appendTask_X1 tyX1 tyX1_ok nmX1 hown hK hP hD hS 0 rfl rfl 7 (by decide) (hts _ qX1_appendTask_1) (fun _ h9 => h9) rfl (by decide +kernel) rfl rfl (Nat.le_of_ble_eq_true rfl) dX1_appendTask_57 rfl (fun H locs hP hD hS => ?_)
  exact hq H locs _ ls (tw_rt (fun r => va_P G vwCl (tw_wS cI sa r) H) h hP) hS dX1_appendTask_60
abbrev rmX1_dropTask : Room := { frames := 1, cells := 0, slots := 0, locals := 23 }
set_option maxRecDepth 20000 in
theorem qX1_dropTask_0 : (Cond.fieldLink RX1 33 "TheatreWall$State" "size" "I") ∈ wsX1_dropTask := (List.mem_cons_of_mem _ (List.mem_append_left _ (List.mem_of_getElem? (i := 0) rfl)))
set_option maxRecDepth 20000 in
theorem qX1_dropTask_1 : (Cond.fieldLink RX1 9 "TheatreWall$State" "lengths" "[I") ∈ wsX1_dropTask := (List.mem_cons_of_mem _ (List.mem_append_left _ (List.mem_of_getElem? (i := 1) rfl)))
set_option maxRecDepth 20000 in
theorem qX1_dropTask_2 : (Cond.fieldLink RX1 15 "TheatreWall$State" "persons" "[I") ∈ wsX1_dropTask := (List.mem_cons_of_mem _ (List.mem_append_left _ (List.mem_of_getElem? (i := 2) rfl)))
set_option maxRecDepth 20000 in
theorem qX1_dropTask_3 : (Cond.fieldLink RX1 18 "TheatreWall$State" "halls" "[I") ∈ wsX1_dropTask := (List.mem_cons_of_mem _ (List.mem_append_left _ (List.mem_of_getElem? (i := 3) rfl)))
set_option maxRecDepth 20000 in
theorem qX1_dropTask_4 : (Cond.fieldLink RX1 21 "TheatreWall$State" "earliest" "[I") ∈ wsX1_dropTask := (List.mem_cons_of_mem _ (List.mem_append_left _ (List.mem_of_getElem? (i := 4) rfl)))
set_option maxRecDepth 20000 in
theorem qX1_dropTask_5 : (Cond.fieldLink RX1 24 "TheatreWall$State" "needs" "[I") ∈ wsX1_dropTask := (List.mem_cons_of_mem _ (List.mem_append_left _ (List.mem_of_getElem? (i := 5) rfl)))
set_option maxRecDepth 20000 in
theorem iX1_dropTask_X1 : ∀ w ∈ u_ws RX1 TX1 9, w ∈ wsX1_dropTask := fun w h => (List.mem_cons_of_mem _ (List.mem_append_right _ h))
set_option maxHeartbeats 4000000 in
set_option maxRecDepth 100000 in
theorem mX1_dropTask (l : Launch) (G : va_G) (cI : ClassId) (sa : Nat → Nat) (S : tw_St) (sz : Nat) (p1 : Int32) {rv : tw_St} (h : fX1_dropTask S p1 = some rv) : tw_Mv l yX1_dropTask wsX1_dropTask rmX1_dropTask G [(cI, .int)] (tw_wS cI sa S) [.ref (sa 0), .int p1] sz (tw_wS cI sa rv) := by
  refine tw_ofv (cc := cX1_dropTask) (maxL := 3) (own := RX1) (by decide) rfl rfl (Nat.le_of_ble_eq_true rfl) ?_
  intro p e s m args below meth c Q A ls H locs F hN hK hP hD hS hA hl hq
  obtain ⟨hx, hb, hml, hown, hts⟩ := id F
  have hl : lv_has ls 3 [(0, .ref (sa 0)), (1, .int p1)] := hl
  unfold fX1_dropTask at h
  have L12 : ∀ (n12 : Nat) (v2 : Int32) (S : tw_St) (H : Heap) (locs : List Loc) (ls : Array Slot), fX1_dropTask_12 p1 n12 v2 S = some rv → lv_has ls 3 [(0, .ref (sa 0)), (1, .int p1), (2, .int v2)] → va_P G vwCl (tw_wS cI sa S) H → va_D A (tw_wS cI sa S) → va_S A s.heap H locs → W p l e rmX1_dropTask s m args below meth c H locs 0 0 Q (F0 m 12 ls []) := by
    intro n12
    induction n12 with
    | zero =>
      intro v2 S H locs ls h
      rw [fX1_dropTask_12] at h
      cases h
    | succ n12 ih12 =>
      intro v2 S H locs ls h hl hP hD hS
      rw [fX1_dropTask_12] at h
      refine lv_iload_n hx hb dX1_dropTask_12 rfl (lv_at hl 2 rfl) ?_
      refine lv_aload_n hx hb dX1_dropTask_13 rfl (lv_at hl 0 rfl) ?_
      refine va_get (D := G) (ci := 1) (v := .int S.2.2.2.2.2.2.2.1) (C := RX1) (T := TX1) (N := 9) hx hb hts iX1_dropTask_X1 hown hK hP 0 rfl rfl 7 (by decide) (hts _ qX1_dropTask_0) (fun _ h9 => h9) rfl dX1_dropTask_14 ?_
      refine lv_icmp_ge (tgt := 100) hx hb dX1_dropTask_17 (by decide) (fun c17 => ?_) (fun c17 => ?_)
      · replace h := tw_t c17 h
        exact hq H locs _ ls (tw_rt (fun r => va_P G vwCl (tw_wS cI sa r) H) h hP) hS dX1_dropTask_100
      · replace h := tw_f c17 h
        refine lv_aload_n hx hb dX1_dropTask_20 rfl (lv_at hl 0 rfl) ?_
        refine va_get (D := G) (ci := 1) (v := .ref (sa 1)) (C := RX1) (T := TX1) (N := 9) hx hb hts iX1_dropTask_X1 hown hK hP 0 rfl rfl 0 (by decide) (hts _ qX1_dropTask_1) (fun _ h9 => h9) rfl dX1_dropTask_21 ?_
        refine lv_iload_n hx hb dX1_dropTask_24 rfl (lv_at hl 2 rfl) ?_
        refine lv_aload_n hx hb dX1_dropTask_25 rfl (lv_at hl 0 rfl) ?_
        refine va_get (D := G) (ci := 1) (v := .ref (sa 1)) (C := RX1) (T := TX1) (N := 9) hx hb hts iX1_dropTask_X1 hown hK hP 0 rfl rfl 0 (by decide) (hts _ qX1_dropTask_1) (fun _ h9 => h9) rfl dX1_dropTask_26 ?_
        refine lv_iload_n hx hb dX1_dropTask_29 rfl (lv_at hl 2 rfl) ?_
        refine lv_iconst (v := (1 : Int32)) hx hb dX1_dropTask_30 (by decide) ?_
        refine lv_iadd hx hb dX1_dropTask_31 ?_
        obtain ⟨g32, h⟩ := tw_gs h
        refine va_iald (f := S.1) (n := 12) hx hb hK hP 1 0 rfl rfl g32 dX1_dropTask_32 ?_
        obtain ⟨g33, h⟩ := tw_gs h
        refine tw_iast (ws' := (tw_wS cI sa ((upd S.1 v2.toNatClampNeg (S.1 (v2 + (1 : Int32)).toNatClampNeg)), S.2.1, S.2.2.1, S.2.2.2.1, S.2.2.2.2.1, S.2.2.2.2.2.1, S.2.2.2.2.2.2.1, S.2.2.2.2.2.2.2.1, S.2.2.2.2.2.2.2.2))) (f := S.1) (n := 12) hx hb hK hP hD hS 1 0 rfl rfl g33 dX1_dropTask_33 rfl (fun H locs hP hD hS => ?_)
        refine lv_aload_n hx hb dX1_dropTask_34 rfl (lv_at hl 0 rfl) ?_
        refine va_get (D := G) (ci := 1) (v := .ref (sa 2)) (C := RX1) (T := TX1) (N := 9) hx hb hts iX1_dropTask_X1 hown hK hP 0 rfl rfl 1 (by decide) (hts _ qX1_dropTask_2) (fun _ h9 => h9) rfl dX1_dropTask_35 ?_
        refine lv_iload_n hx hb dX1_dropTask_38 rfl (lv_at hl 2 rfl) ?_
        refine lv_aload_n hx hb dX1_dropTask_39 rfl (lv_at hl 0 rfl) ?_
        refine va_get (D := G) (ci := 1) (v := .ref (sa 2)) (C := RX1) (T := TX1) (N := 9) hx hb hts iX1_dropTask_X1 hown hK hP 0 rfl rfl 1 (by decide) (hts _ qX1_dropTask_2) (fun _ h9 => h9) rfl dX1_dropTask_40 ?_
        refine lv_iload_n hx hb dX1_dropTask_43 rfl (lv_at hl 2 rfl) ?_
        refine lv_iconst (v := (1 : Int32)) hx hb dX1_dropTask_44 (by decide) ?_
        refine lv_iadd hx hb dX1_dropTask_45 ?_
        obtain ⟨g46, h⟩ := tw_gs h
        refine va_iald (f := S.2.1) (n := 12) hx hb hK hP 2 0 rfl rfl g46 dX1_dropTask_46 ?_
        obtain ⟨g47, h⟩ := tw_gs h
        refine tw_iast (ws' := (tw_wS cI sa ((upd S.1 v2.toNatClampNeg (S.1 (v2 + (1 : Int32)).toNatClampNeg)), (upd S.2.1 v2.toNatClampNeg (S.2.1 (v2 + (1 : Int32)).toNatClampNeg)), S.2.2.1, S.2.2.2.1, S.2.2.2.2.1, S.2.2.2.2.2.1, S.2.2.2.2.2.2.1, S.2.2.2.2.2.2.2.1, S.2.2.2.2.2.2.2.2))) (f := S.2.1) (n := 12) hx hb hK hP hD hS 2 0 rfl rfl g47 dX1_dropTask_47 rfl (fun H locs hP hD hS => ?_)
        refine lv_aload_n hx hb dX1_dropTask_48 rfl (lv_at hl 0 rfl) ?_
        refine va_get (D := G) (ci := 1) (v := .ref (sa 3)) (C := RX1) (T := TX1) (N := 9) hx hb hts iX1_dropTask_X1 hown hK hP 0 rfl rfl 2 (by decide) (hts _ qX1_dropTask_3) (fun _ h9 => h9) rfl dX1_dropTask_49 ?_
        refine lv_iload_n hx hb dX1_dropTask_52 rfl (lv_at hl 2 rfl) ?_
        refine lv_aload_n hx hb dX1_dropTask_53 rfl (lv_at hl 0 rfl) ?_
        refine va_get (D := G) (ci := 1) (v := .ref (sa 3)) (C := RX1) (T := TX1) (N := 9) hx hb hts iX1_dropTask_X1 hown hK hP 0 rfl rfl 2 (by decide) (hts _ qX1_dropTask_3) (fun _ h9 => h9) rfl dX1_dropTask_54 ?_
        refine lv_iload_n hx hb dX1_dropTask_57 rfl (lv_at hl 2 rfl) ?_
        refine lv_iconst (v := (1 : Int32)) hx hb dX1_dropTask_58 (by decide) ?_
        refine lv_iadd hx hb dX1_dropTask_59 ?_
        obtain ⟨g60, h⟩ := tw_gs h
        refine va_iald (f := S.2.2.1) (n := 12) hx hb hK hP 3 0 rfl rfl g60 dX1_dropTask_60 ?_
        obtain ⟨g61, h⟩ := tw_gs h
        refine tw_iast (ws' := (tw_wS cI sa ((upd S.1 v2.toNatClampNeg (S.1 (v2 + (1 : Int32)).toNatClampNeg)), (upd S.2.1 v2.toNatClampNeg (S.2.1 (v2 + (1 : Int32)).toNatClampNeg)), (upd S.2.2.1 v2.toNatClampNeg (S.2.2.1 (v2 + (1 : Int32)).toNatClampNeg)), S.2.2.2.1, S.2.2.2.2.1, S.2.2.2.2.2.1, S.2.2.2.2.2.2.1, S.2.2.2.2.2.2.2.1, S.2.2.2.2.2.2.2.2))) (f := S.2.2.1) (n := 12) hx hb hK hP hD hS 3 0 rfl rfl g61 dX1_dropTask_61 rfl (fun H locs hP hD hS => ?_)
        refine lv_aload_n hx hb dX1_dropTask_62 rfl (lv_at hl 0 rfl) ?_
        refine va_get (D := G) (ci := 1) (v := .ref (sa 4)) (C := RX1) (T := TX1) (N := 9) hx hb hts iX1_dropTask_X1 hown hK hP 0 rfl rfl 3 (by decide) (hts _ qX1_dropTask_4) (fun _ h9 => h9) rfl dX1_dropTask_63 ?_
        refine lv_iload_n hx hb dX1_dropTask_66 rfl (lv_at hl 2 rfl) ?_
        refine lv_aload_n hx hb dX1_dropTask_67 rfl (lv_at hl 0 rfl) ?_
        refine va_get (D := G) (ci := 1) (v := .ref (sa 4)) (C := RX1) (T := TX1) (N := 9) hx hb hts iX1_dropTask_X1 hown hK hP 0 rfl rfl 3 (by decide) (hts _ qX1_dropTask_4) (fun _ h9 => h9) rfl dX1_dropTask_68 ?_
        refine lv_iload_n hx hb dX1_dropTask_71 rfl (lv_at hl 2 rfl) ?_
        refine lv_iconst (v := (1 : Int32)) hx hb dX1_dropTask_72 (by decide) ?_
        refine lv_iadd hx hb dX1_dropTask_73 ?_
        obtain ⟨g74, h⟩ := tw_gs h
        refine va_iald (f := S.2.2.2.1) (n := 12) hx hb hK hP 4 0 rfl rfl g74 dX1_dropTask_74 ?_
        obtain ⟨g75, h⟩ := tw_gs h
        refine tw_iast (ws' := (tw_wS cI sa ((upd S.1 v2.toNatClampNeg (S.1 (v2 + (1 : Int32)).toNatClampNeg)), (upd S.2.1 v2.toNatClampNeg (S.2.1 (v2 + (1 : Int32)).toNatClampNeg)), (upd S.2.2.1 v2.toNatClampNeg (S.2.2.1 (v2 + (1 : Int32)).toNatClampNeg)), (upd S.2.2.2.1 v2.toNatClampNeg (S.2.2.2.1 (v2 + (1 : Int32)).toNatClampNeg)), S.2.2.2.2.1, S.2.2.2.2.2.1, S.2.2.2.2.2.2.1, S.2.2.2.2.2.2.2.1, S.2.2.2.2.2.2.2.2))) (f := S.2.2.2.1) (n := 12) hx hb hK hP hD hS 4 0 rfl rfl g75 dX1_dropTask_75 rfl (fun H locs hP hD hS => ?_)
        refine lv_aload_n hx hb dX1_dropTask_76 rfl (lv_at hl 0 rfl) ?_
        refine va_get (D := G) (ci := 1) (v := .ref (sa 5)) (C := RX1) (T := TX1) (N := 9) hx hb hts iX1_dropTask_X1 hown hK hP 0 rfl rfl 4 (by decide) (hts _ qX1_dropTask_5) (fun _ h9 => h9) rfl dX1_dropTask_77 ?_
        refine lv_iload_n hx hb dX1_dropTask_80 rfl (lv_at hl 2 rfl) ?_
        refine lv_aload_n hx hb dX1_dropTask_81 rfl (lv_at hl 0 rfl) ?_
        refine va_get (D := G) (ci := 1) (v := .ref (sa 5)) (C := RX1) (T := TX1) (N := 9) hx hb hts iX1_dropTask_X1 hown hK hP 0 rfl rfl 4 (by decide) (hts _ qX1_dropTask_5) (fun _ h9 => h9) rfl dX1_dropTask_82 ?_
        refine lv_iload_n hx hb dX1_dropTask_85 rfl (lv_at hl 2 rfl) ?_
        refine lv_iconst (v := (1 : Int32)) hx hb dX1_dropTask_86 (by decide) ?_
        refine lv_iadd hx hb dX1_dropTask_87 ?_
        obtain ⟨g88, h⟩ := tw_gs h
        refine va_iald (f := S.2.2.2.2.1) (n := 12) hx hb hK hP 5 0 rfl rfl g88 dX1_dropTask_88 ?_
        refine lv_iload_n hx hb dX1_dropTask_89 rfl (lv_at hl 1 rfl) ?_
        obtain ⟨r90, e90, h⟩ := tw_bs h
        refine tw_callSi (ws' := (tw_wS cI sa ((upd S.1 v2.toNatClampNeg (S.1 (v2 + (1 : Int32)).toNatClampNeg)), (upd S.2.1 v2.toNatClampNeg (S.2.1 (v2 + (1 : Int32)).toNatClampNeg)), (upd S.2.2.1 v2.toNatClampNeg (S.2.2.1 (v2 + (1 : Int32)).toNatClampNeg)), (upd S.2.2.2.1 v2.toNatClampNeg (S.2.2.2.1 (v2 + (1 : Int32)).toNatClampNeg)), S.2.2.2.2.1, S.2.2.2.2.2.1, S.2.2.2.2.2.2.1, S.2.2.2.2.2.2.2.1, S.2.2.2.2.2.2.2.2))) (As := [.int (S.2.2.2.2.1 (v2 + (1 : Int32)).toNatClampNeg), .int p1]) (rest := [.int v2, .ref (sa 5)]) F hN hK hP hD hS hA (mX1_withoutBit l G cI H.size (S.2.2.2.2.1 (v2 + (1 : Int32)).toNatClampNeg) p1 e90) (va_cwS 2 hts gX1_dropTask_X1_withoutBit rfl rfl rfl (by decide +kernel) ⟨(Nat.le_of_ble_eq_true rfl), (Nat.le_of_ble_eq_true rfl)⟩) [0] rfl [] (by decide) rfl rfl rfl rfl hl.1 rfl (Nat.le_of_ble_eq_true rfl) dX1_dropTask_90 ⟨Nat.zero_le _, Nat.zero_le _⟩ (fun H locs hP hD hS => ?_)
        obtain ⟨g93, h⟩ := tw_gs h
        refine tw_iast (ws' := (tw_wS cI sa ((upd S.1 v2.toNatClampNeg (S.1 (v2 + (1 : Int32)).toNatClampNeg)), (upd S.2.1 v2.toNatClampNeg (S.2.1 (v2 + (1 : Int32)).toNatClampNeg)), (upd S.2.2.1 v2.toNatClampNeg (S.2.2.1 (v2 + (1 : Int32)).toNatClampNeg)), (upd S.2.2.2.1 v2.toNatClampNeg (S.2.2.2.1 (v2 + (1 : Int32)).toNatClampNeg)), (upd S.2.2.2.2.1 v2.toNatClampNeg r90), S.2.2.2.2.2.1, S.2.2.2.2.2.2.1, S.2.2.2.2.2.2.2.1, S.2.2.2.2.2.2.2.2))) (f := S.2.2.2.2.1) (n := 12) hx hb hK hP hD hS 5 0 rfl rfl g93 dX1_dropTask_93 rfl (fun H locs hP hD hS => ?_)
        refine lv_iinc (v := (v2 + 1)) (lv' := [(2, .int (v2 + 1)), (0, .ref (sa 0)), (1, .int p1)]) hx hb dX1_dropTask_94 hl (k := 2) rfl rfl (by decide) rfl (fun ls hl => ?_)
        refine lv_goto (tgt := 12) hx hb dX1_dropTask_97 (by decide) ?_
        exact ih12 (v2 + 1) ((upd S.1 v2.toNatClampNeg (S.1 (v2 + (1 : Int32)).toNatClampNeg)), (upd S.2.1 v2.toNatClampNeg (S.2.1 (v2 + (1 : Int32)).toNatClampNeg)), (upd S.2.2.1 v2.toNatClampNeg (S.2.2.1 (v2 + (1 : Int32)).toNatClampNeg)), (upd S.2.2.2.1 v2.toNatClampNeg (S.2.2.2.1 (v2 + (1 : Int32)).toNatClampNeg)), (upd S.2.2.2.2.1 v2.toNatClampNeg r90), S.2.2.2.2.2.1, S.2.2.2.2.2.2.1, S.2.2.2.2.2.2.2.1, S.2.2.2.2.2.2.2.2) H locs ls h (lv_sub hl [1, 2, 0] rfl) hP hD hS
  refine lv_aload_n hx hb dX1_dropTask_0 rfl (lv_at hl 0 rfl) ?_
  refine lv_dup hx hb dX1_dropTask_1 rfl ?_
  refine va_get (D := G) (ci := 1) (v := .int S.2.2.2.2.2.2.2.1) (C := RX1) (T := TX1) (N := 9) hx hb hts iX1_dropTask_X1 hown hK hP 0 rfl rfl 7 (by decide) (hts _ qX1_dropTask_0) (fun _ h9 => h9) rfl dX1_dropTask_2 ?_
  refine lv_iconst (v := (1 : Int32)) hx hb dX1_dropTask_5 (by decide) ?_
  refine lv_isub hx hb dX1_dropTask_6 ?_
  refine tw_put (ws' := (tw_wS cI sa (S.1, S.2.1, S.2.2.1, S.2.2.2.1, S.2.2.2.2.1, S.2.2.2.2.2.1, S.2.2.2.2.2.2.1, (S.2.2.2.2.2.2.2.1 - (1 : Int32)), S.2.2.2.2.2.2.2.2))) (D := G) (ci := 1) (v := .int (S.2.2.2.2.2.2.2.1 - (1 : Int32))) (ty := .int) (C := RX1) (T := TX1) (N := 9) hx hb hts iX1_dropTask_X1 tyX1 tyX1_ok nmX1 hown hK hP hD hS 0 rfl rfl 7 (by decide) (hts _ qX1_dropTask_0) (fun _ h9 => h9) rfl (by decide +kernel) rfl rfl (Nat.le_of_ble_eq_true rfl) dX1_dropTask_7 rfl (fun H locs hP hD hS => ?_)
  refine lv_iload_n hx hb dX1_dropTask_10 rfl (lv_at hl 1 rfl) ?_
  refine lv_istore_n (lv' := [(2, .int p1), (0, .ref (sa 0)), (1, .int p1)]) hx hb dX1_dropTask_11 rfl hl (by decide) rfl (fun ls hl => ?_)
  exact L12 512 p1 (S.1, S.2.1, S.2.2.1, S.2.2.2.1, S.2.2.2.2.1, S.2.2.2.2.2.1, S.2.2.2.2.2.2.1, (S.2.2.2.2.2.2.2.1 - (1 : Int32)), S.2.2.2.2.2.2.2.2) H locs ls h (lv_sub hl [1, 2, 0] rfl) hP hD hS
abbrev rmX1_property : Room := { frames := 0, cells := 0, slots := 0, locals := 0 }
set_option maxRecDepth 20000 in
theorem qX1_property_0 : (Cond.fieldLink RX1 9 "TheatreWall$State" "lengths" "[I") ∈ wsX1_property := (List.mem_cons_of_mem _ (List.mem_append_left _ (List.mem_of_getElem? (i := 0) rfl)))
set_option maxRecDepth 20000 in
theorem qX1_property_1 : (Cond.fieldLink RX1 15 "TheatreWall$State" "persons" "[I") ∈ wsX1_property := (List.mem_cons_of_mem _ (List.mem_append_left _ (List.mem_of_getElem? (i := 1) rfl)))
set_option maxRecDepth 20000 in
theorem qX1_property_2 : (Cond.fieldLink RX1 18 "TheatreWall$State" "halls" "[I") ∈ wsX1_property := (List.mem_cons_of_mem _ (List.mem_append_left _ (List.mem_of_getElem? (i := 2) rfl)))
set_option maxRecDepth 20000 in
theorem qX1_property_3 : (Cond.fieldLink RX1 21 "TheatreWall$State" "earliest" "[I") ∈ wsX1_property := (List.mem_cons_of_mem _ (List.mem_append_left _ (List.mem_of_getElem? (i := 3) rfl)))
set_option maxRecDepth 20000 in
theorem qX1_property_4 : (Cond.fieldLink RX1 24 "TheatreWall$State" "needs" "[I") ∈ wsX1_property := (List.mem_cons_of_mem _ (List.mem_append_left _ (List.mem_of_getElem? (i := 4) rfl)))
set_option maxRecDepth 20000 in
theorem iX1_property_X1 : ∀ w ∈ u_ws RX1 TX1 9, w ∈ wsX1_property := fun w h => (List.mem_cons_of_mem _ (List.mem_append_right _ h))
set_option maxHeartbeats 4000000 in
set_option maxRecDepth 100000 in
theorem mX1_property (l : Launch) (G : va_G) (cI : ClassId) (sa : Nat → Nat) (S : tw_St) (sz : Nat) (p1 : Int32) {rv : Nat} (h : fX1_property S p1 = some rv) : tw_Mr l yX1_property wsX1_property rmX1_property G [(cI, .int)] (tw_wS cI sa S) [.ref (sa 0), .int p1] sz (sa rv) (tw_wS cI sa S) := by
  refine tw_ofr (cc := cX1_property) (maxL := 2) (own := RX1) (by decide) rfl rfl (Nat.le_of_ble_eq_true rfl) ?_
  intro p e s m args below meth c Q A ls H locs F hN hK hP hD hS hA hl hq
  obtain ⟨hx, hb, hml, hown, hts⟩ := id F
  have hl : lv_has ls 2 [(0, .ref (sa 0)), (1, .int p1)] := hl
  unfold fX1_property at h
  refine lv_iload_n hx hb dX1_property_0 rfl (lv_at hl 1 rfl) ?_
  by_cases c1_0 : p1 = 0
  · replace h := tw_t c1_0 h
    refine tw_tab (v := 0) (tgt := 32) hx hb dX1_property_1 c1_0 (by decide) (by decide) rfl (by decide) ?_
    refine lv_aload_n hx hb dX1_property_32 rfl (lv_at hl 0 rfl) ?_
    refine va_get (D := G) (ci := 1) (v := .ref (sa 1)) (C := RX1) (T := TX1) (N := 9) hx hb hts iX1_property_X1 hown hK hP 0 rfl rfl 0 (by decide) (hts _ qX1_property_0) (fun _ h9 => h9) rfl dX1_property_33 ?_
    exact hq H locs _ ls (sa 1) (tw_rt (fun r => (sa 1) = sa r) h rfl) hP hS dX1_property_36
  · replace h := tw_f c1_0 h
    by_cases c1_1 : p1 = 1
    · replace h := tw_t c1_1 h
      refine tw_tab (v := 1) (tgt := 37) hx hb dX1_property_1 c1_1 (by decide) (by decide) rfl (by decide) ?_
      refine lv_aload_n hx hb dX1_property_37 rfl (lv_at hl 0 rfl) ?_
      refine va_get (D := G) (ci := 1) (v := .ref (sa 2)) (C := RX1) (T := TX1) (N := 9) hx hb hts iX1_property_X1 hown hK hP 0 rfl rfl 1 (by decide) (hts _ qX1_property_1) (fun _ h9 => h9) rfl dX1_property_38 ?_
      exact hq H locs _ ls (sa 2) (tw_rt (fun r => (sa 2) = sa r) h rfl) hP hS dX1_property_41
    · replace h := tw_f c1_1 h
      by_cases c1_2 : p1 = 2
      · replace h := tw_t c1_2 h
        refine tw_tab (v := 2) (tgt := 42) hx hb dX1_property_1 c1_2 (by decide) (by decide) rfl (by decide) ?_
        refine lv_aload_n hx hb dX1_property_42 rfl (lv_at hl 0 rfl) ?_
        refine va_get (D := G) (ci := 1) (v := .ref (sa 3)) (C := RX1) (T := TX1) (N := 9) hx hb hts iX1_property_X1 hown hK hP 0 rfl rfl 2 (by decide) (hts _ qX1_property_2) (fun _ h9 => h9) rfl dX1_property_43 ?_
        exact hq H locs _ ls (sa 3) (tw_rt (fun r => (sa 3) = sa r) h rfl) hP hS dX1_property_46
      · replace h := tw_f c1_2 h
        by_cases c1_3 : p1 = 3
        · replace h := tw_t c1_3 h
          refine tw_tab (v := 3) (tgt := 47) hx hb dX1_property_1 c1_3 (by decide) (by decide) rfl (by decide) ?_
          refine lv_aload_n hx hb dX1_property_47 rfl (lv_at hl 0 rfl) ?_
          refine va_get (D := G) (ci := 1) (v := .ref (sa 4)) (C := RX1) (T := TX1) (N := 9) hx hb hts iX1_property_X1 hown hK hP 0 rfl rfl 3 (by decide) (hts _ qX1_property_3) (fun _ h9 => h9) rfl dX1_property_48 ?_
          exact hq H locs _ ls (sa 4) (tw_rt (fun r => (sa 4) = sa r) h rfl) hP hS dX1_property_51
        · replace h := tw_f c1_3 h
          have z0 := lv_neT c1_0 (a := 0) rfl
          have z1 := lv_neT c1_1 (a := 1) rfl
          have z2 := lv_neT c1_2 (a := 2) rfl
          have z3 := lv_neT c1_3 (a := 3) rfl
          refine lv_tableOut (tgt := 52) hx hb dX1_property_1 (by omega) (by decide) ?_
          refine lv_aload_n hx hb dX1_property_52 rfl (lv_at hl 0 rfl) ?_
          refine va_get (D := G) (ci := 1) (v := .ref (sa 5)) (C := RX1) (T := TX1) (N := 9) hx hb hts iX1_property_X1 hown hK hP 0 rfl rfl 4 (by decide) (hts _ qX1_property_4) (fun _ h9 => h9) rfl dX1_property_53 ?_
          exact hq H locs _ ls (sa 5) (tw_rt (fun r => (sa 5) = sa r) h rfl) hP hS dX1_property_56
abbrev rmX1_copyFrom : Room := { frames := 0, cells := 0, slots := 0, locals := 0 }
set_option maxRecDepth 20000 in
theorem qX1_copyFrom_0 : (Cond.fieldLink RX1 27 "TheatreWall$State" "firstDays" "[I") ∈ wsX1_copyFrom := (List.mem_cons_of_mem _ (List.mem_append_left _ (List.mem_of_getElem? (i := 7) rfl)))
set_option maxRecDepth 20000 in
theorem qX1_copyFrom_1 : (Cond.fieldLink RX1 30 "TheatreWall$State" "lastDays" "[I") ∈ wsX1_copyFrom := (List.mem_cons_of_mem _ (List.mem_append_left _ (List.mem_of_getElem? (i := 8) rfl)))
set_option maxRecDepth 20000 in
theorem qX1_copyFrom_2 : (Cond.fieldLink RX1 33 "TheatreWall$State" "size" "I") ∈ wsX1_copyFrom := (List.mem_cons_of_mem _ (List.mem_append_left _ (List.mem_of_getElem? (i := 0) rfl)))
set_option maxRecDepth 20000 in
theorem qX1_copyFrom_3 : (Cond.fieldLink RX1 9 "TheatreWall$State" "lengths" "[I") ∈ wsX1_copyFrom := (List.mem_cons_of_mem _ (List.mem_append_left _ (List.mem_of_getElem? (i := 2) rfl)))
set_option maxRecDepth 20000 in
theorem qX1_copyFrom_4 : (Cond.fieldLink RX1 15 "TheatreWall$State" "persons" "[I") ∈ wsX1_copyFrom := (List.mem_cons_of_mem _ (List.mem_append_left _ (List.mem_of_getElem? (i := 3) rfl)))
set_option maxRecDepth 20000 in
theorem qX1_copyFrom_5 : (Cond.fieldLink RX1 18 "TheatreWall$State" "halls" "[I") ∈ wsX1_copyFrom := (List.mem_cons_of_mem _ (List.mem_append_left _ (List.mem_of_getElem? (i := 4) rfl)))
set_option maxRecDepth 20000 in
theorem qX1_copyFrom_6 : (Cond.fieldLink RX1 21 "TheatreWall$State" "earliest" "[I") ∈ wsX1_copyFrom := (List.mem_cons_of_mem _ (List.mem_append_left _ (List.mem_of_getElem? (i := 5) rfl)))
set_option maxRecDepth 20000 in
theorem qX1_copyFrom_7 : (Cond.fieldLink RX1 24 "TheatreWall$State" "needs" "[I") ∈ wsX1_copyFrom := (List.mem_cons_of_mem _ (List.mem_append_left _ (List.mem_of_getElem? (i := 6) rfl)))
set_option maxRecDepth 20000 in
theorem qX1_copyFrom_8 : (Cond.fieldLink RX1 37 "TheatreWall$State" "order" "I") ∈ wsX1_copyFrom := (List.mem_cons_of_mem _ (List.mem_append_left _ (List.mem_of_getElem? (i := 1) rfl)))
set_option maxRecDepth 20000 in
theorem iX1_copyFrom_X1 : ∀ w ∈ u_ws RX1 TX1 9, w ∈ wsX1_copyFrom := fun w h => (List.mem_cons_of_mem _ (List.mem_append_right _ h))
set_option maxHeartbeats 4000000 in
set_option maxRecDepth 100000 in
theorem mX1_copyFrom (l : Launch) (G : va_G) (cI : ClassId) (sa : Nat → Nat) (oa : Nat → Nat) (S : tw_St) (O : tw_St) (sz : Nat)  {rv : tw_St} (h : fX1_copyFrom S O = some rv) : tw_Mv l yX1_copyFrom wsX1_copyFrom rmX1_copyFrom G [(cI, .int)] (tw_wS cI sa S ++ tw_wS cI oa O) [.ref (sa 0), .ref (oa 0)] sz (tw_wS cI sa rv ++ tw_wS cI oa O) := by
  refine tw_ofv (cc := cX1_copyFrom) (maxL := 3) (own := RX1) (by decide) rfl rfl (Nat.le_of_ble_eq_true rfl) ?_
  intro p e s m args below meth c Q A ls H locs F hN hK hP hD hS hA hl hq
  obtain ⟨hx, hb, hml, hown, hts⟩ := id F
  have hl : lv_has ls 3 [(0, .ref (sa 0)), (1, .ref (oa 0))] := hl
  unfold fX1_copyFrom at h
  have L94 : ∀ (n94 : Nat) (v2 : Int32) (S : tw_St) (H : Heap) (locs : List Loc) (ls : Array Slot), fX1_copyFrom_94 O n94 v2 S = some rv → lv_has ls 3 [(0, .ref (sa 0)), (1, .ref (oa 0)), (2, .int v2)] → va_P G vwCl (tw_wS cI sa S ++ tw_wS cI oa O) H → va_D A (tw_wS cI sa S ++ tw_wS cI oa O) → va_S A s.heap H locs → W p l e rmX1_copyFrom s m args below meth c H locs 0 0 Q (F0 m 94 ls []) := by
    intro n94
    induction n94 with
    | zero =>
      intro v2 S H locs ls h
      rw [fX1_copyFrom_94] at h
      cases h
    | succ n94 ih94 =>
      intro v2 S H locs ls h hl hP hD hS
      rw [fX1_copyFrom_94] at h
      refine lv_iload_n hx hb dX1_copyFrom_94 rfl (lv_at hl 2 rfl) ?_
      refine lv_iconst (v := (4 : Int32)) hx hb dX1_copyFrom_95 (by decide) ?_
      refine lv_icmp_ge (tgt := 129) hx hb dX1_copyFrom_96 (by decide) (fun c96 => ?_) (fun c96 => ?_)
      · replace h := tw_t c96 h
        exact hq H locs _ ls (tw_rt (fun r => va_P G vwCl (tw_wS cI sa r ++ tw_wS cI oa O) H) h hP) hS dX1_copyFrom_129
      · replace h := tw_f c96 h
        refine lv_aload_n hx hb dX1_copyFrom_99 rfl (lv_at hl 0 rfl) ?_
        refine va_get (D := G) (ci := 1) (v := .ref (sa 6)) (C := RX1) (T := TX1) (N := 9) hx hb hts iX1_copyFrom_X1 hown hK hP 0 rfl rfl 5 (by decide) (hts _ qX1_copyFrom_0) (fun _ h9 => h9) rfl dX1_copyFrom_100 ?_
        refine lv_iload_n hx hb dX1_copyFrom_103 rfl (lv_at hl 2 rfl) ?_
        refine lv_aload_n hx hb dX1_copyFrom_104 rfl (lv_at hl 1 rfl) ?_
        refine va_get (D := G) (ci := 1) (v := .ref (oa 6)) (C := RX1) (T := TX1) (N := 9) hx hb hts iX1_copyFrom_X1 hown hK hP 8 rfl rfl 5 (by decide) (hts _ qX1_copyFrom_0) (fun _ h9 => h9) rfl dX1_copyFrom_105 ?_
        refine lv_iload_n hx hb dX1_copyFrom_108 rfl (lv_at hl 2 rfl) ?_
        obtain ⟨g109, h⟩ := tw_gs h
        refine va_iald (f := O.2.2.2.2.2.1) (n := 4) hx hb hK hP 14 0 rfl rfl g109 dX1_copyFrom_109 ?_
        obtain ⟨g110, h⟩ := tw_gs h
        refine tw_iast (ws' := (tw_wS cI sa (S.1, S.2.1, S.2.2.1, S.2.2.2.1, S.2.2.2.2.1, (upd S.2.2.2.2.2.1 v2.toNatClampNeg (O.2.2.2.2.2.1 v2.toNatClampNeg)), S.2.2.2.2.2.2.1, S.2.2.2.2.2.2.2.1, S.2.2.2.2.2.2.2.2) ++ tw_wS cI oa O)) (f := S.2.2.2.2.2.1) (n := 4) hx hb hK hP hD hS 6 0 rfl rfl g110 dX1_copyFrom_110 rfl (fun H locs hP hD hS => ?_)
        refine lv_aload_n hx hb dX1_copyFrom_111 rfl (lv_at hl 0 rfl) ?_
        refine va_get (D := G) (ci := 1) (v := .ref (sa 7)) (C := RX1) (T := TX1) (N := 9) hx hb hts iX1_copyFrom_X1 hown hK hP 0 rfl rfl 6 (by decide) (hts _ qX1_copyFrom_1) (fun _ h9 => h9) rfl dX1_copyFrom_112 ?_
        refine lv_iload_n hx hb dX1_copyFrom_115 rfl (lv_at hl 2 rfl) ?_
        refine lv_aload_n hx hb dX1_copyFrom_116 rfl (lv_at hl 1 rfl) ?_
        refine va_get (D := G) (ci := 1) (v := .ref (oa 7)) (C := RX1) (T := TX1) (N := 9) hx hb hts iX1_copyFrom_X1 hown hK hP 8 rfl rfl 6 (by decide) (hts _ qX1_copyFrom_1) (fun _ h9 => h9) rfl dX1_copyFrom_117 ?_
        refine lv_iload_n hx hb dX1_copyFrom_120 rfl (lv_at hl 2 rfl) ?_
        obtain ⟨g121, h⟩ := tw_gs h
        refine va_iald (f := O.2.2.2.2.2.2.1) (n := 4) hx hb hK hP 15 0 rfl rfl g121 dX1_copyFrom_121 ?_
        obtain ⟨g122, h⟩ := tw_gs h
        refine tw_iast (ws' := (tw_wS cI sa (S.1, S.2.1, S.2.2.1, S.2.2.2.1, S.2.2.2.2.1, (upd S.2.2.2.2.2.1 v2.toNatClampNeg (O.2.2.2.2.2.1 v2.toNatClampNeg)), (upd S.2.2.2.2.2.2.1 v2.toNatClampNeg (O.2.2.2.2.2.2.1 v2.toNatClampNeg)), S.2.2.2.2.2.2.2.1, S.2.2.2.2.2.2.2.2) ++ tw_wS cI oa O)) (f := S.2.2.2.2.2.2.1) (n := 4) hx hb hK hP hD hS 7 0 rfl rfl g122 dX1_copyFrom_122 rfl (fun H locs hP hD hS => ?_)
        refine lv_iinc (v := (v2 + 1)) (lv' := [(2, .int (v2 + 1)), (0, .ref (sa 0)), (1, .ref (oa 0))]) hx hb dX1_copyFrom_123 hl (k := 2) rfl rfl (by decide) rfl (fun ls hl => ?_)
        refine lv_goto (tgt := 94) hx hb dX1_copyFrom_126 (by decide) ?_
        exact ih94 (v2 + 1) (S.1, S.2.1, S.2.2.1, S.2.2.2.1, S.2.2.2.2.1, (upd S.2.2.2.2.2.1 v2.toNatClampNeg (O.2.2.2.2.2.1 v2.toNatClampNeg)), (upd S.2.2.2.2.2.2.1 v2.toNatClampNeg (O.2.2.2.2.2.2.1 v2.toNatClampNeg)), S.2.2.2.2.2.2.2.1, S.2.2.2.2.2.2.2.2) H locs ls h (lv_sub hl [1, 2, 0] rfl) hP hD hS
  have L18 : ∀ (n18 : Nat) (v2 : Int32) (S : tw_St) (H : Heap) (locs : List Loc) (ls : Array Slot), fX1_copyFrom_18 O n18 v2 S = some rv → lv_has ls 3 [(0, .ref (sa 0)), (1, .ref (oa 0)), (2, .int v2)] → va_P G vwCl (tw_wS cI sa S ++ tw_wS cI oa O) H → va_D A (tw_wS cI sa S ++ tw_wS cI oa O) → va_S A s.heap H locs → W p l e rmX1_copyFrom s m args below meth c H locs 0 0 Q (F0 m 18 ls []) := by
    intro n18
    induction n18 with
    | zero =>
      intro v2 S H locs ls h
      rw [fX1_copyFrom_18] at h
      cases h
    | succ n18 ih18 =>
      intro v2 S H locs ls h hl hP hD hS
      rw [fX1_copyFrom_18] at h
      refine lv_iload_n hx hb dX1_copyFrom_18 rfl (lv_at hl 2 rfl) ?_
      refine lv_aload_n hx hb dX1_copyFrom_19 rfl (lv_at hl 0 rfl) ?_
      refine va_get (D := G) (ci := 1) (v := .int S.2.2.2.2.2.2.2.1) (C := RX1) (T := TX1) (N := 9) hx hb hts iX1_copyFrom_X1 hown hK hP 0 rfl rfl 7 (by decide) (hts _ qX1_copyFrom_2) (fun _ h9 => h9) rfl dX1_copyFrom_20 ?_
      refine lv_icmp_ge (tgt := 92) hx hb dX1_copyFrom_23 (by decide) (fun c23 => ?_) (fun c23 => ?_)
      · replace h := tw_t c23 h
        refine lv_iconst (v := (0 : Int32)) hx hb dX1_copyFrom_92 (by decide) ?_
        refine lv_istore_n (lv' := [(2, .int (0 : Int32)), (0, .ref (sa 0)), (1, .ref (oa 0))]) hx hb dX1_copyFrom_93 rfl hl (by decide) rfl (fun ls hl => ?_)
        exact L94 512 (0 : Int32) S H locs ls h (lv_sub hl [1, 2, 0] rfl) hP hD hS
      · replace h := tw_f c23 h
        refine lv_aload_n hx hb dX1_copyFrom_26 rfl (lv_at hl 0 rfl) ?_
        refine va_get (D := G) (ci := 1) (v := .ref (sa 1)) (C := RX1) (T := TX1) (N := 9) hx hb hts iX1_copyFrom_X1 hown hK hP 0 rfl rfl 0 (by decide) (hts _ qX1_copyFrom_3) (fun _ h9 => h9) rfl dX1_copyFrom_27 ?_
        refine lv_iload_n hx hb dX1_copyFrom_30 rfl (lv_at hl 2 rfl) ?_
        refine lv_aload_n hx hb dX1_copyFrom_31 rfl (lv_at hl 1 rfl) ?_
        refine va_get (D := G) (ci := 1) (v := .ref (oa 1)) (C := RX1) (T := TX1) (N := 9) hx hb hts iX1_copyFrom_X1 hown hK hP 8 rfl rfl 0 (by decide) (hts _ qX1_copyFrom_3) (fun _ h9 => h9) rfl dX1_copyFrom_32 ?_
        refine lv_iload_n hx hb dX1_copyFrom_35 rfl (lv_at hl 2 rfl) ?_
        obtain ⟨g36, h⟩ := tw_gs h
        refine va_iald (f := O.1) (n := 12) hx hb hK hP 9 0 rfl rfl g36 dX1_copyFrom_36 ?_
        obtain ⟨g37, h⟩ := tw_gs h
        refine tw_iast (ws' := (tw_wS cI sa ((upd S.1 v2.toNatClampNeg (O.1 v2.toNatClampNeg)), S.2.1, S.2.2.1, S.2.2.2.1, S.2.2.2.2.1, S.2.2.2.2.2.1, S.2.2.2.2.2.2.1, S.2.2.2.2.2.2.2.1, S.2.2.2.2.2.2.2.2) ++ tw_wS cI oa O)) (f := S.1) (n := 12) hx hb hK hP hD hS 1 0 rfl rfl g37 dX1_copyFrom_37 rfl (fun H locs hP hD hS => ?_)
        refine lv_aload_n hx hb dX1_copyFrom_38 rfl (lv_at hl 0 rfl) ?_
        refine va_get (D := G) (ci := 1) (v := .ref (sa 2)) (C := RX1) (T := TX1) (N := 9) hx hb hts iX1_copyFrom_X1 hown hK hP 0 rfl rfl 1 (by decide) (hts _ qX1_copyFrom_4) (fun _ h9 => h9) rfl dX1_copyFrom_39 ?_
        refine lv_iload_n hx hb dX1_copyFrom_42 rfl (lv_at hl 2 rfl) ?_
        refine lv_aload_n hx hb dX1_copyFrom_43 rfl (lv_at hl 1 rfl) ?_
        refine va_get (D := G) (ci := 1) (v := .ref (oa 2)) (C := RX1) (T := TX1) (N := 9) hx hb hts iX1_copyFrom_X1 hown hK hP 8 rfl rfl 1 (by decide) (hts _ qX1_copyFrom_4) (fun _ h9 => h9) rfl dX1_copyFrom_44 ?_
        refine lv_iload_n hx hb dX1_copyFrom_47 rfl (lv_at hl 2 rfl) ?_
        obtain ⟨g48, h⟩ := tw_gs h
        refine va_iald (f := O.2.1) (n := 12) hx hb hK hP 10 0 rfl rfl g48 dX1_copyFrom_48 ?_
        obtain ⟨g49, h⟩ := tw_gs h
        refine tw_iast (ws' := (tw_wS cI sa ((upd S.1 v2.toNatClampNeg (O.1 v2.toNatClampNeg)), (upd S.2.1 v2.toNatClampNeg (O.2.1 v2.toNatClampNeg)), S.2.2.1, S.2.2.2.1, S.2.2.2.2.1, S.2.2.2.2.2.1, S.2.2.2.2.2.2.1, S.2.2.2.2.2.2.2.1, S.2.2.2.2.2.2.2.2) ++ tw_wS cI oa O)) (f := S.2.1) (n := 12) hx hb hK hP hD hS 2 0 rfl rfl g49 dX1_copyFrom_49 rfl (fun H locs hP hD hS => ?_)
        refine lv_aload_n hx hb dX1_copyFrom_50 rfl (lv_at hl 0 rfl) ?_
        refine va_get (D := G) (ci := 1) (v := .ref (sa 3)) (C := RX1) (T := TX1) (N := 9) hx hb hts iX1_copyFrom_X1 hown hK hP 0 rfl rfl 2 (by decide) (hts _ qX1_copyFrom_5) (fun _ h9 => h9) rfl dX1_copyFrom_51 ?_
        refine lv_iload_n hx hb dX1_copyFrom_54 rfl (lv_at hl 2 rfl) ?_
        refine lv_aload_n hx hb dX1_copyFrom_55 rfl (lv_at hl 1 rfl) ?_
        refine va_get (D := G) (ci := 1) (v := .ref (oa 3)) (C := RX1) (T := TX1) (N := 9) hx hb hts iX1_copyFrom_X1 hown hK hP 8 rfl rfl 2 (by decide) (hts _ qX1_copyFrom_5) (fun _ h9 => h9) rfl dX1_copyFrom_56 ?_
        refine lv_iload_n hx hb dX1_copyFrom_59 rfl (lv_at hl 2 rfl) ?_
        obtain ⟨g60, h⟩ := tw_gs h
        refine va_iald (f := O.2.2.1) (n := 12) hx hb hK hP 11 0 rfl rfl g60 dX1_copyFrom_60 ?_
        obtain ⟨g61, h⟩ := tw_gs h
        refine tw_iast (ws' := (tw_wS cI sa ((upd S.1 v2.toNatClampNeg (O.1 v2.toNatClampNeg)), (upd S.2.1 v2.toNatClampNeg (O.2.1 v2.toNatClampNeg)), (upd S.2.2.1 v2.toNatClampNeg (O.2.2.1 v2.toNatClampNeg)), S.2.2.2.1, S.2.2.2.2.1, S.2.2.2.2.2.1, S.2.2.2.2.2.2.1, S.2.2.2.2.2.2.2.1, S.2.2.2.2.2.2.2.2) ++ tw_wS cI oa O)) (f := S.2.2.1) (n := 12) hx hb hK hP hD hS 3 0 rfl rfl g61 dX1_copyFrom_61 rfl (fun H locs hP hD hS => ?_)
        refine lv_aload_n hx hb dX1_copyFrom_62 rfl (lv_at hl 0 rfl) ?_
        refine va_get (D := G) (ci := 1) (v := .ref (sa 4)) (C := RX1) (T := TX1) (N := 9) hx hb hts iX1_copyFrom_X1 hown hK hP 0 rfl rfl 3 (by decide) (hts _ qX1_copyFrom_6) (fun _ h9 => h9) rfl dX1_copyFrom_63 ?_
        refine lv_iload_n hx hb dX1_copyFrom_66 rfl (lv_at hl 2 rfl) ?_
        refine lv_aload_n hx hb dX1_copyFrom_67 rfl (lv_at hl 1 rfl) ?_
        refine va_get (D := G) (ci := 1) (v := .ref (oa 4)) (C := RX1) (T := TX1) (N := 9) hx hb hts iX1_copyFrom_X1 hown hK hP 8 rfl rfl 3 (by decide) (hts _ qX1_copyFrom_6) (fun _ h9 => h9) rfl dX1_copyFrom_68 ?_
        refine lv_iload_n hx hb dX1_copyFrom_71 rfl (lv_at hl 2 rfl) ?_
        obtain ⟨g72, h⟩ := tw_gs h
        refine va_iald (f := O.2.2.2.1) (n := 12) hx hb hK hP 12 0 rfl rfl g72 dX1_copyFrom_72 ?_
        obtain ⟨g73, h⟩ := tw_gs h
        refine tw_iast (ws' := (tw_wS cI sa ((upd S.1 v2.toNatClampNeg (O.1 v2.toNatClampNeg)), (upd S.2.1 v2.toNatClampNeg (O.2.1 v2.toNatClampNeg)), (upd S.2.2.1 v2.toNatClampNeg (O.2.2.1 v2.toNatClampNeg)), (upd S.2.2.2.1 v2.toNatClampNeg (O.2.2.2.1 v2.toNatClampNeg)), S.2.2.2.2.1, S.2.2.2.2.2.1, S.2.2.2.2.2.2.1, S.2.2.2.2.2.2.2.1, S.2.2.2.2.2.2.2.2) ++ tw_wS cI oa O)) (f := S.2.2.2.1) (n := 12) hx hb hK hP hD hS 4 0 rfl rfl g73 dX1_copyFrom_73 rfl (fun H locs hP hD hS => ?_)
        refine lv_aload_n hx hb dX1_copyFrom_74 rfl (lv_at hl 0 rfl) ?_
        refine va_get (D := G) (ci := 1) (v := .ref (sa 5)) (C := RX1) (T := TX1) (N := 9) hx hb hts iX1_copyFrom_X1 hown hK hP 0 rfl rfl 4 (by decide) (hts _ qX1_copyFrom_7) (fun _ h9 => h9) rfl dX1_copyFrom_75 ?_
        refine lv_iload_n hx hb dX1_copyFrom_78 rfl (lv_at hl 2 rfl) ?_
        refine lv_aload_n hx hb dX1_copyFrom_79 rfl (lv_at hl 1 rfl) ?_
        refine va_get (D := G) (ci := 1) (v := .ref (oa 5)) (C := RX1) (T := TX1) (N := 9) hx hb hts iX1_copyFrom_X1 hown hK hP 8 rfl rfl 4 (by decide) (hts _ qX1_copyFrom_7) (fun _ h9 => h9) rfl dX1_copyFrom_80 ?_
        refine lv_iload_n hx hb dX1_copyFrom_83 rfl (lv_at hl 2 rfl) ?_
        obtain ⟨g84, h⟩ := tw_gs h
        refine va_iald (f := O.2.2.2.2.1) (n := 12) hx hb hK hP 13 0 rfl rfl g84 dX1_copyFrom_84 ?_
        obtain ⟨g85, h⟩ := tw_gs h
        refine tw_iast (ws' := (tw_wS cI sa ((upd S.1 v2.toNatClampNeg (O.1 v2.toNatClampNeg)), (upd S.2.1 v2.toNatClampNeg (O.2.1 v2.toNatClampNeg)), (upd S.2.2.1 v2.toNatClampNeg (O.2.2.1 v2.toNatClampNeg)), (upd S.2.2.2.1 v2.toNatClampNeg (O.2.2.2.1 v2.toNatClampNeg)), (upd S.2.2.2.2.1 v2.toNatClampNeg (O.2.2.2.2.1 v2.toNatClampNeg)), S.2.2.2.2.2.1, S.2.2.2.2.2.2.1, S.2.2.2.2.2.2.2.1, S.2.2.2.2.2.2.2.2) ++ tw_wS cI oa O)) (f := S.2.2.2.2.1) (n := 12) hx hb hK hP hD hS 5 0 rfl rfl g85 dX1_copyFrom_85 rfl (fun H locs hP hD hS => ?_)
        refine lv_iinc (v := (v2 + 1)) (lv' := [(2, .int (v2 + 1)), (0, .ref (sa 0)), (1, .ref (oa 0))]) hx hb dX1_copyFrom_86 hl (k := 2) rfl rfl (by decide) rfl (fun ls hl => ?_)
        refine lv_goto (tgt := 18) hx hb dX1_copyFrom_89 (by decide) ?_
        exact ih18 (v2 + 1) ((upd S.1 v2.toNatClampNeg (O.1 v2.toNatClampNeg)), (upd S.2.1 v2.toNatClampNeg (O.2.1 v2.toNatClampNeg)), (upd S.2.2.1 v2.toNatClampNeg (O.2.2.1 v2.toNatClampNeg)), (upd S.2.2.2.1 v2.toNatClampNeg (O.2.2.2.1 v2.toNatClampNeg)), (upd S.2.2.2.2.1 v2.toNatClampNeg (O.2.2.2.2.1 v2.toNatClampNeg)), S.2.2.2.2.2.1, S.2.2.2.2.2.2.1, S.2.2.2.2.2.2.2.1, S.2.2.2.2.2.2.2.2) H locs ls h (lv_sub hl [1, 2, 0] rfl) hP hD hS
  refine lv_aload_n hx hb dX1_copyFrom_0 rfl (lv_at hl 0 rfl) ?_
  refine lv_aload_n hx hb dX1_copyFrom_1 rfl (lv_at hl 1 rfl) ?_
  refine va_get (D := G) (ci := 1) (v := .int O.2.2.2.2.2.2.2.1) (C := RX1) (T := TX1) (N := 9) hx hb hts iX1_copyFrom_X1 hown hK hP 8 rfl rfl 7 (by decide) (hts _ qX1_copyFrom_2) (fun _ h9 => h9) rfl dX1_copyFrom_2 ?_
  refine tw_put (ws' := (tw_wS cI sa (S.1, S.2.1, S.2.2.1, S.2.2.2.1, S.2.2.2.2.1, S.2.2.2.2.2.1, S.2.2.2.2.2.2.1, O.2.2.2.2.2.2.2.1, S.2.2.2.2.2.2.2.2) ++ tw_wS cI oa O)) (D := G) (ci := 1) (v := .int O.2.2.2.2.2.2.2.1) (ty := .int) (C := RX1) (T := TX1) (N := 9) hx hb hts iX1_copyFrom_X1 tyX1 tyX1_ok nmX1 hown hK hP hD hS 0 rfl rfl 7 (by decide) (hts _ qX1_copyFrom_2) (fun _ h9 => h9) rfl (by decide +kernel) rfl rfl (Nat.le_of_ble_eq_true rfl) dX1_copyFrom_5 rfl (fun H locs hP hD hS => ?_)
  refine lv_aload_n hx hb dX1_copyFrom_8 rfl (lv_at hl 0 rfl) ?_
  refine lv_aload_n hx hb dX1_copyFrom_9 rfl (lv_at hl 1 rfl) ?_
  refine va_get (D := G) (ci := 1) (v := .int O.2.2.2.2.2.2.2.2) (C := RX1) (T := TX1) (N := 9) hx hb hts iX1_copyFrom_X1 hown hK hP 8 rfl rfl 8 (by decide) (hts _ qX1_copyFrom_8) (fun _ h9 => h9) rfl dX1_copyFrom_10 ?_
  refine tw_put (ws' := (tw_wS cI sa (S.1, S.2.1, S.2.2.1, S.2.2.2.1, S.2.2.2.2.1, S.2.2.2.2.2.1, S.2.2.2.2.2.2.1, O.2.2.2.2.2.2.2.1, O.2.2.2.2.2.2.2.2) ++ tw_wS cI oa O)) (D := G) (ci := 1) (v := .int O.2.2.2.2.2.2.2.2) (ty := .int) (C := RX1) (T := TX1) (N := 9) hx hb hts iX1_copyFrom_X1 tyX1 tyX1_ok nmX1 hown hK hP hD hS 0 rfl rfl 8 (by decide) (hts _ qX1_copyFrom_8) (fun _ h9 => h9) rfl (by decide +kernel) rfl rfl (Nat.le_of_ble_eq_true rfl) dX1_copyFrom_13 rfl (fun H locs hP hD hS => ?_)
  refine lv_iconst (v := (0 : Int32)) hx hb dX1_copyFrom_16 (by decide) ?_
  refine lv_istore_n (lv' := [(2, .int (0 : Int32)), (0, .ref (sa 0)), (1, .ref (oa 0))]) hx hb dX1_copyFrom_17 rfl hl (by decide) rfl (fun ls hl => ?_)
  exact L18 512 (0 : Int32) (S.1, S.2.1, S.2.2.1, S.2.2.2.1, S.2.2.2.2.1, S.2.2.2.2.2.1, S.2.2.2.2.2.2.1, O.2.2.2.2.2.2.2.1, O.2.2.2.2.2.2.2.2) H locs ls h (lv_sub hl [1, 2, 0] rfl) hP hD hS
