abbrev rmX0_startOf : Room := { frames := 1, cells := 0, slots := 0, locals := 22 }
set_option maxRecDepth 20000 in
theorem qX0_startOf_0 : (Cond.fieldLink RX0 9 "TheatreWall$Plan" "begins" "[I") ∈ wsX0_startOf := (List.mem_cons_of_mem _ (List.mem_append_left _ (List.mem_append_left _ (List.mem_of_getElem? (i := 1) rfl))))
set_option maxRecDepth 20000 in
theorem qX0_startOf_1 : (Cond.fieldLink RX0 44 "TheatreWall$State" "lengths" "[I") ∈ wsX0_startOf := (List.mem_cons_of_mem _ (List.mem_append_left _ (List.mem_append_left _ (List.mem_of_getElem? (i := 2) rfl))))
set_option maxRecDepth 20000 in
theorem qX0_startOf_2 : (Cond.methodLink RX0 47 yJ9_max_7cf53) ∈ wsX0_startOf := (List.mem_cons_of_mem _ (List.mem_append_left _ (List.mem_append_left _ (List.mem_of_getElem? (i := 3) rfl))))
set_option maxRecDepth 20000 in
theorem qX0_startOf_3 : (Cond.static yJ9_max_7cf53) ∈ wsX0_startOf := (List.mem_cons_of_mem _ (List.mem_append_left _ (List.mem_append_left _ (List.mem_of_getElem? (i := 4) rfl))))
set_option maxRecDepth 20000 in
theorem qX0_startOf_4 : (Cond.initialized RJ9) ∈ wsX0_startOf := (List.mem_cons_of_mem _ (List.mem_append_left _ (List.mem_append_left _ (List.mem_of_getElem? (i := 5) rfl))))
set_option maxRecDepth 20000 in
theorem qX0_startOf_5 : (Cond.code Lib.Math.max.name Lib.Math.max.code 2 (some .int)) ∈ wsX0_startOf := (List.mem_cons_of_mem _ (List.mem_append_left _ (List.mem_append_left _ (List.mem_of_getElem? (i := 6) rfl))))
set_option maxRecDepth 20000 in
theorem qX0_startOf_6 : (Cond.fieldLink RX0 76 "TheatreWall$State" "earliest" "[I") ∈ wsX0_startOf := (List.mem_cons_of_mem _ (List.mem_append_left _ (List.mem_append_left _ (List.mem_of_getElem? (i := 0) rfl))))
set_option maxRecDepth 20000 in
theorem iX0_startOf_X0 : ∀ w ∈ u_ws RX0 TX0 5, w ∈ wsX0_startOf := fun w h => (List.mem_cons_of_mem _ (List.mem_append_right _ h))
set_option maxRecDepth 20000 in
theorem iX0_startOf_X1 : ∀ w ∈ u_ws RX1 TX1 9, w ∈ wsX0_startOf := fun w h => (List.mem_cons_of_mem _ (List.mem_append_left _ (List.mem_append_right _ h)))
set_option maxHeartbeats 4000000 in
set_option maxRecDepth 100000 in
theorem mX0_startOf (l : Launch) (G : va_G) (cI : ClassId) (pa : Nat → Nat) (sa : Nat → Nat) (P : tw_Pl) (S : tw_St) (sz : Nat) (p2 : Int32) {rv : Int32} (h : fX0_startOf P S p2 = some rv) : tw_Mi l yX0_startOf wsX0_startOf rmX0_startOf G [(cI, .int)] (tw_wP cI pa P ++ tw_wS cI sa S) [.ref (pa 0), .ref (sa 0), .int p2] sz rv (tw_wP cI pa P ++ tw_wS cI sa S) := by
  refine tw_ofi (ty := .int) (cc := cX0_startOf) (maxL := 5) (own := RX0) (by decide) rfl rfl (Nat.le_of_ble_eq_true rfl) ?_
  intro p e s m args below meth c Q A ls H locs F hN hK hP hD hS hA hl hq
  obtain ⟨hx, hb, hml, hown, hts⟩ := id F
  have hl : lv_has ls 5 [(0, .ref (pa 0)), (1, .ref (sa 0)), (2, .int p2)] := hl
  unfold fX0_startOf at h
  have L10 : ∀ (n10 : Nat) (v3 : Int32) (v4 : Int32) (H : Heap) (locs : List Loc) (ls : Array Slot), fX0_startOf_10 P S p2 n10 v3 v4 = some rv → lv_has ls 5 [(0, .ref (pa 0)), (1, .ref (sa 0)), (2, .int p2), (3, .int v3), (4, .int v4)] → va_P G vwCl (tw_wP cI pa P ++ tw_wS cI sa S) H → va_D A (tw_wP cI pa P ++ tw_wS cI sa S) → va_S A s.heap H locs → W p l e rmX0_startOf s m args below meth c H locs 0 0 Q (F0 m 10 ls []) := by
    intro n10
    induction n10 with
    | zero =>
      intro v3 v4 H locs ls h
      rw [fX0_startOf_10] at h
      cases h
    | succ n10 ih10 =>
      intro v3 v4 H locs ls h hl hP hD hS
      rw [fX0_startOf_10] at h
      refine lv_iload hx hb dX0_startOf_10 (lv_at hl 4 rfl) ?_
      refine lv_iload_n hx hb dX0_startOf_12 rfl (lv_at hl 2 rfl) ?_
      refine lv_icmp_ge (tgt := 63) hx hb dX0_startOf_13 (by decide) (fun c13 => ?_) (fun c13 => ?_)
      · replace h := tw_t c13 h
        refine lv_iload_n hx hb dX0_startOf_63 rfl (lv_at hl 3 rfl) ?_
        exact hq H locs _ ls v3 (tw_rt (fun r => r = v3) h rfl) rfl hP hS dX0_startOf_64
      · replace h := tw_f c13 h
        refine lv_aload_n hx hb dX0_startOf_16 rfl (lv_at hl 0 rfl) ?_
        refine va_get (D := G) (ci := 0) (v := .ref (pa 1)) (C := RX0) (T := TX0) (N := 5) hx hb hts iX0_startOf_X0 hown hK hP 0 rfl rfl 0 (by decide) (hts _ qX0_startOf_0) (fun _ h9 => h9) rfl dX0_startOf_17 ?_
        refine lv_iload hx hb dX0_startOf_20 (lv_at hl 4 rfl) ?_
        obtain ⟨g22, h⟩ := tw_gs h
        refine va_iald (f := P.1) (n := 12) hx hb hK hP 1 0 rfl rfl g22 dX0_startOf_22 ?_
        refine lv_iconst (v := (-1 : Int32)) hx hb dX0_startOf_23 (by decide) ?_
        refine lv_icmp_eq (tgt := 57) hx hb dX0_startOf_24 (by decide) (fun c24 => ?_) (fun c24 => ?_)
        · replace h := tw_t c24 h
          refine lv_iinc (v := (v4 + 1)) (lv' := [(4, .int (v4 + 1)), (0, .ref (pa 0)), (1, .ref (sa 0)), (2, .int p2), (3, .int v3)]) hx hb dX0_startOf_57 hl (k := 4) rfl rfl (by decide) rfl (fun ls hl => ?_)
          refine lv_goto (tgt := 10) hx hb dX0_startOf_60 (by decide) ?_
          exact ih10 v3 (v4 + 1) H locs ls h (lv_sub hl [1, 2, 3, 4, 0] rfl) hP hD hS
        · replace h := tw_f c24 h
          refine lv_aload_n hx hb dX0_startOf_27 rfl (lv_at hl 1 rfl) ?_
          refine lv_iload_n hx hb dX0_startOf_28 rfl (lv_at hl 2 rfl) ?_
          refine lv_iload hx hb dX0_startOf_29 (lv_at hl 4 rfl) ?_
          obtain ⟨r31, e31, h⟩ := tw_bs h
          refine tw_callVi (ws' := (tw_wP cI pa P ++ tw_wS cI sa S)) (As := [.int p2, .int v4]) (rest := []) F hN hK hP hD hS hA (mX1_isNeeded l G cI sa S H.size p2 v4 e31) (cwV 2 hts gX0_startOf_X1_isNeeded rfl rfl rfl (by decide +kernel) ⟨(Nat.le_of_ble_eq_true rfl), (Nat.le_of_ble_eq_true rfl)⟩) [0] rfl [3, 4, 5, 6, 7, 8, 9, 10] (by decide) rfl rfl rfl (r0 := 0) (ci := 1) rfl rfl rfl rfl hl.1 rfl (Nat.le_of_ble_eq_true rfl) dX0_startOf_31 ⟨Nat.zero_le _, Nat.zero_le _⟩ (fun H locs hP hD hS => ?_)
          refine lv_if_eq (tgt := 57) hx hb dX0_startOf_34 (by decide) (fun c34 => ?_) (fun c34 => ?_)
          · replace h := tw_t c34 h
            refine lv_iinc (v := (v4 + 1)) (lv' := [(4, .int (v4 + 1)), (0, .ref (pa 0)), (1, .ref (sa 0)), (2, .int p2), (3, .int v3)]) hx hb dX0_startOf_57 hl (k := 4) rfl rfl (by decide) rfl (fun ls hl => ?_)
            refine lv_goto (tgt := 10) hx hb dX0_startOf_60 (by decide) ?_
            exact ih10 v3 (v4 + 1) H locs ls h (lv_sub hl [1, 2, 3, 4, 0] rfl) hP hD hS
          · replace h := tw_f c34 h
            refine lv_iload_n hx hb dX0_startOf_37 rfl (lv_at hl 3 rfl) ?_
            refine lv_aload_n hx hb dX0_startOf_38 rfl (lv_at hl 0 rfl) ?_
            refine va_get (D := G) (ci := 0) (v := .ref (pa 1)) (C := RX0) (T := TX0) (N := 5) hx hb hts iX0_startOf_X0 hown hK hP 0 rfl rfl 0 (by decide) (hts _ qX0_startOf_0) (fun _ h9 => h9) rfl dX0_startOf_39 ?_
            refine lv_iload hx hb dX0_startOf_42 (lv_at hl 4 rfl) ?_
            obtain ⟨g44, h⟩ := tw_gs h
            refine va_iald (f := P.1) (n := 12) hx hb hK hP 1 0 rfl rfl g44 dX0_startOf_44 ?_
            refine lv_aload_n hx hb dX0_startOf_45 rfl (lv_at hl 1 rfl) ?_
            refine va_get (D := G) (ci := 1) (v := .ref (sa 1)) (C := RX1) (T := TX1) (N := 9) hx hb hts iX0_startOf_X1 hown hK hP 3 rfl rfl 0 (by decide) (hts _ qX0_startOf_1) (fun _ h9 => h9) rfl dX0_startOf_46 ?_
            refine lv_iload hx hb dX0_startOf_49 (lv_at hl 4 rfl) ?_
            obtain ⟨g51, h⟩ := tw_gs h
            refine va_iald (f := S.1) (n := 12) hx hb hK hP 4 0 rfl rfl g51 dX0_startOf_51 ?_
            refine lv_iadd hx hb dX0_startOf_52 ?_
            refine va_mmax hx hb (hml.trans hl.1.symm) hown (hts _ qX0_startOf_2) (hts _ qX0_startOf_3) (hts _ qX0_startOf_4) (hts _ qX0_startOf_5) (Nat.le_of_ble_eq_true rfl) (Nat.le_of_ble_eq_true rfl) (Nat.zero_le _) (Nat.zero_le _) dX0_startOf_53 ?_
            refine lv_istore_n (lv' := [(3, .int (if v3 < ((P.1 v4.toNatClampNeg) + (S.1 v4.toNatClampNeg)) then ((P.1 v4.toNatClampNeg) + (S.1 v4.toNatClampNeg)) else v3)), (0, .ref (pa 0)), (1, .ref (sa 0)), (2, .int p2), (4, .int v4)]) hx hb dX0_startOf_56 rfl hl (by decide) rfl (fun ls hl => ?_)
            refine lv_iinc (v := (v4 + 1)) (lv' := [(4, .int (v4 + 1)), (3, .int (if v3 < ((P.1 v4.toNatClampNeg) + (S.1 v4.toNatClampNeg)) then ((P.1 v4.toNatClampNeg) + (S.1 v4.toNatClampNeg)) else v3)), (0, .ref (pa 0)), (1, .ref (sa 0)), (2, .int p2)]) hx hb dX0_startOf_57 hl (k := 4) rfl rfl (by decide) rfl (fun ls hl => ?_)
            refine lv_goto (tgt := 10) hx hb dX0_startOf_60 (by decide) ?_
            exact ih10 (if v3 < ((P.1 v4.toNatClampNeg) + (S.1 v4.toNatClampNeg)) then ((P.1 v4.toNatClampNeg) + (S.1 v4.toNatClampNeg)) else v3) (v4 + 1) H locs ls h (lv_sub hl [2, 3, 4, 1, 0] rfl) hP hD hS
  refine lv_aload_n hx hb dX0_startOf_0 rfl (lv_at hl 1 rfl) ?_
  refine va_get (D := G) (ci := 1) (v := .ref (sa 4)) (C := RX1) (T := TX1) (N := 9) hx hb hts iX0_startOf_X1 hown hK hP 3 rfl rfl 3 (by decide) (hts _ qX0_startOf_6) (fun _ h9 => h9) rfl dX0_startOf_1 ?_
  refine lv_iload_n hx hb dX0_startOf_4 rfl (lv_at hl 2 rfl) ?_
  obtain ⟨g5, h⟩ := tw_gs h
  refine va_iald (f := S.2.2.2.1) (n := 12) hx hb hK hP 7 0 rfl rfl g5 dX0_startOf_5 ?_
  refine lv_istore_n (lv' := [(3, .int (S.2.2.2.1 p2.toNatClampNeg)), (0, .ref (pa 0)), (1, .ref (sa 0)), (2, .int p2)]) hx hb dX0_startOf_6 rfl hl (by decide) rfl (fun ls hl => ?_)
  refine lv_iconst (v := (0 : Int32)) hx hb dX0_startOf_7 (by decide) ?_
  refine lv_istore (lv' := [(4, .int (0 : Int32)), (3, .int (S.2.2.2.1 p2.toNatClampNeg)), (0, .ref (pa 0)), (1, .ref (sa 0)), (2, .int p2)]) hx hb dX0_startOf_8 hl (by decide) rfl (fun ls hl => ?_)
  exact L10 512 (S.2.2.2.1 p2.toNatClampNeg) (0 : Int32) H locs ls h (lv_sub hl [2, 3, 4, 1, 0] rfl) hP hD hS
abbrev rmX0_behindClash : Room := { frames := 1, cells := 0, slots := 0, locals := 24 }
set_option maxRecDepth 20000 in
theorem qX0_behindClash_0 : (Cond.fieldLink RX0 28 "TheatreWall$State" "size" "I") ∈ wsX0_behindClash := (List.mem_cons_of_mem _ (List.mem_append_left _ (List.mem_append_left _ (List.mem_of_getElem? (i := 1) rfl))))
set_option maxRecDepth 20000 in
theorem qX0_behindClash_1 : (Cond.fieldLink RX0 9 "TheatreWall$Plan" "begins" "[I") ∈ wsX0_behindClash := (List.mem_cons_of_mem _ (List.mem_append_left _ (List.mem_append_left _ (List.mem_of_getElem? (i := 2) rfl))))
set_option maxRecDepth 20000 in
theorem qX0_behindClash_2 : (Cond.fieldLink RX0 44 "TheatreWall$State" "lengths" "[I") ∈ wsX0_behindClash := (List.mem_cons_of_mem _ (List.mem_append_left _ (List.mem_append_left _ (List.mem_of_getElem? (i := 0) rfl))))
set_option maxRecDepth 20000 in
theorem iX0_behindClash_X1 : ∀ w ∈ u_ws RX1 TX1 9, w ∈ wsX0_behindClash := fun w h => (List.mem_cons_of_mem _ (List.mem_append_left _ (List.mem_append_right _ h)))
set_option maxRecDepth 20000 in
theorem iX0_behindClash_X0 : ∀ w ∈ u_ws RX0 TX0 5, w ∈ wsX0_behindClash := fun w h => (List.mem_cons_of_mem _ (List.mem_append_right _ h))
set_option maxHeartbeats 4000000 in
set_option maxRecDepth 100000 in
theorem mX0_behindClash (l : Launch) (G : va_G) (cI : ClassId) (pa : Nat → Nat) (sa : Nat → Nat) (P : tw_Pl) (S : tw_St) (sz : Nat) (p2 : Int32) (p3 : Int32) {rv : Int32} (h : fX0_behindClash P S p2 p3 = some rv) : tw_Mi l yX0_behindClash wsX0_behindClash rmX0_behindClash G [(cI, .int)] (tw_wP cI pa P ++ tw_wS cI sa S) [.ref (pa 0), .ref (sa 0), .int p2, .int p3] sz rv (tw_wP cI pa P ++ tw_wS cI sa S) := by
  refine tw_ofi (ty := .int) (cc := cX0_behindClash) (maxL := 8) (own := RX0) (by decide) rfl rfl (Nat.le_of_ble_eq_true rfl) ?_
  intro p e s m args below meth c Q A ls H locs F hN hK hP hD hS hA hl hq
  obtain ⟨hx, hb, hml, hown, hts⟩ := id F
  have hl : lv_has ls 8 [(0, .ref (pa 0)), (1, .ref (sa 0)), (2, .int p2), (3, .int p3)] := hl
  unfold fX0_behindClash at h
  have L13 : ∀ (n13 : Nat) (v4 : Int32) (v5 : Int32) (H : Heap) (locs : List Loc) (ls : Array Slot), fX0_behindClash_13 P S p2 p3 n13 v4 v5 = some rv → lv_has ls 8 [(0, .ref (pa 0)), (1, .ref (sa 0)), (2, .int p2), (3, .int p3), (4, .int v4), (5, .int v5)] → va_P G vwCl (tw_wP cI pa P ++ tw_wS cI sa S) H → va_D A (tw_wP cI pa P ++ tw_wS cI sa S) → va_S A s.heap H locs → W p l e rmX0_behindClash s m args below meth c H locs 0 0 Q (F0 m 13 ls []) := by
    intro n13
    induction n13 with
    | zero =>
      intro v4 v5 H locs ls h
      rw [fX0_behindClash_13] at h
      cases h
    | succ n13 ih13 =>
      intro v4 v5 H locs ls h hl hP hD hS
      rw [fX0_behindClash_13] at h
      refine lv_iload hx hb dX0_behindClash_13 (lv_at hl 5 rfl) ?_
      refine lv_aload_n hx hb dX0_behindClash_15 rfl (lv_at hl 1 rfl) ?_
      refine va_get (D := G) (ci := 1) (v := .int S.2.2.2.2.2.2.2.1) (C := RX1) (T := TX1) (N := 9) hx hb hts iX0_behindClash_X1 hown hK hP 3 rfl rfl 7 (by decide) (hts _ qX0_behindClash_0) (fun _ h9 => h9) rfl dX0_behindClash_16 ?_
      refine lv_icmp_ge (tgt := 81) hx hb dX0_behindClash_19 (by decide) (fun c19 => ?_) (fun c19 => ?_)
      · replace h := tw_t c19 h
        refine lv_iload_n hx hb dX0_behindClash_81 rfl (lv_at hl 3 rfl) ?_
        exact hq H locs _ ls p3 (tw_rt (fun r => r = p3) h rfl) rfl hP hS dX0_behindClash_82
      · replace h := tw_f c19 h
        refine lv_aload_n hx hb dX0_behindClash_22 rfl (lv_at hl 0 rfl) ?_
        refine va_get (D := G) (ci := 0) (v := .ref (pa 1)) (C := RX0) (T := TX0) (N := 5) hx hb hts iX0_behindClash_X0 hown hK hP 0 rfl rfl 0 (by decide) (hts _ qX0_behindClash_1) (fun _ h9 => h9) rfl dX0_behindClash_23 ?_
        refine lv_iload hx hb dX0_behindClash_26 (lv_at hl 5 rfl) ?_
        obtain ⟨g28, h⟩ := tw_gs h
        refine va_iald (f := P.1) (n := 12) hx hb hK hP 1 0 rfl rfl g28 dX0_behindClash_28 ?_
        refine lv_istore (lv' := [(6, .int (P.1 v5.toNatClampNeg)), (0, .ref (pa 0)), (1, .ref (sa 0)), (2, .int p2), (3, .int p3), (4, .int v4), (5, .int v5)]) hx hb dX0_behindClash_29 hl (by decide) rfl (fun ls hl => ?_)
        refine lv_iload hx hb dX0_behindClash_31 (lv_at hl 0 rfl) ?_
        refine lv_aload_n hx hb dX0_behindClash_33 rfl (lv_at hl 2 rfl) ?_
        refine va_get (D := G) (ci := 1) (v := .ref (sa 1)) (C := RX1) (T := TX1) (N := 9) hx hb hts iX0_behindClash_X1 hown hK hP 3 rfl rfl 0 (by decide) (hts _ qX0_behindClash_2) (fun _ h9 => h9) rfl dX0_behindClash_34 ?_
        refine lv_iload hx hb dX0_behindClash_37 (lv_at hl 6 rfl) ?_
        obtain ⟨g39, h⟩ := tw_gs h
        refine va_iald (f := S.1) (n := 12) hx hb hK hP 4 0 rfl rfl g39 dX0_behindClash_39 ?_
        refine lv_iadd hx hb dX0_behindClash_40 ?_
        refine lv_istore (lv' := [(7, .int ((P.1 v5.toNatClampNeg) + (S.1 v5.toNatClampNeg))), (6, .int (P.1 v5.toNatClampNeg)), (0, .ref (pa 0)), (1, .ref (sa 0)), (2, .int p2), (3, .int p3), (4, .int v4), (5, .int v5)]) hx hb dX0_behindClash_41 hl (by decide) rfl (fun ls hl => ?_)
        refine lv_iload hx hb dX0_behindClash_43 (lv_at hl 1 rfl) ?_
        refine lv_iconst (v := (-1 : Int32)) hx hb dX0_behindClash_45 (by decide) ?_
        refine lv_icmp_eq (tgt := 75) hx hb dX0_behindClash_46 (by decide) (fun c46 => ?_) (fun c46 => ?_)
        · replace h := tw_t c46 h
          refine lv_iinc (v := (v5 + 1)) (lv' := [(5, .int (v5 + 1)), (7, .int ((P.1 v5.toNatClampNeg) + (S.1 v5.toNatClampNeg))), (6, .int (P.1 v5.toNatClampNeg)), (0, .ref (pa 0)), (1, .ref (sa 0)), (2, .int p2), (3, .int p3), (4, .int v4)]) hx hb dX0_behindClash_75 hl (k := 7) rfl rfl (by decide) rfl (fun ls hl => ?_)
          refine lv_goto (tgt := 13) hx hb dX0_behindClash_78 (by decide) ?_
          exact ih13 v4 (v5 + 1) H locs ls h (lv_sub hl [3, 4, 5, 6, 7, 0] rfl) hP hD hS
        · replace h := tw_f c46 h
          refine lv_iload hx hb dX0_behindClash_49 (lv_at hl 1 rfl) ?_
          refine lv_iload hx hb dX0_behindClash_51 (lv_at hl 6 rfl) ?_
          refine lv_icmp_ge (tgt := 75) hx hb dX0_behindClash_53 (by decide) (fun c53 => ?_) (fun c53 => ?_)
          · replace h := tw_t c53 h
            refine lv_iinc (v := (v5 + 1)) (lv' := [(5, .int (v5 + 1)), (7, .int ((P.1 v5.toNatClampNeg) + (S.1 v5.toNatClampNeg))), (6, .int (P.1 v5.toNatClampNeg)), (0, .ref (pa 0)), (1, .ref (sa 0)), (2, .int p2), (3, .int p3), (4, .int v4)]) hx hb dX0_behindClash_75 hl (k := 7) rfl rfl (by decide) rfl (fun ls hl => ?_)
            refine lv_goto (tgt := 13) hx hb dX0_behindClash_78 (by decide) ?_
            exact ih13 v4 (v5 + 1) H locs ls h (lv_sub hl [3, 4, 5, 6, 7, 0] rfl) hP hD hS
          · replace h := tw_f c53 h
            refine lv_iload_n hx hb dX0_behindClash_56 rfl (lv_at hl 5 rfl) ?_
            refine lv_iload hx hb dX0_behindClash_57 (lv_at hl 0 rfl) ?_
            refine lv_icmp_ge (tgt := 75) hx hb dX0_behindClash_59 (by decide) (fun c59 => ?_) (fun c59 => ?_)
            · replace h := tw_t c59 h
              refine lv_iinc (v := (v5 + 1)) (lv' := [(5, .int (v5 + 1)), (7, .int ((P.1 v5.toNatClampNeg) + (S.1 v5.toNatClampNeg))), (6, .int (P.1 v5.toNatClampNeg)), (0, .ref (pa 0)), (1, .ref (sa 0)), (2, .int p2), (3, .int p3), (4, .int v4)]) hx hb dX0_behindClash_75 hl (k := 7) rfl rfl (by decide) rfl (fun ls hl => ?_)
              refine lv_goto (tgt := 13) hx hb dX0_behindClash_78 (by decide) ?_
              exact ih13 v4 (v5 + 1) H locs ls h (lv_sub hl [3, 4, 5, 6, 7, 0] rfl) hP hD hS
            · replace h := tw_f c59 h
              refine lv_aload_n hx hb dX0_behindClash_62 rfl (lv_at hl 3 rfl) ?_
              refine lv_iload_n hx hb dX0_behindClash_63 rfl (lv_at hl 4 rfl) ?_
              refine lv_iload hx hb dX0_behindClash_64 (lv_at hl 7 rfl) ?_
              obtain ⟨r66, e66, h⟩ := tw_bs h
              refine tw_callVi (ws' := (tw_wP cI pa P ++ tw_wS cI sa S)) (As := [.int p2, .int v5]) (rest := []) F hN hK hP hD hS hA (mX1_share l G cI sa S H.size p2 v5 e66) (cwV 2 hts gX0_behindClash_X1_share rfl rfl rfl (by decide +kernel) ⟨(Nat.le_of_ble_eq_true rfl), (Nat.le_of_ble_eq_true rfl)⟩) [0] rfl [3, 4, 5, 6, 7, 8, 9, 10] (by decide) rfl rfl rfl (r0 := 0) (ci := 1) rfl rfl rfl rfl hl.1 rfl (Nat.le_of_ble_eq_true rfl) dX0_behindClash_66 ⟨Nat.zero_le _, Nat.zero_le _⟩ (fun H locs hP hD hS => ?_)
              refine lv_if_eq (tgt := 75) hx hb dX0_behindClash_69 (by decide) (fun c69 => ?_) (fun c69 => ?_)
              · replace h := tw_t c69 h
                refine lv_iinc (v := (v5 + 1)) (lv' := [(5, .int (v5 + 1)), (7, .int ((P.1 v5.toNatClampNeg) + (S.1 v5.toNatClampNeg))), (6, .int (P.1 v5.toNatClampNeg)), (0, .ref (pa 0)), (1, .ref (sa 0)), (2, .int p2), (3, .int p3), (4, .int v4)]) hx hb dX0_behindClash_75 hl (k := 7) rfl rfl (by decide) rfl (fun ls hl => ?_)
                refine lv_goto (tgt := 13) hx hb dX0_behindClash_78 (by decide) ?_
                exact ih13 v4 (v5 + 1) H locs ls h (lv_sub hl [3, 4, 5, 6, 7, 0] rfl) hP hD hS
              · replace h := tw_f c69 h
                refine lv_iload hx hb dX0_behindClash_72 (lv_at hl 0 rfl) ?_
                exact hq H locs _ ls ((P.1 v5.toNatClampNeg) + (S.1 v5.toNatClampNeg)) (tw_rt (fun r => r = ((P.1 v5.toNatClampNeg) + (S.1 v5.toNatClampNeg))) h rfl) rfl hP hS dX0_behindClash_74
  refine lv_iload_n hx hb dX0_behindClash_0 rfl (lv_at hl 3 rfl) ?_
  refine lv_aload_n hx hb dX0_behindClash_1 rfl (lv_at hl 1 rfl) ?_
  refine va_get (D := G) (ci := 1) (v := .ref (sa 1)) (C := RX1) (T := TX1) (N := 9) hx hb hts iX0_behindClash_X1 hown hK hP 3 rfl rfl 0 (by decide) (hts _ qX0_behindClash_2) (fun _ h9 => h9) rfl dX0_behindClash_2 ?_
  refine lv_iload_n hx hb dX0_behindClash_5 rfl (lv_at hl 2 rfl) ?_
  obtain ⟨g6, h⟩ := tw_gs h
  refine va_iald (f := S.1) (n := 12) hx hb hK hP 4 0 rfl rfl g6 dX0_behindClash_6 ?_
  refine lv_iadd hx hb dX0_behindClash_7 ?_
  refine lv_istore (lv' := [(4, .int (p3 + (S.1 p2.toNatClampNeg))), (0, .ref (pa 0)), (1, .ref (sa 0)), (2, .int p2), (3, .int p3)]) hx hb dX0_behindClash_8 hl (by decide) rfl (fun ls hl => ?_)
  refine lv_iconst (v := (0 : Int32)) hx hb dX0_behindClash_10 (by decide) ?_
  refine lv_istore (lv' := [(5, .int (0 : Int32)), (4, .int (p3 + (S.1 p2.toNatClampNeg))), (0, .ref (pa 0)), (1, .ref (sa 0)), (2, .int p2), (3, .int p3)]) hx hb dX0_behindClash_11 hl (by decide) rfl (fun ls hl => ?_)
  exact L13 512 (p3 + (S.1 p2.toNatClampNeg)) (0 : Int32) H locs ls h (lv_sub hl [2, 3, 4, 5, 1, 0] rfl) hP hD hS
abbrev rmX0_firstDay : Room := { frames := 2, cells := 0, slots := 0, locals := 51 }
set_option maxRecDepth 20000 in
theorem qX0_firstDay_0 : (Cond.fieldLink RX0 44 "TheatreWall$State" "lengths" "[I") ∈ wsX0_firstDay := (List.mem_cons_of_mem _ (List.mem_append_left _ (List.mem_append_left _ (List.mem_append_left _ (List.mem_of_getElem? (i := 7) rfl)))))
set_option maxRecDepth 20000 in
theorem qX0_firstDay_1 : (Cond.fieldLink RX0 59 "TheatreWall$State" "halls" "[I") ∈ wsX0_firstDay := (List.mem_cons_of_mem _ (List.mem_append_left _ (List.mem_append_left _ (List.mem_append_left _ (List.mem_of_getElem? (i := 0) rfl)))))
set_option maxRecDepth 20000 in
theorem qX0_firstDay_2 : (Cond.fieldLink RX0 62 "TheatreWall$State" "firstDays" "[I") ∈ wsX0_firstDay := (List.mem_cons_of_mem _ (List.mem_append_left _ (List.mem_append_left _ (List.mem_append_left _ (List.mem_of_getElem? (i := 1) rfl)))))
set_option maxRecDepth 20000 in
theorem qX0_firstDay_3 : (Cond.methodLink RX0 47 yJ9_max_7cf53) ∈ wsX0_firstDay := (List.mem_cons_of_mem _ (List.mem_append_left _ (List.mem_append_left _ (List.mem_append_left _ (List.mem_of_getElem? (i := 2) rfl)))))
set_option maxRecDepth 20000 in
theorem qX0_firstDay_4 : (Cond.static yJ9_max_7cf53) ∈ wsX0_firstDay := (List.mem_cons_of_mem _ (List.mem_append_left _ (List.mem_append_left _ (List.mem_append_left _ (List.mem_of_getElem? (i := 3) rfl)))))
set_option maxRecDepth 20000 in
theorem qX0_firstDay_5 : (Cond.initialized RJ9) ∈ wsX0_firstDay := (List.mem_cons_of_mem _ (List.mem_append_left _ (List.mem_append_left _ (List.mem_append_left _ (List.mem_of_getElem? (i := 4) rfl)))))
set_option maxRecDepth 20000 in
theorem qX0_firstDay_6 : (Cond.code Lib.Math.max.name Lib.Math.max.code 2 (some .int)) ∈ wsX0_firstDay := (List.mem_cons_of_mem _ (List.mem_append_left _ (List.mem_append_left _ (List.mem_append_left _ (List.mem_of_getElem? (i := 5) rfl)))))
set_option maxRecDepth 20000 in
theorem qX0_firstDay_7 : (Cond.fieldLink RX0 65 "TheatreWall$State" "lastDays" "[I") ∈ wsX0_firstDay := (List.mem_cons_of_mem _ (List.mem_append_left _ (List.mem_append_left _ (List.mem_append_left _ (List.mem_of_getElem? (i := 6) rfl)))))
set_option maxRecDepth 20000 in
theorem iX0_firstDay_X1 : ∀ w ∈ u_ws RX1 TX1 9, w ∈ wsX0_firstDay := fun w h => (List.mem_cons_of_mem _ (List.mem_append_left _ (List.mem_append_right _ h)))
set_option maxHeartbeats 4000000 in
set_option maxRecDepth 100000 in
theorem mX0_firstDay (l : Launch) (G : va_G) (cI : ClassId) (pa : Nat → Nat) (sa : Nat → Nat) (P : tw_Pl) (S : tw_St) (sz : Nat) (p2 : Int32) {rv : Int32} (h : fX0_firstDay P S p2 = some rv) : tw_Mi l yX0_firstDay wsX0_firstDay rmX0_firstDay G [(cI, .int)] (tw_wP cI pa P ++ tw_wS cI sa S) [.ref (pa 0), .ref (sa 0), .int p2] sz rv (tw_wP cI pa P ++ tw_wS cI sa S) := by
  refine tw_ofi (ty := .int) (cc := cX0_firstDay) (maxL := 8) (own := RX0) (by decide) rfl rfl (Nat.le_of_ble_eq_true rfl) ?_
  intro p e s m args below meth c Q A ls H locs F hN hK hP hD hS hA hl hq
  obtain ⟨hx, hb, hml, hown, hts⟩ := id F
  have hl : lv_has ls 8 [(0, .ref (pa 0)), (1, .ref (sa 0)), (2, .int p2)] := hl
  unfold fX0_firstDay at h
  have L51 : ∀ (n51 : Nat) (v3 : Int32) (v4 : Int32) (v6 : Int32) (H : Heap) (locs : List Loc) (ls : Array Slot), fX0_firstDay_51 P S p2 n51 v3 v4 v6 = some rv → lv_has ls 8 [(0, .ref (pa 0)), (1, .ref (sa 0)), (2, .int p2), (3, .int v3), (4, .int v4), (6, .int v6)] → va_P G vwCl (tw_wP cI pa P ++ tw_wS cI sa S) H → va_D A (tw_wP cI pa P ++ tw_wS cI sa S) → va_S A s.heap H locs → W p l e rmX0_firstDay s m args below meth c H locs 0 0 Q (F0 m 51 ls []) := by
    intro n51
    induction n51 with
    | zero =>
      intro v3 v4 v6 H locs ls h
      rw [fX0_firstDay_51] at h
      cases h
    | succ n51 ih51 =>
      intro v3 v4 v6 H locs ls h hl hP hD hS
      rw [fX0_firstDay_51] at h
      refine lv_iload hx hb dX0_firstDay_51 (lv_at hl 5 rfl) ?_
      refine lv_bipush (v := (12 : Int32)) hx hb dX0_firstDay_53 (by decide) ?_
      refine lv_icmp_ge (tgt := 97) hx hb dX0_firstDay_55 (by decide) (fun c55 => ?_) (fun c55 => ?_)
      · replace h := tw_t c55 h
        refine lv_iconst (v := (-1 : Int32)) hx hb dX0_firstDay_97 (by decide) ?_
        exact hq H locs _ ls (-1 : Int32) (tw_rt (fun r => r = (-1 : Int32)) h rfl) rfl hP hS dX0_firstDay_98
      · replace h := tw_f c55 h
        refine lv_iload_n hx hb dX0_firstDay_58 rfl (lv_at hl 3 rfl) ?_
        refine lv_aload_n hx hb dX0_firstDay_59 rfl (lv_at hl 1 rfl) ?_
        refine va_get (D := G) (ci := 1) (v := .ref (sa 1)) (C := RX1) (T := TX1) (N := 9) hx hb hts iX0_firstDay_X1 hown hK hP 3 rfl rfl 0 (by decide) (hts _ qX0_firstDay_0) (fun _ h9 => h9) rfl dX0_firstDay_60 ?_
        refine lv_iload_n hx hb dX0_firstDay_63 rfl (lv_at hl 2 rfl) ?_
        obtain ⟨g64, h⟩ := tw_gs h
        refine va_iald (f := S.1) (n := 12) hx hb hK hP 4 0 rfl rfl g64 dX0_firstDay_64 ?_
        refine lv_iadd hx hb dX0_firstDay_65 ?_
        refine lv_iload hx hb dX0_firstDay_66 (lv_at hl 4 rfl) ?_
        refine lv_icmp_gt (tgt := 97) hx hb dX0_firstDay_68 (by decide) (fun c68 => ?_) (fun c68 => ?_)
        · replace h := tw_t c68 h
          refine lv_iconst (v := (-1 : Int32)) hx hb dX0_firstDay_97 (by decide) ?_
          exact hq H locs _ ls (-1 : Int32) (tw_rt (fun r => r = (-1 : Int32)) h rfl) rfl hP hS dX0_firstDay_98
        · replace h := tw_f c68 h
          refine lv_aload_n hx hb dX0_firstDay_71 rfl (lv_at hl 0 rfl) ?_
          refine lv_aload_n hx hb dX0_firstDay_72 rfl (lv_at hl 1 rfl) ?_
          refine lv_iload_n hx hb dX0_firstDay_73 rfl (lv_at hl 2 rfl) ?_
          refine lv_iload_n hx hb dX0_firstDay_74 rfl (lv_at hl 3 rfl) ?_
          obtain ⟨r75, e75, h⟩ := tw_bs h
          refine tw_callViF (ws' := (tw_wP cI pa P ++ tw_wS cI sa S)) (As := [.ref (sa 0), .int p2, .int v3]) (rest := []) F hN hK hP hD hS hA (mX0_behindClash l G cI pa sa P S H.size p2 v3 e75) (cwV 3 hts gX0_firstDay_X0_behindClash rfl rfl rfl (by decide +kernel) ⟨(Nat.le_of_ble_eq_true rfl), (Nat.le_of_ble_eq_true rfl)⟩) rfl (r0 := 0) (ci := 0) rfl rfl rfl rfl hl.1 rfl (Nat.le_of_ble_eq_true rfl) dX0_firstDay_75 ⟨Nat.zero_le _, Nat.zero_le _⟩ (fun H locs hP hD hS => ?_)
          refine lv_istore (lv' := [(7, .int r75), (0, .ref (pa 0)), (1, .ref (sa 0)), (2, .int p2), (3, .int v3), (4, .int v4), (6, .int v6)]) hx hb dX0_firstDay_78 hl (by decide) rfl (fun ls hl => ?_)
          refine lv_iload hx hb dX0_firstDay_80 (lv_at hl 0 rfl) ?_
          refine lv_iload_n hx hb dX0_firstDay_82 rfl (lv_at hl 4 rfl) ?_
          refine lv_icmp_ne (tgt := 88) hx hb dX0_firstDay_83 (by decide) (fun c83 => ?_) (fun c83 => ?_)
          · replace h := tw_t c83 h
            refine lv_iload hx hb dX0_firstDay_88 (lv_at hl 0 rfl) ?_
            refine lv_istore_n (lv' := [(3, .int r75), (7, .int r75), (0, .ref (pa 0)), (1, .ref (sa 0)), (2, .int p2), (4, .int v4), (6, .int v6)]) hx hb dX0_firstDay_90 rfl hl (by decide) rfl (fun ls hl => ?_)
            refine lv_iinc (v := (v6 + 1)) (lv' := [(6, .int (v6 + 1)), (3, .int r75), (7, .int r75), (0, .ref (pa 0)), (1, .ref (sa 0)), (2, .int p2), (4, .int v4)]) hx hb dX0_firstDay_91 hl (k := 6) rfl rfl (by decide) rfl (fun ls hl => ?_)
            refine lv_goto (tgt := 51) hx hb dX0_firstDay_94 (by decide) ?_
            exact ih51 r75 v4 (v6 + 1) H locs ls h (lv_sub hl [3, 4, 5, 1, 6, 0] rfl) hP hD hS
          · replace h := tw_fn c83 h
            refine lv_iload_n hx hb dX0_firstDay_86 rfl (lv_at hl 4 rfl) ?_
            exact hq H locs _ ls v3 (tw_rt (fun r => r = v3) h rfl) rfl hP hS dX0_firstDay_87
  refine lv_aload_n hx hb dX0_firstDay_0 rfl (lv_at hl 0 rfl) ?_
  refine lv_aload_n hx hb dX0_firstDay_1 rfl (lv_at hl 1 rfl) ?_
  refine lv_iload_n hx hb dX0_firstDay_2 rfl (lv_at hl 2 rfl) ?_
  obtain ⟨r3, e3, h⟩ := tw_bs h
  refine tw_callViF (ws' := (tw_wP cI pa P ++ tw_wS cI sa S)) (As := [.ref (sa 0), .int p2]) (rest := []) F hN hK hP hD hS hA (mX0_startOf l G cI pa sa P S H.size p2 e3) (cwV 2 hts gX0_firstDay_X0_startOf rfl rfl rfl (by decide +kernel) ⟨(Nat.le_of_ble_eq_true rfl), (Nat.le_of_ble_eq_true rfl)⟩) rfl (r0 := 0) (ci := 0) rfl rfl rfl rfl hl.1 rfl (Nat.le_of_ble_eq_true rfl) dX0_firstDay_3 ⟨Nat.zero_le _, Nat.zero_le _⟩ (fun H locs hP hD hS => ?_)
  refine lv_istore_n (lv' := [(3, .int r3), (0, .ref (pa 0)), (1, .ref (sa 0)), (2, .int p2)]) hx hb dX0_firstDay_6 rfl hl (by decide) rfl (fun ls hl => ?_)
  refine lv_bipush (v := (100 : Int32)) hx hb dX0_firstDay_7 (by decide) ?_
  refine lv_istore (lv' := [(4, .int (100 : Int32)), (3, .int r3), (0, .ref (pa 0)), (1, .ref (sa 0)), (2, .int p2)]) hx hb dX0_firstDay_9 hl (by decide) rfl (fun ls hl => ?_)
  refine lv_aload_n hx hb dX0_firstDay_11 rfl (lv_at hl 3 rfl) ?_
  refine va_get (D := G) (ci := 1) (v := .ref (sa 3)) (C := RX1) (T := TX1) (N := 9) hx hb hts iX0_firstDay_X1 hown hK hP 3 rfl rfl 2 (by decide) (hts _ qX0_firstDay_1) (fun _ h9 => h9) rfl dX0_firstDay_12 ?_
  refine lv_iload_n hx hb dX0_firstDay_15 rfl (lv_at hl 4 rfl) ?_
  obtain ⟨g16, h⟩ := tw_gs h
  refine va_iald (f := S.2.2.1) (n := 12) hx hb hK hP 6 0 rfl rfl g16 dX0_firstDay_16 ?_
  refine lv_istore (lv' := [(5, .int (S.2.2.1 p2.toNatClampNeg)), (4, .int (100 : Int32)), (3, .int r3), (0, .ref (pa 0)), (1, .ref (sa 0)), (2, .int p2)]) hx hb dX0_firstDay_17 hl (by decide) rfl (fun ls hl => ?_)
  refine lv_iload hx hb dX0_firstDay_19 (lv_at hl 0 rfl) ?_
  refine lv_iconst (v := (-1 : Int32)) hx hb dX0_firstDay_21 (by decide) ?_
  refine lv_icmp_eq (tgt := 48) hx hb dX0_firstDay_22 (by decide) (fun c22 => ?_) (fun c22 => ?_)
  · replace h := tw_t c22 h
    refine lv_iconst (v := (0 : Int32)) hx hb dX0_firstDay_48 (by decide) ?_
    refine lv_istore (lv' := [(6, .int (0 : Int32)), (5, .int (S.2.2.1 p2.toNatClampNeg)), (4, .int (100 : Int32)), (3, .int r3), (0, .ref (pa 0)), (1, .ref (sa 0)), (2, .int p2)]) hx hb dX0_firstDay_49 hl (by decide) rfl (fun ls hl => ?_)
    exact L51 512 r3 (100 : Int32) (0 : Int32) H locs ls h (lv_sub hl [4, 5, 6, 3, 2, 0] rfl) hP hD hS
  · replace h := tw_f c22 h
    refine lv_iload_n hx hb dX0_firstDay_25 rfl (lv_at hl 2 rfl) ?_
    refine lv_aload_n hx hb dX0_firstDay_26 rfl (lv_at hl 4 rfl) ?_
    refine va_get (D := G) (ci := 1) (v := .ref (sa 6)) (C := RX1) (T := TX1) (N := 9) hx hb hts iX0_firstDay_X1 hown hK hP 3 rfl rfl 5 (by decide) (hts _ qX0_firstDay_2) (fun _ h9 => h9) rfl dX0_firstDay_27 ?_
    refine lv_iload hx hb dX0_firstDay_30 (lv_at hl 0 rfl) ?_
    obtain ⟨g32, h⟩ := tw_gs h
    refine va_iald (f := S.2.2.2.2.2.1) (n := 4) hx hb hK hP 9 0 rfl rfl g32 dX0_firstDay_32 ?_
    refine va_mmax hx hb (hml.trans hl.1.symm) hown (hts _ qX0_firstDay_3) (hts _ qX0_firstDay_4) (hts _ qX0_firstDay_5) (hts _ qX0_firstDay_6) (Nat.le_of_ble_eq_true rfl) (Nat.le_of_ble_eq_true rfl) (Nat.zero_le _) (Nat.zero_le _) dX0_firstDay_33 ?_
    refine lv_istore_n (lv' := [(3, .int (if r3 < (S.2.2.2.2.2.1 (S.2.2.1 p2.toNatClampNeg).toNatClampNeg) then (S.2.2.2.2.2.1 (S.2.2.1 p2.toNatClampNeg).toNatClampNeg) else r3)), (5, .int (S.2.2.1 p2.toNatClampNeg)), (4, .int (100 : Int32)), (0, .ref (pa 0)), (1, .ref (sa 0)), (2, .int p2)]) hx hb dX0_firstDay_36 rfl hl (by decide) rfl (fun ls hl => ?_)
    refine lv_aload_n hx hb dX0_firstDay_37 rfl (lv_at hl 4 rfl) ?_
    refine va_get (D := G) (ci := 1) (v := .ref (sa 7)) (C := RX1) (T := TX1) (N := 9) hx hb hts iX0_firstDay_X1 hown hK hP 3 rfl rfl 6 (by decide) (hts _ qX0_firstDay_7) (fun _ h9 => h9) rfl dX0_firstDay_38 ?_
    refine lv_iload hx hb dX0_firstDay_41 (lv_at hl 1 rfl) ?_
    obtain ⟨g43, h⟩ := tw_gs h
    refine va_iald (f := S.2.2.2.2.2.2.1) (n := 4) hx hb hK hP 10 0 rfl rfl g43 dX0_firstDay_43 ?_
    refine lv_iconst (v := (1 : Int32)) hx hb dX0_firstDay_44 (by decide) ?_
    refine lv_iadd hx hb dX0_firstDay_45 ?_
    refine lv_istore (lv' := [(4, .int ((S.2.2.2.2.2.2.1 (S.2.2.1 p2.toNatClampNeg).toNatClampNeg) + (1 : Int32))), (3, .int (if r3 < (S.2.2.2.2.2.1 (S.2.2.1 p2.toNatClampNeg).toNatClampNeg) then (S.2.2.2.2.2.1 (S.2.2.1 p2.toNatClampNeg).toNatClampNeg) else r3)), (5, .int (S.2.2.1 p2.toNatClampNeg)), (0, .ref (pa 0)), (1, .ref (sa 0)), (2, .int p2)]) hx hb dX0_firstDay_46 hl (by decide) rfl (fun ls hl => ?_)
    refine lv_iconst (v := (0 : Int32)) hx hb dX0_firstDay_48 (by decide) ?_
    refine lv_istore (lv' := [(6, .int (0 : Int32)), (4, .int ((S.2.2.2.2.2.2.1 (S.2.2.1 p2.toNatClampNeg).toNatClampNeg) + (1 : Int32))), (3, .int (if r3 < (S.2.2.2.2.2.1 (S.2.2.1 p2.toNatClampNeg).toNatClampNeg) then (S.2.2.2.2.2.1 (S.2.2.1 p2.toNatClampNeg).toNatClampNeg) else r3)), (5, .int (S.2.2.1 p2.toNatClampNeg)), (0, .ref (pa 0)), (1, .ref (sa 0)), (2, .int p2)]) hx hb dX0_firstDay_49 hl (by decide) rfl (fun ls hl => ?_)
    exact L51 512 (if r3 < (S.2.2.2.2.2.1 (S.2.2.1 p2.toNatClampNeg).toNatClampNeg) then (S.2.2.2.2.2.1 (S.2.2.1 p2.toNatClampNeg).toNatClampNeg) else r3) ((S.2.2.2.2.2.2.1 (S.2.2.1 p2.toNatClampNeg).toNatClampNeg) + (1 : Int32)) (0 : Int32) H locs ls h (lv_sub hl [4, 5, 6, 2, 1, 0] rfl) hP hD hS
abbrev rmX0_firstByRule : Room := { frames := 0, cells := 0, slots := 0, locals := 0 }
set_option maxRecDepth 20000 in
theorem qX0_firstByRule_0 : (Cond.fieldLink RX0 15 "TheatreWall$Plan" "keys" "[I") ∈ wsX0_firstByRule := (List.mem_cons_of_mem _ (List.mem_append_left _ (List.mem_append_left _ (List.mem_of_getElem? (i := 3) rfl))))
set_option maxRecDepth 20000 in
theorem qX0_firstByRule_1 : (Cond.fieldLink RX0 53 "TheatreWall$State" "needs" "[I") ∈ wsX0_firstByRule := (List.mem_cons_of_mem _ (List.mem_append_left _ (List.mem_append_left _ (List.mem_of_getElem? (i := 1) rfl))))
set_option maxRecDepth 20000 in
theorem qX0_firstByRule_2 : (Cond.fieldLink RX0 18 "TheatreWall$Plan" "laidMask" "I") ∈ wsX0_firstByRule := (List.mem_cons_of_mem _ (List.mem_append_left _ (List.mem_append_left _ (List.mem_of_getElem? (i := 2) rfl))))
set_option maxRecDepth 20000 in
theorem qX0_firstByRule_3 : (Cond.fieldLink RX0 28 "TheatreWall$State" "size" "I") ∈ wsX0_firstByRule := (List.mem_cons_of_mem _ (List.mem_append_left _ (List.mem_append_left _ (List.mem_of_getElem? (i := 0) rfl))))
set_option maxRecDepth 20000 in
theorem iX0_firstByRule_X0 : ∀ w ∈ u_ws RX0 TX0 5, w ∈ wsX0_firstByRule := fun w h => (List.mem_cons_of_mem _ (List.mem_append_right _ h))
set_option maxRecDepth 20000 in
theorem iX0_firstByRule_X1 : ∀ w ∈ u_ws RX1 TX1 9, w ∈ wsX0_firstByRule := fun w h => (List.mem_cons_of_mem _ (List.mem_append_left _ (List.mem_append_right _ h)))
set_option maxHeartbeats 4000000 in
set_option maxRecDepth 100000 in
theorem mX0_firstByRule (l : Launch) (G : va_G) (cI : ClassId) (pa : Nat → Nat) (sa : Nat → Nat) (P : tw_Pl) (S : tw_St) (sz : Nat) (p2 : Int32) {rv : Int32} (h : fX0_firstByRule P S p2 = some rv) : tw_Mi l yX0_firstByRule wsX0_firstByRule rmX0_firstByRule G [(cI, .int)] (tw_wP cI pa P ++ tw_wS cI sa S) [.ref (pa 0), .ref (sa 0), .int p2] sz rv (tw_wP cI pa P ++ tw_wS cI sa S) := by
  refine tw_ofi (ty := .int) (cc := cX0_firstByRule) (maxL := 8) (own := RX0) (by decide) rfl rfl (Nat.le_of_ble_eq_true rfl) ?_
  intro p e s m args below meth c Q A ls H locs F hN hK hP hD hS hA hl hq
  obtain ⟨hx, hb, hml, hown, hts⟩ := id F
  have hl : lv_has ls 8 [(0, .ref (pa 0)), (1, .ref (sa 0)), (2, .int p2)] := hl
  unfold fX0_firstByRule at h
  have L8 : ∀ (n8 : Nat) (v3 : Int32) (v4 : Int32) (v5 : Int32) (H : Heap) (locs : List Loc) (ls : Array Slot), fX0_firstByRule_8 P S p2 n8 v3 v4 v5 = some rv → lv_has ls 8 [(0, .ref (pa 0)), (1, .ref (sa 0)), (2, .int p2), (3, .int v3), (4, .int v4), (5, .int v5)] → va_P G vwCl (tw_wP cI pa P ++ tw_wS cI sa S) H → va_D A (tw_wP cI pa P ++ tw_wS cI sa S) → va_S A s.heap H locs → W p l e rmX0_firstByRule s m args below meth c H locs 0 0 Q (F0 m 8 ls []) := by
    intro n8
    induction n8 with
    | zero =>
      intro v3 v4 v5 H locs ls h
      rw [fX0_firstByRule_8] at h
      cases h
    | succ n8 ih8 =>
      intro v3 v4 v5 H locs ls h hl hP hD hS
      rw [fX0_firstByRule_8] at h
      have L55 : ∀ (t0 : Int32) (v3 : Int32) (v4 : Int32) (v5 : Int32) (v6 : Int32) (H : Heap) (locs : List Loc) (ls : Array Slot), fX0_firstByRule_55 P S p2 (fX0_firstByRule_8 P S p2 n8) t0 v3 v4 v5 v6 = some rv → lv_has ls 8 [(0, .ref (pa 0)), (1, .ref (sa 0)), (2, .int p2), (3, .int v3), (4, .int v4), (5, .int v5), (6, .int v6)] → va_P G vwCl (tw_wP cI pa P ++ tw_wS cI sa S) H → va_D A (tw_wP cI pa P ++ tw_wS cI sa S) → va_S A s.heap H locs → W p l e rmX0_firstByRule s m args below meth c H locs 0 0 Q (F0 m 55 ls [.int t0]) := by
        intro t0 v3 v4 v5 v6 H locs ls h hl hP hD hS
        unfold fX0_firstByRule_55 at h
        refine lv_istore (lv' := [(7, .int t0), (0, .ref (pa 0)), (1, .ref (sa 0)), (2, .int p2), (3, .int v3), (4, .int v4), (5, .int v5), (6, .int v6)]) hx hb dX0_firstByRule_55 hl (by decide) rfl (fun ls hl => ?_)
        refine lv_iload hx hb dX0_firstByRule_57 (lv_at hl 7 rfl) ?_
        refine lv_if_ne (tgt := 91) hx hb dX0_firstByRule_59 (by decide) (fun c59 => ?_) (fun c59 => ?_)
        · replace h := tw_t c59 h
          refine lv_iinc (v := (v5 + 1)) (lv' := [(5, .int (v5 + 1)), (7, .int t0), (0, .ref (pa 0)), (1, .ref (sa 0)), (2, .int p2), (3, .int v3), (4, .int v4), (6, .int v6)]) hx hb dX0_firstByRule_91 hl (k := 6) rfl rfl (by decide) rfl (fun ls hl => ?_)
          refine lv_goto (tgt := 8) hx hb dX0_firstByRule_94 (by decide) ?_
          exact ih8 v3 v4 (v5 + 1) H locs ls h (lv_sub hl [2, 3, 4, 5, 6, 0] rfl) hP hD hS
        · replace h := tw_fn c59 h
          refine lv_iload hx hb dX0_firstByRule_62 (lv_at hl 0 rfl) ?_
          refine lv_if_eq (tgt := 91) hx hb dX0_firstByRule_64 (by decide) (fun c64 => ?_) (fun c64 => ?_)
          · replace h := tw_t c64 h
            refine lv_iinc (v := (v5 + 1)) (lv' := [(5, .int (v5 + 1)), (7, .int t0), (0, .ref (pa 0)), (1, .ref (sa 0)), (2, .int p2), (3, .int v3), (4, .int v4), (6, .int v6)]) hx hb dX0_firstByRule_91 hl (k := 6) rfl rfl (by decide) rfl (fun ls hl => ?_)
            refine lv_goto (tgt := 8) hx hb dX0_firstByRule_94 (by decide) ?_
            exact ih8 v3 v4 (v5 + 1) H locs ls h (lv_sub hl [2, 3, 4, 5, 6, 0] rfl) hP hD hS
          · replace h := tw_f c64 h
            refine lv_aload_n hx hb dX0_firstByRule_67 rfl (lv_at hl 1 rfl) ?_
            refine va_get (D := G) (ci := 0) (v := .ref (pa 2)) (C := RX0) (T := TX0) (N := 5) hx hb hts iX0_firstByRule_X0 hown hK hP 0 rfl rfl 1 (by decide) (hts _ qX0_firstByRule_0) (fun _ h9 => h9) rfl dX0_firstByRule_68 ?_
            refine lv_iload hx hb dX0_firstByRule_71 (lv_at hl 6 rfl) ?_
            obtain ⟨g73, h⟩ := tw_gs h
            refine va_iald (f := P.2.1) (n := 12) hx hb hK hP 2 0 rfl rfl g73 dX0_firstByRule_73 ?_
            refine lv_iload hx hb dX0_firstByRule_74 (lv_at hl 5 rfl) ?_
            refine lv_icmp_le (tgt := 91) hx hb dX0_firstByRule_76 (by decide) (fun c76 => ?_) (fun c76 => ?_)
            · replace h := tw_t c76 h
              refine lv_iinc (v := (v5 + 1)) (lv' := [(5, .int (v5 + 1)), (7, .int t0), (0, .ref (pa 0)), (1, .ref (sa 0)), (2, .int p2), (3, .int v3), (4, .int v4), (6, .int v6)]) hx hb dX0_firstByRule_91 hl (k := 6) rfl rfl (by decide) rfl (fun ls hl => ?_)
              refine lv_goto (tgt := 8) hx hb dX0_firstByRule_94 (by decide) ?_
              exact ih8 v3 v4 (v5 + 1) H locs ls h (lv_sub hl [2, 3, 4, 5, 6, 0] rfl) hP hD hS
            · replace h := tw_f c76 h
              refine lv_iload hx hb dX0_firstByRule_79 (lv_at hl 6 rfl) ?_
              refine lv_istore_n (lv' := [(3, .int v5), (7, .int t0), (0, .ref (pa 0)), (1, .ref (sa 0)), (2, .int p2), (4, .int v4), (5, .int v5), (6, .int v6)]) hx hb dX0_firstByRule_81 rfl hl (by decide) rfl (fun ls hl => ?_)
              refine lv_aload_n hx hb dX0_firstByRule_82 rfl (lv_at hl 2 rfl) ?_
              refine va_get (D := G) (ci := 0) (v := .ref (pa 2)) (C := RX0) (T := TX0) (N := 5) hx hb hts iX0_firstByRule_X0 hown hK hP 0 rfl rfl 1 (by decide) (hts _ qX0_firstByRule_0) (fun _ h9 => h9) rfl dX0_firstByRule_83 ?_
              refine lv_iload hx hb dX0_firstByRule_86 (lv_at hl 6 rfl) ?_
              obtain ⟨g88, h⟩ := tw_gs h
              refine va_iald (f := P.2.1) (n := 12) hx hb hK hP 2 0 rfl rfl g88 dX0_firstByRule_88 ?_
              refine lv_istore (lv' := [(4, .int (P.2.1 v5.toNatClampNeg)), (3, .int v5), (7, .int t0), (0, .ref (pa 0)), (1, .ref (sa 0)), (2, .int p2), (5, .int v5), (6, .int v6)]) hx hb dX0_firstByRule_89 hl (by decide) rfl (fun ls hl => ?_)
              refine lv_iinc (v := (v5 + 1)) (lv' := [(5, .int (v5 + 1)), (4, .int (P.2.1 v5.toNatClampNeg)), (3, .int v5), (7, .int t0), (0, .ref (pa 0)), (1, .ref (sa 0)), (2, .int p2), (6, .int v6)]) hx hb dX0_firstByRule_91 hl (k := 6) rfl rfl (by decide) rfl (fun ls hl => ?_)
              refine lv_goto (tgt := 8) hx hb dX0_firstByRule_94 (by decide) ?_
              exact ih8 v5 (P.2.1 v5.toNatClampNeg) (v5 + 1) H locs ls h (lv_sub hl [4, 5, 6, 2, 1, 0] rfl) hP hD hS
      have L31 : ∀ (t0 : Int32) (v3 : Int32) (v4 : Int32) (v5 : Int32) (H : Heap) (locs : List Loc) (ls : Array Slot), fX0_firstByRule_31 P S p2 (fX0_firstByRule_8 P S p2 n8) t0 v3 v4 v5 = some rv → lv_has ls 8 [(0, .ref (pa 0)), (1, .ref (sa 0)), (2, .int p2), (3, .int v3), (4, .int v4), (5, .int v5)] → va_P G vwCl (tw_wP cI pa P ++ tw_wS cI sa S) H → va_D A (tw_wP cI pa P ++ tw_wS cI sa S) → va_S A s.heap H locs → W p l e rmX0_firstByRule s m args below meth c H locs 0 0 Q (F0 m 31 ls [.int t0]) := by
        intro t0 v3 v4 v5 H locs ls h hl hP hD hS
        unfold fX0_firstByRule_31 at h
        refine lv_istore (lv' := [(6, .int t0), (0, .ref (pa 0)), (1, .ref (sa 0)), (2, .int p2), (3, .int v3), (4, .int v4), (5, .int v5)]) hx hb dX0_firstByRule_31 hl (by decide) rfl (fun ls hl => ?_)
        refine lv_aload_n hx hb dX0_firstByRule_33 rfl (lv_at hl 2 rfl) ?_
        refine va_get (D := G) (ci := 1) (v := .ref (sa 5)) (C := RX1) (T := TX1) (N := 9) hx hb hts iX0_firstByRule_X1 hown hK hP 3 rfl rfl 4 (by decide) (hts _ qX0_firstByRule_1) (fun _ h9 => h9) rfl dX0_firstByRule_34 ?_
        refine lv_iload hx hb dX0_firstByRule_37 (lv_at hl 6 rfl) ?_
        obtain ⟨g39, h⟩ := tw_gs h
        refine va_iald (f := S.2.2.2.2.1) (n := 12) hx hb hK hP 8 0 rfl rfl g39 dX0_firstByRule_39 ?_
        refine lv_aload_n hx hb dX0_firstByRule_40 rfl (lv_at hl 1 rfl) ?_
        refine va_get (D := G) (ci := 0) (v := .int P.2.2.1) (C := RX0) (T := TX0) (N := 5) hx hb hts iX0_firstByRule_X0 hown hK hP 0 rfl rfl 2 (by decide) (hts _ qX0_firstByRule_2) (fun _ h9 => h9) rfl dX0_firstByRule_41 ?_
        refine lv_iconst (v := (-1 : Int32)) hx hb dX0_firstByRule_44 (by decide) ?_
        refine lv_ixor hx hb dX0_firstByRule_45 ?_
        refine lv_iand hx hb dX0_firstByRule_46 ?_
        refine lv_if_ne (tgt := 54) hx hb dX0_firstByRule_47 (by decide) (fun c47 => ?_) (fun c47 => ?_)
        · replace h := tw_t c47 h
          refine lv_iconst (v := (0 : Int32)) hx hb dX0_firstByRule_54 (by decide) ?_
          exact L55 (0 : Int32) v3 v4 v5 t0 H locs ls h (lv_sub hl [1, 2, 3, 4, 5, 6, 0] rfl) hP hD hS
        · replace h := tw_fn c47 h
          refine lv_iconst (v := (1 : Int32)) hx hb dX0_firstByRule_50 (by decide) ?_
          refine lv_goto (tgt := 55) hx hb dX0_firstByRule_51 (by decide) ?_
          exact L55 (1 : Int32) v3 v4 v5 t0 H locs ls h (lv_sub hl [1, 2, 3, 4, 5, 6, 0] rfl) hP hD hS
      refine lv_iload hx hb dX0_firstByRule_8 (lv_at hl 5 rfl) ?_
      refine lv_aload_n hx hb dX0_firstByRule_10 rfl (lv_at hl 1 rfl) ?_
      refine va_get (D := G) (ci := 1) (v := .int S.2.2.2.2.2.2.2.1) (C := RX1) (T := TX1) (N := 9) hx hb hts iX0_firstByRule_X1 hown hK hP 3 rfl rfl 7 (by decide) (hts _ qX0_firstByRule_3) (fun _ h9 => h9) rfl dX0_firstByRule_11 ?_
      refine lv_icmp_ge (tgt := 97) hx hb dX0_firstByRule_14 (by decide) (fun c14 => ?_) (fun c14 => ?_)
      · replace h := tw_t c14 h
        refine lv_iload_n hx hb dX0_firstByRule_97 rfl (lv_at hl 3 rfl) ?_
        exact hq H locs _ ls v3 (tw_rt (fun r => r = v3) h rfl) rfl hP hS dX0_firstByRule_98
      · replace h := tw_f c14 h
        refine lv_iload_n hx hb dX0_firstByRule_17 rfl (lv_at hl 2 rfl) ?_
        refine lv_iconst (v := (1 : Int32)) hx hb dX0_firstByRule_18 (by decide) ?_
        refine lv_iload hx hb dX0_firstByRule_19 (lv_at hl 5 rfl) ?_
        refine lv_ishl hx hb dX0_firstByRule_21 ?_
        refine lv_iand hx hb dX0_firstByRule_22 ?_
        refine lv_if_eq (tgt := 30) hx hb dX0_firstByRule_23 (by decide) (fun c23 => ?_) (fun c23 => ?_)
        · replace h := tw_t c23 h
          refine lv_iconst (v := (0 : Int32)) hx hb dX0_firstByRule_30 (by decide) ?_
          exact L31 (0 : Int32) v3 v4 v5 H locs ls h (lv_sub hl [0, 1, 2, 3, 4, 5] rfl) hP hD hS
        · replace h := tw_f c23 h
          refine lv_iconst (v := (1 : Int32)) hx hb dX0_firstByRule_26 (by decide) ?_
          refine lv_goto (tgt := 31) hx hb dX0_firstByRule_27 (by decide) ?_
          exact L31 (1 : Int32) v3 v4 v5 H locs ls h (lv_sub hl [0, 1, 2, 3, 4, 5] rfl) hP hD hS
  refine lv_iconst (v := (-1 : Int32)) hx hb dX0_firstByRule_0 (by decide) ?_
  refine lv_istore_n (lv' := [(3, .int (-1 : Int32)), (0, .ref (pa 0)), (1, .ref (sa 0)), (2, .int p2)]) hx hb dX0_firstByRule_1 rfl hl (by decide) rfl (fun ls hl => ?_)
  refine lv_iconst (v := (-1 : Int32)) hx hb dX0_firstByRule_2 (by decide) ?_
  refine lv_istore (lv' := [(4, .int (-1 : Int32)), (3, .int (-1 : Int32)), (0, .ref (pa 0)), (1, .ref (sa 0)), (2, .int p2)]) hx hb dX0_firstByRule_3 hl (by decide) rfl (fun ls hl => ?_)
  refine lv_iconst (v := (0 : Int32)) hx hb dX0_firstByRule_5 (by decide) ?_
  refine lv_istore (lv' := [(5, .int (0 : Int32)), (4, .int (-1 : Int32)), (3, .int (-1 : Int32)), (0, .ref (pa 0)), (1, .ref (sa 0)), (2, .int p2)]) hx hb dX0_firstByRule_6 hl (by decide) rfl (fun ls hl => ?_)
  exact L8 512 (-1 : Int32) (-1 : Int32) (0 : Int32) H locs ls h (lv_sub hl [3, 4, 5, 2, 1, 0] rfl) hP hD hS
abbrev rmX0_lay : Room := { frames := 3, cells := 0, slots := 0, locals := 78 }
set_option maxRecDepth 20000 in
theorem qX0_lay_0 : (Cond.fieldLink RX0 28 "TheatreWall$State" "size" "I") ∈ wsX0_lay := (List.mem_cons_of_mem _ (List.mem_append_left _ (List.mem_append_left _ (List.mem_append_left _ (List.mem_of_getElem? (i := 3) rfl)))))
set_option maxRecDepth 20000 in
theorem qX0_lay_1 : (Cond.fieldLink RX0 9 "TheatreWall$Plan" "begins" "[I") ∈ wsX0_lay := (List.mem_cons_of_mem _ (List.mem_append_left _ (List.mem_append_left _ (List.mem_append_left _ (List.mem_of_getElem? (i := 4) rfl)))))
set_option maxRecDepth 20000 in
theorem qX0_lay_2 : (Cond.fieldLink RX0 18 "TheatreWall$Plan" "laidMask" "I") ∈ wsX0_lay := (List.mem_cons_of_mem _ (List.mem_append_left _ (List.mem_append_left _ (List.mem_append_left _ (List.mem_of_getElem? (i := 0) rfl)))))
set_option maxRecDepth 20000 in
theorem qX0_lay_3 : (Cond.fieldLink RX0 22 "TheatreWall$Plan" "laidCount" "I") ∈ wsX0_lay := (List.mem_cons_of_mem _ (List.mem_append_left _ (List.mem_append_left _ (List.mem_append_left _ (List.mem_of_getElem? (i := 1) rfl)))))
set_option maxRecDepth 20000 in
theorem qX0_lay_4 : (Cond.fieldLink RX0 25 "TheatreWall$Plan" "end" "I") ∈ wsX0_lay := (List.mem_cons_of_mem _ (List.mem_append_left _ (List.mem_append_left _ (List.mem_append_left _ (List.mem_of_getElem? (i := 2) rfl)))))
set_option maxRecDepth 20000 in
theorem qX0_lay_5 : (Cond.fieldLink RX0 44 "TheatreWall$State" "lengths" "[I") ∈ wsX0_lay := (List.mem_cons_of_mem _ (List.mem_append_left _ (List.mem_append_left _ (List.mem_append_left _ (List.mem_of_getElem? (i := 6) rfl)))))
set_option maxRecDepth 20000 in
theorem qX0_lay_6 : (Cond.methodLink RX0 47 yJ9_max_7cf53) ∈ wsX0_lay := (List.mem_cons_of_mem _ (List.mem_append_left _ (List.mem_append_left _ (List.mem_append_left _ (List.mem_of_getElem? (i := 7) rfl)))))
set_option maxRecDepth 20000 in
theorem qX0_lay_7 : (Cond.static yJ9_max_7cf53) ∈ wsX0_lay := (List.mem_cons_of_mem _ (List.mem_append_left _ (List.mem_append_left _ (List.mem_append_left _ (List.mem_of_getElem? (i := 8) rfl)))))
set_option maxRecDepth 20000 in
theorem qX0_lay_8 : (Cond.initialized RJ9) ∈ wsX0_lay := (List.mem_cons_of_mem _ (List.mem_append_left _ (List.mem_append_left _ (List.mem_append_left _ (List.mem_of_getElem? (i := 9) rfl)))))
set_option maxRecDepth 20000 in
theorem qX0_lay_9 : (Cond.code Lib.Math.max.name Lib.Math.max.code 2 (some .int)) ∈ wsX0_lay := (List.mem_cons_of_mem _ (List.mem_append_left _ (List.mem_append_left _ (List.mem_append_left _ (List.mem_of_getElem? (i := 10) rfl)))))
set_option maxRecDepth 20000 in
theorem qX0_lay_10 : (Cond.fieldLink RX0 15 "TheatreWall$Plan" "keys" "[I") ∈ wsX0_lay := (List.mem_cons_of_mem _ (List.mem_append_left _ (List.mem_append_left _ (List.mem_append_left _ (List.mem_of_getElem? (i := 5) rfl)))))
set_option maxRecDepth 20000 in
theorem iX0_lay_X1 : ∀ w ∈ u_ws RX1 TX1 9, w ∈ wsX0_lay := fun w h => (List.mem_cons_of_mem _ (List.mem_append_right _ h))
set_option maxRecDepth 20000 in
theorem iX0_lay_X0 : ∀ w ∈ u_ws RX0 TX0 5, w ∈ wsX0_lay := fun w h => (List.mem_cons_of_mem _ (List.mem_append_left _ (List.mem_append_right _ h)))
set_option maxHeartbeats 4000000 in
set_option maxRecDepth 100000 in
theorem mX0_lay (l : Launch) (G : va_G) (cI : ClassId) (pa : Nat → Nat) (sa : Nat → Nat) (P : tw_Pl) (S : tw_St) (sz : Nat)  {rv : tw_Pl} (h : fX0_lay P S = some rv) : tw_Mv l yX0_lay wsX0_lay rmX0_lay G [(cI, .int)] (tw_wP cI pa P ++ tw_wS cI sa S) [.ref (pa 0), .ref (sa 0)] sz (tw_wP cI pa rv ++ tw_wS cI sa S) := by
  refine tw_ofv (cc := cX0_lay) (maxL := 6) (own := RX0) (by decide) rfl rfl (Nat.le_of_ble_eq_true rfl) ?_
  intro p e s m args below meth c Q A ls H locs F hN hK hP hD hS hA hl hq
  obtain ⟨hx, hb, hml, hown, hts⟩ := id F
  have hl : lv_has ls 6 [(0, .ref (pa 0)), (1, .ref (sa 0))] := hl
  unfold fX0_lay at h
  have L53 : ∀ (n53 : Nat) (v2 : Int32) (v3 : Int32) (P : tw_Pl) (H : Heap) (locs : List Loc) (ls : Array Slot), fX0_lay_53 S n53 v2 v3 P = some rv → lv_has ls 6 [(0, .ref (pa 0)), (1, .ref (sa 0)), (2, .int v2), (3, .int v3)] → va_P G vwCl (tw_wP cI pa P ++ tw_wS cI sa S) H → va_D A (tw_wP cI pa P ++ tw_wS cI sa S) → va_S A s.heap H locs → W p l e rmX0_lay s m args below meth c H locs 0 0 Q (F0 m 53 ls []) := by
    intro n53
    induction n53 with
    | zero =>
      intro v2 v3 P H locs ls h
      rw [fX0_lay_53] at h
      cases h
    | succ n53 ih53 =>
      intro v2 v3 P H locs ls h hl hP hD hS
      rw [fX0_lay_53] at h
      refine lv_iload_n hx hb dX0_lay_53 rfl (lv_at hl 3 rfl) ?_
      refine lv_aload_n hx hb dX0_lay_54 rfl (lv_at hl 1 rfl) ?_
      refine va_get (D := G) (ci := 1) (v := .int S.2.2.2.2.2.2.2.1) (C := RX1) (T := TX1) (N := 9) hx hb hts iX0_lay_X1 hown hK hP 3 rfl rfl 7 (by decide) (hts _ qX0_lay_0) (fun _ h9 => h9) rfl dX0_lay_55 ?_
      refine lv_icmp_ge (tgt := 157) hx hb dX0_lay_58 (by decide) (fun c58 => ?_) (fun c58 => ?_)
      · replace h := tw_t c58 h
        exact hq H locs _ ls (tw_rt (fun r => va_P G vwCl (tw_wP cI pa r ++ tw_wS cI sa S) H) h hP) hS dX0_lay_157
      · replace h := tw_f c58 h
        refine lv_aload_n hx hb dX0_lay_61 rfl (lv_at hl 0 rfl) ?_
        refine lv_aload_n hx hb dX0_lay_62 rfl (lv_at hl 1 rfl) ?_
        refine lv_iload_n hx hb dX0_lay_63 rfl (lv_at hl 2 rfl) ?_
        obtain ⟨r64, e64, h⟩ := tw_bs h
        refine tw_callViF (ws' := (tw_wP cI pa P ++ tw_wS cI sa S)) (As := [.ref (sa 0), .int v2]) (rest := []) F hN hK hP hD hS hA (mX0_firstByRule l G cI pa sa P S H.size v2 e64) (cwV 2 hts gX0_lay_X0_firstByRule rfl rfl rfl (by decide +kernel) ⟨(Nat.le_of_ble_eq_true rfl), (Nat.le_of_ble_eq_true rfl)⟩) rfl (r0 := 0) (ci := 0) rfl rfl rfl rfl hl.1 rfl (Nat.le_of_ble_eq_true rfl) dX0_lay_64 ⟨Nat.zero_le _, Nat.zero_le _⟩ (fun H locs hP hD hS => ?_)
        refine lv_istore (lv' := [(4, .int r64), (0, .ref (pa 0)), (1, .ref (sa 0)), (2, .int v2), (3, .int v3)]) hx hb dX0_lay_67 hl (by decide) rfl (fun ls hl => ?_)
        refine lv_iload hx hb dX0_lay_69 (lv_at hl 0 rfl) ?_
        refine lv_iconst (v := (-1 : Int32)) hx hb dX0_lay_71 (by decide) ?_
        refine lv_icmp_ne (tgt := 76) hx hb dX0_lay_72 (by decide) (fun c72 => ?_) (fun c72 => ?_)
        · replace h := tw_t c72 h
          refine lv_iload_n hx hb dX0_lay_76 rfl (lv_at hl 3 rfl) ?_
          refine lv_iconst (v := (1 : Int32)) hx hb dX0_lay_77 (by decide) ?_
          refine lv_iload hx hb dX0_lay_78 (lv_at hl 0 rfl) ?_
          refine lv_ishl hx hb dX0_lay_80 ?_
          refine lv_ior hx hb dX0_lay_81 ?_
          refine lv_istore_n (lv' := [(2, .int (v2 ||| ((1 : Int32) <<< (r64 &&& 31)))), (4, .int r64), (0, .ref (pa 0)), (1, .ref (sa 0)), (3, .int v3)]) hx hb dX0_lay_82 rfl hl (by decide) rfl (fun ls hl => ?_)
          refine lv_aload_n hx hb dX0_lay_83 rfl (lv_at hl 2 rfl) ?_
          refine lv_aload_n hx hb dX0_lay_84 rfl (lv_at hl 3 rfl) ?_
          refine lv_iload hx hb dX0_lay_85 (lv_at hl 1 rfl) ?_
          obtain ⟨r87, e87, h⟩ := tw_bs h
          refine tw_callViF (ws' := (tw_wP cI pa P ++ tw_wS cI sa S)) (As := [.ref (sa 0), .int r64]) (rest := []) F hN hK hP hD hS hA (mX0_firstDay l G cI pa sa P S H.size r64 e87) (cwV 2 hts gX0_lay_X0_firstDay rfl rfl rfl (by decide +kernel) ⟨(Nat.le_of_ble_eq_true rfl), (Nat.le_of_ble_eq_true rfl)⟩) rfl (r0 := 0) (ci := 0) rfl rfl rfl rfl hl.1 rfl (Nat.le_of_ble_eq_true rfl) dX0_lay_87 ⟨Nat.zero_le _, Nat.zero_le _⟩ (fun H locs hP hD hS => ?_)
          refine lv_istore (lv' := [(5, .int r87), (2, .int (v2 ||| ((1 : Int32) <<< (r64 &&& 31)))), (4, .int r64), (0, .ref (pa 0)), (1, .ref (sa 0)), (3, .int v3)]) hx hb dX0_lay_90 hl (by decide) rfl (fun ls hl => ?_)
          refine lv_iload hx hb dX0_lay_92 (lv_at hl 0 rfl) ?_
          refine lv_iconst (v := (-1 : Int32)) hx hb dX0_lay_94 (by decide) ?_
          refine lv_icmp_eq (tgt := 151) hx hb dX0_lay_95 (by decide) (fun c95 => ?_) (fun c95 => ?_)
          · replace h := tw_t c95 h
            refine lv_iinc (v := (v3 + 1)) (lv' := [(3, .int (v3 + 1)), (5, .int r87), (2, .int (v2 ||| ((1 : Int32) <<< (r64 &&& 31)))), (4, .int r64), (0, .ref (pa 0)), (1, .ref (sa 0))]) hx hb dX0_lay_151 hl (k := 5) rfl rfl (by decide) rfl (fun ls hl => ?_)
            refine lv_goto (tgt := 53) hx hb dX0_lay_154 (by decide) ?_
            exact ih53 (v2 ||| ((1 : Int32) <<< (r64 &&& 31))) (v3 + 1) P H locs ls h (lv_sub hl [4, 5, 2, 0] rfl) hP hD hS
          · replace h := tw_f c95 h
            refine lv_aload_n hx hb dX0_lay_98 rfl (lv_at hl 3 rfl) ?_
            refine va_get (D := G) (ci := 0) (v := .ref (pa 1)) (C := RX0) (T := TX0) (N := 5) hx hb hts iX0_lay_X0 hown hK hP 0 rfl rfl 0 (by decide) (hts _ qX0_lay_1) (fun _ h9 => h9) rfl dX0_lay_99 ?_
            refine lv_iload hx hb dX0_lay_102 (lv_at hl 2 rfl) ?_
            refine lv_iload hx hb dX0_lay_104 (lv_at hl 0 rfl) ?_
            obtain ⟨g106, h⟩ := tw_gs h
            refine tw_iast (ws' := (tw_wP cI pa ((upd P.1 r64.toNatClampNeg r87), P.2.1, P.2.2.1, P.2.2.2.1, P.2.2.2.2) ++ tw_wS cI sa S)) (f := P.1) (n := 12) hx hb hK hP hD hS 1 0 rfl rfl g106 dX0_lay_106 rfl (fun H locs hP hD hS => ?_)
            refine lv_aload_n hx hb dX0_lay_107 rfl (lv_at hl 3 rfl) ?_
            refine lv_dup hx hb dX0_lay_108 rfl ?_
            refine va_get (D := G) (ci := 0) (v := .int P.2.2.1) (C := RX0) (T := TX0) (N := 5) hx hb hts iX0_lay_X0 hown hK hP 0 rfl rfl 2 (by decide) (hts _ qX0_lay_2) (fun _ h9 => h9) rfl dX0_lay_109 ?_
            refine lv_iconst (v := (1 : Int32)) hx hb dX0_lay_112 (by decide) ?_
            refine lv_iload hx hb dX0_lay_113 (lv_at hl 2 rfl) ?_
            refine lv_ishl hx hb dX0_lay_115 ?_
            refine lv_ior hx hb dX0_lay_116 ?_
            refine tw_put (ws' := (tw_wP cI pa ((upd P.1 r64.toNatClampNeg r87), P.2.1, (P.2.2.1 ||| ((1 : Int32) <<< (r64 &&& 31))), P.2.2.2.1, P.2.2.2.2) ++ tw_wS cI sa S)) (D := G) (ci := 0) (v := .int (P.2.2.1 ||| ((1 : Int32) <<< (r64 &&& 31)))) (ty := .int) (C := RX0) (T := TX0) (N := 5) hx hb hts iX0_lay_X0 tyX0 tyX0_ok nmX0 hown hK hP hD hS 0 rfl rfl 2 (by decide) (hts _ qX0_lay_2) (fun _ h9 => h9) rfl (by decide +kernel) rfl rfl (Nat.le_of_ble_eq_true rfl) dX0_lay_117 rfl (fun H locs hP hD hS => ?_)
            refine lv_aload_n hx hb dX0_lay_120 rfl (lv_at hl 3 rfl) ?_
            refine lv_dup hx hb dX0_lay_121 rfl ?_
            refine va_get (D := G) (ci := 0) (v := .int P.2.2.2.1) (C := RX0) (T := TX0) (N := 5) hx hb hts iX0_lay_X0 hown hK hP 0 rfl rfl 3 (by decide) (hts _ qX0_lay_3) (fun _ h9 => h9) rfl dX0_lay_122 ?_
            refine lv_iconst (v := (1 : Int32)) hx hb dX0_lay_125 (by decide) ?_
            refine lv_iadd hx hb dX0_lay_126 ?_
            refine tw_put (ws' := (tw_wP cI pa ((upd P.1 r64.toNatClampNeg r87), P.2.1, (P.2.2.1 ||| ((1 : Int32) <<< (r64 &&& 31))), (P.2.2.2.1 + (1 : Int32)), P.2.2.2.2) ++ tw_wS cI sa S)) (D := G) (ci := 0) (v := .int (P.2.2.2.1 + (1 : Int32))) (ty := .int) (C := RX0) (T := TX0) (N := 5) hx hb hts iX0_lay_X0 tyX0 tyX0_ok nmX0 hown hK hP hD hS 0 rfl rfl 3 (by decide) (hts _ qX0_lay_3) (fun _ h9 => h9) rfl (by decide +kernel) rfl rfl (Nat.le_of_ble_eq_true rfl) dX0_lay_127 rfl (fun H locs hP hD hS => ?_)
            refine lv_aload_n hx hb dX0_lay_130 rfl (lv_at hl 3 rfl) ?_
            refine lv_aload_n hx hb dX0_lay_131 rfl (lv_at hl 3 rfl) ?_
            refine va_get (D := G) (ci := 0) (v := .int P.2.2.2.2) (C := RX0) (T := TX0) (N := 5) hx hb hts iX0_lay_X0 hown hK hP 0 rfl rfl 4 (by decide) (hts _ qX0_lay_4) (fun _ h9 => h9) rfl dX0_lay_132 ?_
            refine lv_iload hx hb dX0_lay_135 (lv_at hl 0 rfl) ?_
            refine lv_aload_n hx hb dX0_lay_137 rfl (lv_at hl 4 rfl) ?_
            refine va_get (D := G) (ci := 1) (v := .ref (sa 1)) (C := RX1) (T := TX1) (N := 9) hx hb hts iX0_lay_X1 hown hK hP 3 rfl rfl 0 (by decide) (hts _ qX0_lay_5) (fun _ h9 => h9) rfl dX0_lay_138 ?_
            refine lv_iload hx hb dX0_lay_141 (lv_at hl 2 rfl) ?_
            obtain ⟨g143, h⟩ := tw_gs h
            refine va_iald (f := S.1) (n := 12) hx hb hK hP 4 0 rfl rfl g143 dX0_lay_143 ?_
            refine lv_iadd hx hb dX0_lay_144 ?_
            refine va_mmax hx hb (hml.trans hl.1.symm) hown (hts _ qX0_lay_6) (hts _ qX0_lay_7) (hts _ qX0_lay_8) (hts _ qX0_lay_9) (Nat.le_of_ble_eq_true rfl) (Nat.le_of_ble_eq_true rfl) (Nat.zero_le _) (Nat.zero_le _) dX0_lay_145 ?_
            refine tw_put (ws' := (tw_wP cI pa ((upd P.1 r64.toNatClampNeg r87), P.2.1, (P.2.2.1 ||| ((1 : Int32) <<< (r64 &&& 31))), (P.2.2.2.1 + (1 : Int32)), (if P.2.2.2.2 < (r87 + (S.1 r64.toNatClampNeg)) then (r87 + (S.1 r64.toNatClampNeg)) else P.2.2.2.2)) ++ tw_wS cI sa S)) (D := G) (ci := 0) (v := .int (if P.2.2.2.2 < (r87 + (S.1 r64.toNatClampNeg)) then (r87 + (S.1 r64.toNatClampNeg)) else P.2.2.2.2)) (ty := .int) (C := RX0) (T := TX0) (N := 5) hx hb hts iX0_lay_X0 tyX0 tyX0_ok nmX0 hown hK hP hD hS 0 rfl rfl 4 (by decide) (hts _ qX0_lay_4) (fun _ h9 => h9) rfl (by decide +kernel) rfl rfl (Nat.le_of_ble_eq_true rfl) dX0_lay_148 rfl (fun H locs hP hD hS => ?_)
            refine lv_iinc (v := (v3 + 1)) (lv' := [(3, .int (v3 + 1)), (5, .int r87), (2, .int (v2 ||| ((1 : Int32) <<< (r64 &&& 31)))), (4, .int r64), (0, .ref (pa 0)), (1, .ref (sa 0))]) hx hb dX0_lay_151 hl (k := 5) rfl rfl (by decide) rfl (fun ls hl => ?_)
            refine lv_goto (tgt := 53) hx hb dX0_lay_154 (by decide) ?_
            exact ih53 (v2 ||| ((1 : Int32) <<< (r64 &&& 31))) (v3 + 1) ((upd P.1 r64.toNatClampNeg r87), P.2.1, (P.2.2.1 ||| ((1 : Int32) <<< (r64 &&& 31))), (P.2.2.2.1 + (1 : Int32)), (if P.2.2.2.2 < (r87 + (S.1 r64.toNatClampNeg)) then (r87 + (S.1 r64.toNatClampNeg)) else P.2.2.2.2)) H locs ls h (lv_sub hl [4, 5, 2, 0] rfl) hP hD hS
        · replace h := tw_fn c72 h
          exact hq H locs _ ls (tw_rt (fun r => va_P G vwCl (tw_wP cI pa r ++ tw_wS cI sa S) H) h hP) hS dX0_lay_75
  have L17 : ∀ (n17 : Nat) (v2 : Int32) (P : tw_Pl) (H : Heap) (locs : List Loc) (ls : Array Slot), fX0_lay_17 S n17 v2 P = some rv → lv_has ls 6 [(0, .ref (pa 0)), (1, .ref (sa 0)), (2, .int v2)] → va_P G vwCl (tw_wP cI pa P ++ tw_wS cI sa S) H → va_D A (tw_wP cI pa P ++ tw_wS cI sa S) → va_S A s.heap H locs → W p l e rmX0_lay s m args below meth c H locs 0 0 Q (F0 m 17 ls []) := by
    intro n17
    induction n17 with
    | zero =>
      intro v2 P H locs ls h
      rw [fX0_lay_17] at h
      cases h
    | succ n17 ih17 =>
      intro v2 P H locs ls h hl hP hD hS
      rw [fX0_lay_17] at h
      refine lv_iload_n hx hb dX0_lay_17 rfl (lv_at hl 2 rfl) ?_
      refine lv_aload_n hx hb dX0_lay_18 rfl (lv_at hl 1 rfl) ?_
      refine va_get (D := G) (ci := 1) (v := .int S.2.2.2.2.2.2.2.1) (C := RX1) (T := TX1) (N := 9) hx hb hts iX0_lay_X1 hown hK hP 3 rfl rfl 7 (by decide) (hts _ qX0_lay_0) (fun _ h9 => h9) rfl dX0_lay_19 ?_
      refine lv_icmp_ge (tgt := 49) hx hb dX0_lay_22 (by decide) (fun c22 => ?_) (fun c22 => ?_)
      · replace h := tw_t c22 h
        refine lv_iconst (v := (0 : Int32)) hx hb dX0_lay_49 (by decide) ?_
        refine lv_istore_n (lv' := [(2, .int (0 : Int32)), (0, .ref (pa 0)), (1, .ref (sa 0))]) hx hb dX0_lay_50 rfl hl (by decide) rfl (fun ls hl => ?_)
        refine lv_iconst (v := (0 : Int32)) hx hb dX0_lay_51 (by decide) ?_
        refine lv_istore_n (lv' := [(3, .int (0 : Int32)), (2, .int (0 : Int32)), (0, .ref (pa 0)), (1, .ref (sa 0))]) hx hb dX0_lay_52 rfl hl (by decide) rfl (fun ls hl => ?_)
        exact L53 512 (0 : Int32) (0 : Int32) P H locs ls h (lv_sub hl [2, 3, 1, 0] rfl) hP hD hS
      · replace h := tw_f c22 h
        refine lv_aload_n hx hb dX0_lay_25 rfl (lv_at hl 0 rfl) ?_
        refine va_get (D := G) (ci := 0) (v := .ref (pa 1)) (C := RX0) (T := TX0) (N := 5) hx hb hts iX0_lay_X0 hown hK hP 0 rfl rfl 0 (by decide) (hts _ qX0_lay_1) (fun _ h9 => h9) rfl dX0_lay_26 ?_
        refine lv_iload_n hx hb dX0_lay_29 rfl (lv_at hl 2 rfl) ?_
        refine lv_iconst (v := (-1 : Int32)) hx hb dX0_lay_30 (by decide) ?_
        obtain ⟨g31, h⟩ := tw_gs h
        refine tw_iast (ws' := (tw_wP cI pa ((upd P.1 v2.toNatClampNeg (-1 : Int32)), P.2.1, P.2.2.1, P.2.2.2.1, P.2.2.2.2) ++ tw_wS cI sa S)) (f := P.1) (n := 12) hx hb hK hP hD hS 1 0 rfl rfl g31 dX0_lay_31 rfl (fun H locs hP hD hS => ?_)
        refine lv_aload_n hx hb dX0_lay_32 rfl (lv_at hl 0 rfl) ?_
        refine va_get (D := G) (ci := 0) (v := .ref (pa 2)) (C := RX0) (T := TX0) (N := 5) hx hb hts iX0_lay_X0 hown hK hP 0 rfl rfl 1 (by decide) (hts _ qX0_lay_10) (fun _ h9 => h9) rfl dX0_lay_33 ?_
        refine lv_iload_n hx hb dX0_lay_36 rfl (lv_at hl 2 rfl) ?_
        refine lv_aload_n hx hb dX0_lay_37 rfl (lv_at hl 1 rfl) ?_
        refine lv_iload_n hx hb dX0_lay_38 rfl (lv_at hl 2 rfl) ?_
        obtain ⟨r39, e39, h⟩ := tw_bs h
        refine tw_callVi (ws' := (tw_wP cI pa ((upd P.1 v2.toNatClampNeg (-1 : Int32)), P.2.1, P.2.2.1, P.2.2.2.1, P.2.2.2.2) ++ tw_wS cI sa S)) (As := [.int v2]) (rest := [.int v2, .ref (pa 2)]) F hN hK hP hD hS hA (mX1_keyOf l G cI sa S H.size v2 e39) (cwV 1 hts gX0_lay_X1_keyOf rfl rfl rfl (by decide +kernel) ⟨(Nat.le_of_ble_eq_true rfl), (Nat.le_of_ble_eq_true rfl)⟩) [0] rfl [3, 4, 5, 6, 7, 8, 9, 10] (by decide) rfl rfl rfl (r0 := 0) (ci := 1) rfl rfl rfl rfl hl.1 rfl (Nat.le_of_ble_eq_true rfl) dX0_lay_39 ⟨Nat.zero_le _, Nat.zero_le _⟩ (fun H locs hP hD hS => ?_)
        obtain ⟨g42, h⟩ := tw_gs h
        refine tw_iast (ws' := (tw_wP cI pa ((upd P.1 v2.toNatClampNeg (-1 : Int32)), (upd P.2.1 v2.toNatClampNeg r39), P.2.2.1, P.2.2.2.1, P.2.2.2.2) ++ tw_wS cI sa S)) (f := P.2.1) (n := 12) hx hb hK hP hD hS 2 0 rfl rfl g42 dX0_lay_42 rfl (fun H locs hP hD hS => ?_)
        refine lv_iinc (v := (v2 + 1)) (lv' := [(2, .int (v2 + 1)), (0, .ref (pa 0)), (1, .ref (sa 0))]) hx hb dX0_lay_43 hl (k := 2) rfl rfl (by decide) rfl (fun ls hl => ?_)
        refine lv_goto (tgt := 17) hx hb dX0_lay_46 (by decide) ?_
        exact ih17 (v2 + 1) ((upd P.1 v2.toNatClampNeg (-1 : Int32)), (upd P.2.1 v2.toNatClampNeg r39), P.2.2.1, P.2.2.2.1, P.2.2.2.2) H locs ls h (lv_sub hl [1, 2, 0] rfl) hP hD hS
  refine lv_aload_n hx hb dX0_lay_0 rfl (lv_at hl 0 rfl) ?_
  refine lv_iconst (v := (0 : Int32)) hx hb dX0_lay_1 (by decide) ?_
  refine tw_put (ws' := (tw_wP cI pa (P.1, P.2.1, (0 : Int32), P.2.2.2.1, P.2.2.2.2) ++ tw_wS cI sa S)) (D := G) (ci := 0) (v := .int (0 : Int32)) (ty := .int) (C := RX0) (T := TX0) (N := 5) hx hb hts iX0_lay_X0 tyX0 tyX0_ok nmX0 hown hK hP hD hS 0 rfl rfl 2 (by decide) (hts _ qX0_lay_2) (fun _ h9 => h9) rfl (by decide +kernel) rfl rfl (Nat.le_of_ble_eq_true rfl) dX0_lay_2 rfl (fun H locs hP hD hS => ?_)
  refine lv_aload_n hx hb dX0_lay_5 rfl (lv_at hl 0 rfl) ?_
  refine lv_iconst (v := (0 : Int32)) hx hb dX0_lay_6 (by decide) ?_
  refine tw_put (ws' := (tw_wP cI pa (P.1, P.2.1, (0 : Int32), (0 : Int32), P.2.2.2.2) ++ tw_wS cI sa S)) (D := G) (ci := 0) (v := .int (0 : Int32)) (ty := .int) (C := RX0) (T := TX0) (N := 5) hx hb hts iX0_lay_X0 tyX0 tyX0_ok nmX0 hown hK hP hD hS 0 rfl rfl 3 (by decide) (hts _ qX0_lay_3) (fun _ h9 => h9) rfl (by decide +kernel) rfl rfl (Nat.le_of_ble_eq_true rfl) dX0_lay_7 rfl (fun H locs hP hD hS => ?_)
  refine lv_aload_n hx hb dX0_lay_10 rfl (lv_at hl 0 rfl) ?_
  refine lv_iconst (v := (0 : Int32)) hx hb dX0_lay_11 (by decide) ?_
  refine tw_put (ws' := (tw_wP cI pa (P.1, P.2.1, (0 : Int32), (0 : Int32), (0 : Int32)) ++ tw_wS cI sa S)) (D := G) (ci := 0) (v := .int (0 : Int32)) (ty := .int) (C := RX0) (T := TX0) (N := 5) hx hb hts iX0_lay_X0 tyX0 tyX0_ok nmX0 hown hK hP hD hS 0 rfl rfl 4 (by decide) (hts _ qX0_lay_4) (fun _ h9 => h9) rfl (by decide +kernel) rfl rfl (Nat.le_of_ble_eq_true rfl) dX0_lay_12 rfl (fun H locs hP hD hS => ?_)
  refine lv_iconst (v := (0 : Int32)) hx hb dX0_lay_15 (by decide) ?_
  refine lv_istore_n (lv' := [(2, .int (0 : Int32)), (0, .ref (pa 0)), (1, .ref (sa 0))]) hx hb dX0_lay_16 rfl hl (by decide) rfl (fun ls hl => ?_)
  exact L17 512 (0 : Int32) (P.1, P.2.1, (0 : Int32), (0 : Int32), (0 : Int32)) H locs ls h (lv_sub hl [1, 2, 0] rfl) hP hD hS
abbrev rmX0_waitOf : Room := { frames := 2, cells := 0, slots := 0, locals := 46 }
set_option maxRecDepth 20000 in
theorem qX0_waitOf_0 : (Cond.fieldLink RX0 9 "TheatreWall$Plan" "begins" "[I") ∈ wsX0_waitOf := (List.mem_cons_of_mem _ (List.mem_append_left _ (List.mem_append_left _ (List.mem_of_getElem? (i := 0) rfl))))
set_option maxRecDepth 20000 in
theorem iX0_waitOf_X0 : ∀ w ∈ u_ws RX0 TX0 5, w ∈ wsX0_waitOf := fun w h => (List.mem_cons_of_mem _ (List.mem_append_left _ (List.mem_append_right _ h)))
set_option maxHeartbeats 4000000 in
set_option maxRecDepth 100000 in
theorem mX0_waitOf (l : Launch) (G : va_G) (cI : ClassId) (pa : Nat → Nat) (sa : Nat → Nat) (P : tw_Pl) (S : tw_St) (sz : Nat) (p2 : Int32) {rv : Int32} (h : fX0_waitOf P S p2 = some rv) : tw_Mi l yX0_waitOf wsX0_waitOf rmX0_waitOf G [(cI, .int)] (tw_wP cI pa P ++ tw_wS cI sa S) [.ref (pa 0), .ref (sa 0), .int p2] sz rv (tw_wP cI pa P ++ tw_wS cI sa S) := by
  refine tw_ofi (ty := .int) (cc := cX0_waitOf) (maxL := 3) (own := RX0) (by decide) rfl rfl (Nat.le_of_ble_eq_true rfl) ?_
  intro p e s m args below meth c Q A ls H locs F hN hK hP hD hS hA hl hq
  obtain ⟨hx, hb, hml, hown, hts⟩ := id F
  have hl : lv_has ls 3 [(0, .ref (pa 0)), (1, .ref (sa 0)), (2, .int p2)] := hl
  unfold fX0_waitOf at h
  refine lv_aload_n hx hb dX0_waitOf_0 rfl (lv_at hl 0 rfl) ?_
  refine va_get (D := G) (ci := 0) (v := .ref (pa 1)) (C := RX0) (T := TX0) (N := 5) hx hb hts iX0_waitOf_X0 hown hK hP 0 rfl rfl 0 (by decide) (hts _ qX0_waitOf_0) (fun _ h9 => h9) rfl dX0_waitOf_1 ?_
  refine lv_iload_n hx hb dX0_waitOf_4 rfl (lv_at hl 2 rfl) ?_
  obtain ⟨g5, h⟩ := tw_gs h
  refine va_iald (f := P.1) (n := 12) hx hb hK hP 1 0 rfl rfl g5 dX0_waitOf_5 ?_
  refine lv_iconst (v := (-1 : Int32)) hx hb dX0_waitOf_6 (by decide) ?_
  refine lv_icmp_ne (tgt := 14) hx hb dX0_waitOf_7 (by decide) (fun c7 => ?_) (fun c7 => ?_)
  · replace h := tw_t c7 h
    refine lv_aload_n hx hb dX0_waitOf_14 rfl (lv_at hl 0 rfl) ?_
    refine va_get (D := G) (ci := 0) (v := .ref (pa 1)) (C := RX0) (T := TX0) (N := 5) hx hb hts iX0_waitOf_X0 hown hK hP 0 rfl rfl 0 (by decide) (hts _ qX0_waitOf_0) (fun _ h9 => h9) rfl dX0_waitOf_15 ?_
    refine lv_iload_n hx hb dX0_waitOf_18 rfl (lv_at hl 2 rfl) ?_
    obtain ⟨g19, h⟩ := tw_gs h
    refine va_iald (f := P.1) (n := 12) hx hb hK hP 1 0 rfl rfl g19 dX0_waitOf_19 ?_
    refine lv_aload_n hx hb dX0_waitOf_20 rfl (lv_at hl 0 rfl) ?_
    refine lv_aload_n hx hb dX0_waitOf_21 rfl (lv_at hl 1 rfl) ?_
    refine lv_iload_n hx hb dX0_waitOf_22 rfl (lv_at hl 2 rfl) ?_
    obtain ⟨r23, e23, h⟩ := tw_bs h
    refine tw_callViF (ws' := (tw_wP cI pa P ++ tw_wS cI sa S)) (As := [.ref (sa 0), .int p2]) (rest := [.int (P.1 p2.toNatClampNeg)]) F hN hK hP hD hS hA (mX0_startOf l G cI pa sa P S H.size p2 e23) (cwV 2 hts gX0_waitOf_X0_startOf rfl rfl rfl (by decide +kernel) ⟨(Nat.le_of_ble_eq_true rfl), (Nat.le_of_ble_eq_true rfl)⟩) rfl (r0 := 0) (ci := 0) rfl rfl rfl rfl hl.1 rfl (Nat.le_of_ble_eq_true rfl) dX0_waitOf_23 ⟨Nat.zero_le _, Nat.zero_le _⟩ (fun H locs hP hD hS => ?_)
    refine lv_isub hx hb dX0_waitOf_26 ?_
    exact hq H locs _ ls ((P.1 p2.toNatClampNeg) - r23) (tw_rt (fun r => r = ((P.1 p2.toNatClampNeg) - r23)) h rfl) rfl hP hS dX0_waitOf_27
  · replace h := tw_fn c7 h
    refine lv_iconst (v := (0 : Int32)) hx hb dX0_waitOf_10 (by decide) ?_
    refine lv_goto (tgt := 27) hx hb dX0_waitOf_11 (by decide) ?_
    exact hq H locs _ ls (0 : Int32) (tw_rt (fun r => r = (0 : Int32)) h rfl) rfl hP hS dX0_waitOf_27
abbrev rmX0_waitOfAll : Room := { frames := 3, cells := 0, slots := 0, locals := 68 }
set_option maxRecDepth 20000 in
theorem qX0_waitOfAll_0 : (Cond.fieldLink RX0 28 "TheatreWall$State" "size" "I") ∈ wsX0_waitOfAll := (List.mem_cons_of_mem _ (List.mem_append_left _ (List.mem_append_left _ (List.mem_of_getElem? (i := 0) rfl))))
set_option maxRecDepth 20000 in
theorem iX0_waitOfAll_X1 : ∀ w ∈ u_ws RX1 TX1 9, w ∈ wsX0_waitOfAll := fun w h => (List.mem_cons_of_mem _ (List.mem_append_left _ (List.mem_append_right _ h)))
set_option maxHeartbeats 4000000 in
set_option maxRecDepth 100000 in
theorem mX0_waitOfAll (l : Launch) (G : va_G) (cI : ClassId) (pa : Nat → Nat) (sa : Nat → Nat) (P : tw_Pl) (S : tw_St) (sz : Nat)  {rv : Int32} (h : fX0_waitOfAll P S = some rv) : tw_Mi l yX0_waitOfAll wsX0_waitOfAll rmX0_waitOfAll G [(cI, .int)] (tw_wP cI pa P ++ tw_wS cI sa S) [.ref (pa 0), .ref (sa 0)] sz rv (tw_wP cI pa P ++ tw_wS cI sa S) := by
  refine tw_ofi (ty := .int) (cc := cX0_waitOfAll) (maxL := 4) (own := RX0) (by decide) rfl rfl (Nat.le_of_ble_eq_true rfl) ?_
  intro p e s m args below meth c Q A ls H locs F hN hK hP hD hS hA hl hq
  obtain ⟨hx, hb, hml, hown, hts⟩ := id F
  have hl : lv_has ls 4 [(0, .ref (pa 0)), (1, .ref (sa 0))] := hl
  unfold fX0_waitOfAll at h
  have L4 : ∀ (n4 : Nat) (v2 : Int32) (v3 : Int32) (H : Heap) (locs : List Loc) (ls : Array Slot), fX0_waitOfAll_4 P S n4 v2 v3 = some rv → lv_has ls 4 [(0, .ref (pa 0)), (1, .ref (sa 0)), (2, .int v2), (3, .int v3)] → va_P G vwCl (tw_wP cI pa P ++ tw_wS cI sa S) H → va_D A (tw_wP cI pa P ++ tw_wS cI sa S) → va_S A s.heap H locs → W p l e rmX0_waitOfAll s m args below meth c H locs 0 0 Q (F0 m 4 ls []) := by
    intro n4
    induction n4 with
    | zero =>
      intro v2 v3 H locs ls h
      rw [fX0_waitOfAll_4] at h
      cases h
    | succ n4 ih4 =>
      intro v2 v3 H locs ls h hl hP hD hS
      rw [fX0_waitOfAll_4] at h
      refine lv_iload_n hx hb dX0_waitOfAll_4 rfl (lv_at hl 3 rfl) ?_
      refine lv_aload_n hx hb dX0_waitOfAll_5 rfl (lv_at hl 1 rfl) ?_
      refine va_get (D := G) (ci := 1) (v := .int S.2.2.2.2.2.2.2.1) (C := RX1) (T := TX1) (N := 9) hx hb hts iX0_waitOfAll_X1 hown hK hP 3 rfl rfl 7 (by decide) (hts _ qX0_waitOfAll_0) (fun _ h9 => h9) rfl dX0_waitOfAll_6 ?_
      refine lv_icmp_ge (tgt := 27) hx hb dX0_waitOfAll_9 (by decide) (fun c9 => ?_) (fun c9 => ?_)
      · replace h := tw_t c9 h
        refine lv_iload_n hx hb dX0_waitOfAll_27 rfl (lv_at hl 2 rfl) ?_
        exact hq H locs _ ls v2 (tw_rt (fun r => r = v2) h rfl) rfl hP hS dX0_waitOfAll_28
      · replace h := tw_f c9 h
        refine lv_iload_n hx hb dX0_waitOfAll_12 rfl (lv_at hl 2 rfl) ?_
        refine lv_aload_n hx hb dX0_waitOfAll_13 rfl (lv_at hl 0 rfl) ?_
        refine lv_aload_n hx hb dX0_waitOfAll_14 rfl (lv_at hl 1 rfl) ?_
        refine lv_iload_n hx hb dX0_waitOfAll_15 rfl (lv_at hl 3 rfl) ?_
        obtain ⟨r16, e16, h⟩ := tw_bs h
        refine tw_callViF (ws' := (tw_wP cI pa P ++ tw_wS cI sa S)) (As := [.ref (sa 0), .int v3]) (rest := [.int v2]) F hN hK hP hD hS hA (mX0_waitOf l G cI pa sa P S H.size v3 e16) (cwV 2 hts gX0_waitOfAll_X0_waitOf rfl rfl rfl (by decide +kernel) ⟨(Nat.le_of_ble_eq_true rfl), (Nat.le_of_ble_eq_true rfl)⟩) rfl (r0 := 0) (ci := 0) rfl rfl rfl rfl hl.1 rfl (Nat.le_of_ble_eq_true rfl) dX0_waitOfAll_16 ⟨Nat.zero_le _, Nat.zero_le _⟩ (fun H locs hP hD hS => ?_)
        refine lv_iadd hx hb dX0_waitOfAll_19 ?_
        refine lv_istore_n (lv' := [(2, .int (v2 + r16)), (0, .ref (pa 0)), (1, .ref (sa 0)), (3, .int v3)]) hx hb dX0_waitOfAll_20 rfl hl (by decide) rfl (fun ls hl => ?_)
        refine lv_iinc (v := (v3 + 1)) (lv' := [(3, .int (v3 + 1)), (2, .int (v2 + r16)), (0, .ref (pa 0)), (1, .ref (sa 0))]) hx hb dX0_waitOfAll_21 hl (k := 3) rfl rfl (by decide) rfl (fun ls hl => ?_)
        refine lv_goto (tgt := 4) hx hb dX0_waitOfAll_24 (by decide) ?_
        exact ih4 (v2 + r16) (v3 + 1) H locs ls h (lv_sub hl [2, 3, 1, 0] rfl) hP hD hS
  refine lv_iconst (v := (0 : Int32)) hx hb dX0_waitOfAll_0 (by decide) ?_
  refine lv_istore_n (lv' := [(2, .int (0 : Int32)), (0, .ref (pa 0)), (1, .ref (sa 0))]) hx hb dX0_waitOfAll_1 rfl hl (by decide) rfl (fun ls hl => ?_)
  refine lv_iconst (v := (0 : Int32)) hx hb dX0_waitOfAll_2 (by decide) ?_
  refine lv_istore_n (lv' := [(3, .int (0 : Int32)), (2, .int (0 : Int32)), (0, .ref (pa 0)), (1, .ref (sa 0))]) hx hb dX0_waitOfAll_3 rfl hl (by decide) rfl (fun ls hl => ?_)
  exact L4 512 (0 : Int32) (0 : Int32) H locs ls h (lv_sub hl [2, 3, 1, 0] rfl) hP hD hS
abbrev rmX0_lengthOfLaid : Room := { frames := 0, cells := 0, slots := 0, locals := 0 }
set_option maxRecDepth 20000 in
theorem qX0_lengthOfLaid_0 : (Cond.fieldLink RX0 28 "TheatreWall$State" "size" "I") ∈ wsX0_lengthOfLaid := (List.mem_cons_of_mem _ (List.mem_append_left _ (List.mem_append_left _ (List.mem_of_getElem? (i := 0) rfl))))
set_option maxRecDepth 20000 in
theorem qX0_lengthOfLaid_1 : (Cond.fieldLink RX0 9 "TheatreWall$Plan" "begins" "[I") ∈ wsX0_lengthOfLaid := (List.mem_cons_of_mem _ (List.mem_append_left _ (List.mem_append_left _ (List.mem_of_getElem? (i := 1) rfl))))
set_option maxRecDepth 20000 in
theorem qX0_lengthOfLaid_2 : (Cond.fieldLink RX0 44 "TheatreWall$State" "lengths" "[I") ∈ wsX0_lengthOfLaid := (List.mem_cons_of_mem _ (List.mem_append_left _ (List.mem_append_left _ (List.mem_of_getElem? (i := 2) rfl))))
set_option maxRecDepth 20000 in
theorem iX0_lengthOfLaid_X1 : ∀ w ∈ u_ws RX1 TX1 9, w ∈ wsX0_lengthOfLaid := fun w h => (List.mem_cons_of_mem _ (List.mem_append_left _ (List.mem_append_right _ h)))
set_option maxRecDepth 20000 in
theorem iX0_lengthOfLaid_X0 : ∀ w ∈ u_ws RX0 TX0 5, w ∈ wsX0_lengthOfLaid := fun w h => (List.mem_cons_of_mem _ (List.mem_append_right _ h))
set_option maxHeartbeats 4000000 in
set_option maxRecDepth 100000 in
theorem mX0_lengthOfLaid (l : Launch) (G : va_G) (cI : ClassId) (pa : Nat → Nat) (sa : Nat → Nat) (P : tw_Pl) (S : tw_St) (sz : Nat)  {rv : Int32} (h : fX0_lengthOfLaid P S = some rv) : tw_Mi l yX0_lengthOfLaid wsX0_lengthOfLaid rmX0_lengthOfLaid G [(cI, .int)] (tw_wP cI pa P ++ tw_wS cI sa S) [.ref (pa 0), .ref (sa 0)] sz rv (tw_wP cI pa P ++ tw_wS cI sa S) := by
  refine tw_ofi (ty := .int) (cc := cX0_lengthOfLaid) (maxL := 4) (own := RX0) (by decide) rfl rfl (Nat.le_of_ble_eq_true rfl) ?_
  intro p e s m args below meth c Q A ls H locs F hN hK hP hD hS hA hl hq
  obtain ⟨hx, hb, hml, hown, hts⟩ := id F
  have hl : lv_has ls 4 [(0, .ref (pa 0)), (1, .ref (sa 0))] := hl
  unfold fX0_lengthOfLaid at h
  have L4 : ∀ (n4 : Nat) (v2 : Int32) (v3 : Int32) (H : Heap) (locs : List Loc) (ls : Array Slot), fX0_lengthOfLaid_4 P S n4 v2 v3 = some rv → lv_has ls 4 [(0, .ref (pa 0)), (1, .ref (sa 0)), (2, .int v2), (3, .int v3)] → va_P G vwCl (tw_wP cI pa P ++ tw_wS cI sa S) H → va_D A (tw_wP cI pa P ++ tw_wS cI sa S) → va_S A s.heap H locs → W p l e rmX0_lengthOfLaid s m args below meth c H locs 0 0 Q (F0 m 4 ls []) := by
    intro n4
    induction n4 with
    | zero =>
      intro v2 v3 H locs ls h
      rw [fX0_lengthOfLaid_4] at h
      cases h
    | succ n4 ih4 =>
      intro v2 v3 H locs ls h hl hP hD hS
      rw [fX0_lengthOfLaid_4] at h
      refine lv_iload_n hx hb dX0_lengthOfLaid_4 rfl (lv_at hl 3 rfl) ?_
      refine lv_aload_n hx hb dX0_lengthOfLaid_5 rfl (lv_at hl 1 rfl) ?_
      refine va_get (D := G) (ci := 1) (v := .int S.2.2.2.2.2.2.2.1) (C := RX1) (T := TX1) (N := 9) hx hb hts iX0_lengthOfLaid_X1 hown hK hP 3 rfl rfl 7 (by decide) (hts _ qX0_lengthOfLaid_0) (fun _ h9 => h9) rfl dX0_lengthOfLaid_6 ?_
      refine lv_icmp_ge (tgt := 37) hx hb dX0_lengthOfLaid_9 (by decide) (fun c9 => ?_) (fun c9 => ?_)
      · replace h := tw_t c9 h
        refine lv_iload_n hx hb dX0_lengthOfLaid_37 rfl (lv_at hl 2 rfl) ?_
        exact hq H locs _ ls v2 (tw_rt (fun r => r = v2) h rfl) rfl hP hS dX0_lengthOfLaid_38
      · replace h := tw_f c9 h
        refine lv_aload_n hx hb dX0_lengthOfLaid_12 rfl (lv_at hl 0 rfl) ?_
        refine va_get (D := G) (ci := 0) (v := .ref (pa 1)) (C := RX0) (T := TX0) (N := 5) hx hb hts iX0_lengthOfLaid_X0 hown hK hP 0 rfl rfl 0 (by decide) (hts _ qX0_lengthOfLaid_1) (fun _ h9 => h9) rfl dX0_lengthOfLaid_13 ?_
        refine lv_iload_n hx hb dX0_lengthOfLaid_16 rfl (lv_at hl 3 rfl) ?_
        obtain ⟨g17, h⟩ := tw_gs h
        refine va_iald (f := P.1) (n := 12) hx hb hK hP 1 0 rfl rfl g17 dX0_lengthOfLaid_17 ?_
        refine lv_iconst (v := (-1 : Int32)) hx hb dX0_lengthOfLaid_18 (by decide) ?_
        refine lv_icmp_eq (tgt := 31) hx hb dX0_lengthOfLaid_19 (by decide) (fun c19 => ?_) (fun c19 => ?_)
        · replace h := tw_t c19 h
          refine lv_iinc (v := (v3 + 1)) (lv' := [(3, .int (v3 + 1)), (0, .ref (pa 0)), (1, .ref (sa 0)), (2, .int v2)]) hx hb dX0_lengthOfLaid_31 hl (k := 3) rfl rfl (by decide) rfl (fun ls hl => ?_)
          refine lv_goto (tgt := 4) hx hb dX0_lengthOfLaid_34 (by decide) ?_
          exact ih4 v2 (v3 + 1) H locs ls h (lv_sub hl [1, 2, 3, 0] rfl) hP hD hS
        · replace h := tw_f c19 h
          refine lv_iload_n hx hb dX0_lengthOfLaid_22 rfl (lv_at hl 2 rfl) ?_
          refine lv_aload_n hx hb dX0_lengthOfLaid_23 rfl (lv_at hl 1 rfl) ?_
          refine va_get (D := G) (ci := 1) (v := .ref (sa 1)) (C := RX1) (T := TX1) (N := 9) hx hb hts iX0_lengthOfLaid_X1 hown hK hP 3 rfl rfl 0 (by decide) (hts _ qX0_lengthOfLaid_2) (fun _ h9 => h9) rfl dX0_lengthOfLaid_24 ?_
          refine lv_iload_n hx hb dX0_lengthOfLaid_27 rfl (lv_at hl 3 rfl) ?_
          obtain ⟨g28, h⟩ := tw_gs h
          refine va_iald (f := S.1) (n := 12) hx hb hK hP 4 0 rfl rfl g28 dX0_lengthOfLaid_28 ?_
          refine lv_iadd hx hb dX0_lengthOfLaid_29 ?_
          refine lv_istore_n (lv' := [(2, .int (v2 + (S.1 v3.toNatClampNeg))), (0, .ref (pa 0)), (1, .ref (sa 0)), (3, .int v3)]) hx hb dX0_lengthOfLaid_30 rfl hl (by decide) rfl (fun ls hl => ?_)
          refine lv_iinc (v := (v3 + 1)) (lv' := [(3, .int (v3 + 1)), (2, .int (v2 + (S.1 v3.toNatClampNeg))), (0, .ref (pa 0)), (1, .ref (sa 0))]) hx hb dX0_lengthOfLaid_31 hl (k := 3) rfl rfl (by decide) rfl (fun ls hl => ?_)
          refine lv_goto (tgt := 4) hx hb dX0_lengthOfLaid_34 (by decide) ?_
          exact ih4 (v2 + (S.1 v3.toNatClampNeg)) (v3 + 1) H locs ls h (lv_sub hl [2, 3, 1, 0] rfl) hP hD hS
  refine lv_iconst (v := (0 : Int32)) hx hb dX0_lengthOfLaid_0 (by decide) ?_
  refine lv_istore_n (lv' := [(2, .int (0 : Int32)), (0, .ref (pa 0)), (1, .ref (sa 0))]) hx hb dX0_lengthOfLaid_1 rfl hl (by decide) rfl (fun ls hl => ?_)
  refine lv_iconst (v := (0 : Int32)) hx hb dX0_lengthOfLaid_2 (by decide) ?_
  refine lv_istore_n (lv' := [(3, .int (0 : Int32)), (2, .int (0 : Int32)), (0, .ref (pa 0)), (1, .ref (sa 0))]) hx hb dX0_lengthOfLaid_3 rfl hl (by decide) rfl (fun ls hl => ?_)
  exact L4 512 (0 : Int32) (0 : Int32) H locs ls h (lv_sub hl [2, 3, 1, 0] rfl) hP hD hS
abbrev rmX0_daysIn : Room := { frames := 0, cells := 0, slots := 0, locals := 0 }
set_option maxRecDepth 20000 in
theorem qX0_daysIn_0 : (Cond.fieldLink RX0 28 "TheatreWall$State" "size" "I") ∈ wsX0_daysIn := (List.mem_cons_of_mem _ (List.mem_append_left _ (List.mem_append_left _ (List.mem_of_getElem? (i := 0) rfl))))
set_option maxRecDepth 20000 in
theorem qX0_daysIn_1 : (Cond.fieldLink RX0 9 "TheatreWall$Plan" "begins" "[I") ∈ wsX0_daysIn := (List.mem_cons_of_mem _ (List.mem_append_left _ (List.mem_append_left _ (List.mem_of_getElem? (i := 1) rfl))))
set_option maxRecDepth 20000 in
theorem qX0_daysIn_2 : (Cond.fieldLink RX0 59 "TheatreWall$State" "halls" "[I") ∈ wsX0_daysIn := (List.mem_cons_of_mem _ (List.mem_append_left _ (List.mem_append_left _ (List.mem_of_getElem? (i := 2) rfl))))
set_option maxRecDepth 20000 in
theorem qX0_daysIn_3 : (Cond.fieldLink RX0 44 "TheatreWall$State" "lengths" "[I") ∈ wsX0_daysIn := (List.mem_cons_of_mem _ (List.mem_append_left _ (List.mem_append_left _ (List.mem_of_getElem? (i := 3) rfl))))
set_option maxRecDepth 20000 in
theorem iX0_daysIn_X1 : ∀ w ∈ u_ws RX1 TX1 9, w ∈ wsX0_daysIn := fun w h => (List.mem_cons_of_mem _ (List.mem_append_left _ (List.mem_append_right _ h)))
set_option maxRecDepth 20000 in
theorem iX0_daysIn_X0 : ∀ w ∈ u_ws RX0 TX0 5, w ∈ wsX0_daysIn := fun w h => (List.mem_cons_of_mem _ (List.mem_append_right _ h))
set_option maxHeartbeats 4000000 in
set_option maxRecDepth 100000 in
theorem mX0_daysIn (l : Launch) (G : va_G) (cI : ClassId) (pa : Nat → Nat) (sa : Nat → Nat) (P : tw_Pl) (S : tw_St) (sz : Nat) (p2 : Int32) {rv : Int32} (h : fX0_daysIn P S p2 = some rv) : tw_Mi l yX0_daysIn wsX0_daysIn rmX0_daysIn G [(cI, .int)] (tw_wP cI pa P ++ tw_wS cI sa S) [.ref (pa 0), .ref (sa 0), .int p2] sz rv (tw_wP cI pa P ++ tw_wS cI sa S) := by
  refine tw_ofi (ty := .int) (cc := cX0_daysIn) (maxL := 5) (own := RX0) (by decide) rfl rfl (Nat.le_of_ble_eq_true rfl) ?_
  intro p e s m args below meth c Q A ls H locs F hN hK hP hD hS hA hl hq
  obtain ⟨hx, hb, hml, hown, hts⟩ := id F
  have hl : lv_has ls 5 [(0, .ref (pa 0)), (1, .ref (sa 0)), (2, .int p2)] := hl
  unfold fX0_daysIn at h
  have L5 : ∀ (n5 : Nat) (v3 : Int32) (v4 : Int32) (H : Heap) (locs : List Loc) (ls : Array Slot), fX0_daysIn_5 P S p2 n5 v3 v4 = some rv → lv_has ls 5 [(0, .ref (pa 0)), (1, .ref (sa 0)), (2, .int p2), (3, .int v3), (4, .int v4)] → va_P G vwCl (tw_wP cI pa P ++ tw_wS cI sa S) H → va_D A (tw_wP cI pa P ++ tw_wS cI sa S) → va_S A s.heap H locs → W p l e rmX0_daysIn s m args below meth c H locs 0 0 Q (F0 m 5 ls []) := by
    intro n5
    induction n5 with
    | zero =>
      intro v3 v4 H locs ls h
      rw [fX0_daysIn_5] at h
      cases h
    | succ n5 ih5 =>
      intro v3 v4 H locs ls h hl hP hD hS
      rw [fX0_daysIn_5] at h
      refine lv_iload hx hb dX0_daysIn_5 (lv_at hl 4 rfl) ?_
      refine lv_aload_n hx hb dX0_daysIn_7 rfl (lv_at hl 1 rfl) ?_
      refine va_get (D := G) (ci := 1) (v := .int S.2.2.2.2.2.2.2.1) (C := RX1) (T := TX1) (N := 9) hx hb hts iX0_daysIn_X1 hown hK hP 3 rfl rfl 7 (by decide) (hts _ qX0_daysIn_0) (fun _ h9 => h9) rfl dX0_daysIn_8 ?_
      refine lv_icmp_ge (tgt := 52) hx hb dX0_daysIn_11 (by decide) (fun c11 => ?_) (fun c11 => ?_)
      · replace h := tw_t c11 h
        refine lv_iload_n hx hb dX0_daysIn_52 rfl (lv_at hl 3 rfl) ?_
        exact hq H locs _ ls v3 (tw_rt (fun r => r = v3) h rfl) rfl hP hS dX0_daysIn_53
      · replace h := tw_f c11 h
        refine lv_aload_n hx hb dX0_daysIn_14 rfl (lv_at hl 0 rfl) ?_
        refine va_get (D := G) (ci := 0) (v := .ref (pa 1)) (C := RX0) (T := TX0) (N := 5) hx hb hts iX0_daysIn_X0 hown hK hP 0 rfl rfl 0 (by decide) (hts _ qX0_daysIn_1) (fun _ h9 => h9) rfl dX0_daysIn_15 ?_
        refine lv_iload hx hb dX0_daysIn_18 (lv_at hl 4 rfl) ?_
        obtain ⟨g20, h⟩ := tw_gs h
        refine va_iald (f := P.1) (n := 12) hx hb hK hP 1 0 rfl rfl g20 dX0_daysIn_20 ?_
        refine lv_iconst (v := (-1 : Int32)) hx hb dX0_daysIn_21 (by decide) ?_
        refine lv_icmp_eq (tgt := 46) hx hb dX0_daysIn_22 (by decide) (fun c22 => ?_) (fun c22 => ?_)
        · replace h := tw_t c22 h
          refine lv_iinc (v := (v4 + 1)) (lv' := [(4, .int (v4 + 1)), (0, .ref (pa 0)), (1, .ref (sa 0)), (2, .int p2), (3, .int v3)]) hx hb dX0_daysIn_46 hl (k := 4) rfl rfl (by decide) rfl (fun ls hl => ?_)
          refine lv_goto (tgt := 5) hx hb dX0_daysIn_49 (by decide) ?_
          exact ih5 v3 (v4 + 1) H locs ls h (lv_sub hl [1, 2, 3, 4, 0] rfl) hP hD hS
        · replace h := tw_f c22 h
          refine lv_aload_n hx hb dX0_daysIn_25 rfl (lv_at hl 1 rfl) ?_
          refine va_get (D := G) (ci := 1) (v := .ref (sa 3)) (C := RX1) (T := TX1) (N := 9) hx hb hts iX0_daysIn_X1 hown hK hP 3 rfl rfl 2 (by decide) (hts _ qX0_daysIn_2) (fun _ h9 => h9) rfl dX0_daysIn_26 ?_
          refine lv_iload hx hb dX0_daysIn_29 (lv_at hl 4 rfl) ?_
          obtain ⟨g31, h⟩ := tw_gs h
          refine va_iald (f := S.2.2.1) (n := 12) hx hb hK hP 6 0 rfl rfl g31 dX0_daysIn_31 ?_
          refine lv_iload_n hx hb dX0_daysIn_32 rfl (lv_at hl 2 rfl) ?_
          refine lv_icmp_ne (tgt := 46) hx hb dX0_daysIn_33 (by decide) (fun c33 => ?_) (fun c33 => ?_)
          · replace h := tw_t c33 h
            refine lv_iinc (v := (v4 + 1)) (lv' := [(4, .int (v4 + 1)), (0, .ref (pa 0)), (1, .ref (sa 0)), (2, .int p2), (3, .int v3)]) hx hb dX0_daysIn_46 hl (k := 4) rfl rfl (by decide) rfl (fun ls hl => ?_)
            refine lv_goto (tgt := 5) hx hb dX0_daysIn_49 (by decide) ?_
            exact ih5 v3 (v4 + 1) H locs ls h (lv_sub hl [1, 2, 3, 4, 0] rfl) hP hD hS
          · replace h := tw_fn c33 h
            refine lv_iload_n hx hb dX0_daysIn_36 rfl (lv_at hl 3 rfl) ?_
            refine lv_aload_n hx hb dX0_daysIn_37 rfl (lv_at hl 1 rfl) ?_
            refine va_get (D := G) (ci := 1) (v := .ref (sa 1)) (C := RX1) (T := TX1) (N := 9) hx hb hts iX0_daysIn_X1 hown hK hP 3 rfl rfl 0 (by decide) (hts _ qX0_daysIn_3) (fun _ h9 => h9) rfl dX0_daysIn_38 ?_
            refine lv_iload hx hb dX0_daysIn_41 (lv_at hl 4 rfl) ?_
            obtain ⟨g43, h⟩ := tw_gs h
            refine va_iald (f := S.1) (n := 12) hx hb hK hP 4 0 rfl rfl g43 dX0_daysIn_43 ?_
            refine lv_iadd hx hb dX0_daysIn_44 ?_
            refine lv_istore_n (lv' := [(3, .int (v3 + (S.1 v4.toNatClampNeg))), (0, .ref (pa 0)), (1, .ref (sa 0)), (2, .int p2), (4, .int v4)]) hx hb dX0_daysIn_45 rfl hl (by decide) rfl (fun ls hl => ?_)
            refine lv_iinc (v := (v4 + 1)) (lv' := [(4, .int (v4 + 1)), (3, .int (v3 + (S.1 v4.toNatClampNeg))), (0, .ref (pa 0)), (1, .ref (sa 0)), (2, .int p2)]) hx hb dX0_daysIn_46 hl (k := 4) rfl rfl (by decide) rfl (fun ls hl => ?_)
            refine lv_goto (tgt := 5) hx hb dX0_daysIn_49 (by decide) ?_
            exact ih5 (v3 + (S.1 v4.toNatClampNeg)) (v4 + 1) H locs ls h (lv_sub hl [2, 3, 4, 1, 0] rfl) hP hD hS
  refine lv_iconst (v := (0 : Int32)) hx hb dX0_daysIn_0 (by decide) ?_
  refine lv_istore_n (lv' := [(3, .int (0 : Int32)), (0, .ref (pa 0)), (1, .ref (sa 0)), (2, .int p2)]) hx hb dX0_daysIn_1 rfl hl (by decide) rfl (fun ls hl => ?_)
  refine lv_iconst (v := (0 : Int32)) hx hb dX0_daysIn_2 (by decide) ?_
  refine lv_istore (lv' := [(4, .int (0 : Int32)), (3, .int (0 : Int32)), (0, .ref (pa 0)), (1, .ref (sa 0)), (2, .int p2)]) hx hb dX0_daysIn_3 hl (by decide) rfl (fun ls hl => ?_)
  exact L5 512 (0 : Int32) (0 : Int32) H locs ls h (lv_sub hl [2, 3, 4, 1, 0] rfl) hP hD hS
abbrev rmX0_tasksIn : Room := { frames := 0, cells := 0, slots := 0, locals := 0 }
set_option maxRecDepth 20000 in
theorem qX0_tasksIn_0 : (Cond.fieldLink RX0 28 "TheatreWall$State" "size" "I") ∈ wsX0_tasksIn := (List.mem_cons_of_mem _ (List.mem_append_left _ (List.mem_append_left _ (List.mem_of_getElem? (i := 0) rfl))))
set_option maxRecDepth 20000 in
theorem qX0_tasksIn_1 : (Cond.fieldLink RX0 9 "TheatreWall$Plan" "begins" "[I") ∈ wsX0_tasksIn := (List.mem_cons_of_mem _ (List.mem_append_left _ (List.mem_append_left _ (List.mem_of_getElem? (i := 1) rfl))))
set_option maxRecDepth 20000 in
theorem qX0_tasksIn_2 : (Cond.fieldLink RX0 59 "TheatreWall$State" "halls" "[I") ∈ wsX0_tasksIn := (List.mem_cons_of_mem _ (List.mem_append_left _ (List.mem_append_left _ (List.mem_of_getElem? (i := 2) rfl))))
set_option maxRecDepth 20000 in
theorem iX0_tasksIn_X1 : ∀ w ∈ u_ws RX1 TX1 9, w ∈ wsX0_tasksIn := fun w h => (List.mem_cons_of_mem _ (List.mem_append_left _ (List.mem_append_right _ h)))
set_option maxRecDepth 20000 in
theorem iX0_tasksIn_X0 : ∀ w ∈ u_ws RX0 TX0 5, w ∈ wsX0_tasksIn := fun w h => (List.mem_cons_of_mem _ (List.mem_append_right _ h))
set_option maxHeartbeats 4000000 in
set_option maxRecDepth 100000 in
theorem mX0_tasksIn (l : Launch) (G : va_G) (cI : ClassId) (pa : Nat → Nat) (sa : Nat → Nat) (P : tw_Pl) (S : tw_St) (sz : Nat) (p2 : Int32) {rv : Int32} (h : fX0_tasksIn P S p2 = some rv) : tw_Mi l yX0_tasksIn wsX0_tasksIn rmX0_tasksIn G [(cI, .int)] (tw_wP cI pa P ++ tw_wS cI sa S) [.ref (pa 0), .ref (sa 0), .int p2] sz rv (tw_wP cI pa P ++ tw_wS cI sa S) := by
  refine tw_ofi (ty := .int) (cc := cX0_tasksIn) (maxL := 5) (own := RX0) (by decide) rfl rfl (Nat.le_of_ble_eq_true rfl) ?_
  intro p e s m args below meth c Q A ls H locs F hN hK hP hD hS hA hl hq
  obtain ⟨hx, hb, hml, hown, hts⟩ := id F
  have hl : lv_has ls 5 [(0, .ref (pa 0)), (1, .ref (sa 0)), (2, .int p2)] := hl
  unfold fX0_tasksIn at h
  have L5 : ∀ (n5 : Nat) (v3 : Int32) (v4 : Int32) (H : Heap) (locs : List Loc) (ls : Array Slot), fX0_tasksIn_5 P S p2 n5 v3 v4 = some rv → lv_has ls 5 [(0, .ref (pa 0)), (1, .ref (sa 0)), (2, .int p2), (3, .int v3), (4, .int v4)] → va_P G vwCl (tw_wP cI pa P ++ tw_wS cI sa S) H → va_D A (tw_wP cI pa P ++ tw_wS cI sa S) → va_S A s.heap H locs → W p l e rmX0_tasksIn s m args below meth c H locs 0 0 Q (F0 m 5 ls []) := by
    intro n5
    induction n5 with
    | zero =>
      intro v3 v4 H locs ls h
      rw [fX0_tasksIn_5] at h
      cases h
    | succ n5 ih5 =>
      intro v3 v4 H locs ls h hl hP hD hS
      rw [fX0_tasksIn_5] at h
      refine lv_iload hx hb dX0_tasksIn_5 (lv_at hl 4 rfl) ?_
      refine lv_aload_n hx hb dX0_tasksIn_7 rfl (lv_at hl 1 rfl) ?_
      refine va_get (D := G) (ci := 1) (v := .int S.2.2.2.2.2.2.2.1) (C := RX1) (T := TX1) (N := 9) hx hb hts iX0_tasksIn_X1 hown hK hP 3 rfl rfl 7 (by decide) (hts _ qX0_tasksIn_0) (fun _ h9 => h9) rfl dX0_tasksIn_8 ?_
      refine lv_icmp_ge (tgt := 45) hx hb dX0_tasksIn_11 (by decide) (fun c11 => ?_) (fun c11 => ?_)
      · replace h := tw_t c11 h
        refine lv_iload_n hx hb dX0_tasksIn_45 rfl (lv_at hl 3 rfl) ?_
        exact hq H locs _ ls v3 (tw_rt (fun r => r = v3) h rfl) rfl hP hS dX0_tasksIn_46
      · replace h := tw_f c11 h
        refine lv_aload_n hx hb dX0_tasksIn_14 rfl (lv_at hl 0 rfl) ?_
        refine va_get (D := G) (ci := 0) (v := .ref (pa 1)) (C := RX0) (T := TX0) (N := 5) hx hb hts iX0_tasksIn_X0 hown hK hP 0 rfl rfl 0 (by decide) (hts _ qX0_tasksIn_1) (fun _ h9 => h9) rfl dX0_tasksIn_15 ?_
        refine lv_iload hx hb dX0_tasksIn_18 (lv_at hl 4 rfl) ?_
        obtain ⟨g20, h⟩ := tw_gs h
        refine va_iald (f := P.1) (n := 12) hx hb hK hP 1 0 rfl rfl g20 dX0_tasksIn_20 ?_
        refine lv_iconst (v := (-1 : Int32)) hx hb dX0_tasksIn_21 (by decide) ?_
        refine lv_icmp_eq (tgt := 39) hx hb dX0_tasksIn_22 (by decide) (fun c22 => ?_) (fun c22 => ?_)
        · replace h := tw_t c22 h
          refine lv_iinc (v := (v4 + 1)) (lv' := [(4, .int (v4 + 1)), (0, .ref (pa 0)), (1, .ref (sa 0)), (2, .int p2), (3, .int v3)]) hx hb dX0_tasksIn_39 hl (k := 4) rfl rfl (by decide) rfl (fun ls hl => ?_)
          refine lv_goto (tgt := 5) hx hb dX0_tasksIn_42 (by decide) ?_
          exact ih5 v3 (v4 + 1) H locs ls h (lv_sub hl [1, 2, 3, 4, 0] rfl) hP hD hS
        · replace h := tw_f c22 h
          refine lv_aload_n hx hb dX0_tasksIn_25 rfl (lv_at hl 1 rfl) ?_
          refine va_get (D := G) (ci := 1) (v := .ref (sa 3)) (C := RX1) (T := TX1) (N := 9) hx hb hts iX0_tasksIn_X1 hown hK hP 3 rfl rfl 2 (by decide) (hts _ qX0_tasksIn_2) (fun _ h9 => h9) rfl dX0_tasksIn_26 ?_
          refine lv_iload hx hb dX0_tasksIn_29 (lv_at hl 4 rfl) ?_
          obtain ⟨g31, h⟩ := tw_gs h
          refine va_iald (f := S.2.2.1) (n := 12) hx hb hK hP 6 0 rfl rfl g31 dX0_tasksIn_31 ?_
          refine lv_iload_n hx hb dX0_tasksIn_32 rfl (lv_at hl 2 rfl) ?_
          refine lv_icmp_ne (tgt := 39) hx hb dX0_tasksIn_33 (by decide) (fun c33 => ?_) (fun c33 => ?_)
          · replace h := tw_t c33 h
            refine lv_iinc (v := (v4 + 1)) (lv' := [(4, .int (v4 + 1)), (0, .ref (pa 0)), (1, .ref (sa 0)), (2, .int p2), (3, .int v3)]) hx hb dX0_tasksIn_39 hl (k := 4) rfl rfl (by decide) rfl (fun ls hl => ?_)
            refine lv_goto (tgt := 5) hx hb dX0_tasksIn_42 (by decide) ?_
            exact ih5 v3 (v4 + 1) H locs ls h (lv_sub hl [1, 2, 3, 4, 0] rfl) hP hD hS
          · replace h := tw_fn c33 h
            refine lv_iinc (v := (v3 + 1)) (lv' := [(3, .int (v3 + 1)), (0, .ref (pa 0)), (1, .ref (sa 0)), (2, .int p2), (4, .int v4)]) hx hb dX0_tasksIn_36 hl (k := 3) rfl rfl (by decide) rfl (fun ls hl => ?_)
            refine lv_iinc (v := (v4 + 1)) (lv' := [(4, .int (v4 + 1)), (3, .int (v3 + 1)), (0, .ref (pa 0)), (1, .ref (sa 0)), (2, .int p2)]) hx hb dX0_tasksIn_39 hl (k := 4) rfl rfl (by decide) rfl (fun ls hl => ?_)
            refine lv_goto (tgt := 5) hx hb dX0_tasksIn_42 (by decide) ?_
            exact ih5 (v3 + 1) (v4 + 1) H locs ls h (lv_sub hl [2, 3, 4, 1, 0] rfl) hP hD hS
  refine lv_iconst (v := (0 : Int32)) hx hb dX0_tasksIn_0 (by decide) ?_
  refine lv_istore_n (lv' := [(3, .int (0 : Int32)), (0, .ref (pa 0)), (1, .ref (sa 0)), (2, .int p2)]) hx hb dX0_tasksIn_1 rfl hl (by decide) rfl (fun ls hl => ?_)
  refine lv_iconst (v := (0 : Int32)) hx hb dX0_tasksIn_2 (by decide) ?_
  refine lv_istore (lv' := [(4, .int (0 : Int32)), (3, .int (0 : Int32)), (0, .ref (pa 0)), (1, .ref (sa 0)), (2, .int p2)]) hx hb dX0_tasksIn_3 hl (by decide) rfl (fun ls hl => ?_)
  exact L5 512 (0 : Int32) (0 : Int32) H locs ls h (lv_sub hl [2, 3, 4, 1, 0] rfl) hP hD hS
abbrev rmX0_taskOnP : Room := { frames := 0, cells := 0, slots := 0, locals := 0 }
set_option maxRecDepth 20000 in
theorem qX0_taskOnP_0 : (Cond.fieldLink RX0 28 "TheatreWall$State" "size" "I") ∈ wsX0_taskOn := (List.mem_cons_of_mem _ (List.mem_append_left _ (List.mem_append_left _ (List.mem_of_getElem? (i := 0) rfl))))
set_option maxRecDepth 20000 in
theorem qX0_taskOnP_1 : (Cond.fieldLink RX0 9 "TheatreWall$Plan" "begins" "[I") ∈ wsX0_taskOn := (List.mem_cons_of_mem _ (List.mem_append_left _ (List.mem_append_left _ (List.mem_of_getElem? (i := 1) rfl))))
set_option maxRecDepth 20000 in
theorem qX0_taskOnP_2 : (Cond.fieldLink RX0 44 "TheatreWall$State" "lengths" "[I") ∈ wsX0_taskOn := (List.mem_cons_of_mem _ (List.mem_append_left _ (List.mem_append_left _ (List.mem_of_getElem? (i := 2) rfl))))
set_option maxRecDepth 20000 in
theorem iX0_taskOnP_X1 : ∀ w ∈ u_ws RX1 TX1 9, w ∈ wsX0_taskOn := fun w h => (List.mem_cons_of_mem _ (List.mem_append_left _ (List.mem_append_right _ h)))
set_option maxRecDepth 20000 in
theorem iX0_taskOnP_X0 : ∀ w ∈ u_ws RX0 TX0 5, w ∈ wsX0_taskOn := fun w h => (List.mem_cons_of_mem _ (List.mem_append_right _ h))
set_option maxHeartbeats 4000000 in
set_option maxRecDepth 100000 in
theorem mX0_taskOnP (l : Launch) (G : va_G) (cI : ClassId) (pa : Nat → Nat) (sa : Nat → Nat) (P : tw_Pl) (S : tw_St) (sz : Nat) (p3 : Int32) (p4 : Int32) {rv : Int32} (h : fX0_taskOnP P S p3 p4 = some rv) : tw_Mi l yX0_taskOn wsX0_taskOn rmX0_taskOnP G [(cI, .int)] (tw_wP cI pa P ++ tw_wS cI sa S) [.ref (pa 0), .ref (sa 0), .ref (sa 2), .int p3, .int p4] sz rv (tw_wP cI pa P ++ tw_wS cI sa S) := by
  refine tw_ofi (ty := .int) (cc := cX0_taskOn) (maxL := 7) (own := RX0) (by decide) rfl rfl (Nat.le_of_ble_eq_true rfl) ?_
  intro p e s m args below meth c Q A ls H locs F hN hK hP hD hS hA hl hq
  obtain ⟨hx, hb, hml, hown, hts⟩ := id F
  have hl : lv_has ls 7 [(0, .ref (pa 0)), (1, .ref (sa 0)), (2, .ref (sa 2)), (3, .int p3), (4, .int p4)] := hl
  unfold fX0_taskOnP at h
  have L3 : ∀ (n3 : Nat) (v5 : Int32) (H : Heap) (locs : List Loc) (ls : Array Slot), fX0_taskOnP_3 P S p3 p4 n3 v5 = some rv → lv_has ls 7 [(0, .ref (pa 0)), (1, .ref (sa 0)), (2, .ref (sa 2)), (3, .int p3), (4, .int p4), (5, .int v5)] → va_P G vwCl (tw_wP cI pa P ++ tw_wS cI sa S) H → va_D A (tw_wP cI pa P ++ tw_wS cI sa S) → va_S A s.heap H locs → W p l e rmX0_taskOnP s m args below meth c H locs 0 0 Q (F0 m 3 ls []) := by
    intro n3
    induction n3 with
    | zero =>
      intro v5 H locs ls h
      rw [fX0_taskOnP_3] at h
      cases h
    | succ n3 ih3 =>
      intro v5 H locs ls h hl hP hD hS
      rw [fX0_taskOnP_3] at h
      refine lv_iload hx hb dX0_taskOn_3 (lv_at hl 5 rfl) ?_
      refine lv_aload_n hx hb dX0_taskOn_5 rfl (lv_at hl 1 rfl) ?_
      refine va_get (D := G) (ci := 1) (v := .int S.2.2.2.2.2.2.2.1) (C := RX1) (T := TX1) (N := 9) hx hb hts iX0_taskOnP_X1 hown hK hP 3 rfl rfl 7 (by decide) (hts _ qX0_taskOnP_0) (fun _ h9 => h9) rfl dX0_taskOn_6 ?_
      refine lv_icmp_ge (tgt := 66) hx hb dX0_taskOn_9 (by decide) (fun c9 => ?_) (fun c9 => ?_)
      · replace h := tw_t c9 h
        refine lv_iconst (v := (-1 : Int32)) hx hb dX0_taskOn_66 (by decide) ?_
        exact hq H locs _ ls (-1 : Int32) (tw_rt (fun r => r = (-1 : Int32)) h rfl) rfl hP hS dX0_taskOn_67
      · replace h := tw_f c9 h
        refine lv_aload_n hx hb dX0_taskOn_12 rfl (lv_at hl 0 rfl) ?_
        refine va_get (D := G) (ci := 0) (v := .ref (pa 1)) (C := RX0) (T := TX0) (N := 5) hx hb hts iX0_taskOnP_X0 hown hK hP 0 rfl rfl 0 (by decide) (hts _ qX0_taskOnP_1) (fun _ h9 => h9) rfl dX0_taskOn_13 ?_
        refine lv_iload hx hb dX0_taskOn_16 (lv_at hl 5 rfl) ?_
        obtain ⟨g18, h⟩ := tw_gs h
        refine va_iald (f := P.1) (n := 12) hx hb hK hP 1 0 rfl rfl g18 dX0_taskOn_18 ?_
        refine lv_istore (lv' := [(6, .int (P.1 v5.toNatClampNeg)), (0, .ref (pa 0)), (1, .ref (sa 0)), (2, .ref (sa 2)), (3, .int p3), (4, .int p4), (5, .int v5)]) hx hb dX0_taskOn_19 hl (by decide) rfl (fun ls hl => ?_)
        refine lv_iload hx hb dX0_taskOn_21 (lv_at hl 0 rfl) ?_
        refine lv_iconst (v := (-1 : Int32)) hx hb dX0_taskOn_23 (by decide) ?_
        refine lv_icmp_eq (tgt := 60) hx hb dX0_taskOn_24 (by decide) (fun c24 => ?_) (fun c24 => ?_)
        · replace h := tw_t c24 h
          refine lv_iinc (v := (v5 + 1)) (lv' := [(5, .int (v5 + 1)), (6, .int (P.1 v5.toNatClampNeg)), (0, .ref (pa 0)), (1, .ref (sa 0)), (2, .ref (sa 2)), (3, .int p3), (4, .int p4)]) hx hb dX0_taskOn_60 hl (k := 6) rfl rfl (by decide) rfl (fun ls hl => ?_)
          refine lv_goto (tgt := 3) hx hb dX0_taskOn_63 (by decide) ?_
          exact ih3 (v5 + 1) H locs ls h (lv_sub hl [2, 3, 4, 5, 6, 0] rfl) hP hD hS
        · replace h := tw_f c24 h
          refine lv_aload_n hx hb dX0_taskOn_27 rfl (lv_at hl 3 rfl) ?_
          refine lv_iload hx hb dX0_taskOn_28 (lv_at hl 6 rfl) ?_
          obtain ⟨g30, h⟩ := tw_gs h
          refine va_iald (f := S.2.1) (n := 12) hx hb hK hP 5 0 rfl rfl g30 dX0_taskOn_30 ?_
          refine lv_iload_n hx hb dX0_taskOn_31 rfl (lv_at hl 4 rfl) ?_
          refine lv_icmp_ne (tgt := 60) hx hb dX0_taskOn_32 (by decide) (fun c32 => ?_) (fun c32 => ?_)
          · replace h := tw_t c32 h
            refine lv_iinc (v := (v5 + 1)) (lv' := [(5, .int (v5 + 1)), (6, .int (P.1 v5.toNatClampNeg)), (0, .ref (pa 0)), (1, .ref (sa 0)), (2, .ref (sa 2)), (3, .int p3), (4, .int p4)]) hx hb dX0_taskOn_60 hl (k := 6) rfl rfl (by decide) rfl (fun ls hl => ?_)
            refine lv_goto (tgt := 3) hx hb dX0_taskOn_63 (by decide) ?_
            exact ih3 (v5 + 1) H locs ls h (lv_sub hl [2, 3, 4, 5, 6, 0] rfl) hP hD hS
          · replace h := tw_fn c32 h
            refine lv_iload hx hb dX0_taskOn_35 (lv_at hl 0 rfl) ?_
            refine lv_iload hx hb dX0_taskOn_37 (lv_at hl 5 rfl) ?_
            refine lv_icmp_gt (tgt := 60) hx hb dX0_taskOn_39 (by decide) (fun c39 => ?_) (fun c39 => ?_)
            · replace h := tw_t c39 h
              refine lv_iinc (v := (v5 + 1)) (lv' := [(5, .int (v5 + 1)), (6, .int (P.1 v5.toNatClampNeg)), (0, .ref (pa 0)), (1, .ref (sa 0)), (2, .ref (sa 2)), (3, .int p3), (4, .int p4)]) hx hb dX0_taskOn_60 hl (k := 6) rfl rfl (by decide) rfl (fun ls hl => ?_)
              refine lv_goto (tgt := 3) hx hb dX0_taskOn_63 (by decide) ?_
              exact ih3 (v5 + 1) H locs ls h (lv_sub hl [2, 3, 4, 5, 6, 0] rfl) hP hD hS
            · replace h := tw_f c39 h
              refine lv_iload hx hb dX0_taskOn_42 (lv_at hl 5 rfl) ?_
              refine lv_iload hx hb dX0_taskOn_44 (lv_at hl 0 rfl) ?_
              refine lv_aload_n hx hb dX0_taskOn_46 rfl (lv_at hl 2 rfl) ?_
              refine va_get (D := G) (ci := 1) (v := .ref (sa 1)) (C := RX1) (T := TX1) (N := 9) hx hb hts iX0_taskOnP_X1 hown hK hP 3 rfl rfl 0 (by decide) (hts _ qX0_taskOnP_2) (fun _ h9 => h9) rfl dX0_taskOn_47 ?_
              refine lv_iload hx hb dX0_taskOn_50 (lv_at hl 6 rfl) ?_
              obtain ⟨g52, h⟩ := tw_gs h
              refine va_iald (f := S.1) (n := 12) hx hb hK hP 4 0 rfl rfl g52 dX0_taskOn_52 ?_
              refine lv_iadd hx hb dX0_taskOn_53 ?_
              refine lv_icmp_ge (tgt := 60) hx hb dX0_taskOn_54 (by decide) (fun c54 => ?_) (fun c54 => ?_)
              · replace h := tw_t c54 h
                refine lv_iinc (v := (v5 + 1)) (lv' := [(5, .int (v5 + 1)), (6, .int (P.1 v5.toNatClampNeg)), (0, .ref (pa 0)), (1, .ref (sa 0)), (2, .ref (sa 2)), (3, .int p3), (4, .int p4)]) hx hb dX0_taskOn_60 hl (k := 6) rfl rfl (by decide) rfl (fun ls hl => ?_)
                refine lv_goto (tgt := 3) hx hb dX0_taskOn_63 (by decide) ?_
                exact ih3 (v5 + 1) H locs ls h (lv_sub hl [2, 3, 4, 5, 6, 0] rfl) hP hD hS
              · replace h := tw_f c54 h
                refine lv_iload hx hb dX0_taskOn_57 (lv_at hl 6 rfl) ?_
                exact hq H locs _ ls v5 (tw_rt (fun r => r = v5) h rfl) rfl hP hS dX0_taskOn_59
  refine lv_iconst (v := (0 : Int32)) hx hb dX0_taskOn_0 (by decide) ?_
  refine lv_istore (lv' := [(5, .int (0 : Int32)), (0, .ref (pa 0)), (1, .ref (sa 0)), (2, .ref (sa 2)), (3, .int p3), (4, .int p4)]) hx hb dX0_taskOn_1 hl (by decide) rfl (fun ls hl => ?_)
  exact L3 512 (0 : Int32) H locs ls h (lv_sub hl [1, 2, 3, 4, 5, 0] rfl) hP hD hS
abbrev rmX0_taskOnH : Room := { frames := 0, cells := 0, slots := 0, locals := 0 }
set_option maxRecDepth 20000 in
theorem qX0_taskOnH_0 : (Cond.fieldLink RX0 28 "TheatreWall$State" "size" "I") ∈ wsX0_taskOn := (List.mem_cons_of_mem _ (List.mem_append_left _ (List.mem_append_left _ (List.mem_of_getElem? (i := 0) rfl))))
set_option maxRecDepth 20000 in
theorem qX0_taskOnH_1 : (Cond.fieldLink RX0 9 "TheatreWall$Plan" "begins" "[I") ∈ wsX0_taskOn := (List.mem_cons_of_mem _ (List.mem_append_left _ (List.mem_append_left _ (List.mem_of_getElem? (i := 1) rfl))))
set_option maxRecDepth 20000 in
theorem qX0_taskOnH_2 : (Cond.fieldLink RX0 44 "TheatreWall$State" "lengths" "[I") ∈ wsX0_taskOn := (List.mem_cons_of_mem _ (List.mem_append_left _ (List.mem_append_left _ (List.mem_of_getElem? (i := 2) rfl))))
set_option maxRecDepth 20000 in
theorem iX0_taskOnH_X1 : ∀ w ∈ u_ws RX1 TX1 9, w ∈ wsX0_taskOn := fun w h => (List.mem_cons_of_mem _ (List.mem_append_left _ (List.mem_append_right _ h)))
set_option maxRecDepth 20000 in
theorem iX0_taskOnH_X0 : ∀ w ∈ u_ws RX0 TX0 5, w ∈ wsX0_taskOn := fun w h => (List.mem_cons_of_mem _ (List.mem_append_right _ h))
set_option maxHeartbeats 4000000 in
set_option maxRecDepth 100000 in
theorem mX0_taskOnH (l : Launch) (G : va_G) (cI : ClassId) (pa : Nat → Nat) (sa : Nat → Nat) (P : tw_Pl) (S : tw_St) (sz : Nat) (p3 : Int32) (p4 : Int32) {rv : Int32} (h : fX0_taskOnH P S p3 p4 = some rv) : tw_Mi l yX0_taskOn wsX0_taskOn rmX0_taskOnH G [(cI, .int)] (tw_wP cI pa P ++ tw_wS cI sa S) [.ref (pa 0), .ref (sa 0), .ref (sa 3), .int p3, .int p4] sz rv (tw_wP cI pa P ++ tw_wS cI sa S) := by
  refine tw_ofi (ty := .int) (cc := cX0_taskOn) (maxL := 7) (own := RX0) (by decide) rfl rfl (Nat.le_of_ble_eq_true rfl) ?_
  intro p e s m args below meth c Q A ls H locs F hN hK hP hD hS hA hl hq
  obtain ⟨hx, hb, hml, hown, hts⟩ := id F
  have hl : lv_has ls 7 [(0, .ref (pa 0)), (1, .ref (sa 0)), (2, .ref (sa 3)), (3, .int p3), (4, .int p4)] := hl
  unfold fX0_taskOnH at h
  have L3 : ∀ (n3 : Nat) (v5 : Int32) (H : Heap) (locs : List Loc) (ls : Array Slot), fX0_taskOnH_3 P S p3 p4 n3 v5 = some rv → lv_has ls 7 [(0, .ref (pa 0)), (1, .ref (sa 0)), (2, .ref (sa 3)), (3, .int p3), (4, .int p4), (5, .int v5)] → va_P G vwCl (tw_wP cI pa P ++ tw_wS cI sa S) H → va_D A (tw_wP cI pa P ++ tw_wS cI sa S) → va_S A s.heap H locs → W p l e rmX0_taskOnH s m args below meth c H locs 0 0 Q (F0 m 3 ls []) := by
    intro n3
    induction n3 with
    | zero =>
      intro v5 H locs ls h
      rw [fX0_taskOnH_3] at h
      cases h
    | succ n3 ih3 =>
      intro v5 H locs ls h hl hP hD hS
      rw [fX0_taskOnH_3] at h
      refine lv_iload hx hb dX0_taskOn_3 (lv_at hl 5 rfl) ?_
      refine lv_aload_n hx hb dX0_taskOn_5 rfl (lv_at hl 1 rfl) ?_
      refine va_get (D := G) (ci := 1) (v := .int S.2.2.2.2.2.2.2.1) (C := RX1) (T := TX1) (N := 9) hx hb hts iX0_taskOnH_X1 hown hK hP 3 rfl rfl 7 (by decide) (hts _ qX0_taskOnH_0) (fun _ h9 => h9) rfl dX0_taskOn_6 ?_
      refine lv_icmp_ge (tgt := 66) hx hb dX0_taskOn_9 (by decide) (fun c9 => ?_) (fun c9 => ?_)
      · replace h := tw_t c9 h
        refine lv_iconst (v := (-1 : Int32)) hx hb dX0_taskOn_66 (by decide) ?_
        exact hq H locs _ ls (-1 : Int32) (tw_rt (fun r => r = (-1 : Int32)) h rfl) rfl hP hS dX0_taskOn_67
      · replace h := tw_f c9 h
        refine lv_aload_n hx hb dX0_taskOn_12 rfl (lv_at hl 0 rfl) ?_
        refine va_get (D := G) (ci := 0) (v := .ref (pa 1)) (C := RX0) (T := TX0) (N := 5) hx hb hts iX0_taskOnH_X0 hown hK hP 0 rfl rfl 0 (by decide) (hts _ qX0_taskOnH_1) (fun _ h9 => h9) rfl dX0_taskOn_13 ?_
        refine lv_iload hx hb dX0_taskOn_16 (lv_at hl 5 rfl) ?_
        obtain ⟨g18, h⟩ := tw_gs h
        refine va_iald (f := P.1) (n := 12) hx hb hK hP 1 0 rfl rfl g18 dX0_taskOn_18 ?_
        refine lv_istore (lv' := [(6, .int (P.1 v5.toNatClampNeg)), (0, .ref (pa 0)), (1, .ref (sa 0)), (2, .ref (sa 3)), (3, .int p3), (4, .int p4), (5, .int v5)]) hx hb dX0_taskOn_19 hl (by decide) rfl (fun ls hl => ?_)
        refine lv_iload hx hb dX0_taskOn_21 (lv_at hl 0 rfl) ?_
        refine lv_iconst (v := (-1 : Int32)) hx hb dX0_taskOn_23 (by decide) ?_
        refine lv_icmp_eq (tgt := 60) hx hb dX0_taskOn_24 (by decide) (fun c24 => ?_) (fun c24 => ?_)
        · replace h := tw_t c24 h
          refine lv_iinc (v := (v5 + 1)) (lv' := [(5, .int (v5 + 1)), (6, .int (P.1 v5.toNatClampNeg)), (0, .ref (pa 0)), (1, .ref (sa 0)), (2, .ref (sa 3)), (3, .int p3), (4, .int p4)]) hx hb dX0_taskOn_60 hl (k := 6) rfl rfl (by decide) rfl (fun ls hl => ?_)
          refine lv_goto (tgt := 3) hx hb dX0_taskOn_63 (by decide) ?_
          exact ih3 (v5 + 1) H locs ls h (lv_sub hl [2, 3, 4, 5, 6, 0] rfl) hP hD hS
        · replace h := tw_f c24 h
          refine lv_aload_n hx hb dX0_taskOn_27 rfl (lv_at hl 3 rfl) ?_
          refine lv_iload hx hb dX0_taskOn_28 (lv_at hl 6 rfl) ?_
          obtain ⟨g30, h⟩ := tw_gs h
          refine va_iald (f := S.2.2.1) (n := 12) hx hb hK hP 6 0 rfl rfl g30 dX0_taskOn_30 ?_
          refine lv_iload_n hx hb dX0_taskOn_31 rfl (lv_at hl 4 rfl) ?_
          refine lv_icmp_ne (tgt := 60) hx hb dX0_taskOn_32 (by decide) (fun c32 => ?_) (fun c32 => ?_)
          · replace h := tw_t c32 h
            refine lv_iinc (v := (v5 + 1)) (lv' := [(5, .int (v5 + 1)), (6, .int (P.1 v5.toNatClampNeg)), (0, .ref (pa 0)), (1, .ref (sa 0)), (2, .ref (sa 3)), (3, .int p3), (4, .int p4)]) hx hb dX0_taskOn_60 hl (k := 6) rfl rfl (by decide) rfl (fun ls hl => ?_)
            refine lv_goto (tgt := 3) hx hb dX0_taskOn_63 (by decide) ?_
            exact ih3 (v5 + 1) H locs ls h (lv_sub hl [2, 3, 4, 5, 6, 0] rfl) hP hD hS
          · replace h := tw_fn c32 h
            refine lv_iload hx hb dX0_taskOn_35 (lv_at hl 0 rfl) ?_
            refine lv_iload hx hb dX0_taskOn_37 (lv_at hl 5 rfl) ?_
            refine lv_icmp_gt (tgt := 60) hx hb dX0_taskOn_39 (by decide) (fun c39 => ?_) (fun c39 => ?_)
            · replace h := tw_t c39 h
              refine lv_iinc (v := (v5 + 1)) (lv' := [(5, .int (v5 + 1)), (6, .int (P.1 v5.toNatClampNeg)), (0, .ref (pa 0)), (1, .ref (sa 0)), (2, .ref (sa 3)), (3, .int p3), (4, .int p4)]) hx hb dX0_taskOn_60 hl (k := 6) rfl rfl (by decide) rfl (fun ls hl => ?_)
              refine lv_goto (tgt := 3) hx hb dX0_taskOn_63 (by decide) ?_
              exact ih3 (v5 + 1) H locs ls h (lv_sub hl [2, 3, 4, 5, 6, 0] rfl) hP hD hS
            · replace h := tw_f c39 h
              refine lv_iload hx hb dX0_taskOn_42 (lv_at hl 5 rfl) ?_
              refine lv_iload hx hb dX0_taskOn_44 (lv_at hl 0 rfl) ?_
              refine lv_aload_n hx hb dX0_taskOn_46 rfl (lv_at hl 2 rfl) ?_
              refine va_get (D := G) (ci := 1) (v := .ref (sa 1)) (C := RX1) (T := TX1) (N := 9) hx hb hts iX0_taskOnH_X1 hown hK hP 3 rfl rfl 0 (by decide) (hts _ qX0_taskOnH_2) (fun _ h9 => h9) rfl dX0_taskOn_47 ?_
              refine lv_iload hx hb dX0_taskOn_50 (lv_at hl 6 rfl) ?_
              obtain ⟨g52, h⟩ := tw_gs h
              refine va_iald (f := S.1) (n := 12) hx hb hK hP 4 0 rfl rfl g52 dX0_taskOn_52 ?_
              refine lv_iadd hx hb dX0_taskOn_53 ?_
              refine lv_icmp_ge (tgt := 60) hx hb dX0_taskOn_54 (by decide) (fun c54 => ?_) (fun c54 => ?_)
              · replace h := tw_t c54 h
                refine lv_iinc (v := (v5 + 1)) (lv' := [(5, .int (v5 + 1)), (6, .int (P.1 v5.toNatClampNeg)), (0, .ref (pa 0)), (1, .ref (sa 0)), (2, .ref (sa 3)), (3, .int p3), (4, .int p4)]) hx hb dX0_taskOn_60 hl (k := 6) rfl rfl (by decide) rfl (fun ls hl => ?_)
                refine lv_goto (tgt := 3) hx hb dX0_taskOn_63 (by decide) ?_
                exact ih3 (v5 + 1) H locs ls h (lv_sub hl [2, 3, 4, 5, 6, 0] rfl) hP hD hS
              · replace h := tw_f c54 h
                refine lv_iload hx hb dX0_taskOn_57 (lv_at hl 6 rfl) ?_
                exact hq H locs _ ls v5 (tw_rt (fun r => r = v5) h rfl) rfl hP hS dX0_taskOn_59
  refine lv_iconst (v := (0 : Int32)) hx hb dX0_taskOn_0 (by decide) ?_
  refine lv_istore (lv' := [(5, .int (0 : Int32)), (0, .ref (pa 0)), (1, .ref (sa 0)), (2, .ref (sa 3)), (3, .int p3), (4, .int p4)]) hx hb dX0_taskOn_1 hl (by decide) rfl (fun ls hl => ?_)
  exact L3 512 (0 : Int32) H locs ls h (lv_sub hl [1, 2, 3, 4, 5, 0] rfl) hP hD hS
