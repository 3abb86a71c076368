abbrev rmX4_thrown : Room := { frames := 0, cells := 0, slots := 0, locals := 0 }
set_option maxRecDepth 20000 in
theorem qX4_thrown_0 : (Cond.fieldLink RX4 31 "TheatreWallModel" "thrown" "I") ∈ wsX4_thrown := (List.mem_cons_of_mem _ (List.mem_append_left _ (List.mem_of_getElem? (i := 0) rfl)))
set_option maxRecDepth 20000 in
theorem iX4_thrown_X4 : ∀ w ∈ u_ws RX4 TX4 13, w ∈ wsX4_thrown := fun w h => (List.mem_cons_of_mem _ (List.mem_append_right _ h))
set_option maxHeartbeats 4000000 in
set_option maxRecDepth 100000 in
theorem mX4_thrown (l : Launch) (G : va_G) (cI : ClassId) (ma : Nat → Nat) (M : tw_Md) (sz : Nat)  {rv : Int32} (h : fX4_thrown M = some rv) : tw_Mi l yX4_thrown wsX4_thrown rmX4_thrown G [(cI, .int)] (tw_wM cI ma M) [.ref (ma 0)] sz rv (tw_wM cI ma M) := by
  refine tw_ofi (ty := .int) (cc := cX4_thrown) (maxL := 1) (own := RX4) (by decide) rfl rfl (Nat.le_of_ble_eq_true rfl) ?_
  intro p e s m args below meth c Q A ls H locs F hN hK hP hD hS hA hl hq
  obtain ⟨hx, hb, hml, hown, hts⟩ := id F
  have hl : lv_has ls 1 [(0, .ref (ma 0))] := hl
  unfold fX4_thrown at h
  refine lv_aload_n hx hb dX4_thrown_0 rfl (lv_at hl 0 rfl) ?_
  refine va_get (D := G) (ci := 4) (v := .int M.2.2.2.2.2.2.1) (C := RX4) (T := TX4) (N := 13) hx hb hts iX4_thrown_X4 hown hK hP 0 rfl rfl 6 (by decide) (hts _ qX4_thrown_0) (fun _ h9 => h9) rfl dX4_thrown_1 ?_
  exact hq H locs _ ls M.2.2.2.2.2.2.1 (tw_rt (fun r => r = M.2.2.2.2.2.2.1) h rfl) rfl hP hS dX4_thrown_4
abbrev rmX4_fails : Room := { frames := 0, cells := 0, slots := 0, locals := 0 }
set_option maxRecDepth 20000 in
theorem qX4_fails_0 : (Cond.fieldLink RX4 31 "TheatreWallModel" "thrown" "I") ∈ wsX4_fails := (List.mem_cons_of_mem _ (List.mem_append_left _ (List.mem_of_getElem? (i := 0) rfl)))
set_option maxRecDepth 20000 in
theorem iX4_fails_X4 : ∀ w ∈ u_ws RX4 TX4 13, w ∈ wsX4_fails := fun w h => (List.mem_cons_of_mem _ (List.mem_append_right _ h))
set_option maxHeartbeats 4000000 in
set_option maxRecDepth 100000 in
theorem mX4_fails (l : Launch) (G : va_G) (cI : ClassId) (ma : Nat → Nat) (M : tw_Md) (sz : Nat) (p1 : Int32) {rv : Int32 × tw_Md} (h : fX4_fails M p1 = some rv) : tw_Mi l yX4_fails wsX4_fails rmX4_fails G [(cI, .int)] (tw_wM cI ma M) [.ref (ma 0), .int p1] sz rv.1 (tw_wM cI ma rv.2) := by
  refine tw_ofi (ty := .int) (cc := cX4_fails) (maxL := 2) (own := RX4) (by decide) rfl rfl (Nat.le_of_ble_eq_true rfl) ?_
  intro p e s m args below meth c Q A ls H locs F hN hK hP hD hS hA hl hq
  obtain ⟨hx, hb, hml, hown, hts⟩ := id F
  have hl : lv_has ls 2 [(0, .ref (ma 0)), (1, .int p1)] := hl
  unfold fX4_fails at h
  refine lv_aload_n hx hb dX4_fails_0 rfl (lv_at hl 0 rfl) ?_
  refine lv_iload_n hx hb dX4_fails_1 rfl (lv_at hl 1 rfl) ?_
  refine tw_put (ws' := (tw_wM cI ma (M.1, M.2.1, M.2.2.1, M.2.2.2.1, M.2.2.2.2.1, M.2.2.2.2.2.1, p1, M.2.2.2.2.2.2.2.1, M.2.2.2.2.2.2.2.2.1, M.2.2.2.2.2.2.2.2.2.1, M.2.2.2.2.2.2.2.2.2.2.1, M.2.2.2.2.2.2.2.2.2.2.2.1, M.2.2.2.2.2.2.2.2.2.2.2.2))) (D := G) (ci := 4) (v := .int p1) (ty := .int) (C := RX4) (T := TX4) (N := 13) hx hb hts iX4_fails_X4 tyX4 tyX4_ok nmX4 hown hK hP hD hS 0 rfl rfl 6 (by decide) (hts _ qX4_fails_0) (fun _ h9 => h9) rfl (by decide +kernel) rfl rfl (Nat.le_of_ble_eq_true rfl) dX4_fails_2 rfl (fun H locs hP hD hS => ?_)
  refine lv_iconst (v := (0 : Int32)) hx hb dX4_fails_5 (by decide) ?_
  exact hq H locs _ ls (0 : Int32) (tw_rt (fun r => r.1 = (0 : Int32)) h rfl) rfl (tw_rt (fun r => va_P G vwCl (tw_wM cI ma r.2) H) h hP) hS dX4_fails_6
abbrev rmX4_isTask : Room := { frames := 1, cells := 0, slots := 0, locals := 22 }
set_option maxRecDepth 20000 in
theorem qX4_isTask_0 : (Cond.fieldLink RX4 7 "TheatreWallModel" "now" "[I") ∈ wsX4_isTask := (List.mem_cons_of_mem _ (List.mem_append_left _ (List.mem_of_getElem? (i := 0) rfl)))
set_option maxRecDepth 20000 in
theorem iX4_isTask_X4 : ∀ w ∈ u_ws RX4 TX4 13, w ∈ wsX4_isTask := fun w h => (List.mem_cons_of_mem _ (List.mem_append_right _ h))
set_option maxHeartbeats 4000000 in
set_option maxRecDepth 100000 in
theorem mX4_isTask (l : Launch) (G : va_G) (cI : ClassId) (ma : Nat → Nat) (M : tw_Md) (sz : Nat) (p1 : Int32) {rv : Int32} (h : fX4_isTask M p1 = some rv) : tw_Mi l yX4_isTask wsX4_isTask rmX4_isTask G [(cI, .int)] (tw_wM cI ma M) [.ref (ma 0), .int p1] sz rv (tw_wM cI ma M) := by
  refine tw_ofi (ty := .boolean) (cc := cX4_isTask) (maxL := 2) (own := RX4) (by decide) rfl rfl (Nat.le_of_ble_eq_true rfl) ?_
  intro p e s m args below meth c Q A ls H locs F hN hK hP hD hS hA hl hq
  obtain ⟨hx, hb, hml, hown, hts⟩ := id F
  have hl : lv_has ls 2 [(0, .ref (ma 0)), (1, .int p1)] := hl
  unfold fX4_isTask at h
  refine lv_iload_n hx hb dX4_isTask_0 rfl (lv_at hl 1 rfl) ?_
  refine lv_iconst (v := (0 : Int32)) hx hb dX4_isTask_1 (by decide) ?_
  refine lv_aload_n hx hb dX4_isTask_2 rfl (lv_at hl 0 rfl) ?_
  refine va_get (D := G) (ci := 4) (v := .ref (ma 1)) (C := RX4) (T := TX4) (N := 13) hx hb hts iX4_isTask_X4 hown hK hP 0 rfl rfl 0 (by decide) (hts _ qX4_isTask_0) (fun _ h9 => h9) rfl dX4_isTask_3 ?_
  refine lv_iconst (v := (0 : Int32)) hx hb dX4_isTask_6 (by decide) ?_
  refine va_iald (f := M.1) (n := 70) hx hb hK hP 1 0 rfl rfl (tw_vin (by decide)) dX4_isTask_7 ?_
  refine lv_iconst (v := (1 : Int32)) hx hb dX4_isTask_8 (by decide) ?_
  refine lv_isub hx hb dX4_isTask_9 ?_
  obtain ⟨r10, e10, h⟩ := tw_bs h
  refine tw_callSi (ws' := (tw_wM cI ma M)) (As := [.int p1, .int (0 : Int32), .int ((M.1 (0 : Int32).toNatClampNeg) - (1 : Int32))]) (rest := []) F hN hK hP hD hS hA (mX4_in l G cI H.size p1 (0 : Int32) ((M.1 (0 : Int32).toNatClampNeg) - (1 : Int32)) e10) (va_cwS 3 hts gX4_isTask_X4_in rfl rfl rfl (by decide +kernel) ⟨(Nat.le_of_ble_eq_true rfl), (Nat.le_of_ble_eq_true rfl)⟩) [0] rfl [] (by decide) rfl rfl rfl rfl hl.1 rfl (Nat.le_of_ble_eq_true rfl) dX4_isTask_10 ⟨Nat.zero_le _, Nat.zero_le _⟩ (fun H locs hP hD hS => ?_)
  obtain ⟨g13, h⟩ := tw_qs h
  exact hq H locs _ ls r10 (tw_rt (fun r => r = r10) h rfl) (tw_nb g13) hP hS dX4_isTask_13
abbrev rmX4_saves : Room := { frames := 0, cells := 0, slots := 0, locals := 0 }
set_option maxRecDepth 20000 in
theorem qX4_saves_0 : (Cond.fieldLink RX4 39 "TheatreWallModel" "kept" "I") ∈ wsX4_saves := (List.mem_cons_of_mem _ (List.mem_append_left _ (List.mem_of_getElem? (i := 0) rfl)))
set_option maxRecDepth 20000 in
theorem qX4_saves_1 : (Cond.fieldLink RX4 16 "TheatreWallModel" "past" "[I") ∈ wsX4_saves := (List.mem_cons_of_mem _ (List.mem_append_left _ (List.mem_of_getElem? (i := 1) rfl)))
set_option maxRecDepth 20000 in
theorem qX4_saves_2 : (Cond.fieldLink RX4 7 "TheatreWallModel" "now" "[I") ∈ wsX4_saves := (List.mem_cons_of_mem _ (List.mem_append_left _ (List.mem_of_getElem? (i := 2) rfl)))
set_option maxRecDepth 20000 in
theorem iX4_saves_X4 : ∀ w ∈ u_ws RX4 TX4 13, w ∈ wsX4_saves := fun w h => (List.mem_cons_of_mem _ (List.mem_append_right _ h))
set_option maxHeartbeats 4000000 in
set_option maxRecDepth 100000 in
theorem mX4_saves (l : Launch) (G : va_G) (cI : ClassId) (ma : Nat → Nat) (M : tw_Md) (sz : Nat)  {rv : tw_Md} (h : fX4_saves M = some rv) : tw_Mv l yX4_saves wsX4_saves rmX4_saves G [(cI, .int)] (tw_wM cI ma M) [.ref (ma 0)] sz (tw_wM cI ma rv) := by
  refine tw_ofv (cc := cX4_saves) (maxL := 2) (own := RX4) (by decide) rfl rfl (Nat.le_of_ble_eq_true rfl) ?_
  intro p e s m args below meth c Q A ls H locs F hN hK hP hD hS hA hl hq
  obtain ⟨hx, hb, hml, hown, hts⟩ := id F
  have hl : lv_has ls 2 [(0, .ref (ma 0))] := hl
  unfold fX4_saves at h
  have L51 : ∀ (n51 : Nat) (v1 : Int32) (M : tw_Md) (H : Heap) (locs : List Loc) (ls : Array Slot), fX4_saves_51 n51 v1 M = some rv → lv_has ls 2 [(0, .ref (ma 0)), (1, .int v1)] → va_P G vwCl (tw_wM cI ma M) H → va_D A (tw_wM cI ma M) → va_S A s.heap H locs → W p l e rmX4_saves s m args below meth c H locs 0 0 Q (F0 m 51 ls []) := by
    intro n51
    induction n51 with
    | zero =>
      intro v1 M H locs ls h
      rw [fX4_saves_51] at h
      cases h
    | succ n51 ih51 =>
      intro v1 M H locs ls h hl hP hD hS
      rw [fX4_saves_51] at h
      refine lv_iload_n hx hb dX4_saves_51 rfl (lv_at hl 1 rfl) ?_
      refine lv_bipush (v := (70 : Int32)) hx hb dX4_saves_52 (by decide) ?_
      refine lv_icmp_ge (tgt := 83) hx hb dX4_saves_54 (by decide) (fun c54 => ?_) (fun c54 => ?_)
      · replace h := tw_t c54 h
        refine lv_aload_n hx hb dX4_saves_83 rfl (lv_at hl 0 rfl) ?_
        refine lv_dup hx hb dX4_saves_84 rfl ?_
        refine va_get (D := G) (ci := 4) (v := .int M.2.2.2.1) (C := RX4) (T := TX4) (N := 13) hx hb hts iX4_saves_X4 hown hK hP 0 rfl rfl 3 (by decide) (hts _ qX4_saves_0) (fun _ h9 => h9) rfl dX4_saves_85 ?_
        refine lv_iconst (v := (1 : Int32)) hx hb dX4_saves_88 (by decide) ?_
        refine lv_iadd hx hb dX4_saves_89 ?_
        refine tw_put (ws' := (tw_wM cI ma (M.1, M.2.1, M.2.2.1, (M.2.2.2.1 + (1 : Int32)), M.2.2.2.2.1, M.2.2.2.2.2.1, M.2.2.2.2.2.2.1, M.2.2.2.2.2.2.2.1, M.2.2.2.2.2.2.2.2.1, M.2.2.2.2.2.2.2.2.2.1, M.2.2.2.2.2.2.2.2.2.2.1, M.2.2.2.2.2.2.2.2.2.2.2.1, M.2.2.2.2.2.2.2.2.2.2.2.2))) (D := G) (ci := 4) (v := .int (M.2.2.2.1 + (1 : Int32))) (ty := .int) (C := RX4) (T := TX4) (N := 13) hx hb hts iX4_saves_X4 tyX4 tyX4_ok nmX4 hown hK hP hD hS 0 rfl rfl 3 (by decide) (hts _ qX4_saves_0) (fun _ h9 => h9) rfl (by decide +kernel) rfl rfl (Nat.le_of_ble_eq_true rfl) dX4_saves_90 rfl (fun H locs hP hD hS => ?_)
        exact hq H locs _ ls (tw_rt (fun r => va_P G vwCl (tw_wM cI ma r) H) h hP) hS dX4_saves_93
      · replace h := tw_f c54 h
        refine lv_aload_n hx hb dX4_saves_57 rfl (lv_at hl 0 rfl) ?_
        refine va_get (D := G) (ci := 4) (v := .ref (ma 3)) (C := RX4) (T := TX4) (N := 13) hx hb hts iX4_saves_X4 hown hK hP 0 rfl rfl 2 (by decide) (hts _ qX4_saves_1) (fun _ h9 => h9) rfl dX4_saves_58 ?_
        refine lv_bipush (v := (70 : Int32)) hx hb dX4_saves_61 (by decide) ?_
        refine lv_aload_n hx hb dX4_saves_63 rfl (lv_at hl 0 rfl) ?_
        refine va_get (D := G) (ci := 4) (v := .int M.2.2.2.1) (C := RX4) (T := TX4) (N := 13) hx hb hts iX4_saves_X4 hown hK hP 0 rfl rfl 3 (by decide) (hts _ qX4_saves_0) (fun _ h9 => h9) rfl dX4_saves_64 ?_
        refine lv_imul hx hb dX4_saves_67 ?_
        refine lv_iload_n hx hb dX4_saves_68 rfl (lv_at hl 1 rfl) ?_
        refine lv_iadd hx hb dX4_saves_69 ?_
        refine lv_aload_n hx hb dX4_saves_70 rfl (lv_at hl 0 rfl) ?_
        refine va_get (D := G) (ci := 4) (v := .ref (ma 1)) (C := RX4) (T := TX4) (N := 13) hx hb hts iX4_saves_X4 hown hK hP 0 rfl rfl 0 (by decide) (hts _ qX4_saves_2) (fun _ h9 => h9) rfl dX4_saves_71 ?_
        refine lv_iload_n hx hb dX4_saves_74 rfl (lv_at hl 1 rfl) ?_
        obtain ⟨g75, h⟩ := tw_gs h
        refine va_iald (f := M.1) (n := 70) hx hb hK hP 1 0 rfl rfl g75 dX4_saves_75 ?_
        obtain ⟨g76, h⟩ := tw_gs h
        refine tw_iast (ws' := (tw_wM cI ma (M.1, M.2.1, (upd M.2.2.1 (((70 : Int32) * M.2.2.2.1) + v1).toNatClampNeg (M.1 v1.toNatClampNeg)), M.2.2.2.1, M.2.2.2.2.1, M.2.2.2.2.2.1, M.2.2.2.2.2.2.1, M.2.2.2.2.2.2.2.1, M.2.2.2.2.2.2.2.2.1, M.2.2.2.2.2.2.2.2.2.1, M.2.2.2.2.2.2.2.2.2.2.1, M.2.2.2.2.2.2.2.2.2.2.2.1, M.2.2.2.2.2.2.2.2.2.2.2.2))) (f := M.2.2.1) (n := 420) hx hb hK hP hD hS 3 0 rfl rfl g76 dX4_saves_76 rfl (fun H locs hP hD hS => ?_)
        refine lv_iinc (v := (v1 + 1)) (lv' := [(1, .int (v1 + 1)), (0, .ref (ma 0))]) hx hb dX4_saves_77 hl (k := 1) rfl rfl (by decide) rfl (fun ls hl => ?_)
        refine lv_goto (tgt := 51) hx hb dX4_saves_80 (by decide) ?_
        exact ih51 (v1 + 1) (M.1, M.2.1, (upd M.2.2.1 (((70 : Int32) * M.2.2.2.1) + v1).toNatClampNeg (M.1 v1.toNatClampNeg)), M.2.2.2.1, M.2.2.2.2.1, M.2.2.2.2.2.1, M.2.2.2.2.2.2.1, M.2.2.2.2.2.2.2.1, M.2.2.2.2.2.2.2.2.1, M.2.2.2.2.2.2.2.2.2.1, M.2.2.2.2.2.2.2.2.2.2.1, M.2.2.2.2.2.2.2.2.2.2.2.1, M.2.2.2.2.2.2.2.2.2.2.2.2) H locs ls h (lv_sub hl [1, 0] rfl) hP hD hS
  have L11 : ∀ (n11 : Nat) (v1 : Int32) (M : tw_Md) (H : Heap) (locs : List Loc) (ls : Array Slot), fX4_saves_11 n11 v1 M = some rv → lv_has ls 2 [(0, .ref (ma 0)), (1, .int v1)] → va_P G vwCl (tw_wM cI ma M) H → va_D A (tw_wM cI ma M) → va_S A s.heap H locs → W p l e rmX4_saves s m args below meth c H locs 0 0 Q (F0 m 11 ls []) := by
    intro n11
    induction n11 with
    | zero =>
      intro v1 M H locs ls h
      rw [fX4_saves_11] at h
      cases h
    | succ n11 ih11 =>
      intro v1 M H locs ls h hl hP hD hS
      rw [fX4_saves_11] at h
      refine lv_iload_n hx hb dX4_saves_11 rfl (lv_at hl 1 rfl) ?_
      refine lv_sipush (v := (350 : Int32)) hx hb dX4_saves_12 (by decide) ?_
      refine lv_icmp_ge (tgt := 39) hx hb dX4_saves_15 (by decide) (fun c15 => ?_) (fun c15 => ?_)
      · replace h := tw_t c15 h
        refine lv_aload_n hx hb dX4_saves_39 rfl (lv_at hl 0 rfl) ?_
        refine lv_dup hx hb dX4_saves_40 rfl ?_
        refine va_get (D := G) (ci := 4) (v := .int M.2.2.2.1) (C := RX4) (T := TX4) (N := 13) hx hb hts iX4_saves_X4 hown hK hP 0 rfl rfl 3 (by decide) (hts _ qX4_saves_0) (fun _ h9 => h9) rfl dX4_saves_41 ?_
        refine lv_iconst (v := (1 : Int32)) hx hb dX4_saves_44 (by decide) ?_
        refine lv_isub hx hb dX4_saves_45 ?_
        refine tw_put (ws' := (tw_wM cI ma (M.1, M.2.1, M.2.2.1, (M.2.2.2.1 - (1 : Int32)), M.2.2.2.2.1, M.2.2.2.2.2.1, M.2.2.2.2.2.2.1, M.2.2.2.2.2.2.2.1, M.2.2.2.2.2.2.2.2.1, M.2.2.2.2.2.2.2.2.2.1, M.2.2.2.2.2.2.2.2.2.2.1, M.2.2.2.2.2.2.2.2.2.2.2.1, M.2.2.2.2.2.2.2.2.2.2.2.2))) (D := G) (ci := 4) (v := .int (M.2.2.2.1 - (1 : Int32))) (ty := .int) (C := RX4) (T := TX4) (N := 13) hx hb hts iX4_saves_X4 tyX4 tyX4_ok nmX4 hown hK hP hD hS 0 rfl rfl 3 (by decide) (hts _ qX4_saves_0) (fun _ h9 => h9) rfl (by decide +kernel) rfl rfl (Nat.le_of_ble_eq_true rfl) dX4_saves_46 rfl (fun H locs hP hD hS => ?_)
        refine lv_iconst (v := (0 : Int32)) hx hb dX4_saves_49 (by decide) ?_
        refine lv_istore_n (lv' := [(1, .int (0 : Int32)), (0, .ref (ma 0))]) hx hb dX4_saves_50 rfl hl (by decide) rfl (fun ls hl => ?_)
        exact L51 512 (0 : Int32) (M.1, M.2.1, M.2.2.1, (M.2.2.2.1 - (1 : Int32)), M.2.2.2.2.1, M.2.2.2.2.2.1, M.2.2.2.2.2.2.1, M.2.2.2.2.2.2.2.1, M.2.2.2.2.2.2.2.2.1, M.2.2.2.2.2.2.2.2.2.1, M.2.2.2.2.2.2.2.2.2.2.1, M.2.2.2.2.2.2.2.2.2.2.2.1, M.2.2.2.2.2.2.2.2.2.2.2.2) H locs ls h (lv_sub hl [1, 0] rfl) hP hD hS
      · replace h := tw_f c15 h
        refine lv_aload_n hx hb dX4_saves_18 rfl (lv_at hl 0 rfl) ?_
        refine va_get (D := G) (ci := 4) (v := .ref (ma 3)) (C := RX4) (T := TX4) (N := 13) hx hb hts iX4_saves_X4 hown hK hP 0 rfl rfl 2 (by decide) (hts _ qX4_saves_1) (fun _ h9 => h9) rfl dX4_saves_19 ?_
        refine lv_iload_n hx hb dX4_saves_22 rfl (lv_at hl 1 rfl) ?_
        refine lv_aload_n hx hb dX4_saves_23 rfl (lv_at hl 0 rfl) ?_
        refine va_get (D := G) (ci := 4) (v := .ref (ma 3)) (C := RX4) (T := TX4) (N := 13) hx hb hts iX4_saves_X4 hown hK hP 0 rfl rfl 2 (by decide) (hts _ qX4_saves_1) (fun _ h9 => h9) rfl dX4_saves_24 ?_
        refine lv_iload_n hx hb dX4_saves_27 rfl (lv_at hl 1 rfl) ?_
        refine lv_bipush (v := (70 : Int32)) hx hb dX4_saves_28 (by decide) ?_
        refine lv_iadd hx hb dX4_saves_30 ?_
        obtain ⟨g31, h⟩ := tw_gs h
        refine va_iald (f := M.2.2.1) (n := 420) hx hb hK hP 3 0 rfl rfl g31 dX4_saves_31 ?_
        obtain ⟨g32, h⟩ := tw_gs h
        refine tw_iast (ws' := (tw_wM cI ma (M.1, M.2.1, (upd M.2.2.1 v1.toNatClampNeg (M.2.2.1 (v1 + (70 : Int32)).toNatClampNeg)), M.2.2.2.1, M.2.2.2.2.1, M.2.2.2.2.2.1, M.2.2.2.2.2.2.1, M.2.2.2.2.2.2.2.1, M.2.2.2.2.2.2.2.2.1, M.2.2.2.2.2.2.2.2.2.1, M.2.2.2.2.2.2.2.2.2.2.1, M.2.2.2.2.2.2.2.2.2.2.2.1, M.2.2.2.2.2.2.2.2.2.2.2.2))) (f := M.2.2.1) (n := 420) hx hb hK hP hD hS 3 0 rfl rfl g32 dX4_saves_32 rfl (fun H locs hP hD hS => ?_)
        refine lv_iinc (v := (v1 + 1)) (lv' := [(1, .int (v1 + 1)), (0, .ref (ma 0))]) hx hb dX4_saves_33 hl (k := 1) rfl rfl (by decide) rfl (fun ls hl => ?_)
        refine lv_goto (tgt := 11) hx hb dX4_saves_36 (by decide) ?_
        exact ih11 (v1 + 1) (M.1, M.2.1, (upd M.2.2.1 v1.toNatClampNeg (M.2.2.1 (v1 + (70 : Int32)).toNatClampNeg)), M.2.2.2.1, M.2.2.2.2.1, M.2.2.2.2.2.1, M.2.2.2.2.2.2.1, M.2.2.2.2.2.2.2.1, M.2.2.2.2.2.2.2.2.1, M.2.2.2.2.2.2.2.2.2.1, M.2.2.2.2.2.2.2.2.2.2.1, M.2.2.2.2.2.2.2.2.2.2.2.1, M.2.2.2.2.2.2.2.2.2.2.2.2) H locs ls h (lv_sub hl [1, 0] rfl) hP hD hS
  refine lv_aload_n hx hb dX4_saves_0 rfl (lv_at hl 0 rfl) ?_
  refine va_get (D := G) (ci := 4) (v := .int M.2.2.2.1) (C := RX4) (T := TX4) (N := 13) hx hb hts iX4_saves_X4 hown hK hP 0 rfl rfl 3 (by decide) (hts _ qX4_saves_0) (fun _ h9 => h9) rfl dX4_saves_1 ?_
  refine lv_bipush (v := (6 : Int32)) hx hb dX4_saves_4 (by decide) ?_
  refine lv_icmp_ne (tgt := 49) hx hb dX4_saves_6 (by decide) (fun c6 => ?_) (fun c6 => ?_)
  · replace h := tw_t c6 h
    refine lv_iconst (v := (0 : Int32)) hx hb dX4_saves_49 (by decide) ?_
    refine lv_istore_n (lv' := [(1, .int (0 : Int32)), (0, .ref (ma 0))]) hx hb dX4_saves_50 rfl hl (by decide) rfl (fun ls hl => ?_)
    exact L51 512 (0 : Int32) M H locs ls h (lv_sub hl [1, 0] rfl) hP hD hS
  · replace h := tw_fn c6 h
    refine lv_iconst (v := (0 : Int32)) hx hb dX4_saves_9 (by decide) ?_
    refine lv_istore_n (lv' := [(1, .int (0 : Int32)), (0, .ref (ma 0))]) hx hb dX4_saves_10 rfl hl (by decide) rfl (fun ls hl => ?_)
    exact L11 512 (0 : Int32) M H locs ls h (lv_sub hl [1, 0] rfl) hP hD hS
abbrev rmX4_undo : Room := { frames := 1, cells := 0, slots := 0, locals := 21 }
set_option maxRecDepth 20000 in
theorem qX4_undo_0 : (Cond.fieldLink RX4 39 "TheatreWallModel" "kept" "I") ∈ wsX4_undo := (List.mem_cons_of_mem _ (List.mem_append_left _ (List.mem_of_getElem? (i := 1) rfl)))
set_option maxRecDepth 20000 in
theorem qX4_undo_1 : (Cond.fieldLink RX4 7 "TheatreWallModel" "now" "[I") ∈ wsX4_undo := (List.mem_cons_of_mem _ (List.mem_append_left _ (List.mem_of_getElem? (i := 2) rfl)))
set_option maxRecDepth 20000 in
theorem qX4_undo_2 : (Cond.fieldLink RX4 16 "TheatreWallModel" "past" "[I") ∈ wsX4_undo := (List.mem_cons_of_mem _ (List.mem_append_left _ (List.mem_of_getElem? (i := 3) rfl)))
set_option maxRecDepth 20000 in
theorem qX4_undo_3 : (Cond.fieldLink RX4 31 "TheatreWallModel" "thrown" "I") ∈ wsX4_undo := (List.mem_cons_of_mem _ (List.mem_append_left _ (List.mem_of_getElem? (i := 0) rfl)))
set_option maxRecDepth 20000 in
theorem iX4_undo_X4 : ∀ w ∈ u_ws RX4 TX4 13, w ∈ wsX4_undo := fun w h => (List.mem_cons_of_mem _ (List.mem_append_right _ h))
set_option maxHeartbeats 4000000 in
set_option maxRecDepth 100000 in
theorem mX4_undo (l : Launch) (G : va_G) (cI : ClassId) (ma : Nat → Nat) (M : tw_Md) (sz : Nat)  {rv : Int32 × tw_Md} (h : fX4_undo M = some rv) : tw_Mi l yX4_undo wsX4_undo rmX4_undo G [(cI, .int)] (tw_wM cI ma M) [.ref (ma 0)] sz rv.1 (tw_wM cI ma rv.2) := by
  refine tw_ofi (ty := .int) (cc := cX4_undo) (maxL := 2) (own := RX4) (by decide) rfl rfl (Nat.le_of_ble_eq_true rfl) ?_
  intro p e s m args below meth c Q A ls H locs F hN hK hP hD hS hA hl hq
  obtain ⟨hx, hb, hml, hown, hts⟩ := id F
  have hl : lv_has ls 2 [(0, .ref (ma 0))] := hl
  unfold fX4_undo at h
  have L30 : ∀ (n30 : Nat) (v1 : Int32) (M : tw_Md) (H : Heap) (locs : List Loc) (ls : Array Slot), fX4_undo_30 n30 v1 M = some rv → lv_has ls 2 [(0, .ref (ma 0)), (1, .int v1)] → va_P G vwCl (tw_wM cI ma M) H → va_D A (tw_wM cI ma M) → va_S A s.heap H locs → W p l e rmX4_undo s m args below meth c H locs 0 0 Q (F0 m 30 ls []) := by
    intro n30
    induction n30 with
    | zero =>
      intro v1 M H locs ls h
      rw [fX4_undo_30] at h
      cases h
    | succ n30 ih30 =>
      intro v1 M H locs ls h hl hP hD hS
      rw [fX4_undo_30] at h
      refine lv_iload_n hx hb dX4_undo_30 rfl (lv_at hl 1 rfl) ?_
      refine lv_bipush (v := (70 : Int32)) hx hb dX4_undo_31 (by decide) ?_
      refine lv_icmp_ge (tgt := 62) hx hb dX4_undo_33 (by decide) (fun c33 => ?_) (fun c33 => ?_)
      · replace h := tw_t c33 h
        refine lv_aload_n hx hb dX4_undo_62 rfl (lv_at hl 0 rfl) ?_
        refine va_get (D := G) (ci := 4) (v := .int M.2.2.2.1) (C := RX4) (T := TX4) (N := 13) hx hb hts iX4_undo_X4 hown hK hP 0 rfl rfl 3 (by decide) (hts _ qX4_undo_0) (fun _ h9 => h9) rfl dX4_undo_63 ?_
        exact hq H locs _ ls M.2.2.2.1 (tw_rt (fun r => r.1 = M.2.2.2.1) h rfl) rfl (tw_rt (fun r => va_P G vwCl (tw_wM cI ma r.2) H) h hP) hS dX4_undo_66
      · replace h := tw_f c33 h
        refine lv_aload_n hx hb dX4_undo_36 rfl (lv_at hl 0 rfl) ?_
        refine va_get (D := G) (ci := 4) (v := .ref (ma 1)) (C := RX4) (T := TX4) (N := 13) hx hb hts iX4_undo_X4 hown hK hP 0 rfl rfl 0 (by decide) (hts _ qX4_undo_1) (fun _ h9 => h9) rfl dX4_undo_37 ?_
        refine lv_iload_n hx hb dX4_undo_40 rfl (lv_at hl 1 rfl) ?_
        refine lv_aload_n hx hb dX4_undo_41 rfl (lv_at hl 0 rfl) ?_
        refine va_get (D := G) (ci := 4) (v := .ref (ma 3)) (C := RX4) (T := TX4) (N := 13) hx hb hts iX4_undo_X4 hown hK hP 0 rfl rfl 2 (by decide) (hts _ qX4_undo_2) (fun _ h9 => h9) rfl dX4_undo_42 ?_
        refine lv_bipush (v := (70 : Int32)) hx hb dX4_undo_45 (by decide) ?_
        refine lv_aload_n hx hb dX4_undo_47 rfl (lv_at hl 0 rfl) ?_
        refine va_get (D := G) (ci := 4) (v := .int M.2.2.2.1) (C := RX4) (T := TX4) (N := 13) hx hb hts iX4_undo_X4 hown hK hP 0 rfl rfl 3 (by decide) (hts _ qX4_undo_0) (fun _ h9 => h9) rfl dX4_undo_48 ?_
        refine lv_imul hx hb dX4_undo_51 ?_
        refine lv_iload_n hx hb dX4_undo_52 rfl (lv_at hl 1 rfl) ?_
        refine lv_iadd hx hb dX4_undo_53 ?_
        obtain ⟨g54, h⟩ := tw_gs h
        refine va_iald (f := M.2.2.1) (n := 420) hx hb hK hP 3 0 rfl rfl g54 dX4_undo_54 ?_
        obtain ⟨g55, h⟩ := tw_gs h
        refine tw_iast (ws' := (tw_wM cI ma ((upd M.1 v1.toNatClampNeg (M.2.2.1 (((70 : Int32) * M.2.2.2.1) + v1).toNatClampNeg)), M.2.1, M.2.2.1, M.2.2.2.1, M.2.2.2.2.1, M.2.2.2.2.2.1, M.2.2.2.2.2.2.1, M.2.2.2.2.2.2.2.1, M.2.2.2.2.2.2.2.2.1, M.2.2.2.2.2.2.2.2.2.1, M.2.2.2.2.2.2.2.2.2.2.1, M.2.2.2.2.2.2.2.2.2.2.2.1, M.2.2.2.2.2.2.2.2.2.2.2.2))) (f := M.1) (n := 70) hx hb hK hP hD hS 1 0 rfl rfl g55 dX4_undo_55 rfl (fun H locs hP hD hS => ?_)
        refine lv_iinc (v := (v1 + 1)) (lv' := [(1, .int (v1 + 1)), (0, .ref (ma 0))]) hx hb dX4_undo_56 hl (k := 1) rfl rfl (by decide) rfl (fun ls hl => ?_)
        refine lv_goto (tgt := 30) hx hb dX4_undo_59 (by decide) ?_
        exact ih30 (v1 + 1) ((upd M.1 v1.toNatClampNeg (M.2.2.1 (((70 : Int32) * M.2.2.2.1) + v1).toNatClampNeg)), M.2.1, M.2.2.1, M.2.2.2.1, M.2.2.2.2.1, M.2.2.2.2.2.1, M.2.2.2.2.2.2.1, M.2.2.2.2.2.2.2.1, M.2.2.2.2.2.2.2.2.1, M.2.2.2.2.2.2.2.2.2.1, M.2.2.2.2.2.2.2.2.2.2.1, M.2.2.2.2.2.2.2.2.2.2.2.1, M.2.2.2.2.2.2.2.2.2.2.2.2) H locs ls h (lv_sub hl [1, 0] rfl) hP hD hS
  refine lv_aload_n hx hb dX4_undo_0 rfl (lv_at hl 0 rfl) ?_
  refine lv_iconst (v := (0 : Int32)) hx hb dX4_undo_1 (by decide) ?_
  refine tw_put (ws' := (tw_wM cI ma (M.1, M.2.1, M.2.2.1, M.2.2.2.1, M.2.2.2.2.1, M.2.2.2.2.2.1, (0 : Int32), M.2.2.2.2.2.2.2.1, M.2.2.2.2.2.2.2.2.1, M.2.2.2.2.2.2.2.2.2.1, M.2.2.2.2.2.2.2.2.2.2.1, M.2.2.2.2.2.2.2.2.2.2.2.1, M.2.2.2.2.2.2.2.2.2.2.2.2))) (D := G) (ci := 4) (v := .int (0 : Int32)) (ty := .int) (C := RX4) (T := TX4) (N := 13) hx hb hts iX4_undo_X4 tyX4 tyX4_ok nmX4 hown hK hP hD hS 0 rfl rfl 6 (by decide) (hts _ qX4_undo_3) (fun _ h9 => h9) rfl (by decide +kernel) rfl rfl (Nat.le_of_ble_eq_true rfl) dX4_undo_2 rfl (fun H locs hP hD hS => ?_)
  refine lv_aload_n hx hb dX4_undo_5 rfl (lv_at hl 0 rfl) ?_
  refine va_get (D := G) (ci := 4) (v := .int M.2.2.2.1) (C := RX4) (T := TX4) (N := 13) hx hb hts iX4_undo_X4 hown hK hP 0 rfl rfl 3 (by decide) (hts _ qX4_undo_0) (fun _ h9 => h9) rfl dX4_undo_6 ?_
  refine lv_if_ne (tgt := 18) hx hb dX4_undo_9 (by decide) (fun c9 => ?_) (fun c9 => ?_)
  · replace h := tw_t c9 h
    refine lv_aload_n hx hb dX4_undo_18 rfl (lv_at hl 0 rfl) ?_
    refine lv_dup hx hb dX4_undo_19 rfl ?_
    refine va_get (D := G) (ci := 4) (v := .int M.2.2.2.1) (C := RX4) (T := TX4) (N := 13) hx hb hts iX4_undo_X4 hown hK hP 0 rfl rfl 3 (by decide) (hts _ qX4_undo_0) (fun _ h9 => h9) rfl dX4_undo_20 ?_
    refine lv_iconst (v := (1 : Int32)) hx hb dX4_undo_23 (by decide) ?_
    refine lv_isub hx hb dX4_undo_24 ?_
    refine tw_put (ws' := (tw_wM cI ma (M.1, M.2.1, M.2.2.1, (M.2.2.2.1 - (1 : Int32)), M.2.2.2.2.1, M.2.2.2.2.2.1, (0 : Int32), M.2.2.2.2.2.2.2.1, M.2.2.2.2.2.2.2.2.1, M.2.2.2.2.2.2.2.2.2.1, M.2.2.2.2.2.2.2.2.2.2.1, M.2.2.2.2.2.2.2.2.2.2.2.1, M.2.2.2.2.2.2.2.2.2.2.2.2))) (D := G) (ci := 4) (v := .int (M.2.2.2.1 - (1 : Int32))) (ty := .int) (C := RX4) (T := TX4) (N := 13) hx hb hts iX4_undo_X4 tyX4 tyX4_ok nmX4 hown hK hP hD hS 0 rfl rfl 3 (by decide) (hts _ qX4_undo_0) (fun _ h9 => h9) rfl (by decide +kernel) rfl rfl (Nat.le_of_ble_eq_true rfl) dX4_undo_25 rfl (fun H locs hP hD hS => ?_)
    refine lv_iconst (v := (0 : Int32)) hx hb dX4_undo_28 (by decide) ?_
    refine lv_istore_n (lv' := [(1, .int (0 : Int32)), (0, .ref (ma 0))]) hx hb dX4_undo_29 rfl hl (by decide) rfl (fun ls hl => ?_)
    exact L30 512 (0 : Int32) (M.1, M.2.1, M.2.2.1, (M.2.2.2.1 - (1 : Int32)), M.2.2.2.2.1, M.2.2.2.2.2.1, (0 : Int32), M.2.2.2.2.2.2.2.1, M.2.2.2.2.2.2.2.2.1, M.2.2.2.2.2.2.2.2.2.1, M.2.2.2.2.2.2.2.2.2.2.1, M.2.2.2.2.2.2.2.2.2.2.2.1, M.2.2.2.2.2.2.2.2.2.2.2.2) H locs ls h (lv_sub hl [1, 0] rfl) hP hD hS
  · replace h := tw_fn c9 h
    refine lv_aload_n hx hb dX4_undo_12 rfl (lv_at hl 0 rfl) ?_
    refine lv_iconst (v := (1 : Int32)) hx hb dX4_undo_13 (by decide) ?_
    obtain ⟨r14, e14, h⟩ := tw_bs h
    refine tw_callViF (ws' := (tw_wM cI ma r14.2)) (As := [.int (1 : Int32)]) (rest := []) F hN hK hP hD hS hA (mX4_fails l G cI ma (M.1, M.2.1, M.2.2.1, M.2.2.2.1, M.2.2.2.2.1, M.2.2.2.2.2.1, (0 : Int32), M.2.2.2.2.2.2.2.1, M.2.2.2.2.2.2.2.2.1, M.2.2.2.2.2.2.2.2.2.1, M.2.2.2.2.2.2.2.2.2.2.1, M.2.2.2.2.2.2.2.2.2.2.2.1, M.2.2.2.2.2.2.2.2.2.2.2.2) H.size (1 : Int32) e14) (cwV 1 hts gX4_undo_X4_fails rfl rfl rfl (by decide +kernel) ⟨(Nat.le_of_ble_eq_true rfl), (Nat.le_of_ble_eq_true rfl)⟩) rfl (r0 := 0) (ci := 4) rfl rfl rfl rfl hl.1 rfl (Nat.le_of_ble_eq_true rfl) dX4_undo_14 ⟨Nat.zero_le _, Nat.zero_le _⟩ (fun H locs hP hD hS => ?_)
    exact hq H locs _ ls r14.1 (tw_rt (fun r => r.1 = r14.1) h rfl) rfl (tw_rt (fun r => va_P G vwCl (tw_wM cI ma r.2) H) h hP) hS dX4_undo_17
abbrev rmX4_tries : Room := { frames := 0, cells := 0, slots := 0, locals := 0 }
set_option maxRecDepth 20000 in
theorem qX4_tries_0 : (Cond.fieldLink RX4 13 "TheatreWallModel" "then" "[I") ∈ wsX4_tries := (List.mem_cons_of_mem _ (List.mem_append_left _ (List.mem_of_getElem? (i := 0) rfl)))
set_option maxRecDepth 20000 in
theorem qX4_tries_1 : (Cond.fieldLink RX4 7 "TheatreWallModel" "now" "[I") ∈ wsX4_tries := (List.mem_cons_of_mem _ (List.mem_append_left _ (List.mem_of_getElem? (i := 1) rfl)))
set_option maxRecDepth 20000 in
theorem iX4_tries_X4 : ∀ w ∈ u_ws RX4 TX4 13, w ∈ wsX4_tries := fun w h => (List.mem_cons_of_mem _ (List.mem_append_right _ h))
set_option maxHeartbeats 4000000 in
set_option maxRecDepth 100000 in
theorem mX4_tries (l : Launch) (G : va_G) (cI : ClassId) (ma : Nat → Nat) (M : tw_Md) (sz : Nat)  {rv : tw_Md} (h : fX4_tries M = some rv) : tw_Mv l yX4_tries wsX4_tries rmX4_tries G [(cI, .int)] (tw_wM cI ma M) [.ref (ma 0)] sz (tw_wM cI ma rv) := by
  refine tw_ofv (cc := cX4_tries) (maxL := 2) (own := RX4) (by decide) rfl rfl (Nat.le_of_ble_eq_true rfl) ?_
  intro p e s m args below meth c Q A ls H locs F hN hK hP hD hS hA hl hq
  obtain ⟨hx, hb, hml, hown, hts⟩ := id F
  have hl : lv_has ls 2 [(0, .ref (ma 0))] := hl
  unfold fX4_tries at h
  have L2 : ∀ (n2 : Nat) (v1 : Int32) (M : tw_Md) (H : Heap) (locs : List Loc) (ls : Array Slot), fX4_tries_2 n2 v1 M = some rv → lv_has ls 2 [(0, .ref (ma 0)), (1, .int v1)] → va_P G vwCl (tw_wM cI ma M) H → va_D A (tw_wM cI ma M) → va_S A s.heap H locs → W p l e rmX4_tries s m args below meth c H locs 0 0 Q (F0 m 2 ls []) := by
    intro n2
    induction n2 with
    | zero =>
      intro v1 M H locs ls h
      rw [fX4_tries_2] at h
      cases h
    | succ n2 ih2 =>
      intro v1 M H locs ls h hl hP hD hS
      rw [fX4_tries_2] at h
      refine lv_iload_n hx hb dX4_tries_2 rfl (lv_at hl 1 rfl) ?_
      refine lv_bipush (v := (70 : Int32)) hx hb dX4_tries_3 (by decide) ?_
      refine lv_icmp_ge (tgt := 26) hx hb dX4_tries_5 (by decide) (fun c5 => ?_) (fun c5 => ?_)
      · replace h := tw_t c5 h
        exact hq H locs _ ls (tw_rt (fun r => va_P G vwCl (tw_wM cI ma r) H) h hP) hS dX4_tries_26
      · replace h := tw_f c5 h
        refine lv_aload_n hx hb dX4_tries_8 rfl (lv_at hl 0 rfl) ?_
        refine va_get (D := G) (ci := 4) (v := .ref (ma 2)) (C := RX4) (T := TX4) (N := 13) hx hb hts iX4_tries_X4 hown hK hP 0 rfl rfl 1 (by decide) (hts _ qX4_tries_0) (fun _ h9 => h9) rfl dX4_tries_9 ?_
        refine lv_iload_n hx hb dX4_tries_12 rfl (lv_at hl 1 rfl) ?_
        refine lv_aload_n hx hb dX4_tries_13 rfl (lv_at hl 0 rfl) ?_
        refine va_get (D := G) (ci := 4) (v := .ref (ma 1)) (C := RX4) (T := TX4) (N := 13) hx hb hts iX4_tries_X4 hown hK hP 0 rfl rfl 0 (by decide) (hts _ qX4_tries_1) (fun _ h9 => h9) rfl dX4_tries_14 ?_
        refine lv_iload_n hx hb dX4_tries_17 rfl (lv_at hl 1 rfl) ?_
        obtain ⟨g18, h⟩ := tw_gs h
        refine va_iald (f := M.1) (n := 70) hx hb hK hP 1 0 rfl rfl g18 dX4_tries_18 ?_
        obtain ⟨g19, h⟩ := tw_gs h
        refine tw_iast (ws' := (tw_wM cI ma (M.1, (upd M.2.1 v1.toNatClampNeg (M.1 v1.toNatClampNeg)), M.2.2.1, M.2.2.2.1, M.2.2.2.2.1, M.2.2.2.2.2.1, M.2.2.2.2.2.2.1, M.2.2.2.2.2.2.2.1, M.2.2.2.2.2.2.2.2.1, M.2.2.2.2.2.2.2.2.2.1, M.2.2.2.2.2.2.2.2.2.2.1, M.2.2.2.2.2.2.2.2.2.2.2.1, M.2.2.2.2.2.2.2.2.2.2.2.2))) (f := M.2.1) (n := 70) hx hb hK hP hD hS 2 0 rfl rfl g19 dX4_tries_19 rfl (fun H locs hP hD hS => ?_)
        refine lv_iinc (v := (v1 + 1)) (lv' := [(1, .int (v1 + 1)), (0, .ref (ma 0))]) hx hb dX4_tries_20 hl (k := 1) rfl rfl (by decide) rfl (fun ls hl => ?_)
        refine lv_goto (tgt := 2) hx hb dX4_tries_23 (by decide) ?_
        exact ih2 (v1 + 1) (M.1, (upd M.2.1 v1.toNatClampNeg (M.1 v1.toNatClampNeg)), M.2.2.1, M.2.2.2.1, M.2.2.2.2.1, M.2.2.2.2.2.1, M.2.2.2.2.2.2.1, M.2.2.2.2.2.2.2.1, M.2.2.2.2.2.2.2.2.1, M.2.2.2.2.2.2.2.2.2.1, M.2.2.2.2.2.2.2.2.2.2.1, M.2.2.2.2.2.2.2.2.2.2.2.1, M.2.2.2.2.2.2.2.2.2.2.2.2) H locs ls h (lv_sub hl [1, 0] rfl) hP hD hS
  refine lv_iconst (v := (0 : Int32)) hx hb dX4_tries_0 (by decide) ?_
  refine lv_istore_n (lv' := [(1, .int (0 : Int32)), (0, .ref (ma 0))]) hx hb dX4_tries_1 rfl hl (by decide) rfl (fun ls hl => ?_)
  exact L2 512 (0 : Int32) M H locs ls h (lv_sub hl [1, 0] rfl) hP hD hS
abbrev rmX4_plans : Room := { frames := 4, cells := 0, slots := 0, locals := 99 }
set_option maxRecDepth 20000 in
theorem qX4_plans_0 : (Cond.fieldLink RX4 7 "TheatreWallModel" "now" "[I") ∈ wsX4_plans := (List.mem_cons_of_mem _ (List.mem_append_left _ (List.mem_of_getElem? (i := 0) rfl)))
set_option maxRecDepth 20000 in
theorem qX4_plans_1 : (Cond.fieldLink RX4 25 "TheatreWallModel" "plan" "[I") ∈ wsX4_plans := (List.mem_cons_of_mem _ (List.mem_append_left _ (List.mem_of_getElem? (i := 1) rfl)))
set_option maxRecDepth 20000 in
theorem iX4_plans_X4 : ∀ w ∈ u_ws RX4 TX4 13, w ∈ wsX4_plans := fun w h => (List.mem_cons_of_mem _ (List.mem_append_right _ h))
set_option maxHeartbeats 4000000 in
set_option maxRecDepth 100000 in
theorem mX4_plans (l : Launch) (G : va_G) (cI : ClassId) (ma : Nat → Nat) (M : tw_Md) (sz : Nat)  {rv : tw_Md} (h : fX4_plans M = some rv) : tw_Mv l yX4_plans wsX4_plans rmX4_plans G [(cI, .int)] (tw_wM cI ma M) [.ref (ma 0)] sz (tw_wM cI ma rv) := by
  refine tw_ofv (cc := cX4_plans) (maxL := 1) (own := RX4) (by decide) rfl rfl (Nat.le_of_ble_eq_true rfl) ?_
  intro p e s m args below meth c Q A ls H locs F hN hK hP hD hS hA hl hq
  obtain ⟨hx, hb, hml, hown, hts⟩ := id F
  have hl : lv_has ls 1 [(0, .ref (ma 0))] := hl
  unfold fX4_plans at h
  refine lv_aload_n hx hb dX4_plans_0 rfl (lv_at hl 0 rfl) ?_
  refine va_get (D := G) (ci := 4) (v := .ref (ma 1)) (C := RX4) (T := TX4) (N := 13) hx hb hts iX4_plans_X4 hown hK hP 0 rfl rfl 0 (by decide) (hts _ qX4_plans_0) (fun _ h9 => h9) rfl dX4_plans_1 ?_
  refine lv_aload_n hx hb dX4_plans_4 rfl (lv_at hl 0 rfl) ?_
  refine va_get (D := G) (ci := 4) (v := .ref (ma 6)) (C := RX4) (T := TX4) (N := 13) hx hb hts iX4_plans_X4 hown hK hP 0 rfl rfl 11 (by decide) (hts _ qX4_plans_1) (fun _ h9 => h9) rfl dX4_plans_5 ?_
  obtain ⟨r8, e8, h⟩ := tw_bs h
  refine tw_callSv (ws' := (tw_wM cI ma (M.1, M.2.1, M.2.2.1, M.2.2.2.1, M.2.2.2.2.1, M.2.2.2.2.2.1, M.2.2.2.2.2.2.1, M.2.2.2.2.2.2.2.1, M.2.2.2.2.2.2.2.2.1, M.2.2.2.2.2.2.2.2.2.1, M.2.2.2.2.2.2.2.2.2.2.1, r8, M.2.2.2.2.2.2.2.2.2.2.2.2))) (As := [.ref (ma 1), .ref (ma 6)]) (rest := []) F hN hK hP hD hS hA (mX4_lays l G cI (ma 1) (ma 6) M.1 M.2.2.2.2.2.2.2.2.2.2.2.1 H.size e8) (va_cwS 2 hts gX4_plans_X4_lays rfl rfl rfl (by decide +kernel) ⟨(Nat.le_of_ble_eq_true rfl), (Nat.le_of_ble_eq_true rfl)⟩) [0] rfl [1, 6] (by decide) rfl rfl rfl rfl hl.1 rfl (Nat.le_of_ble_eq_true rfl) dX4_plans_8 ⟨Nat.zero_le _, Nat.zero_le _⟩ (fun H locs hP hD hS => ?_)
  exact hq H locs _ ls (tw_rt (fun r => va_P G vwCl (tw_wM cI ma r) H) h hP) hS dX4_plans_11
abbrev rmX4_triesFrom : Room := { frames := 4, cells := 0, slots := 0, locals := 99 }
set_option maxRecDepth 20000 in
theorem qX4_triesFrom_0 : (Cond.fieldLink RX4 13 "TheatreWallModel" "then" "[I") ∈ wsX4_triesFrom := (List.mem_cons_of_mem _ (List.mem_append_left _ (List.mem_append_left _ (List.mem_of_getElem? (i := 0) rfl))))
set_option maxRecDepth 20000 in
theorem qX4_triesFrom_1 : (Cond.fieldLink RX4 28 "TheatreWallModel" "tried" "[I") ∈ wsX4_triesFrom := (List.mem_cons_of_mem _ (List.mem_append_left _ (List.mem_append_left _ (List.mem_of_getElem? (i := 1) rfl))))
set_option maxRecDepth 20000 in
theorem iX4_triesFrom_X4 : ∀ w ∈ u_ws RX4 TX4 13, w ∈ wsX4_triesFrom := fun w h => (List.mem_cons_of_mem _ (List.mem_append_right _ h))
set_option maxHeartbeats 4000000 in
set_option maxRecDepth 100000 in
theorem mX4_triesFrom (l : Launch) (G : va_G) (cI : ClassId) (ma : Nat → Nat) (M : tw_Md) (sz : Nat) (p1 : Int32) (p2 : Int32) {rv : tw_Md} (h : fX4_triesFrom M p1 p2 = some rv) : tw_Mv l yX4_triesFrom wsX4_triesFrom rmX4_triesFrom G [(cI, .int)] (tw_wM cI ma M) [.ref (ma 0), .int p1, .int p2] sz (tw_wM cI ma rv) := by
  refine tw_ofv (cc := cX4_triesFrom) (maxL := 3) (own := RX4) (by decide) rfl rfl (Nat.le_of_ble_eq_true rfl) ?_
  intro p e s m args below meth c Q A ls H locs F hN hK hP hD hS hA hl hq
  obtain ⟨hx, hb, hml, hown, hts⟩ := id F
  have hl : lv_has ls 3 [(0, .ref (ma 0)), (1, .int p1), (2, .int p2)] := hl
  unfold fX4_triesFrom at h
  refine lv_aload_n hx hb dX4_triesFrom_0 rfl (lv_at hl 0 rfl) ?_
  obtain ⟨r1, e1, h⟩ := tw_bs h
  refine tw_callVvF (ws' := (tw_wM cI ma r1)) (As := []) (rest := []) F hN hK hP hD hS hA (mX4_tries l G cI ma M H.size e1) (cwV 0 hts gX4_triesFrom_X4_tries rfl rfl rfl (by decide +kernel) ⟨(Nat.le_of_ble_eq_true rfl), (Nat.le_of_ble_eq_true rfl)⟩) rfl (r0 := 0) (ci := 4) rfl rfl rfl rfl hl.1 rfl (Nat.le_of_ble_eq_true rfl) dX4_triesFrom_1 ⟨Nat.zero_le _, Nat.zero_le _⟩ (fun H locs hP hD hS => ?_)
  refine lv_aload_n hx hb dX4_triesFrom_4 rfl (lv_at hl 0 rfl) ?_
  refine va_get (D := G) (ci := 4) (v := .ref (ma 2)) (C := RX4) (T := TX4) (N := 13) hx hb hts iX4_triesFrom_X4 hown hK hP 0 rfl rfl 1 (by decide) (hts _ qX4_triesFrom_0) (fun _ h9 => h9) rfl dX4_triesFrom_5 ?_
  refine lv_bipush (v := (10 : Int32)) hx hb dX4_triesFrom_8 (by decide) ?_
  refine lv_iconst (v := (5 : Int32)) hx hb dX4_triesFrom_10 (by decide) ?_
  refine lv_iload_n hx hb dX4_triesFrom_11 rfl (lv_at hl 1 rfl) ?_
  refine lv_imul hx hb dX4_triesFrom_12 ?_
  refine lv_iadd hx hb dX4_triesFrom_13 ?_
  refine lv_iconst (v := (3 : Int32)) hx hb dX4_triesFrom_14 (by decide) ?_
  refine lv_iadd hx hb dX4_triesFrom_15 ?_
  refine lv_iload_n hx hb dX4_triesFrom_16 rfl (lv_at hl 2 rfl) ?_
  obtain ⟨g17, h⟩ := tw_gs h
  refine tw_iast (ws' := (tw_wM cI ma (r1.1, (upd r1.2.1 (((10 : Int32) + ((5 : Int32) * p1)) + (3 : Int32)).toNatClampNeg p2), r1.2.2.1, r1.2.2.2.1, r1.2.2.2.2.1, r1.2.2.2.2.2.1, r1.2.2.2.2.2.2.1, r1.2.2.2.2.2.2.2.1, r1.2.2.2.2.2.2.2.2.1, r1.2.2.2.2.2.2.2.2.2.1, r1.2.2.2.2.2.2.2.2.2.2.1, r1.2.2.2.2.2.2.2.2.2.2.2.1, r1.2.2.2.2.2.2.2.2.2.2.2.2))) (f := r1.2.1) (n := 70) hx hb hK hP hD hS 2 0 rfl rfl g17 dX4_triesFrom_17 rfl (fun H locs hP hD hS => ?_)
  refine lv_aload_n hx hb dX4_triesFrom_18 rfl (lv_at hl 0 rfl) ?_
  refine va_get (D := G) (ci := 4) (v := .ref (ma 2)) (C := RX4) (T := TX4) (N := 13) hx hb hts iX4_triesFrom_X4 hown hK hP 0 rfl rfl 1 (by decide) (hts _ qX4_triesFrom_0) (fun _ h9 => h9) rfl dX4_triesFrom_19 ?_
  refine lv_aload_n hx hb dX4_triesFrom_22 rfl (lv_at hl 0 rfl) ?_
  refine va_get (D := G) (ci := 4) (v := .ref (ma 7)) (C := RX4) (T := TX4) (N := 13) hx hb hts iX4_triesFrom_X4 hown hK hP 0 rfl rfl 12 (by decide) (hts _ qX4_triesFrom_1) (fun _ h9 => h9) rfl dX4_triesFrom_23 ?_
  obtain ⟨r26, e26, h⟩ := tw_bs h
  refine tw_callSv (ws' := (tw_wM cI ma (r1.1, (upd r1.2.1 (((10 : Int32) + ((5 : Int32) * p1)) + (3 : Int32)).toNatClampNeg p2), r1.2.2.1, r1.2.2.2.1, r1.2.2.2.2.1, r1.2.2.2.2.2.1, r1.2.2.2.2.2.2.1, r1.2.2.2.2.2.2.2.1, r1.2.2.2.2.2.2.2.2.1, r1.2.2.2.2.2.2.2.2.2.1, r1.2.2.2.2.2.2.2.2.2.2.1, r1.2.2.2.2.2.2.2.2.2.2.2.1, r26))) (As := [.ref (ma 2), .ref (ma 7)]) (rest := []) F hN hK hP hD hS hA (mX4_lays l G cI (ma 2) (ma 7) (upd r1.2.1 (((10 : Int32) + ((5 : Int32) * p1)) + (3 : Int32)).toNatClampNeg p2) r1.2.2.2.2.2.2.2.2.2.2.2.2 H.size e26) (va_cwS 2 hts gX4_triesFrom_X4_lays rfl rfl rfl (by decide +kernel) ⟨(Nat.le_of_ble_eq_true rfl), (Nat.le_of_ble_eq_true rfl)⟩) [0] rfl [2, 7] (by decide) rfl rfl rfl rfl hl.1 rfl (Nat.le_of_ble_eq_true rfl) dX4_triesFrom_26 ⟨Nat.zero_le _, Nat.zero_le _⟩ (fun H locs hP hD hS => ?_)
  exact hq H locs _ ls (tw_rt (fun r => va_P G vwCl (tw_wM cI ma r) H) h hP) hS dX4_triesFrom_29
abbrev rmX4_slack : Room := { frames := 5, cells := 0, slots := 0, locals := 121 }
set_option maxRecDepth 20000 in
theorem qX4_slack_0 : (Cond.fieldLink RX4 25 "TheatreWallModel" "plan" "[I") ∈ wsX4_slack := (List.mem_cons_of_mem _ (List.mem_append_left _ (List.mem_append_left _ (List.mem_of_getElem? (i := 0) rfl))))
set_option maxRecDepth 20000 in
theorem qX4_slack_1 : (Cond.fieldLink RX4 13 "TheatreWallModel" "then" "[I") ∈ wsX4_slack := (List.mem_cons_of_mem _ (List.mem_append_left _ (List.mem_append_left _ (List.mem_of_getElem? (i := 1) rfl))))
set_option maxRecDepth 20000 in
theorem qX4_slack_2 : (Cond.fieldLink RX4 28 "TheatreWallModel" "tried" "[I") ∈ wsX4_slack := (List.mem_cons_of_mem _ (List.mem_append_left _ (List.mem_append_left _ (List.mem_of_getElem? (i := 2) rfl))))
set_option maxRecDepth 20000 in
theorem qX4_slack_3 : (Cond.fieldLink RX4 7 "TheatreWallModel" "now" "[I") ∈ wsX4_slack := (List.mem_cons_of_mem _ (List.mem_append_left _ (List.mem_append_left _ (List.mem_of_getElem? (i := 3) rfl))))
set_option maxRecDepth 20000 in
theorem iX4_slack_X4 : ∀ w ∈ u_ws RX4 TX4 13, w ∈ wsX4_slack := fun w h => (List.mem_cons_of_mem _ (List.mem_append_right _ h))
set_option maxHeartbeats 4000000 in
set_option maxRecDepth 100000 in
theorem mX4_slack (l : Launch) (G : va_G) (cI : ClassId) (ma : Nat → Nat) (M : tw_Md) (sz : Nat) (p1 : Int32) {rv : Int32 × tw_Md} (h : fX4_slack M p1 = some rv) : tw_Mi l yX4_slack wsX4_slack rmX4_slack G [(cI, .int)] (tw_wM cI ma M) [.ref (ma 0), .int p1] sz rv.1 (tw_wM cI ma rv.2) := by
  refine tw_ofi (ty := .int) (cc := cX4_slack) (maxL := 3) (own := RX4) (by decide) rfl rfl (Nat.le_of_ble_eq_true rfl) ?_
  intro p e s m args below meth c Q A ls H locs F hN hK hP hD hS hA hl hq
  obtain ⟨hx, hb, hml, hown, hts⟩ := id F
  have hl : lv_has ls 3 [(0, .ref (ma 0)), (1, .int p1)] := hl
  unfold fX4_slack at h
  have L15 : ∀ (n15 : Nat) (v2 : Int32) (M : tw_Md) (H : Heap) (locs : List Loc) (ls : Array Slot), fX4_slack_15 p1 n15 v2 M = some rv → lv_has ls 3 [(0, .ref (ma 0)), (1, .int p1), (2, .int v2)] → va_P G vwCl (tw_wM cI ma M) H → va_D A (tw_wM cI ma M) → va_S A s.heap H locs → W p l e rmX4_slack s m args below meth c H locs 0 0 Q (F0 m 15 ls []) := by
    intro n15
    induction n15 with
    | zero =>
      intro v2 M H locs ls h
      rw [fX4_slack_15] at h
      cases h
    | succ n15 ih15 =>
      intro v2 M H locs ls h hl hP hD hS
      rw [fX4_slack_15] at h
      refine lv_iload_n hx hb dX4_slack_15 rfl (lv_at hl 2 rfl) ?_
      refine lv_if_le (tgt := 90) hx hb dX4_slack_16 (by decide) (fun c16 => ?_) (fun c16 => ?_)
      · replace h := tw_t c16 h
        refine lv_iconst (v := (0 : Int32)) hx hb dX4_slack_90 (by decide) ?_
        exact hq H locs _ ls (0 : Int32) (tw_rt (fun r => r.1 = (0 : Int32)) h rfl) rfl (tw_rt (fun r => va_P G vwCl (tw_wM cI ma r.2) H) h hP) hS dX4_slack_91
      · replace h := tw_f c16 h
        refine lv_aload_n hx hb dX4_slack_19 rfl (lv_at hl 0 rfl) ?_
        refine lv_iload_n hx hb dX4_slack_20 rfl (lv_at hl 1 rfl) ?_
        refine lv_aload_n hx hb dX4_slack_21 rfl (lv_at hl 0 rfl) ?_
        refine va_get (D := G) (ci := 4) (v := .ref (ma 6)) (C := RX4) (T := TX4) (N := 13) hx hb hts iX4_slack_X4 hown hK hP 0 rfl rfl 11 (by decide) (hts _ qX4_slack_0) (fun _ h9 => h9) rfl dX4_slack_22 ?_
        refine lv_iload_n hx hb dX4_slack_25 rfl (lv_at hl 1 rfl) ?_
        obtain ⟨g26, h⟩ := tw_gs h
        refine va_iald (f := M.2.2.2.2.2.2.2.2.2.2.2.1) (n := 12) hx hb hK hP 6 0 rfl rfl g26 dX4_slack_26 ?_
        refine lv_iload_n hx hb dX4_slack_27 rfl (lv_at hl 2 rfl) ?_
        refine lv_iadd hx hb dX4_slack_28 ?_
        obtain ⟨r29, e29, h⟩ := tw_bs h
        refine tw_callVvF (ws' := (tw_wM cI ma r29)) (As := [.int p1, .int ((M.2.2.2.2.2.2.2.2.2.2.2.1 p1.toNatClampNeg) + v2)]) (rest := []) F hN hK hP hD hS hA (mX4_triesFrom l G cI ma M H.size p1 ((M.2.2.2.2.2.2.2.2.2.2.2.1 p1.toNatClampNeg) + v2) e29) (cwV 2 hts gX4_slack_X4_triesFrom rfl rfl rfl (by decide +kernel) ⟨(Nat.le_of_ble_eq_true rfl), (Nat.le_of_ble_eq_true rfl)⟩) rfl (r0 := 0) (ci := 4) rfl rfl rfl rfl hl.1 rfl (Nat.le_of_ble_eq_true rfl) dX4_slack_29 ⟨Nat.zero_le _, Nat.zero_le _⟩ (fun H locs hP hD hS => ?_)
        refine lv_aload_n hx hb dX4_slack_32 rfl (lv_at hl 0 rfl) ?_
        refine va_get (D := G) (ci := 4) (v := .ref (ma 2)) (C := RX4) (T := TX4) (N := 13) hx hb hts iX4_slack_X4 hown hK hP 0 rfl rfl 1 (by decide) (hts _ qX4_slack_1) (fun _ h9 => h9) rfl dX4_slack_33 ?_
        refine lv_aload_n hx hb dX4_slack_36 rfl (lv_at hl 0 rfl) ?_
        refine va_get (D := G) (ci := 4) (v := .ref (ma 7)) (C := RX4) (T := TX4) (N := 13) hx hb hts iX4_slack_X4 hown hK hP 0 rfl rfl 12 (by decide) (hts _ qX4_slack_2) (fun _ h9 => h9) rfl dX4_slack_37 ?_
        obtain ⟨r40, e40, h⟩ := tw_bs h
        refine tw_callSi (ws' := (tw_wM cI ma r29)) (As := [.ref (ma 2), .ref (ma 7)]) (rest := []) F hN hK hP hD hS hA (mX4_laid l G cI (ma 2) (ma 7) r29.2.1 r29.2.2.2.2.2.2.2.2.2.2.2.2 H.size e40) (va_cwS 2 hts gX4_slack_X4_laid rfl rfl rfl (by decide +kernel) ⟨(Nat.le_of_ble_eq_true rfl), (Nat.le_of_ble_eq_true rfl)⟩) [0] rfl [2, 7] (by decide) rfl rfl rfl rfl hl.1 rfl (Nat.le_of_ble_eq_true rfl) dX4_slack_40 ⟨Nat.zero_le _, Nat.zero_le _⟩ (fun H locs hP hD hS => ?_)
        refine lv_aload_n hx hb dX4_slack_43 rfl (lv_at hl 0 rfl) ?_
        refine va_get (D := G) (ci := 4) (v := .ref (ma 1)) (C := RX4) (T := TX4) (N := 13) hx hb hts iX4_slack_X4 hown hK hP 0 rfl rfl 0 (by decide) (hts _ qX4_slack_3) (fun _ h9 => h9) rfl dX4_slack_44 ?_
        refine lv_aload_n hx hb dX4_slack_47 rfl (lv_at hl 0 rfl) ?_
        refine va_get (D := G) (ci := 4) (v := .ref (ma 6)) (C := RX4) (T := TX4) (N := 13) hx hb hts iX4_slack_X4 hown hK hP 0 rfl rfl 11 (by decide) (hts _ qX4_slack_0) (fun _ h9 => h9) rfl dX4_slack_48 ?_
        obtain ⟨r51, e51, h⟩ := tw_bs h
        refine tw_callSi (ws' := (tw_wM cI ma r29)) (As := [.ref (ma 1), .ref (ma 6)]) (rest := [.int r40]) F hN hK hP hD hS hA (mX4_laid l G cI (ma 1) (ma 6) r29.1 r29.2.2.2.2.2.2.2.2.2.2.2.1 H.size e51) (va_cwS 2 hts gX4_slack_X4_laid rfl rfl rfl (by decide +kernel) ⟨(Nat.le_of_ble_eq_true rfl), (Nat.le_of_ble_eq_true rfl)⟩) [0] rfl [1, 6] (by decide) rfl rfl rfl rfl hl.1 rfl (Nat.le_of_ble_eq_true rfl) dX4_slack_51 ⟨Nat.zero_le _, Nat.zero_le _⟩ (fun H locs hP hD hS => ?_)
        refine lv_icmp_lt (tgt := 84) hx hb dX4_slack_54 (by decide) (fun c54 => ?_) (fun c54 => ?_)
        · replace h := tw_t c54 h
          refine lv_iinc (v := (v2 + (-1))) (lv' := [(2, .int (v2 + (-1))), (0, .ref (ma 0)), (1, .int p1)]) hx hb dX4_slack_84 hl (k := 2) rfl rfl (by decide) rfl (fun ls hl => ?_)
          refine lv_goto (tgt := 15) hx hb dX4_slack_87 (by decide) ?_
          exact ih15 (v2 + (-1)) r29 H locs ls h (lv_sub hl [1, 2, 0] rfl) hP hD hS
        · replace h := tw_f c54 h
          refine lv_aload_n hx hb dX4_slack_57 rfl (lv_at hl 0 rfl) ?_
          refine va_get (D := G) (ci := 4) (v := .ref (ma 2)) (C := RX4) (T := TX4) (N := 13) hx hb hts iX4_slack_X4 hown hK hP 0 rfl rfl 1 (by decide) (hts _ qX4_slack_1) (fun _ h9 => h9) rfl dX4_slack_58 ?_
          refine lv_aload_n hx hb dX4_slack_61 rfl (lv_at hl 0 rfl) ?_
          refine va_get (D := G) (ci := 4) (v := .ref (ma 7)) (C := RX4) (T := TX4) (N := 13) hx hb hts iX4_slack_X4 hown hK hP 0 rfl rfl 12 (by decide) (hts _ qX4_slack_2) (fun _ h9 => h9) rfl dX4_slack_62 ?_
          obtain ⟨r65, e65, h⟩ := tw_bs h
          refine tw_callSi (ws' := (tw_wM cI ma r29)) (As := [.ref (ma 2), .ref (ma 7)]) (rest := []) F hN hK hP hD hS hA (mX4_end l G cI (ma 2) (ma 7) r29.2.1 r29.2.2.2.2.2.2.2.2.2.2.2.2 H.size e65) (va_cwS 2 hts gX4_slack_X4_end rfl rfl rfl (by decide +kernel) ⟨(Nat.le_of_ble_eq_true rfl), (Nat.le_of_ble_eq_true rfl)⟩) [0] rfl [2, 7] (by decide) rfl rfl rfl rfl hl.1 rfl (Nat.le_of_ble_eq_true rfl) dX4_slack_65 ⟨Nat.zero_le _, Nat.zero_le _⟩ (fun H locs hP hD hS => ?_)
          refine lv_aload_n hx hb dX4_slack_68 rfl (lv_at hl 0 rfl) ?_
          refine va_get (D := G) (ci := 4) (v := .ref (ma 1)) (C := RX4) (T := TX4) (N := 13) hx hb hts iX4_slack_X4 hown hK hP 0 rfl rfl 0 (by decide) (hts _ qX4_slack_3) (fun _ h9 => h9) rfl dX4_slack_69 ?_
          refine lv_aload_n hx hb dX4_slack_72 rfl (lv_at hl 0 rfl) ?_
          refine va_get (D := G) (ci := 4) (v := .ref (ma 6)) (C := RX4) (T := TX4) (N := 13) hx hb hts iX4_slack_X4 hown hK hP 0 rfl rfl 11 (by decide) (hts _ qX4_slack_0) (fun _ h9 => h9) rfl dX4_slack_73 ?_
          obtain ⟨r76, e76, h⟩ := tw_bs h
          refine tw_callSi (ws' := (tw_wM cI ma r29)) (As := [.ref (ma 1), .ref (ma 6)]) (rest := [.int r65]) F hN hK hP hD hS hA (mX4_end l G cI (ma 1) (ma 6) r29.1 r29.2.2.2.2.2.2.2.2.2.2.2.1 H.size e76) (va_cwS 2 hts gX4_slack_X4_end rfl rfl rfl (by decide +kernel) ⟨(Nat.le_of_ble_eq_true rfl), (Nat.le_of_ble_eq_true rfl)⟩) [0] rfl [1, 6] (by decide) rfl rfl rfl rfl hl.1 rfl (Nat.le_of_ble_eq_true rfl) dX4_slack_76 ⟨Nat.zero_le _, Nat.zero_le _⟩ (fun H locs hP hD hS => ?_)
          refine lv_icmp_gt (tgt := 84) hx hb dX4_slack_79 (by decide) (fun c79 => ?_) (fun c79 => ?_)
          · replace h := tw_t c79 h
            refine lv_iinc (v := (v2 + (-1))) (lv' := [(2, .int (v2 + (-1))), (0, .ref (ma 0)), (1, .int p1)]) hx hb dX4_slack_84 hl (k := 2) rfl rfl (by decide) rfl (fun ls hl => ?_)
            refine lv_goto (tgt := 15) hx hb dX4_slack_87 (by decide) ?_
            exact ih15 (v2 + (-1)) r29 H locs ls h (lv_sub hl [1, 2, 0] rfl) hP hD hS
          · replace h := tw_f c79 h
            refine lv_iload_n hx hb dX4_slack_82 rfl (lv_at hl 2 rfl) ?_
            exact hq H locs _ ls v2 (tw_rt (fun r => r.1 = v2) h rfl) rfl (tw_rt (fun r => va_P G vwCl (tw_wM cI ma r.2) H) h hP) hS dX4_slack_83
  refine lv_aload_n hx hb dX4_slack_0 rfl (lv_at hl 0 rfl) ?_
  refine va_get (D := G) (ci := 4) (v := .ref (ma 6)) (C := RX4) (T := TX4) (N := 13) hx hb hts iX4_slack_X4 hown hK hP 0 rfl rfl 11 (by decide) (hts _ qX4_slack_0) (fun _ h9 => h9) rfl dX4_slack_1 ?_
  refine lv_iload_n hx hb dX4_slack_4 rfl (lv_at hl 1 rfl) ?_
  obtain ⟨g5, h⟩ := tw_gs h
  refine va_iald (f := M.2.2.2.2.2.2.2.2.2.2.2.1) (n := 12) hx hb hK hP 6 0 rfl rfl g5 dX4_slack_5 ?_
  refine lv_iconst (v := (-1 : Int32)) hx hb dX4_slack_6 (by decide) ?_
  refine lv_icmp_ne (tgt := 12) hx hb dX4_slack_7 (by decide) (fun c7 => ?_) (fun c7 => ?_)
  · replace h := tw_t c7 h
    refine lv_bipush (v := (30 : Int32)) hx hb dX4_slack_12 (by decide) ?_
    refine lv_istore_n (lv' := [(2, .int (30 : Int32)), (0, .ref (ma 0)), (1, .int p1)]) hx hb dX4_slack_14 rfl hl (by decide) rfl (fun ls hl => ?_)
    exact L15 512 (30 : Int32) M H locs ls h (lv_sub hl [1, 2, 0] rfl) hP hD hS
  · replace h := tw_fn c7 h
    refine lv_iconst (v := (-1 : Int32)) hx hb dX4_slack_10 (by decide) ?_
    exact hq H locs _ ls (-1 : Int32) (tw_rt (fun r => r.1 = (-1 : Int32)) h rfl) rfl (tw_rt (fun r => va_P G vwCl (tw_wM cI ma r.2) H) h hP) hS dX4_slack_11
abbrev rmX4_comes : Room := { frames := 0, cells := 0, slots := 0, locals := 0 }
set_option maxRecDepth 20000 in
theorem qX4_comes_0 : (Cond.fieldLink RX4 7 "TheatreWallModel" "now" "[I") ∈ wsX4_comes := (List.mem_cons_of_mem _ (List.mem_append_left _ (List.mem_of_getElem? (i := 0) rfl)))
set_option maxRecDepth 20000 in
theorem iX4_comes_X4 : ∀ w ∈ u_ws RX4 TX4 13, w ∈ wsX4_comes := fun w h => (List.mem_cons_of_mem _ (List.mem_append_right _ h))
set_option maxHeartbeats 4000000 in
set_option maxRecDepth 100000 in
theorem mX4_comes (l : Launch) (G : va_G) (cI : ClassId) (ma : Nat → Nat) (M : tw_Md) (sz : Nat) (p1 : Int32) (p2 : Int32) (p3 : Int32) (p4 : Int32) {rv : tw_Md} (h : fX4_comes M p1 p2 p3 p4 = some rv) : tw_Mv l yX4_comes wsX4_comes rmX4_comes G [(cI, .int)] (tw_wM cI ma M) [.ref (ma 0), .int p1, .int p2, .int p3, .int p4] sz (tw_wM cI ma rv) := by
  refine tw_ofv (cc := cX4_comes) (maxL := 6) (own := RX4) (by decide) rfl rfl (Nat.le_of_ble_eq_true rfl) ?_
  intro p e s m args below meth c Q A ls H locs F hN hK hP hD hS hA hl hq
  obtain ⟨hx, hb, hml, hown, hts⟩ := id F
  have hl : lv_has ls 6 [(0, .ref (ma 0)), (1, .int p1), (2, .int p2), (3, .int p3), (4, .int p4)] := hl
  unfold fX4_comes at h
  refine lv_bipush (v := (10 : Int32)) hx hb dX4_comes_0 (by decide) ?_
  refine lv_iconst (v := (5 : Int32)) hx hb dX4_comes_2 (by decide) ?_
  refine lv_aload_n hx hb dX4_comes_3 rfl (lv_at hl 0 rfl) ?_
  refine va_get (D := G) (ci := 4) (v := .ref (ma 1)) (C := RX4) (T := TX4) (N := 13) hx hb hts iX4_comes_X4 hown hK hP 0 rfl rfl 0 (by decide) (hts _ qX4_comes_0) (fun _ h9 => h9) rfl dX4_comes_4 ?_
  refine lv_iconst (v := (0 : Int32)) hx hb dX4_comes_7 (by decide) ?_
  refine va_iald (f := M.1) (n := 70) hx hb hK hP 1 0 rfl rfl (tw_vin (by decide)) dX4_comes_8 ?_
  refine lv_imul hx hb dX4_comes_9 ?_
  refine lv_iadd hx hb dX4_comes_10 ?_
  refine lv_istore (lv' := [(5, .int ((10 : Int32) + ((5 : Int32) * (M.1 (0 : Int32).toNatClampNeg)))), (0, .ref (ma 0)), (1, .int p1), (2, .int p2), (3, .int p3), (4, .int p4)]) hx hb dX4_comes_11 hl (by decide) rfl (fun ls hl => ?_)
  refine lv_aload_n hx hb dX4_comes_13 rfl (lv_at hl 1 rfl) ?_
  refine va_get (D := G) (ci := 4) (v := .ref (ma 1)) (C := RX4) (T := TX4) (N := 13) hx hb hts iX4_comes_X4 hown hK hP 0 rfl rfl 0 (by decide) (hts _ qX4_comes_0) (fun _ h9 => h9) rfl dX4_comes_14 ?_
  refine lv_iload hx hb dX4_comes_17 (lv_at hl 0 rfl) ?_
  refine lv_iload_n hx hb dX4_comes_19 rfl (lv_at hl 2 rfl) ?_
  obtain ⟨g20, h⟩ := tw_gs h
  refine tw_iast (ws' := (tw_wM cI ma ((upd M.1 ((10 : Int32) + ((5 : Int32) * (M.1 (0 : Int32).toNatClampNeg))).toNatClampNeg p1), M.2.1, M.2.2.1, M.2.2.2.1, M.2.2.2.2.1, M.2.2.2.2.2.1, M.2.2.2.2.2.2.1, M.2.2.2.2.2.2.2.1, M.2.2.2.2.2.2.2.2.1, M.2.2.2.2.2.2.2.2.2.1, M.2.2.2.2.2.2.2.2.2.2.1, M.2.2.2.2.2.2.2.2.2.2.2.1, M.2.2.2.2.2.2.2.2.2.2.2.2))) (f := M.1) (n := 70) hx hb hK hP hD hS 1 0 rfl rfl g20 dX4_comes_20 rfl (fun H locs hP hD hS => ?_)
  refine lv_aload_n hx hb dX4_comes_21 rfl (lv_at hl 1 rfl) ?_
  refine va_get (D := G) (ci := 4) (v := .ref (ma 1)) (C := RX4) (T := TX4) (N := 13) hx hb hts iX4_comes_X4 hown hK hP 0 rfl rfl 0 (by decide) (hts _ qX4_comes_0) (fun _ h9 => h9) rfl dX4_comes_22 ?_
  refine lv_iload hx hb dX4_comes_25 (lv_at hl 0 rfl) ?_
  refine lv_iconst (v := (1 : Int32)) hx hb dX4_comes_27 (by decide) ?_
  refine lv_iadd hx hb dX4_comes_28 ?_
  refine lv_iload_n hx hb dX4_comes_29 rfl (lv_at hl 3 rfl) ?_
  obtain ⟨g30, h⟩ := tw_gs h
  refine tw_iast (ws' := (tw_wM cI ma ((upd (upd M.1 ((10 : Int32) + ((5 : Int32) * (M.1 (0 : Int32).toNatClampNeg))).toNatClampNeg p1) (((10 : Int32) + ((5 : Int32) * (M.1 (0 : Int32).toNatClampNeg))) + (1 : Int32)).toNatClampNeg p2), M.2.1, M.2.2.1, M.2.2.2.1, M.2.2.2.2.1, M.2.2.2.2.2.1, M.2.2.2.2.2.2.1, M.2.2.2.2.2.2.2.1, M.2.2.2.2.2.2.2.2.1, M.2.2.2.2.2.2.2.2.2.1, M.2.2.2.2.2.2.2.2.2.2.1, M.2.2.2.2.2.2.2.2.2.2.2.1, M.2.2.2.2.2.2.2.2.2.2.2.2))) (f := (upd M.1 ((10 : Int32) + ((5 : Int32) * (M.1 (0 : Int32).toNatClampNeg))).toNatClampNeg p1)) (n := 70) hx hb hK hP hD hS 1 0 rfl rfl g30 dX4_comes_30 rfl (fun H locs hP hD hS => ?_)
  refine lv_aload_n hx hb dX4_comes_31 rfl (lv_at hl 1 rfl) ?_
  refine va_get (D := G) (ci := 4) (v := .ref (ma 1)) (C := RX4) (T := TX4) (N := 13) hx hb hts iX4_comes_X4 hown hK hP 0 rfl rfl 0 (by decide) (hts _ qX4_comes_0) (fun _ h9 => h9) rfl dX4_comes_32 ?_
  refine lv_iload hx hb dX4_comes_35 (lv_at hl 0 rfl) ?_
  refine lv_iconst (v := (2 : Int32)) hx hb dX4_comes_37 (by decide) ?_
  refine lv_iadd hx hb dX4_comes_38 ?_
  refine lv_iload_n hx hb dX4_comes_39 rfl (lv_at hl 4 rfl) ?_
  obtain ⟨g40, h⟩ := tw_gs h
  refine tw_iast (ws' := (tw_wM cI ma ((upd (upd (upd M.1 ((10 : Int32) + ((5 : Int32) * (M.1 (0 : Int32).toNatClampNeg))).toNatClampNeg p1) (((10 : Int32) + ((5 : Int32) * (M.1 (0 : Int32).toNatClampNeg))) + (1 : Int32)).toNatClampNeg p2) (((10 : Int32) + ((5 : Int32) * (M.1 (0 : Int32).toNatClampNeg))) + (2 : Int32)).toNatClampNeg p3), M.2.1, M.2.2.1, M.2.2.2.1, M.2.2.2.2.1, M.2.2.2.2.2.1, M.2.2.2.2.2.2.1, M.2.2.2.2.2.2.2.1, M.2.2.2.2.2.2.2.2.1, M.2.2.2.2.2.2.2.2.2.1, M.2.2.2.2.2.2.2.2.2.2.1, M.2.2.2.2.2.2.2.2.2.2.2.1, M.2.2.2.2.2.2.2.2.2.2.2.2))) (f := (upd (upd M.1 ((10 : Int32) + ((5 : Int32) * (M.1 (0 : Int32).toNatClampNeg))).toNatClampNeg p1) (((10 : Int32) + ((5 : Int32) * (M.1 (0 : Int32).toNatClampNeg))) + (1 : Int32)).toNatClampNeg p2)) (n := 70) hx hb hK hP hD hS 1 0 rfl rfl g40 dX4_comes_40 rfl (fun H locs hP hD hS => ?_)
  refine lv_aload_n hx hb dX4_comes_41 rfl (lv_at hl 1 rfl) ?_
  refine va_get (D := G) (ci := 4) (v := .ref (ma 1)) (C := RX4) (T := TX4) (N := 13) hx hb hts iX4_comes_X4 hown hK hP 0 rfl rfl 0 (by decide) (hts _ qX4_comes_0) (fun _ h9 => h9) rfl dX4_comes_42 ?_
  refine lv_iload hx hb dX4_comes_45 (lv_at hl 0 rfl) ?_
  refine lv_iconst (v := (3 : Int32)) hx hb dX4_comes_47 (by decide) ?_
  refine lv_iadd hx hb dX4_comes_48 ?_
  refine lv_iconst (v := (0 : Int32)) hx hb dX4_comes_49 (by decide) ?_
  obtain ⟨g50, h⟩ := tw_gs h
  refine tw_iast (ws' := (tw_wM cI ma ((upd (upd (upd (upd M.1 ((10 : Int32) + ((5 : Int32) * (M.1 (0 : Int32).toNatClampNeg))).toNatClampNeg p1) (((10 : Int32) + ((5 : Int32) * (M.1 (0 : Int32).toNatClampNeg))) + (1 : Int32)).toNatClampNeg p2) (((10 : Int32) + ((5 : Int32) * (M.1 (0 : Int32).toNatClampNeg))) + (2 : Int32)).toNatClampNeg p3) (((10 : Int32) + ((5 : Int32) * (M.1 (0 : Int32).toNatClampNeg))) + (3 : Int32)).toNatClampNeg (0 : Int32)), M.2.1, M.2.2.1, M.2.2.2.1, M.2.2.2.2.1, M.2.2.2.2.2.1, M.2.2.2.2.2.2.1, M.2.2.2.2.2.2.2.1, M.2.2.2.2.2.2.2.2.1, M.2.2.2.2.2.2.2.2.2.1, M.2.2.2.2.2.2.2.2.2.2.1, M.2.2.2.2.2.2.2.2.2.2.2.1, M.2.2.2.2.2.2.2.2.2.2.2.2))) (f := (upd (upd (upd M.1 ((10 : Int32) + ((5 : Int32) * (M.1 (0 : Int32).toNatClampNeg))).toNatClampNeg p1) (((10 : Int32) + ((5 : Int32) * (M.1 (0 : Int32).toNatClampNeg))) + (1 : Int32)).toNatClampNeg p2) (((10 : Int32) + ((5 : Int32) * (M.1 (0 : Int32).toNatClampNeg))) + (2 : Int32)).toNatClampNeg p3)) (n := 70) hx hb hK hP hD hS 1 0 rfl rfl g50 dX4_comes_50 rfl (fun H locs hP hD hS => ?_)
  refine lv_aload_n hx hb dX4_comes_51 rfl (lv_at hl 1 rfl) ?_
  refine va_get (D := G) (ci := 4) (v := .ref (ma 1)) (C := RX4) (T := TX4) (N := 13) hx hb hts iX4_comes_X4 hown hK hP 0 rfl rfl 0 (by decide) (hts _ qX4_comes_0) (fun _ h9 => h9) rfl dX4_comes_52 ?_
  refine lv_iload hx hb dX4_comes_55 (lv_at hl 0 rfl) ?_
  refine lv_iconst (v := (4 : Int32)) hx hb dX4_comes_57 (by decide) ?_
  refine lv_iadd hx hb dX4_comes_58 ?_
  refine lv_iload hx hb dX4_comes_59 (lv_at hl 5 rfl) ?_
  obtain ⟨g61, h⟩ := tw_gs h
  refine tw_iast (ws' := (tw_wM cI ma ((upd (upd (upd (upd (upd M.1 ((10 : Int32) + ((5 : Int32) * (M.1 (0 : Int32).toNatClampNeg))).toNatClampNeg p1) (((10 : Int32) + ((5 : Int32) * (M.1 (0 : Int32).toNatClampNeg))) + (1 : Int32)).toNatClampNeg p2) (((10 : Int32) + ((5 : Int32) * (M.1 (0 : Int32).toNatClampNeg))) + (2 : Int32)).toNatClampNeg p3) (((10 : Int32) + ((5 : Int32) * (M.1 (0 : Int32).toNatClampNeg))) + (3 : Int32)).toNatClampNeg (0 : Int32)) (((10 : Int32) + ((5 : Int32) * (M.1 (0 : Int32).toNatClampNeg))) + (4 : Int32)).toNatClampNeg p4), M.2.1, M.2.2.1, M.2.2.2.1, M.2.2.2.2.1, M.2.2.2.2.2.1, M.2.2.2.2.2.2.1, M.2.2.2.2.2.2.2.1, M.2.2.2.2.2.2.2.2.1, M.2.2.2.2.2.2.2.2.2.1, M.2.2.2.2.2.2.2.2.2.2.1, M.2.2.2.2.2.2.2.2.2.2.2.1, M.2.2.2.2.2.2.2.2.2.2.2.2))) (f := (upd (upd (upd (upd M.1 ((10 : Int32) + ((5 : Int32) * (M.1 (0 : Int32).toNatClampNeg))).toNatClampNeg p1) (((10 : Int32) + ((5 : Int32) * (M.1 (0 : Int32).toNatClampNeg))) + (1 : Int32)).toNatClampNeg p2) (((10 : Int32) + ((5 : Int32) * (M.1 (0 : Int32).toNatClampNeg))) + (2 : Int32)).toNatClampNeg p3) (((10 : Int32) + ((5 : Int32) * (M.1 (0 : Int32).toNatClampNeg))) + (3 : Int32)).toNatClampNeg (0 : Int32))) (n := 70) hx hb hK hP hD hS 1 0 rfl rfl g61 dX4_comes_61 rfl (fun H locs hP hD hS => ?_)
  refine lv_aload_n hx hb dX4_comes_62 rfl (lv_at hl 1 rfl) ?_
  refine va_get (D := G) (ci := 4) (v := .ref (ma 1)) (C := RX4) (T := TX4) (N := 13) hx hb hts iX4_comes_X4 hown hK hP 0 rfl rfl 0 (by decide) (hts _ qX4_comes_0) (fun _ h9 => h9) rfl dX4_comes_63 ?_
  refine lv_iconst (v := (0 : Int32)) hx hb dX4_comes_66 (by decide) ?_
  refine lv_dup2_11 hx hb dX4_comes_67 rfl rfl ?_
  refine va_iald (f := (upd (upd (upd (upd (upd M.1 ((10 : Int32) + ((5 : Int32) * (M.1 (0 : Int32).toNatClampNeg))).toNatClampNeg p1) (((10 : Int32) + ((5 : Int32) * (M.1 (0 : Int32).toNatClampNeg))) + (1 : Int32)).toNatClampNeg p2) (((10 : Int32) + ((5 : Int32) * (M.1 (0 : Int32).toNatClampNeg))) + (2 : Int32)).toNatClampNeg p3) (((10 : Int32) + ((5 : Int32) * (M.1 (0 : Int32).toNatClampNeg))) + (3 : Int32)).toNatClampNeg (0 : Int32)) (((10 : Int32) + ((5 : Int32) * (M.1 (0 : Int32).toNatClampNeg))) + (4 : Int32)).toNatClampNeg p4)) (n := 70) hx hb hK hP 1 0 rfl rfl (tw_vin (by decide)) dX4_comes_68 ?_
  refine lv_iconst (v := (1 : Int32)) hx hb dX4_comes_69 (by decide) ?_
  refine lv_iadd hx hb dX4_comes_70 ?_
  refine tw_iast (ws' := (tw_wM cI ma ((upd (upd (upd (upd (upd (upd M.1 ((10 : Int32) + ((5 : Int32) * (M.1 (0 : Int32).toNatClampNeg))).toNatClampNeg p1) (((10 : Int32) + ((5 : Int32) * (M.1 (0 : Int32).toNatClampNeg))) + (1 : Int32)).toNatClampNeg p2) (((10 : Int32) + ((5 : Int32) * (M.1 (0 : Int32).toNatClampNeg))) + (2 : Int32)).toNatClampNeg p3) (((10 : Int32) + ((5 : Int32) * (M.1 (0 : Int32).toNatClampNeg))) + (3 : Int32)).toNatClampNeg (0 : Int32)) (((10 : Int32) + ((5 : Int32) * (M.1 (0 : Int32).toNatClampNeg))) + (4 : Int32)).toNatClampNeg p4) (0 : Int32).toNatClampNeg (((upd (upd (upd (upd (upd M.1 ((10 : Int32) + ((5 : Int32) * (M.1 (0 : Int32).toNatClampNeg))).toNatClampNeg p1) (((10 : Int32) + ((5 : Int32) * (M.1 (0 : Int32).toNatClampNeg))) + (1 : Int32)).toNatClampNeg p2) (((10 : Int32) + ((5 : Int32) * (M.1 (0 : Int32).toNatClampNeg))) + (2 : Int32)).toNatClampNeg p3) (((10 : Int32) + ((5 : Int32) * (M.1 (0 : Int32).toNatClampNeg))) + (3 : Int32)).toNatClampNeg (0 : Int32)) (((10 : Int32) + ((5 : Int32) * (M.1 (0 : Int32).toNatClampNeg))) + (4 : Int32)).toNatClampNeg p4) (0 : Int32).toNatClampNeg) + (1 : Int32))), M.2.1, M.2.2.1, M.2.2.2.1, M.2.2.2.2.1, M.2.2.2.2.2.1, M.2.2.2.2.2.2.1, M.2.2.2.2.2.2.2.1, M.2.2.2.2.2.2.2.2.1, M.2.2.2.2.2.2.2.2.2.1, M.2.2.2.2.2.2.2.2.2.2.1, M.2.2.2.2.2.2.2.2.2.2.2.1, M.2.2.2.2.2.2.2.2.2.2.2.2))) (f := (upd (upd (upd (upd (upd M.1 ((10 : Int32) + ((5 : Int32) * (M.1 (0 : Int32).toNatClampNeg))).toNatClampNeg p1) (((10 : Int32) + ((5 : Int32) * (M.1 (0 : Int32).toNatClampNeg))) + (1 : Int32)).toNatClampNeg p2) (((10 : Int32) + ((5 : Int32) * (M.1 (0 : Int32).toNatClampNeg))) + (2 : Int32)).toNatClampNeg p3) (((10 : Int32) + ((5 : Int32) * (M.1 (0 : Int32).toNatClampNeg))) + (3 : Int32)).toNatClampNeg (0 : Int32)) (((10 : Int32) + ((5 : Int32) * (M.1 (0 : Int32).toNatClampNeg))) + (4 : Int32)).toNatClampNeg p4)) (n := 70) hx hb hK hP hD hS 1 0 rfl rfl (tw_vin (by decide)) dX4_comes_71 rfl (fun H locs hP hD hS => ?_)
  exact hq H locs _ ls (tw_rt (fun r => va_P G vwCl (tw_wM cI ma r) H) h hP) hS dX4_comes_72
abbrev rmX4_add : Room := { frames := 2, cells := 0, slots := 0, locals := 43 }
set_option maxRecDepth 20000 in
theorem qX4_add_0 : (Cond.fieldLink RX4 31 "TheatreWallModel" "thrown" "I") ∈ wsX4_add := (List.mem_cons_of_mem _ (List.mem_append_left _ (List.mem_of_getElem? (i := 0) rfl)))
set_option maxRecDepth 20000 in
theorem qX4_add_1 : (Cond.fieldLink RX4 7 "TheatreWallModel" "now" "[I") ∈ wsX4_add := (List.mem_cons_of_mem _ (List.mem_append_left _ (List.mem_of_getElem? (i := 1) rfl)))
set_option maxRecDepth 20000 in
theorem iX4_add_X4 : ∀ w ∈ u_ws RX4 TX4 13, w ∈ wsX4_add := fun w h => (List.mem_cons_of_mem _ (List.mem_append_right _ h))
set_option maxHeartbeats 4000000 in
set_option maxRecDepth 100000 in
theorem mX4_add (l : Launch) (G : va_G) (cI : ClassId) (ma : Nat → Nat) (M : tw_Md) (sz : Nat) (p1 : Int32) (p2 : Int32) (p3 : Int32) {rv : Int32 × tw_Md} (h : fX4_add M p1 p2 p3 = some rv) : tw_Mi l yX4_add wsX4_add rmX4_add G [(cI, .int)] (tw_wM cI ma M) [.ref (ma 0), .int p1, .int p2, .int p3] sz rv.1 (tw_wM cI ma rv.2) := by
  refine tw_ofi (ty := .int) (cc := cX4_add) (maxL := 4) (own := RX4) (by decide) rfl rfl (Nat.le_of_ble_eq_true rfl) ?_
  intro p e s m args below meth c Q A ls H locs F hN hK hP hD hS hA hl hq
  obtain ⟨hx, hb, hml, hown, hts⟩ := id F
  have hl : lv_has ls 4 [(0, .ref (ma 0)), (1, .int p1), (2, .int p2), (3, .int p3)] := hl
  unfold fX4_add at h
  refine lv_aload_n hx hb dX4_add_0 rfl (lv_at hl 0 rfl) ?_
  refine lv_iconst (v := (0 : Int32)) hx hb dX4_add_1 (by decide) ?_
  refine tw_put (ws' := (tw_wM cI ma (M.1, M.2.1, M.2.2.1, M.2.2.2.1, M.2.2.2.2.1, M.2.2.2.2.2.1, (0 : Int32), M.2.2.2.2.2.2.2.1, M.2.2.2.2.2.2.2.2.1, M.2.2.2.2.2.2.2.2.2.1, M.2.2.2.2.2.2.2.2.2.2.1, M.2.2.2.2.2.2.2.2.2.2.2.1, M.2.2.2.2.2.2.2.2.2.2.2.2))) (D := G) (ci := 4) (v := .int (0 : Int32)) (ty := .int) (C := RX4) (T := TX4) (N := 13) hx hb hts iX4_add_X4 tyX4 tyX4_ok nmX4 hown hK hP hD hS 0 rfl rfl 6 (by decide) (hts _ qX4_add_0) (fun _ h9 => h9) rfl (by decide +kernel) rfl rfl (Nat.le_of_ble_eq_true rfl) dX4_add_2 rfl (fun H locs hP hD hS => ?_)
  refine lv_iconst (v := (0 : Int32)) hx hb dX4_add_5 (by decide) ?_
  refine lv_iload_n hx hb dX4_add_6 rfl (lv_at hl 1 rfl) ?_
  obtain ⟨r7, e7, h⟩ := tw_bs h
  refine tw_callSi (ws' := (tw_wM cI ma (M.1, M.2.1, M.2.2.1, M.2.2.2.1, M.2.2.2.2.1, M.2.2.2.2.2.1, (0 : Int32), M.2.2.2.2.2.2.2.1, M.2.2.2.2.2.2.2.2.1, M.2.2.2.2.2.2.2.2.2.1, M.2.2.2.2.2.2.2.2.2.2.1, M.2.2.2.2.2.2.2.2.2.2.2.1, M.2.2.2.2.2.2.2.2.2.2.2.2))) (As := [.int (0 : Int32), .int p1]) (rest := []) F hN hK hP hD hS hA (mX4_isFor l G cI H.size (0 : Int32) p1 e7) (va_cwS 2 hts gX4_add_X4_isFor rfl rfl rfl (by decide +kernel) ⟨(Nat.le_of_ble_eq_true rfl), (Nat.le_of_ble_eq_true rfl)⟩) [0] rfl [] (by decide) rfl rfl rfl rfl hl.1 rfl (Nat.le_of_ble_eq_true rfl) dX4_add_7 ⟨Nat.zero_le _, Nat.zero_le _⟩ (fun H locs hP hD hS => ?_)
  refine lv_if_eq (tgt := 29) hx hb dX4_add_10 (by decide) (fun c10 => ?_) (fun c10 => ?_)
  · replace h := tw_t c10 h
    refine lv_aload_n hx hb dX4_add_29 rfl (lv_at hl 0 rfl) ?_
    refine lv_iconst (v := (1 : Int32)) hx hb dX4_add_30 (by decide) ?_
    obtain ⟨r31, e31, h⟩ := tw_bs h
    refine tw_callViF (ws' := (tw_wM cI ma r31.2)) (As := [.int (1 : Int32)]) (rest := []) F hN hK hP hD hS hA (mX4_fails l G cI ma (M.1, M.2.1, M.2.2.1, M.2.2.2.1, M.2.2.2.2.1, M.2.2.2.2.2.1, (0 : Int32), M.2.2.2.2.2.2.2.1, M.2.2.2.2.2.2.2.2.1, M.2.2.2.2.2.2.2.2.2.1, M.2.2.2.2.2.2.2.2.2.2.1, M.2.2.2.2.2.2.2.2.2.2.2.1, M.2.2.2.2.2.2.2.2.2.2.2.2) H.size (1 : Int32) e31) (cwV 1 hts gX4_add_X4_fails rfl rfl rfl (by decide +kernel) ⟨(Nat.le_of_ble_eq_true rfl), (Nat.le_of_ble_eq_true rfl)⟩) rfl (r0 := 0) (ci := 4) rfl rfl rfl rfl hl.1 rfl (Nat.le_of_ble_eq_true rfl) dX4_add_31 ⟨Nat.zero_le _, Nat.zero_le _⟩ (fun H locs hP hD hS => ?_)
    exact hq H locs _ ls r31.1 (tw_rt (fun r => r.1 = r31.1) h rfl) rfl (tw_rt (fun r => va_P G vwCl (tw_wM cI ma r.2) H) h hP) hS dX4_add_34
  · replace h := tw_f c10 h
    refine lv_iconst (v := (1 : Int32)) hx hb dX4_add_13 (by decide) ?_
    refine lv_iload_n hx hb dX4_add_14 rfl (lv_at hl 2 rfl) ?_
    obtain ⟨r15, e15, h⟩ := tw_bs h
    refine tw_callSi (ws' := (tw_wM cI ma (M.1, M.2.1, M.2.2.1, M.2.2.2.1, M.2.2.2.2.1, M.2.2.2.2.2.1, (0 : Int32), M.2.2.2.2.2.2.2.1, M.2.2.2.2.2.2.2.2.1, M.2.2.2.2.2.2.2.2.2.1, M.2.2.2.2.2.2.2.2.2.2.1, M.2.2.2.2.2.2.2.2.2.2.2.1, M.2.2.2.2.2.2.2.2.2.2.2.2))) (As := [.int (1 : Int32), .int p2]) (rest := []) F hN hK hP hD hS hA (mX4_isFor l G cI H.size (1 : Int32) p2 e15) (va_cwS 2 hts gX4_add_X4_isFor rfl rfl rfl (by decide +kernel) ⟨(Nat.le_of_ble_eq_true rfl), (Nat.le_of_ble_eq_true rfl)⟩) [0] rfl [] (by decide) rfl rfl rfl rfl hl.1 rfl (Nat.le_of_ble_eq_true rfl) dX4_add_15 ⟨Nat.zero_le _, Nat.zero_le _⟩ (fun H locs hP hD hS => ?_)
    refine lv_if_eq (tgt := 29) hx hb dX4_add_18 (by decide) (fun c18 => ?_) (fun c18 => ?_)
    · replace h := tw_t c18 h
      refine lv_aload_n hx hb dX4_add_29 rfl (lv_at hl 0 rfl) ?_
      refine lv_iconst (v := (1 : Int32)) hx hb dX4_add_30 (by decide) ?_
      obtain ⟨r31, e31, h⟩ := tw_bs h
      refine tw_callViF (ws' := (tw_wM cI ma r31.2)) (As := [.int (1 : Int32)]) (rest := []) F hN hK hP hD hS hA (mX4_fails l G cI ma (M.1, M.2.1, M.2.2.1, M.2.2.2.1, M.2.2.2.2.1, M.2.2.2.2.2.1, (0 : Int32), M.2.2.2.2.2.2.2.1, M.2.2.2.2.2.2.2.2.1, M.2.2.2.2.2.2.2.2.2.1, M.2.2.2.2.2.2.2.2.2.2.1, M.2.2.2.2.2.2.2.2.2.2.2.1, M.2.2.2.2.2.2.2.2.2.2.2.2) H.size (1 : Int32) e31) (cwV 1 hts gX4_add_X4_fails rfl rfl rfl (by decide +kernel) ⟨(Nat.le_of_ble_eq_true rfl), (Nat.le_of_ble_eq_true rfl)⟩) rfl (r0 := 0) (ci := 4) rfl rfl rfl rfl hl.1 rfl (Nat.le_of_ble_eq_true rfl) dX4_add_31 ⟨Nat.zero_le _, Nat.zero_le _⟩ (fun H locs hP hD hS => ?_)
      exact hq H locs _ ls r31.1 (tw_rt (fun r => r.1 = r31.1) h rfl) rfl (tw_rt (fun r => va_P G vwCl (tw_wM cI ma r.2) H) h hP) hS dX4_add_34
    · replace h := tw_f c18 h
      refine lv_iconst (v := (2 : Int32)) hx hb dX4_add_21 (by decide) ?_
      refine lv_iload_n hx hb dX4_add_22 rfl (lv_at hl 3 rfl) ?_
      obtain ⟨r23, e23, h⟩ := tw_bs h
      refine tw_callSi (ws' := (tw_wM cI ma (M.1, M.2.1, M.2.2.1, M.2.2.2.1, M.2.2.2.2.1, M.2.2.2.2.2.1, (0 : Int32), M.2.2.2.2.2.2.2.1, M.2.2.2.2.2.2.2.2.1, M.2.2.2.2.2.2.2.2.2.1, M.2.2.2.2.2.2.2.2.2.2.1, M.2.2.2.2.2.2.2.2.2.2.2.1, M.2.2.2.2.2.2.2.2.2.2.2.2))) (As := [.int (2 : Int32), .int p3]) (rest := []) F hN hK hP hD hS hA (mX4_isFor l G cI H.size (2 : Int32) p3 e23) (va_cwS 2 hts gX4_add_X4_isFor rfl rfl rfl (by decide +kernel) ⟨(Nat.le_of_ble_eq_true rfl), (Nat.le_of_ble_eq_true rfl)⟩) [0] rfl [] (by decide) rfl rfl rfl rfl hl.1 rfl (Nat.le_of_ble_eq_true rfl) dX4_add_23 ⟨Nat.zero_le _, Nat.zero_le _⟩ (fun H locs hP hD hS => ?_)
      refine lv_if_ne (tgt := 35) hx hb dX4_add_26 (by decide) (fun c26 => ?_) (fun c26 => ?_)
      · replace h := tw_t c26 h
        refine lv_aload_n hx hb dX4_add_35 rfl (lv_at hl 0 rfl) ?_
        refine va_get (D := G) (ci := 4) (v := .ref (ma 1)) (C := RX4) (T := TX4) (N := 13) hx hb hts iX4_add_X4 hown hK hP 0 rfl rfl 0 (by decide) (hts _ qX4_add_1) (fun _ h9 => h9) rfl dX4_add_36 ?_
        refine lv_iconst (v := (0 : Int32)) hx hb dX4_add_39 (by decide) ?_
        refine va_iald (f := M.1) (n := 70) hx hb hK hP 1 0 rfl rfl (tw_vin (by decide)) dX4_add_40 ?_
        refine lv_bipush (v := (12 : Int32)) hx hb dX4_add_41 (by decide) ?_
        refine lv_icmp_ne (tgt := 52) hx hb dX4_add_43 (by decide) (fun c43 => ?_) (fun c43 => ?_)
        · replace h := tw_t c43 h
          refine lv_aload_n hx hb dX4_add_52 rfl (lv_at hl 0 rfl) ?_
          obtain ⟨r53, e53, h⟩ := tw_bs h
          refine tw_callVvF (ws' := (tw_wM cI ma r53)) (As := []) (rest := []) F hN hK hP hD hS hA (mX4_saves l G cI ma (M.1, M.2.1, M.2.2.1, M.2.2.2.1, M.2.2.2.2.1, M.2.2.2.2.2.1, (0 : Int32), M.2.2.2.2.2.2.2.1, M.2.2.2.2.2.2.2.2.1, M.2.2.2.2.2.2.2.2.2.1, M.2.2.2.2.2.2.2.2.2.2.1, M.2.2.2.2.2.2.2.2.2.2.2.1, M.2.2.2.2.2.2.2.2.2.2.2.2) H.size e53) (cwV 0 hts gX4_add_X4_saves rfl rfl rfl (by decide +kernel) ⟨(Nat.le_of_ble_eq_true rfl), (Nat.le_of_ble_eq_true rfl)⟩) rfl (r0 := 0) (ci := 4) rfl rfl rfl rfl hl.1 rfl (Nat.le_of_ble_eq_true rfl) dX4_add_53 ⟨Nat.zero_le _, Nat.zero_le _⟩ (fun H locs hP hD hS => ?_)
          refine lv_aload_n hx hb dX4_add_56 rfl (lv_at hl 0 rfl) ?_
          refine lv_iload_n hx hb dX4_add_57 rfl (lv_at hl 1 rfl) ?_
          refine lv_iload_n hx hb dX4_add_58 rfl (lv_at hl 2 rfl) ?_
          refine lv_iload_n hx hb dX4_add_59 rfl (lv_at hl 3 rfl) ?_
          refine lv_iconst (v := (0 : Int32)) hx hb dX4_add_60 (by decide) ?_
          obtain ⟨r61, e61, h⟩ := tw_bs h
          refine tw_callVvF (ws' := (tw_wM cI ma r61)) (As := [.int p1, .int p2, .int p3, .int (0 : Int32)]) (rest := []) F hN hK hP hD hS hA (mX4_comes l G cI ma r53 H.size p1 p2 p3 (0 : Int32) e61) (cwV 4 hts gX4_add_X4_comes rfl rfl rfl (by decide +kernel) ⟨(Nat.le_of_ble_eq_true rfl), (Nat.le_of_ble_eq_true rfl)⟩) rfl (r0 := 0) (ci := 4) rfl rfl rfl rfl hl.1 rfl (Nat.le_of_ble_eq_true rfl) dX4_add_61 ⟨Nat.zero_le _, Nat.zero_le _⟩ (fun H locs hP hD hS => ?_)
          refine lv_aload_n hx hb dX4_add_64 rfl (lv_at hl 0 rfl) ?_
          refine va_get (D := G) (ci := 4) (v := .ref (ma 1)) (C := RX4) (T := TX4) (N := 13) hx hb hts iX4_add_X4 hown hK hP 0 rfl rfl 0 (by decide) (hts _ qX4_add_1) (fun _ h9 => h9) rfl dX4_add_65 ?_
          refine lv_iconst (v := (0 : Int32)) hx hb dX4_add_68 (by decide) ?_
          refine va_iald (f := r61.1) (n := 70) hx hb hK hP 1 0 rfl rfl (tw_vin (by decide)) dX4_add_69 ?_
          refine lv_iconst (v := (1 : Int32)) hx hb dX4_add_70 (by decide) ?_
          refine lv_isub hx hb dX4_add_71 ?_
          exact hq H locs _ ls ((r61.1 (0 : Int32).toNatClampNeg) - (1 : Int32)) (tw_rt (fun r => r.1 = ((r61.1 (0 : Int32).toNatClampNeg) - (1 : Int32))) h rfl) rfl (tw_rt (fun r => va_P G vwCl (tw_wM cI ma r.2) H) h hP) hS dX4_add_72
        · replace h := tw_fn c43 h
          refine lv_aload_n hx hb dX4_add_46 rfl (lv_at hl 0 rfl) ?_
          refine lv_iconst (v := (2 : Int32)) hx hb dX4_add_47 (by decide) ?_
          obtain ⟨r48, e48, h⟩ := tw_bs h
          refine tw_callViF (ws' := (tw_wM cI ma r48.2)) (As := [.int (2 : Int32)]) (rest := []) F hN hK hP hD hS hA (mX4_fails l G cI ma (M.1, M.2.1, M.2.2.1, M.2.2.2.1, M.2.2.2.2.1, M.2.2.2.2.2.1, (0 : Int32), M.2.2.2.2.2.2.2.1, M.2.2.2.2.2.2.2.2.1, M.2.2.2.2.2.2.2.2.2.1, M.2.2.2.2.2.2.2.2.2.2.1, M.2.2.2.2.2.2.2.2.2.2.2.1, M.2.2.2.2.2.2.2.2.2.2.2.2) H.size (2 : Int32) e48) (cwV 1 hts gX4_add_X4_fails rfl rfl rfl (by decide +kernel) ⟨(Nat.le_of_ble_eq_true rfl), (Nat.le_of_ble_eq_true rfl)⟩) rfl (r0 := 0) (ci := 4) rfl rfl rfl rfl hl.1 rfl (Nat.le_of_ble_eq_true rfl) dX4_add_48 ⟨Nat.zero_le _, Nat.zero_le _⟩ (fun H locs hP hD hS => ?_)
          exact hq H locs _ ls r48.1 (tw_rt (fun r => r.1 = r48.1) h rfl) rfl (tw_rt (fun r => va_P G vwCl (tw_wM cI ma r.2) H) h hP) hS dX4_add_51
      · replace h := tw_fn c26 h
        refine lv_aload_n hx hb dX4_add_29 rfl (lv_at hl 0 rfl) ?_
        refine lv_iconst (v := (1 : Int32)) hx hb dX4_add_30 (by decide) ?_
        obtain ⟨r31, e31, h⟩ := tw_bs h
        refine tw_callViF (ws' := (tw_wM cI ma r31.2)) (As := [.int (1 : Int32)]) (rest := []) F hN hK hP hD hS hA (mX4_fails l G cI ma (M.1, M.2.1, M.2.2.1, M.2.2.2.1, M.2.2.2.2.1, M.2.2.2.2.2.1, (0 : Int32), M.2.2.2.2.2.2.2.1, M.2.2.2.2.2.2.2.2.1, M.2.2.2.2.2.2.2.2.2.1, M.2.2.2.2.2.2.2.2.2.2.1, M.2.2.2.2.2.2.2.2.2.2.2.1, M.2.2.2.2.2.2.2.2.2.2.2.2) H.size (1 : Int32) e31) (cwV 1 hts gX4_add_X4_fails rfl rfl rfl (by decide +kernel) ⟨(Nat.le_of_ble_eq_true rfl), (Nat.le_of_ble_eq_true rfl)⟩) rfl (r0 := 0) (ci := 4) rfl rfl rfl rfl hl.1 rfl (Nat.le_of_ble_eq_true rfl) dX4_add_31 ⟨Nat.zero_le _, Nat.zero_le _⟩ (fun H locs hP hD hS => ?_)
        exact hq H locs _ ls r31.1 (tw_rt (fun r => r.1 = r31.1) h rfl) rfl (tw_rt (fun r => va_P G vwCl (tw_wM cI ma r.2) H) h hP) hS dX4_add_34
abbrev rmX4_remove : Room := { frames := 2, cells := 0, slots := 0, locals := 45 }
set_option maxRecDepth 20000 in
theorem qX4_remove_0 : (Cond.fieldLink RX4 7 "TheatreWallModel" "now" "[I") ∈ wsX4_remove := (List.mem_cons_of_mem _ (List.mem_append_left _ (List.mem_append_left _ (List.mem_of_getElem? (i := 1) rfl))))
set_option maxRecDepth 20000 in
theorem qX4_remove_1 : (Cond.fieldLink RX4 31 "TheatreWallModel" "thrown" "I") ∈ wsX4_remove := (List.mem_cons_of_mem _ (List.mem_append_left _ (List.mem_append_left _ (List.mem_of_getElem? (i := 0) rfl))))
set_option maxRecDepth 20000 in
theorem iX4_remove_X4 : ∀ w ∈ u_ws RX4 TX4 13, w ∈ wsX4_remove := fun w h => (List.mem_cons_of_mem _ (List.mem_append_right _ h))
set_option maxHeartbeats 4000000 in
set_option maxRecDepth 100000 in
theorem mX4_remove (l : Launch) (G : va_G) (cI : ClassId) (ma : Nat → Nat) (M : tw_Md) (sz : Nat) (p1 : Int32) {rv : Int32 × tw_Md} (h : fX4_remove M p1 = some rv) : tw_Mi l yX4_remove wsX4_remove rmX4_remove G [(cI, .int)] (tw_wM cI ma M) [.ref (ma 0), .int p1] sz rv.1 (tw_wM cI ma rv.2) := by
  refine tw_ofi (ty := .int) (cc := cX4_remove) (maxL := 6) (own := RX4) (by decide) rfl rfl (Nat.le_of_ble_eq_true rfl) ?_
  intro p e s m args below meth c Q A ls H locs F hN hK hP hD hS hA hl hq
  obtain ⟨hx, hb, hml, hown, hts⟩ := id F
  have hl : lv_has ls 6 [(0, .ref (ma 0)), (1, .int p1)] := hl
  unfold fX4_remove at h
  have L93 : ∀ (n93 : Nat) (v2 : Int32) (v3 : Int32) (v4 : Int32) (M : tw_Md) (H : Heap) (locs : List Loc) (ls : Array Slot), fX4_remove_93 p1 n93 v2 v3 v4 M = some rv → lv_has ls 6 [(0, .ref (ma 0)), (2, .int v2), (3, .int v3), (4, .int v4)] → va_P G vwCl (tw_wM cI ma M) H → va_D A (tw_wM cI ma M) → va_S A s.heap H locs → W p l e rmX4_remove s m args below meth c H locs 0 0 Q (F0 m 93 ls []) := by
    intro n93
    induction n93 with
    | zero =>
      intro v2 v3 v4 M H locs ls h
      rw [fX4_remove_93] at h
      cases h
    | succ n93 ih93 =>
      intro v2 v3 v4 M H locs ls h hl hP hD hS
      rw [fX4_remove_93] at h
      refine lv_iload hx hb dX4_remove_93 (lv_at hl 3 rfl) ?_
      refine lv_aload_n hx hb dX4_remove_95 rfl (lv_at hl 0 rfl) ?_
      refine va_get (D := G) (ci := 4) (v := .ref (ma 1)) (C := RX4) (T := TX4) (N := 13) hx hb hts iX4_remove_X4 hown hK hP 0 rfl rfl 0 (by decide) (hts _ qX4_remove_0) (fun _ h9 => h9) rfl dX4_remove_96 ?_
      refine lv_iconst (v := (0 : Int32)) hx hb dX4_remove_99 (by decide) ?_
      refine va_iald (f := M.1) (n := 70) hx hb hK hP 1 0 rfl rfl (tw_vin (by decide)) dX4_remove_100 ?_
      refine lv_icmp_ge (tgt := 149) hx hb dX4_remove_101 (by decide) (fun c101 => ?_) (fun c101 => ?_)
      · replace h := tw_t c101 h
        refine lv_iload_n hx hb dX4_remove_149 rfl (lv_at hl 1 rfl) ?_
        exact hq H locs _ ls v2 (tw_rt (fun r => r.1 = v2) h rfl) rfl (tw_rt (fun r => va_P G vwCl (tw_wM cI ma r.2) H) h hP) hS dX4_remove_150
      · replace h := tw_f c101 h
        refine lv_aload_n hx hb dX4_remove_104 rfl (lv_at hl 0 rfl) ?_
        refine va_get (D := G) (ci := 4) (v := .ref (ma 1)) (C := RX4) (T := TX4) (N := 13) hx hb hts iX4_remove_X4 hown hK hP 0 rfl rfl 0 (by decide) (hts _ qX4_remove_0) (fun _ h9 => h9) rfl dX4_remove_105 ?_
        refine lv_iload hx hb dX4_remove_108 (lv_at hl 3 rfl) ?_
        refine lv_iconst (v := (4 : Int32)) hx hb dX4_remove_110 (by decide) ?_
        obtain ⟨r111, e111, h⟩ := tw_bs h
        refine tw_callSi (ws' := (tw_wM cI ma M)) (As := [.ref (ma 1), .int v4, .int (4 : Int32)]) (rest := []) F hN hK hP hD hS hA (mX4_of l G cI (ma 1) M.1 H.size v4 (4 : Int32) e111) (va_cwS 3 hts gX4_remove_X4_of rfl rfl rfl (by decide +kernel) ⟨(Nat.le_of_ble_eq_true rfl), (Nat.le_of_ble_eq_true rfl)⟩) [0] rfl [1] (by decide) rfl rfl rfl rfl hl.1 rfl (Nat.le_of_ble_eq_true rfl) dX4_remove_111 ⟨Nat.zero_le _, Nat.zero_le _⟩ (fun H locs hP hD hS => ?_)
        refine lv_istore (lv' := [(5, .int r111), (0, .ref (ma 0)), (2, .int v2), (3, .int v3), (4, .int v4)]) hx hb dX4_remove_114 hl (by decide) rfl (fun ls hl => ?_)
        refine lv_aload_n hx hb dX4_remove_116 rfl (lv_at hl 1 rfl) ?_
        refine va_get (D := G) (ci := 4) (v := .ref (ma 1)) (C := RX4) (T := TX4) (N := 13) hx hb hts iX4_remove_X4 hown hK hP 0 rfl rfl 0 (by decide) (hts _ qX4_remove_0) (fun _ h9 => h9) rfl dX4_remove_117 ?_
        refine lv_bipush (v := (10 : Int32)) hx hb dX4_remove_120 (by decide) ?_
        refine lv_iconst (v := (5 : Int32)) hx hb dX4_remove_122 (by decide) ?_
        refine lv_iload hx hb dX4_remove_123 (lv_at hl 4 rfl) ?_
        refine lv_imul hx hb dX4_remove_125 ?_
        refine lv_iadd hx hb dX4_remove_126 ?_
        refine lv_iconst (v := (4 : Int32)) hx hb dX4_remove_127 (by decide) ?_
        refine lv_iadd hx hb dX4_remove_128 ?_
        refine lv_iload hx hb dX4_remove_129 (lv_at hl 0 rfl) ?_
        refine lv_iload_n hx hb dX4_remove_131 rfl (lv_at hl 3 rfl) ?_
        refine lv_iand hx hb dX4_remove_132 ?_
        refine lv_iload hx hb dX4_remove_133 (lv_at hl 0 rfl) ?_
        refine lv_iconst (v := (1 : Int32)) hx hb dX4_remove_135 (by decide) ?_
        refine lv_ishr hx hb dX4_remove_136 ?_
        refine lv_iload_n hx hb dX4_remove_137 rfl (lv_at hl 3 rfl) ?_
        refine lv_iconst (v := (-1 : Int32)) hx hb dX4_remove_138 (by decide) ?_
        refine lv_ixor hx hb dX4_remove_139 ?_
        refine lv_iand hx hb dX4_remove_140 ?_
        refine lv_ior hx hb dX4_remove_141 ?_
        obtain ⟨g142, h⟩ := tw_gs h
        refine tw_iast (ws' := (tw_wM cI ma ((upd M.1 (((10 : Int32) + ((5 : Int32) * v4)) + (4 : Int32)).toNatClampNeg ((r111 &&& v3) ||| ((r111 >>> ((1 : Int32) &&& 31)) &&& (v3 ^^^ (-1 : Int32))))), M.2.1, M.2.2.1, M.2.2.2.1, M.2.2.2.2.1, M.2.2.2.2.2.1, M.2.2.2.2.2.2.1, M.2.2.2.2.2.2.2.1, M.2.2.2.2.2.2.2.2.1, M.2.2.2.2.2.2.2.2.2.1, M.2.2.2.2.2.2.2.2.2.2.1, M.2.2.2.2.2.2.2.2.2.2.2.1, M.2.2.2.2.2.2.2.2.2.2.2.2))) (f := M.1) (n := 70) hx hb hK hP hD hS 1 0 rfl rfl g142 dX4_remove_142 rfl (fun H locs hP hD hS => ?_)
        refine lv_iinc (v := (v4 + 1)) (lv' := [(4, .int (v4 + 1)), (5, .int r111), (0, .ref (ma 0)), (2, .int v2), (3, .int v3)]) hx hb dX4_remove_143 hl (k := 4) rfl rfl (by decide) rfl (fun ls hl => ?_)
        refine lv_goto (tgt := 93) hx hb dX4_remove_146 (by decide) ?_
        exact ih93 v2 v3 (v4 + 1) ((upd M.1 (((10 : Int32) + ((5 : Int32) * v4)) + (4 : Int32)).toNatClampNeg ((r111 &&& v3) ||| ((r111 >>> ((1 : Int32) &&& 31)) &&& (v3 ^^^ (-1 : Int32))))), M.2.1, M.2.2.1, M.2.2.2.1, M.2.2.2.2.1, M.2.2.2.2.2.1, M.2.2.2.2.2.2.1, M.2.2.2.2.2.2.2.1, M.2.2.2.2.2.2.2.2.1, M.2.2.2.2.2.2.2.2.2.1, M.2.2.2.2.2.2.2.2.2.2.1, M.2.2.2.2.2.2.2.2.2.2.2.1, M.2.2.2.2.2.2.2.2.2.2.2.2) H locs ls h (lv_sub hl [2, 3, 4, 0] rfl) hP hD hS
  have L49 : ∀ (n49 : Nat) (v2 : Int32) (v3 : Int32) (M : tw_Md) (H : Heap) (locs : List Loc) (ls : Array Slot), fX4_remove_49 p1 n49 v2 v3 M = some rv → lv_has ls 6 [(0, .ref (ma 0)), (1, .int p1), (2, .int v2), (3, .int v3)] → va_P G vwCl (tw_wM cI ma M) H → va_D A (tw_wM cI ma M) → va_S A s.heap H locs → W p l e rmX4_remove s m args below meth c H locs 0 0 Q (F0 m 49 ls []) := by
    intro n49
    induction n49 with
    | zero =>
      intro v2 v3 M H locs ls h
      rw [fX4_remove_49] at h
      cases h
    | succ n49 ih49 =>
      intro v2 v3 M H locs ls h hl hP hD hS
      rw [fX4_remove_49] at h
      refine lv_iload_n hx hb dX4_remove_49 rfl (lv_at hl 3 rfl) ?_
      refine lv_bipush (v := (10 : Int32)) hx hb dX4_remove_50 (by decide) ?_
      refine lv_iconst (v := (5 : Int32)) hx hb dX4_remove_52 (by decide) ?_
      refine lv_aload_n hx hb dX4_remove_53 rfl (lv_at hl 0 rfl) ?_
      refine va_get (D := G) (ci := 4) (v := .ref (ma 1)) (C := RX4) (T := TX4) (N := 13) hx hb hts iX4_remove_X4 hown hK hP 0 rfl rfl 0 (by decide) (hts _ qX4_remove_0) (fun _ h9 => h9) rfl dX4_remove_54 ?_
      refine lv_iconst (v := (0 : Int32)) hx hb dX4_remove_57 (by decide) ?_
      refine va_iald (f := M.1) (n := 70) hx hb hK hP 1 0 rfl rfl (tw_vin (by decide)) dX4_remove_58 ?_
      refine lv_imul hx hb dX4_remove_59 ?_
      refine lv_iadd hx hb dX4_remove_60 ?_
      refine lv_icmp_ge (tgt := 84) hx hb dX4_remove_61 (by decide) (fun c61 => ?_) (fun c61 => ?_)
      · replace h := tw_t c61 h
        refine lv_iconst (v := (1 : Int32)) hx hb dX4_remove_84 (by decide) ?_
        refine lv_iload_n hx hb dX4_remove_85 rfl (lv_at hl 1 rfl) ?_
        refine lv_ishl hx hb dX4_remove_86 ?_
        refine lv_iconst (v := (1 : Int32)) hx hb dX4_remove_87 (by decide) ?_
        refine lv_isub hx hb dX4_remove_88 ?_
        refine lv_istore_n (lv' := [(3, .int (((1 : Int32) <<< (p1 &&& 31)) - (1 : Int32))), (0, .ref (ma 0)), (1, .int p1), (2, .int v2)]) hx hb dX4_remove_89 rfl hl (by decide) rfl (fun ls hl => ?_)
        refine lv_iconst (v := (0 : Int32)) hx hb dX4_remove_90 (by decide) ?_
        refine lv_istore (lv' := [(4, .int (0 : Int32)), (3, .int (((1 : Int32) <<< (p1 &&& 31)) - (1 : Int32))), (0, .ref (ma 0)), (1, .int p1), (2, .int v2)]) hx hb dX4_remove_91 hl (by decide) rfl (fun ls hl => ?_)
        exact L93 512 v2 (((1 : Int32) <<< (p1 &&& 31)) - (1 : Int32)) (0 : Int32) M H locs ls h (lv_sub hl [2, 4, 1, 0] rfl) hP hD hS
      · replace h := tw_f c61 h
        refine lv_aload_n hx hb dX4_remove_64 rfl (lv_at hl 0 rfl) ?_
        refine va_get (D := G) (ci := 4) (v := .ref (ma 1)) (C := RX4) (T := TX4) (N := 13) hx hb hts iX4_remove_X4 hown hK hP 0 rfl rfl 0 (by decide) (hts _ qX4_remove_0) (fun _ h9 => h9) rfl dX4_remove_65 ?_
        refine lv_iload_n hx hb dX4_remove_68 rfl (lv_at hl 3 rfl) ?_
        refine lv_aload_n hx hb dX4_remove_69 rfl (lv_at hl 0 rfl) ?_
        refine va_get (D := G) (ci := 4) (v := .ref (ma 1)) (C := RX4) (T := TX4) (N := 13) hx hb hts iX4_remove_X4 hown hK hP 0 rfl rfl 0 (by decide) (hts _ qX4_remove_0) (fun _ h9 => h9) rfl dX4_remove_70 ?_
        refine lv_iload_n hx hb dX4_remove_73 rfl (lv_at hl 3 rfl) ?_
        refine lv_iconst (v := (5 : Int32)) hx hb dX4_remove_74 (by decide) ?_
        refine lv_iadd hx hb dX4_remove_75 ?_
        obtain ⟨g76, h⟩ := tw_gs h
        refine va_iald (f := M.1) (n := 70) hx hb hK hP 1 0 rfl rfl g76 dX4_remove_76 ?_
        obtain ⟨g77, h⟩ := tw_gs h
        refine tw_iast (ws' := (tw_wM cI ma ((upd M.1 v3.toNatClampNeg (M.1 (v3 + (5 : Int32)).toNatClampNeg)), M.2.1, M.2.2.1, M.2.2.2.1, M.2.2.2.2.1, M.2.2.2.2.2.1, M.2.2.2.2.2.2.1, M.2.2.2.2.2.2.2.1, M.2.2.2.2.2.2.2.2.1, M.2.2.2.2.2.2.2.2.2.1, M.2.2.2.2.2.2.2.2.2.2.1, M.2.2.2.2.2.2.2.2.2.2.2.1, M.2.2.2.2.2.2.2.2.2.2.2.2))) (f := M.1) (n := 70) hx hb hK hP hD hS 1 0 rfl rfl g77 dX4_remove_77 rfl (fun H locs hP hD hS => ?_)
        refine lv_iinc (v := (v3 + 1)) (lv' := [(3, .int (v3 + 1)), (0, .ref (ma 0)), (1, .int p1), (2, .int v2)]) hx hb dX4_remove_78 hl (k := 3) rfl rfl (by decide) rfl (fun ls hl => ?_)
        refine lv_goto (tgt := 49) hx hb dX4_remove_81 (by decide) ?_
        exact ih49 v2 (v3 + 1) ((upd M.1 v3.toNatClampNeg (M.1 (v3 + (5 : Int32)).toNatClampNeg)), M.2.1, M.2.2.1, M.2.2.2.1, M.2.2.2.2.1, M.2.2.2.2.2.1, M.2.2.2.2.2.2.1, M.2.2.2.2.2.2.2.1, M.2.2.2.2.2.2.2.2.1, M.2.2.2.2.2.2.2.2.2.1, M.2.2.2.2.2.2.2.2.2.2.1, M.2.2.2.2.2.2.2.2.2.2.2.1, M.2.2.2.2.2.2.2.2.2.2.2.2) H locs ls h (lv_sub hl [1, 2, 3, 0] rfl) hP hD hS
  refine lv_aload_n hx hb dX4_remove_0 rfl (lv_at hl 0 rfl) ?_
  refine lv_iconst (v := (0 : Int32)) hx hb dX4_remove_1 (by decide) ?_
  refine tw_put (ws' := (tw_wM cI ma (M.1, M.2.1, M.2.2.1, M.2.2.2.1, M.2.2.2.2.1, M.2.2.2.2.2.1, (0 : Int32), M.2.2.2.2.2.2.2.1, M.2.2.2.2.2.2.2.2.1, M.2.2.2.2.2.2.2.2.2.1, M.2.2.2.2.2.2.2.2.2.2.1, M.2.2.2.2.2.2.2.2.2.2.2.1, M.2.2.2.2.2.2.2.2.2.2.2.2))) (D := G) (ci := 4) (v := .int (0 : Int32)) (ty := .int) (C := RX4) (T := TX4) (N := 13) hx hb hts iX4_remove_X4 tyX4 tyX4_ok nmX4 hown hK hP hD hS 0 rfl rfl 6 (by decide) (hts _ qX4_remove_1) (fun _ h9 => h9) rfl (by decide +kernel) rfl rfl (Nat.le_of_ble_eq_true rfl) dX4_remove_2 rfl (fun H locs hP hD hS => ?_)
  refine lv_aload_n hx hb dX4_remove_5 rfl (lv_at hl 0 rfl) ?_
  refine lv_iload_n hx hb dX4_remove_6 rfl (lv_at hl 1 rfl) ?_
  obtain ⟨r7, e7, h⟩ := tw_bs h
  refine tw_callViF (ws' := (tw_wM cI ma (M.1, M.2.1, M.2.2.1, M.2.2.2.1, M.2.2.2.2.1, M.2.2.2.2.2.1, (0 : Int32), M.2.2.2.2.2.2.2.1, M.2.2.2.2.2.2.2.2.1, M.2.2.2.2.2.2.2.2.2.1, M.2.2.2.2.2.2.2.2.2.2.1, M.2.2.2.2.2.2.2.2.2.2.2.1, M.2.2.2.2.2.2.2.2.2.2.2.2))) (As := [.int p1]) (rest := []) F hN hK hP hD hS hA (mX4_isTask l G cI ma (M.1, M.2.1, M.2.2.1, M.2.2.2.1, M.2.2.2.2.1, M.2.2.2.2.2.1, (0 : Int32), M.2.2.2.2.2.2.2.1, M.2.2.2.2.2.2.2.2.1, M.2.2.2.2.2.2.2.2.2.1, M.2.2.2.2.2.2.2.2.2.2.1, M.2.2.2.2.2.2.2.2.2.2.2.1, M.2.2.2.2.2.2.2.2.2.2.2.2) H.size p1 e7) (cwV 1 hts gX4_remove_X4_isTask rfl rfl rfl (by decide +kernel) ⟨(Nat.le_of_ble_eq_true rfl), (Nat.le_of_ble_eq_true rfl)⟩) rfl (r0 := 0) (ci := 4) rfl rfl rfl rfl hl.1 rfl (Nat.le_of_ble_eq_true rfl) dX4_remove_7 ⟨Nat.zero_le _, Nat.zero_le _⟩ (fun H locs hP hD hS => ?_)
  refine lv_if_ne (tgt := 19) hx hb dX4_remove_10 (by decide) (fun c10 => ?_) (fun c10 => ?_)
  · replace h := tw_t c10 h
    refine lv_aload_n hx hb dX4_remove_19 rfl (lv_at hl 0 rfl) ?_
    obtain ⟨r20, e20, h⟩ := tw_bs h
    refine tw_callVvF (ws' := (tw_wM cI ma r20)) (As := []) (rest := []) F hN hK hP hD hS hA (mX4_saves l G cI ma (M.1, M.2.1, M.2.2.1, M.2.2.2.1, M.2.2.2.2.1, M.2.2.2.2.2.1, (0 : Int32), M.2.2.2.2.2.2.2.1, M.2.2.2.2.2.2.2.2.1, M.2.2.2.2.2.2.2.2.2.1, M.2.2.2.2.2.2.2.2.2.2.1, M.2.2.2.2.2.2.2.2.2.2.2.1, M.2.2.2.2.2.2.2.2.2.2.2.2) H.size e20) (cwV 0 hts gX4_remove_X4_saves rfl rfl rfl (by decide +kernel) ⟨(Nat.le_of_ble_eq_true rfl), (Nat.le_of_ble_eq_true rfl)⟩) rfl (r0 := 0) (ci := 4) rfl rfl rfl rfl hl.1 rfl (Nat.le_of_ble_eq_true rfl) dX4_remove_20 ⟨Nat.zero_le _, Nat.zero_le _⟩ (fun H locs hP hD hS => ?_)
    refine lv_aload_n hx hb dX4_remove_23 rfl (lv_at hl 0 rfl) ?_
    refine va_get (D := G) (ci := 4) (v := .ref (ma 1)) (C := RX4) (T := TX4) (N := 13) hx hb hts iX4_remove_X4 hown hK hP 0 rfl rfl 0 (by decide) (hts _ qX4_remove_0) (fun _ h9 => h9) rfl dX4_remove_24 ?_
    refine lv_iload_n hx hb dX4_remove_27 rfl (lv_at hl 1 rfl) ?_
    obtain ⟨r28, e28, h⟩ := tw_bs h
    refine tw_callSi (ws' := (tw_wM cI ma r20)) (As := [.ref (ma 1), .int p1]) (rest := []) F hN hK hP hD hS hA (mX4_followers l G cI (ma 1) r20.1 H.size p1 e28) (va_cwS 2 hts gX4_remove_X4_followers rfl rfl rfl (by decide +kernel) ⟨(Nat.le_of_ble_eq_true rfl), (Nat.le_of_ble_eq_true rfl)⟩) [0] rfl [1] (by decide) rfl rfl rfl rfl hl.1 rfl (Nat.le_of_ble_eq_true rfl) dX4_remove_28 ⟨Nat.zero_le _, Nat.zero_le _⟩ (fun H locs hP hD hS => ?_)
    refine lv_istore_n (lv' := [(2, .int r28), (0, .ref (ma 0)), (1, .int p1)]) hx hb dX4_remove_31 rfl hl (by decide) rfl (fun ls hl => ?_)
    refine lv_aload_n hx hb dX4_remove_32 rfl (lv_at hl 1 rfl) ?_
    refine va_get (D := G) (ci := 4) (v := .ref (ma 1)) (C := RX4) (T := TX4) (N := 13) hx hb hts iX4_remove_X4 hown hK hP 0 rfl rfl 0 (by decide) (hts _ qX4_remove_0) (fun _ h9 => h9) rfl dX4_remove_33 ?_
    refine lv_iconst (v := (0 : Int32)) hx hb dX4_remove_36 (by decide) ?_
    refine lv_dup2_11 hx hb dX4_remove_37 rfl rfl ?_
    refine va_iald (f := r20.1) (n := 70) hx hb hK hP 1 0 rfl rfl (tw_vin (by decide)) dX4_remove_38 ?_
    refine lv_iconst (v := (1 : Int32)) hx hb dX4_remove_39 (by decide) ?_
    refine lv_isub hx hb dX4_remove_40 ?_
    refine tw_iast (ws' := (tw_wM cI ma ((upd r20.1 (0 : Int32).toNatClampNeg ((r20.1 (0 : Int32).toNatClampNeg) - (1 : Int32))), r20.2.1, r20.2.2.1, r20.2.2.2.1, r20.2.2.2.2.1, r20.2.2.2.2.2.1, r20.2.2.2.2.2.2.1, r20.2.2.2.2.2.2.2.1, r20.2.2.2.2.2.2.2.2.1, r20.2.2.2.2.2.2.2.2.2.1, r20.2.2.2.2.2.2.2.2.2.2.1, r20.2.2.2.2.2.2.2.2.2.2.2.1, r20.2.2.2.2.2.2.2.2.2.2.2.2))) (f := r20.1) (n := 70) hx hb hK hP hD hS 1 0 rfl rfl (tw_vin (by decide)) dX4_remove_41 rfl (fun H locs hP hD hS => ?_)
    refine lv_bipush (v := (10 : Int32)) hx hb dX4_remove_42 (by decide) ?_
    refine lv_iconst (v := (5 : Int32)) hx hb dX4_remove_44 (by decide) ?_
    refine lv_iload_n hx hb dX4_remove_45 rfl (lv_at hl 2 rfl) ?_
    refine lv_imul hx hb dX4_remove_46 ?_
    refine lv_iadd hx hb dX4_remove_47 ?_
    refine lv_istore_n (lv' := [(3, .int ((10 : Int32) + ((5 : Int32) * p1))), (2, .int r28), (0, .ref (ma 0)), (1, .int p1)]) hx hb dX4_remove_48 rfl hl (by decide) rfl (fun ls hl => ?_)
    exact L49 512 r28 ((10 : Int32) + ((5 : Int32) * p1)) ((upd r20.1 (0 : Int32).toNatClampNeg ((r20.1 (0 : Int32).toNatClampNeg) - (1 : Int32))), r20.2.1, r20.2.2.1, r20.2.2.2.1, r20.2.2.2.2.1, r20.2.2.2.2.2.1, r20.2.2.2.2.2.2.1, r20.2.2.2.2.2.2.2.1, r20.2.2.2.2.2.2.2.2.1, r20.2.2.2.2.2.2.2.2.2.1, r20.2.2.2.2.2.2.2.2.2.2.1, r20.2.2.2.2.2.2.2.2.2.2.2.1, r20.2.2.2.2.2.2.2.2.2.2.2.2) H locs ls h (lv_sub hl [2, 3, 1, 0] rfl) hP hD hS
  · replace h := tw_fn c10 h
    refine lv_aload_n hx hb dX4_remove_13 rfl (lv_at hl 0 rfl) ?_
    refine lv_iconst (v := (1 : Int32)) hx hb dX4_remove_14 (by decide) ?_
    obtain ⟨r15, e15, h⟩ := tw_bs h
    refine tw_callViF (ws' := (tw_wM cI ma r15.2)) (As := [.int (1 : Int32)]) (rest := []) F hN hK hP hD hS hA (mX4_fails l G cI ma (M.1, M.2.1, M.2.2.1, M.2.2.2.1, M.2.2.2.2.1, M.2.2.2.2.2.1, (0 : Int32), M.2.2.2.2.2.2.2.1, M.2.2.2.2.2.2.2.2.1, M.2.2.2.2.2.2.2.2.2.1, M.2.2.2.2.2.2.2.2.2.2.1, M.2.2.2.2.2.2.2.2.2.2.2.1, M.2.2.2.2.2.2.2.2.2.2.2.2) H.size (1 : Int32) e15) (cwV 1 hts gX4_remove_X4_fails rfl rfl rfl (by decide +kernel) ⟨(Nat.le_of_ble_eq_true rfl), (Nat.le_of_ble_eq_true rfl)⟩) rfl (r0 := 0) (ci := 4) rfl rfl rfl rfl hl.1 rfl (Nat.le_of_ble_eq_true rfl) dX4_remove_15 ⟨Nat.zero_le _, Nat.zero_le _⟩ (fun H locs hP hD hS => ?_)
    exact hq H locs _ ls r15.1 (tw_rt (fun r => r.1 = r15.1) h rfl) rfl (tw_rt (fun r => va_P G vwCl (tw_wM cI ma r.2) H) h hP) hS dX4_remove_18
abbrev rmX4_need : Room := { frames := 2, cells := 0, slots := 0, locals := 43 }
set_option maxRecDepth 20000 in
theorem qX4_need_0 : (Cond.fieldLink RX4 31 "TheatreWallModel" "thrown" "I") ∈ wsX4_need := (List.mem_cons_of_mem _ (List.mem_append_left _ (List.mem_of_getElem? (i := 0) rfl)))
set_option maxRecDepth 20000 in
theorem qX4_need_1 : (Cond.fieldLink RX4 7 "TheatreWallModel" "now" "[I") ∈ wsX4_need := (List.mem_cons_of_mem _ (List.mem_append_left _ (List.mem_of_getElem? (i := 1) rfl)))
set_option maxRecDepth 20000 in
theorem iX4_need_X4 : ∀ w ∈ u_ws RX4 TX4 13, w ∈ wsX4_need := fun w h => (List.mem_cons_of_mem _ (List.mem_append_right _ h))
set_option maxHeartbeats 4000000 in
set_option maxRecDepth 100000 in
theorem mX4_need (l : Launch) (G : va_G) (cI : ClassId) (ma : Nat → Nat) (M : tw_Md) (sz : Nat) (p1 : Int32) (p2 : Int32) (p3 : Int32) {rv : Int32 × tw_Md} (h : fX4_need M p1 p2 p3 = some rv) : tw_Mi l yX4_need wsX4_need rmX4_need G [(cI, .int)] (tw_wM cI ma M) [.ref (ma 0), .int p1, .int p2, .int p3] sz rv.1 (tw_wM cI ma rv.2) := by
  refine tw_ofi (ty := .int) (cc := cX4_need) (maxL := 5) (own := RX4) (by decide) rfl rfl (Nat.le_of_ble_eq_true rfl) ?_
  intro p e s m args below meth c Q A ls H locs F hN hK hP hD hS hA hl hq
  obtain ⟨hx, hb, hml, hown, hts⟩ := id F
  have hl : lv_has ls 5 [(0, .ref (ma 0)), (1, .int p1), (2, .int p2), (3, .int p3)] := hl
  unfold fX4_need at h
  refine lv_aload_n hx hb dX4_need_0 rfl (lv_at hl 0 rfl) ?_
  refine lv_iconst (v := (0 : Int32)) hx hb dX4_need_1 (by decide) ?_
  refine tw_put (ws' := (tw_wM cI ma (M.1, M.2.1, M.2.2.1, M.2.2.2.1, M.2.2.2.2.1, M.2.2.2.2.2.1, (0 : Int32), M.2.2.2.2.2.2.2.1, M.2.2.2.2.2.2.2.2.1, M.2.2.2.2.2.2.2.2.2.1, M.2.2.2.2.2.2.2.2.2.2.1, M.2.2.2.2.2.2.2.2.2.2.2.1, M.2.2.2.2.2.2.2.2.2.2.2.2))) (D := G) (ci := 4) (v := .int (0 : Int32)) (ty := .int) (C := RX4) (T := TX4) (N := 13) hx hb hts iX4_need_X4 tyX4 tyX4_ok nmX4 hown hK hP hD hS 0 rfl rfl 6 (by decide) (hts _ qX4_need_0) (fun _ h9 => h9) rfl (by decide +kernel) rfl rfl (Nat.le_of_ble_eq_true rfl) dX4_need_2 rfl (fun H locs hP hD hS => ?_)
  refine lv_aload_n hx hb dX4_need_5 rfl (lv_at hl 0 rfl) ?_
  refine lv_iload_n hx hb dX4_need_6 rfl (lv_at hl 1 rfl) ?_
  obtain ⟨r7, e7, h⟩ := tw_bs h
  refine tw_callViF (ws' := (tw_wM cI ma (M.1, M.2.1, M.2.2.1, M.2.2.2.1, M.2.2.2.2.1, M.2.2.2.2.2.1, (0 : Int32), M.2.2.2.2.2.2.2.1, M.2.2.2.2.2.2.2.2.1, M.2.2.2.2.2.2.2.2.2.1, M.2.2.2.2.2.2.2.2.2.2.1, M.2.2.2.2.2.2.2.2.2.2.2.1, M.2.2.2.2.2.2.2.2.2.2.2.2))) (As := [.int p1]) (rest := []) F hN hK hP hD hS hA (mX4_isTask l G cI ma (M.1, M.2.1, M.2.2.1, M.2.2.2.1, M.2.2.2.2.1, M.2.2.2.2.2.1, (0 : Int32), M.2.2.2.2.2.2.2.1, M.2.2.2.2.2.2.2.2.1, M.2.2.2.2.2.2.2.2.2.1, M.2.2.2.2.2.2.2.2.2.2.1, M.2.2.2.2.2.2.2.2.2.2.2.1, M.2.2.2.2.2.2.2.2.2.2.2.2) H.size p1 e7) (cwV 1 hts gX4_need_X4_isTask rfl rfl rfl (by decide +kernel) ⟨(Nat.le_of_ble_eq_true rfl), (Nat.le_of_ble_eq_true rfl)⟩) rfl (r0 := 0) (ci := 4) rfl rfl rfl rfl hl.1 rfl (Nat.le_of_ble_eq_true rfl) dX4_need_7 ⟨Nat.zero_le _, Nat.zero_le _⟩ (fun H locs hP hD hS => ?_)
  refine lv_if_eq (tgt := 21) hx hb dX4_need_10 (by decide) (fun c10 => ?_) (fun c10 => ?_)
  · replace h := tw_t c10 h
    refine lv_aload_n hx hb dX4_need_21 rfl (lv_at hl 0 rfl) ?_
    refine lv_iconst (v := (1 : Int32)) hx hb dX4_need_22 (by decide) ?_
    obtain ⟨r23, e23, h⟩ := tw_bs h
    refine tw_callViF (ws' := (tw_wM cI ma r23.2)) (As := [.int (1 : Int32)]) (rest := []) F hN hK hP hD hS hA (mX4_fails l G cI ma (M.1, M.2.1, M.2.2.1, M.2.2.2.1, M.2.2.2.2.1, M.2.2.2.2.2.1, (0 : Int32), M.2.2.2.2.2.2.2.1, M.2.2.2.2.2.2.2.2.1, M.2.2.2.2.2.2.2.2.2.1, M.2.2.2.2.2.2.2.2.2.2.1, M.2.2.2.2.2.2.2.2.2.2.2.1, M.2.2.2.2.2.2.2.2.2.2.2.2) H.size (1 : Int32) e23) (cwV 1 hts gX4_need_X4_fails rfl rfl rfl (by decide +kernel) ⟨(Nat.le_of_ble_eq_true rfl), (Nat.le_of_ble_eq_true rfl)⟩) rfl (r0 := 0) (ci := 4) rfl rfl rfl rfl hl.1 rfl (Nat.le_of_ble_eq_true rfl) dX4_need_23 ⟨Nat.zero_le _, Nat.zero_le _⟩ (fun H locs hP hD hS => ?_)
    exact hq H locs _ ls r23.1 (tw_rt (fun r => r.1 = r23.1) h rfl) rfl (tw_rt (fun r => va_P G vwCl (tw_wM cI ma r.2) H) h hP) hS dX4_need_26
  · replace h := tw_f c10 h
    refine lv_aload_n hx hb dX4_need_13 rfl (lv_at hl 0 rfl) ?_
    refine lv_iload_n hx hb dX4_need_14 rfl (lv_at hl 2 rfl) ?_
    obtain ⟨r15, e15, h⟩ := tw_bs h
    refine tw_callViF (ws' := (tw_wM cI ma (M.1, M.2.1, M.2.2.1, M.2.2.2.1, M.2.2.2.2.1, M.2.2.2.2.2.1, (0 : Int32), M.2.2.2.2.2.2.2.1, M.2.2.2.2.2.2.2.2.1, M.2.2.2.2.2.2.2.2.2.1, M.2.2.2.2.2.2.2.2.2.2.1, M.2.2.2.2.2.2.2.2.2.2.2.1, M.2.2.2.2.2.2.2.2.2.2.2.2))) (As := [.int p2]) (rest := []) F hN hK hP hD hS hA (mX4_isTask l G cI ma (M.1, M.2.1, M.2.2.1, M.2.2.2.1, M.2.2.2.2.1, M.2.2.2.2.2.1, (0 : Int32), M.2.2.2.2.2.2.2.1, M.2.2.2.2.2.2.2.2.1, M.2.2.2.2.2.2.2.2.2.1, M.2.2.2.2.2.2.2.2.2.2.1, M.2.2.2.2.2.2.2.2.2.2.2.1, M.2.2.2.2.2.2.2.2.2.2.2.2) H.size p2 e15) (cwV 1 hts gX4_need_X4_isTask rfl rfl rfl (by decide +kernel) ⟨(Nat.le_of_ble_eq_true rfl), (Nat.le_of_ble_eq_true rfl)⟩) rfl (r0 := 0) (ci := 4) rfl rfl rfl rfl hl.1 rfl (Nat.le_of_ble_eq_true rfl) dX4_need_15 ⟨Nat.zero_le _, Nat.zero_le _⟩ (fun H locs hP hD hS => ?_)
    refine lv_if_ne (tgt := 27) hx hb dX4_need_18 (by decide) (fun c18 => ?_) (fun c18 => ?_)
    · replace h := tw_t c18 h
      refine lv_iload_n hx hb dX4_need_27 rfl (lv_at hl 2 rfl) ?_
      refine lv_iload_n hx hb dX4_need_28 rfl (lv_at hl 1 rfl) ?_
      refine lv_icmp_lt (tgt := 38) hx hb dX4_need_29 (by decide) (fun c29 => ?_) (fun c29 => ?_)
      · replace h := tw_t c29 h
        refine lv_aload_n hx hb dX4_need_38 rfl (lv_at hl 0 rfl) ?_
        obtain ⟨r39, e39, h⟩ := tw_bs h
        refine tw_callVvF (ws' := (tw_wM cI ma r39)) (As := []) (rest := []) F hN hK hP hD hS hA (mX4_saves l G cI ma (M.1, M.2.1, M.2.2.1, M.2.2.2.1, M.2.2.2.2.1, M.2.2.2.2.2.1, (0 : Int32), M.2.2.2.2.2.2.2.1, M.2.2.2.2.2.2.2.2.1, M.2.2.2.2.2.2.2.2.2.1, M.2.2.2.2.2.2.2.2.2.2.1, M.2.2.2.2.2.2.2.2.2.2.2.1, M.2.2.2.2.2.2.2.2.2.2.2.2) H.size e39) (cwV 0 hts gX4_need_X4_saves rfl rfl rfl (by decide +kernel) ⟨(Nat.le_of_ble_eq_true rfl), (Nat.le_of_ble_eq_true rfl)⟩) rfl (r0 := 0) (ci := 4) rfl rfl rfl rfl hl.1 rfl (Nat.le_of_ble_eq_true rfl) dX4_need_39 ⟨Nat.zero_le _, Nat.zero_le _⟩ (fun H locs hP hD hS => ?_)
        refine lv_aload_n hx hb dX4_need_42 rfl (lv_at hl 0 rfl) ?_
        refine va_get (D := G) (ci := 4) (v := .ref (ma 1)) (C := RX4) (T := TX4) (N := 13) hx hb hts iX4_need_X4 hown hK hP 0 rfl rfl 0 (by decide) (hts _ qX4_need_1) (fun _ h9 => h9) rfl dX4_need_43 ?_
        refine lv_iload_n hx hb dX4_need_46 rfl (lv_at hl 1 rfl) ?_
        refine lv_iconst (v := (4 : Int32)) hx hb dX4_need_47 (by decide) ?_
        obtain ⟨r48, e48, h⟩ := tw_bs h
        refine tw_callSi (ws' := (tw_wM cI ma r39)) (As := [.ref (ma 1), .int p1, .int (4 : Int32)]) (rest := []) F hN hK hP hD hS hA (mX4_of l G cI (ma 1) r39.1 H.size p1 (4 : Int32) e48) (va_cwS 3 hts gX4_need_X4_of rfl rfl rfl (by decide +kernel) ⟨(Nat.le_of_ble_eq_true rfl), (Nat.le_of_ble_eq_true rfl)⟩) [0] rfl [1] (by decide) rfl rfl rfl rfl hl.1 rfl (Nat.le_of_ble_eq_true rfl) dX4_need_48 ⟨Nat.zero_le _, Nat.zero_le _⟩ (fun H locs hP hD hS => ?_)
        refine lv_istore (lv' := [(4, .int r48), (0, .ref (ma 0)), (1, .int p1), (2, .int p2), (3, .int p3)]) hx hb dX4_need_51 hl (by decide) rfl (fun ls hl => ?_)
        refine lv_aload_n hx hb dX4_need_53 rfl (lv_at hl 1 rfl) ?_
        refine va_get (D := G) (ci := 4) (v := .ref (ma 1)) (C := RX4) (T := TX4) (N := 13) hx hb hts iX4_need_X4 hown hK hP 0 rfl rfl 0 (by decide) (hts _ qX4_need_1) (fun _ h9 => h9) rfl dX4_need_54 ?_
        refine lv_bipush (v := (10 : Int32)) hx hb dX4_need_57 (by decide) ?_
        refine lv_iconst (v := (5 : Int32)) hx hb dX4_need_59 (by decide) ?_
        refine lv_iload_n hx hb dX4_need_60 rfl (lv_at hl 2 rfl) ?_
        refine lv_imul hx hb dX4_need_61 ?_
        refine lv_iadd hx hb dX4_need_62 ?_
        refine lv_iconst (v := (4 : Int32)) hx hb dX4_need_63 (by decide) ?_
        refine lv_iadd hx hb dX4_need_64 ?_
        refine lv_iload_n hx hb dX4_need_65 rfl (lv_at hl 4 rfl) ?_
        refine lv_if_eq (tgt := 78) hx hb dX4_need_66 (by decide) (fun c66 => ?_) (fun c66 => ?_)
        · replace h := tw_t c66 h
          refine lv_iload hx hb dX4_need_78 (lv_at hl 0 rfl) ?_
          refine lv_iconst (v := (1 : Int32)) hx hb dX4_need_80 (by decide) ?_
          refine lv_iload_n hx hb dX4_need_81 rfl (lv_at hl 3 rfl) ?_
          refine lv_ishl hx hb dX4_need_82 ?_
          refine lv_iconst (v := (-1 : Int32)) hx hb dX4_need_83 (by decide) ?_
          refine lv_ixor hx hb dX4_need_84 ?_
          refine lv_iand hx hb dX4_need_85 ?_
          obtain ⟨g86, h⟩ := tw_gs h
          refine tw_iast (ws' := (tw_wM cI ma ((upd r39.1 (((10 : Int32) + ((5 : Int32) * p1)) + (4 : Int32)).toNatClampNeg (r48 &&& (((1 : Int32) <<< (p2 &&& 31)) ^^^ (-1 : Int32)))), r39.2.1, r39.2.2.1, r39.2.2.2.1, r39.2.2.2.2.1, r39.2.2.2.2.2.1, r39.2.2.2.2.2.2.1, r39.2.2.2.2.2.2.2.1, r39.2.2.2.2.2.2.2.2.1, r39.2.2.2.2.2.2.2.2.2.1, r39.2.2.2.2.2.2.2.2.2.2.1, r39.2.2.2.2.2.2.2.2.2.2.2.1, r39.2.2.2.2.2.2.2.2.2.2.2.2))) (f := r39.1) (n := 70) hx hb hK hP hD hS 1 0 rfl rfl g86 dX4_need_86 rfl (fun H locs hP hD hS => ?_)
          refine lv_iload hx hb dX4_need_87 (lv_at hl 0 rfl) ?_
          refine lv_iload_n hx hb dX4_need_89 rfl (lv_at hl 3 rfl) ?_
          refine lv_ishr hx hb dX4_need_90 ?_
          refine lv_iconst (v := (1 : Int32)) hx hb dX4_need_91 (by decide) ?_
          refine lv_iand hx hb dX4_need_92 ?_
          exact hq H locs _ ls ((r48 >>> (p2 &&& 31)) &&& (1 : Int32)) (tw_rt (fun r => r.1 = ((r48 >>> (p2 &&& 31)) &&& (1 : Int32))) h rfl) rfl (tw_rt (fun r => va_P G vwCl (tw_wM cI ma r.2) H) h hP) hS dX4_need_93
        · replace h := tw_f c66 h
          refine lv_iload hx hb dX4_need_69 (lv_at hl 0 rfl) ?_
          refine lv_iconst (v := (1 : Int32)) hx hb dX4_need_71 (by decide) ?_
          refine lv_iload_n hx hb dX4_need_72 rfl (lv_at hl 3 rfl) ?_
          refine lv_ishl hx hb dX4_need_73 ?_
          refine lv_ior hx hb dX4_need_74 ?_
          refine lv_goto (tgt := 86) hx hb dX4_need_75 (by decide) ?_
          obtain ⟨g86, h⟩ := tw_gs h
          refine tw_iast (ws' := (tw_wM cI ma ((upd r39.1 (((10 : Int32) + ((5 : Int32) * p1)) + (4 : Int32)).toNatClampNeg (r48 ||| ((1 : Int32) <<< (p2 &&& 31)))), r39.2.1, r39.2.2.1, r39.2.2.2.1, r39.2.2.2.2.1, r39.2.2.2.2.2.1, r39.2.2.2.2.2.2.1, r39.2.2.2.2.2.2.2.1, r39.2.2.2.2.2.2.2.2.1, r39.2.2.2.2.2.2.2.2.2.1, r39.2.2.2.2.2.2.2.2.2.2.1, r39.2.2.2.2.2.2.2.2.2.2.2.1, r39.2.2.2.2.2.2.2.2.2.2.2.2))) (f := r39.1) (n := 70) hx hb hK hP hD hS 1 0 rfl rfl g86 dX4_need_86 rfl (fun H locs hP hD hS => ?_)
          refine lv_iload hx hb dX4_need_87 (lv_at hl 0 rfl) ?_
          refine lv_iload_n hx hb dX4_need_89 rfl (lv_at hl 3 rfl) ?_
          refine lv_ishr hx hb dX4_need_90 ?_
          refine lv_iconst (v := (1 : Int32)) hx hb dX4_need_91 (by decide) ?_
          refine lv_iand hx hb dX4_need_92 ?_
          exact hq H locs _ ls ((r48 >>> (p2 &&& 31)) &&& (1 : Int32)) (tw_rt (fun r => r.1 = ((r48 >>> (p2 &&& 31)) &&& (1 : Int32))) h rfl) rfl (tw_rt (fun r => va_P G vwCl (tw_wM cI ma r.2) H) h hP) hS dX4_need_93
      · replace h := tw_f c29 h
        refine lv_aload_n hx hb dX4_need_32 rfl (lv_at hl 0 rfl) ?_
        refine lv_iconst (v := (2 : Int32)) hx hb dX4_need_33 (by decide) ?_
        obtain ⟨r34, e34, h⟩ := tw_bs h
        refine tw_callViF (ws' := (tw_wM cI ma r34.2)) (As := [.int (2 : Int32)]) (rest := []) F hN hK hP hD hS hA (mX4_fails l G cI ma (M.1, M.2.1, M.2.2.1, M.2.2.2.1, M.2.2.2.2.1, M.2.2.2.2.2.1, (0 : Int32), M.2.2.2.2.2.2.2.1, M.2.2.2.2.2.2.2.2.1, M.2.2.2.2.2.2.2.2.2.1, M.2.2.2.2.2.2.2.2.2.2.1, M.2.2.2.2.2.2.2.2.2.2.2.1, M.2.2.2.2.2.2.2.2.2.2.2.2) H.size (2 : Int32) e34) (cwV 1 hts gX4_need_X4_fails rfl rfl rfl (by decide +kernel) ⟨(Nat.le_of_ble_eq_true rfl), (Nat.le_of_ble_eq_true rfl)⟩) rfl (r0 := 0) (ci := 4) rfl rfl rfl rfl hl.1 rfl (Nat.le_of_ble_eq_true rfl) dX4_need_34 ⟨Nat.zero_le _, Nat.zero_le _⟩ (fun H locs hP hD hS => ?_)
        exact hq H locs _ ls r34.1 (tw_rt (fun r => r.1 = r34.1) h rfl) rfl (tw_rt (fun r => va_P G vwCl (tw_wM cI ma r.2) H) h hP) hS dX4_need_37
    · replace h := tw_fn c18 h
      refine lv_aload_n hx hb dX4_need_21 rfl (lv_at hl 0 rfl) ?_
      refine lv_iconst (v := (1 : Int32)) hx hb dX4_need_22 (by decide) ?_
      obtain ⟨r23, e23, h⟩ := tw_bs h
      refine tw_callViF (ws' := (tw_wM cI ma r23.2)) (As := [.int (1 : Int32)]) (rest := []) F hN hK hP hD hS hA (mX4_fails l G cI ma (M.1, M.2.1, M.2.2.1, M.2.2.2.1, M.2.2.2.2.1, M.2.2.2.2.2.1, (0 : Int32), M.2.2.2.2.2.2.2.1, M.2.2.2.2.2.2.2.2.1, M.2.2.2.2.2.2.2.2.2.1, M.2.2.2.2.2.2.2.2.2.2.1, M.2.2.2.2.2.2.2.2.2.2.2.1, M.2.2.2.2.2.2.2.2.2.2.2.2) H.size (1 : Int32) e23) (cwV 1 hts gX4_need_X4_fails rfl rfl rfl (by decide +kernel) ⟨(Nat.le_of_ble_eq_true rfl), (Nat.le_of_ble_eq_true rfl)⟩) rfl (r0 := 0) (ci := 4) rfl rfl rfl rfl hl.1 rfl (Nat.le_of_ble_eq_true rfl) dX4_need_23 ⟨Nat.zero_le _, Nat.zero_le _⟩ (fun H locs hP hD hS => ?_)
      exact hq H locs _ ls r23.1 (tw_rt (fun r => r.1 = r23.1) h rfl) rfl (tw_rt (fun r => va_P G vwCl (tw_wM cI ma r.2) H) h hP) hS dX4_need_26
abbrev rmX4_change : Room := { frames := 2, cells := 0, slots := 0, locals := 43 }
set_option maxRecDepth 20000 in
theorem qX4_change_0 : (Cond.fieldLink RX4 31 "TheatreWallModel" "thrown" "I") ∈ wsX4_change := (List.mem_cons_of_mem _ (List.mem_append_left _ (List.mem_append_left _ (List.mem_of_getElem? (i := 0) rfl))))
set_option maxRecDepth 20000 in
theorem qX4_change_1 : (Cond.fieldLink RX4 7 "TheatreWallModel" "now" "[I") ∈ wsX4_change := (List.mem_cons_of_mem _ (List.mem_append_left _ (List.mem_append_left _ (List.mem_of_getElem? (i := 1) rfl))))
set_option maxRecDepth 20000 in
theorem iX4_change_X4 : ∀ w ∈ u_ws RX4 TX4 13, w ∈ wsX4_change := fun w h => (List.mem_cons_of_mem _ (List.mem_append_right _ h))
set_option maxHeartbeats 4000000 in
set_option maxRecDepth 100000 in
theorem mX4_change (l : Launch) (G : va_G) (cI : ClassId) (ma : Nat → Nat) (M : tw_Md) (sz : Nat) (p1 : Int32) (p2 : Int32) (p3 : Int32) {rv : Int32 × tw_Md} (h : fX4_change M p1 p2 p3 = some rv) : tw_Mi l yX4_change wsX4_change rmX4_change G [(cI, .int)] (tw_wM cI ma M) [.ref (ma 0), .int p1, .int p2, .int p3] sz rv.1 (tw_wM cI ma rv.2) := by
  refine tw_ofi (ty := .int) (cc := cX4_change) (maxL := 5) (own := RX4) (by decide) rfl rfl (Nat.le_of_ble_eq_true rfl) ?_
  intro p e s m args below meth c Q A ls H locs F hN hK hP hD hS hA hl hq
  obtain ⟨hx, hb, hml, hown, hts⟩ := id F
  have hl : lv_has ls 5 [(0, .ref (ma 0)), (1, .int p1), (2, .int p2), (3, .int p3)] := hl
  unfold fX4_change at h
  refine lv_aload_n hx hb dX4_change_0 rfl (lv_at hl 0 rfl) ?_
  refine lv_iconst (v := (0 : Int32)) hx hb dX4_change_1 (by decide) ?_
  refine tw_put (ws' := (tw_wM cI ma (M.1, M.2.1, M.2.2.1, M.2.2.2.1, M.2.2.2.2.1, M.2.2.2.2.2.1, (0 : Int32), M.2.2.2.2.2.2.2.1, M.2.2.2.2.2.2.2.2.1, M.2.2.2.2.2.2.2.2.2.1, M.2.2.2.2.2.2.2.2.2.2.1, M.2.2.2.2.2.2.2.2.2.2.2.1, M.2.2.2.2.2.2.2.2.2.2.2.2))) (D := G) (ci := 4) (v := .int (0 : Int32)) (ty := .int) (C := RX4) (T := TX4) (N := 13) hx hb hts iX4_change_X4 tyX4 tyX4_ok nmX4 hown hK hP hD hS 0 rfl rfl 6 (by decide) (hts _ qX4_change_0) (fun _ h9 => h9) rfl (by decide +kernel) rfl rfl (Nat.le_of_ble_eq_true rfl) dX4_change_2 rfl (fun H locs hP hD hS => ?_)
  refine lv_aload_n hx hb dX4_change_5 rfl (lv_at hl 0 rfl) ?_
  refine lv_iload_n hx hb dX4_change_6 rfl (lv_at hl 1 rfl) ?_
  obtain ⟨r7, e7, h⟩ := tw_bs h
  refine tw_callViF (ws' := (tw_wM cI ma (M.1, M.2.1, M.2.2.1, M.2.2.2.1, M.2.2.2.2.1, M.2.2.2.2.2.1, (0 : Int32), M.2.2.2.2.2.2.2.1, M.2.2.2.2.2.2.2.2.1, M.2.2.2.2.2.2.2.2.2.1, M.2.2.2.2.2.2.2.2.2.2.1, M.2.2.2.2.2.2.2.2.2.2.2.1, M.2.2.2.2.2.2.2.2.2.2.2.2))) (As := [.int p1]) (rest := []) F hN hK hP hD hS hA (mX4_isTask l G cI ma (M.1, M.2.1, M.2.2.1, M.2.2.2.1, M.2.2.2.2.1, M.2.2.2.2.2.1, (0 : Int32), M.2.2.2.2.2.2.2.1, M.2.2.2.2.2.2.2.2.1, M.2.2.2.2.2.2.2.2.2.1, M.2.2.2.2.2.2.2.2.2.2.1, M.2.2.2.2.2.2.2.2.2.2.2.1, M.2.2.2.2.2.2.2.2.2.2.2.2) H.size p1 e7) (cwV 1 hts gX4_change_X4_isTask rfl rfl rfl (by decide +kernel) ⟨(Nat.le_of_ble_eq_true rfl), (Nat.le_of_ble_eq_true rfl)⟩) rfl (r0 := 0) (ci := 4) rfl rfl rfl rfl hl.1 rfl (Nat.le_of_ble_eq_true rfl) dX4_change_7 ⟨Nat.zero_le _, Nat.zero_le _⟩ (fun H locs hP hD hS => ?_)
  refine lv_if_ne (tgt := 19) hx hb dX4_change_10 (by decide) (fun c10 => ?_) (fun c10 => ?_)
  · replace h := tw_t c10 h
    refine lv_iload_n hx hb dX4_change_19 rfl (lv_at hl 2 rfl) ?_
    refine lv_iconst (v := (0 : Int32)) hx hb dX4_change_20 (by decide) ?_
    refine lv_iconst (v := (3 : Int32)) hx hb dX4_change_21 (by decide) ?_
    obtain ⟨r22, e22, h⟩ := tw_bs h
    refine tw_callSi (ws' := (tw_wM cI ma (M.1, M.2.1, M.2.2.1, M.2.2.2.1, M.2.2.2.2.1, M.2.2.2.2.2.1, (0 : Int32), M.2.2.2.2.2.2.2.1, M.2.2.2.2.2.2.2.2.1, M.2.2.2.2.2.2.2.2.2.1, M.2.2.2.2.2.2.2.2.2.2.1, M.2.2.2.2.2.2.2.2.2.2.2.1, M.2.2.2.2.2.2.2.2.2.2.2.2))) (As := [.int p2, .int (0 : Int32), .int (3 : Int32)]) (rest := []) F hN hK hP hD hS hA (mX4_in l G cI H.size p2 (0 : Int32) (3 : Int32) e22) (va_cwS 3 hts gX4_change_X4_in rfl rfl rfl (by decide +kernel) ⟨(Nat.le_of_ble_eq_true rfl), (Nat.le_of_ble_eq_true rfl)⟩) [0] rfl [] (by decide) rfl rfl rfl rfl hl.1 rfl (Nat.le_of_ble_eq_true rfl) dX4_change_22 ⟨Nat.zero_le _, Nat.zero_le _⟩ (fun H locs hP hD hS => ?_)
    refine lv_if_eq (tgt := 36) hx hb dX4_change_25 (by decide) (fun c25 => ?_) (fun c25 => ?_)
    · replace h := tw_t c25 h
      refine lv_aload_n hx hb dX4_change_36 rfl (lv_at hl 0 rfl) ?_
      refine lv_iconst (v := (2 : Int32)) hx hb dX4_change_37 (by decide) ?_
      obtain ⟨r38, e38, h⟩ := tw_bs h
      refine tw_callViF (ws' := (tw_wM cI ma r38.2)) (As := [.int (2 : Int32)]) (rest := []) F hN hK hP hD hS hA (mX4_fails l G cI ma (M.1, M.2.1, M.2.2.1, M.2.2.2.1, M.2.2.2.2.1, M.2.2.2.2.2.1, (0 : Int32), M.2.2.2.2.2.2.2.1, M.2.2.2.2.2.2.2.2.1, M.2.2.2.2.2.2.2.2.2.1, M.2.2.2.2.2.2.2.2.2.2.1, M.2.2.2.2.2.2.2.2.2.2.2.1, M.2.2.2.2.2.2.2.2.2.2.2.2) H.size (2 : Int32) e38) (cwV 1 hts gX4_change_X4_fails rfl rfl rfl (by decide +kernel) ⟨(Nat.le_of_ble_eq_true rfl), (Nat.le_of_ble_eq_true rfl)⟩) rfl (r0 := 0) (ci := 4) rfl rfl rfl rfl hl.1 rfl (Nat.le_of_ble_eq_true rfl) dX4_change_38 ⟨Nat.zero_le _, Nat.zero_le _⟩ (fun H locs hP hD hS => ?_)
      exact hq H locs _ ls r38.1 (tw_rt (fun r => r.1 = r38.1) h rfl) rfl (tw_rt (fun r => va_P G vwCl (tw_wM cI ma r.2) H) h hP) hS dX4_change_41
    · replace h := tw_f c25 h
      refine lv_iload_n hx hb dX4_change_28 rfl (lv_at hl 2 rfl) ?_
      refine lv_iload_n hx hb dX4_change_29 rfl (lv_at hl 3 rfl) ?_
      obtain ⟨r30, e30, h⟩ := tw_bs h
      refine tw_callSi (ws' := (tw_wM cI ma (M.1, M.2.1, M.2.2.1, M.2.2.2.1, M.2.2.2.2.1, M.2.2.2.2.2.1, (0 : Int32), M.2.2.2.2.2.2.2.1, M.2.2.2.2.2.2.2.2.1, M.2.2.2.2.2.2.2.2.2.1, M.2.2.2.2.2.2.2.2.2.2.1, M.2.2.2.2.2.2.2.2.2.2.2.1, M.2.2.2.2.2.2.2.2.2.2.2.2))) (As := [.int p2, .int p3]) (rest := []) F hN hK hP hD hS hA (mX4_isFor l G cI H.size p2 p3 e30) (va_cwS 2 hts gX4_change_X4_isFor rfl rfl rfl (by decide +kernel) ⟨(Nat.le_of_ble_eq_true rfl), (Nat.le_of_ble_eq_true rfl)⟩) [0] rfl [] (by decide) rfl rfl rfl rfl hl.1 rfl (Nat.le_of_ble_eq_true rfl) dX4_change_30 ⟨Nat.zero_le _, Nat.zero_le _⟩ (fun H locs hP hD hS => ?_)
      refine lv_if_ne (tgt := 42) hx hb dX4_change_33 (by decide) (fun c33 => ?_) (fun c33 => ?_)
      · replace h := tw_t c33 h
        refine lv_aload_n hx hb dX4_change_42 rfl (lv_at hl 0 rfl) ?_
        obtain ⟨r43, e43, h⟩ := tw_bs h
        refine tw_callVvF (ws' := (tw_wM cI ma r43)) (As := []) (rest := []) F hN hK hP hD hS hA (mX4_saves l G cI ma (M.1, M.2.1, M.2.2.1, M.2.2.2.1, M.2.2.2.2.1, M.2.2.2.2.2.1, (0 : Int32), M.2.2.2.2.2.2.2.1, M.2.2.2.2.2.2.2.2.1, M.2.2.2.2.2.2.2.2.2.1, M.2.2.2.2.2.2.2.2.2.2.1, M.2.2.2.2.2.2.2.2.2.2.2.1, M.2.2.2.2.2.2.2.2.2.2.2.2) H.size e43) (cwV 0 hts gX4_change_X4_saves rfl rfl rfl (by decide +kernel) ⟨(Nat.le_of_ble_eq_true rfl), (Nat.le_of_ble_eq_true rfl)⟩) rfl (r0 := 0) (ci := 4) rfl rfl rfl rfl hl.1 rfl (Nat.le_of_ble_eq_true rfl) dX4_change_43 ⟨Nat.zero_le _, Nat.zero_le _⟩ (fun H locs hP hD hS => ?_)
        refine lv_aload_n hx hb dX4_change_46 rfl (lv_at hl 0 rfl) ?_
        refine va_get (D := G) (ci := 4) (v := .ref (ma 1)) (C := RX4) (T := TX4) (N := 13) hx hb hts iX4_change_X4 hown hK hP 0 rfl rfl 0 (by decide) (hts _ qX4_change_1) (fun _ h9 => h9) rfl dX4_change_47 ?_
        refine lv_iload_n hx hb dX4_change_50 rfl (lv_at hl 1 rfl) ?_
        refine lv_iload_n hx hb dX4_change_51 rfl (lv_at hl 2 rfl) ?_
        obtain ⟨r52, e52, h⟩ := tw_bs h
        refine tw_callSi (ws' := (tw_wM cI ma r43)) (As := [.ref (ma 1), .int p1, .int p2]) (rest := []) F hN hK hP hD hS hA (mX4_of l G cI (ma 1) r43.1 H.size p1 p2 e52) (va_cwS 3 hts gX4_change_X4_of rfl rfl rfl (by decide +kernel) ⟨(Nat.le_of_ble_eq_true rfl), (Nat.le_of_ble_eq_true rfl)⟩) [0] rfl [1] (by decide) rfl rfl rfl rfl hl.1 rfl (Nat.le_of_ble_eq_true rfl) dX4_change_52 ⟨Nat.zero_le _, Nat.zero_le _⟩ (fun H locs hP hD hS => ?_)
        refine lv_istore (lv' := [(4, .int r52), (0, .ref (ma 0)), (1, .int p1), (2, .int p2), (3, .int p3)]) hx hb dX4_change_55 hl (by decide) rfl (fun ls hl => ?_)
        refine lv_aload_n hx hb dX4_change_57 rfl (lv_at hl 1 rfl) ?_
        refine va_get (D := G) (ci := 4) (v := .ref (ma 1)) (C := RX4) (T := TX4) (N := 13) hx hb hts iX4_change_X4 hown hK hP 0 rfl rfl 0 (by decide) (hts _ qX4_change_1) (fun _ h9 => h9) rfl dX4_change_58 ?_
        refine lv_bipush (v := (10 : Int32)) hx hb dX4_change_61 (by decide) ?_
        refine lv_iconst (v := (5 : Int32)) hx hb dX4_change_63 (by decide) ?_
        refine lv_iload_n hx hb dX4_change_64 rfl (lv_at hl 2 rfl) ?_
        refine lv_imul hx hb dX4_change_65 ?_
        refine lv_iadd hx hb dX4_change_66 ?_
        refine lv_iload_n hx hb dX4_change_67 rfl (lv_at hl 3 rfl) ?_
        refine lv_iadd hx hb dX4_change_68 ?_
        refine lv_iload_n hx hb dX4_change_69 rfl (lv_at hl 4 rfl) ?_
        obtain ⟨g70, h⟩ := tw_gs h
        refine tw_iast (ws' := (tw_wM cI ma ((upd r43.1 (((10 : Int32) + ((5 : Int32) * p1)) + p2).toNatClampNeg p3), r43.2.1, r43.2.2.1, r43.2.2.2.1, r43.2.2.2.2.1, r43.2.2.2.2.2.1, r43.2.2.2.2.2.2.1, r43.2.2.2.2.2.2.2.1, r43.2.2.2.2.2.2.2.2.1, r43.2.2.2.2.2.2.2.2.2.1, r43.2.2.2.2.2.2.2.2.2.2.1, r43.2.2.2.2.2.2.2.2.2.2.2.1, r43.2.2.2.2.2.2.2.2.2.2.2.2))) (f := r43.1) (n := 70) hx hb hK hP hD hS 1 0 rfl rfl g70 dX4_change_70 rfl (fun H locs hP hD hS => ?_)
        refine lv_iload hx hb dX4_change_71 (lv_at hl 0 rfl) ?_
        exact hq H locs _ ls r52 (tw_rt (fun r => r.1 = r52) h rfl) rfl (tw_rt (fun r => va_P G vwCl (tw_wM cI ma r.2) H) h hP) hS dX4_change_73
      · replace h := tw_fn c33 h
        refine lv_aload_n hx hb dX4_change_36 rfl (lv_at hl 0 rfl) ?_
        refine lv_iconst (v := (2 : Int32)) hx hb dX4_change_37 (by decide) ?_
        obtain ⟨r38, e38, h⟩ := tw_bs h
        refine tw_callViF (ws' := (tw_wM cI ma r38.2)) (As := [.int (2 : Int32)]) (rest := []) F hN hK hP hD hS hA (mX4_fails l G cI ma (M.1, M.2.1, M.2.2.1, M.2.2.2.1, M.2.2.2.2.1, M.2.2.2.2.2.1, (0 : Int32), M.2.2.2.2.2.2.2.1, M.2.2.2.2.2.2.2.2.1, M.2.2.2.2.2.2.2.2.2.1, M.2.2.2.2.2.2.2.2.2.2.1, M.2.2.2.2.2.2.2.2.2.2.2.1, M.2.2.2.2.2.2.2.2.2.2.2.2) H.size (2 : Int32) e38) (cwV 1 hts gX4_change_X4_fails rfl rfl rfl (by decide +kernel) ⟨(Nat.le_of_ble_eq_true rfl), (Nat.le_of_ble_eq_true rfl)⟩) rfl (r0 := 0) (ci := 4) rfl rfl rfl rfl hl.1 rfl (Nat.le_of_ble_eq_true rfl) dX4_change_38 ⟨Nat.zero_le _, Nat.zero_le _⟩ (fun H locs hP hD hS => ?_)
        exact hq H locs _ ls r38.1 (tw_rt (fun r => r.1 = r38.1) h rfl) rfl (tw_rt (fun r => va_P G vwCl (tw_wM cI ma r.2) H) h hP) hS dX4_change_41
  · replace h := tw_fn c10 h
    refine lv_aload_n hx hb dX4_change_13 rfl (lv_at hl 0 rfl) ?_
    refine lv_iconst (v := (1 : Int32)) hx hb dX4_change_14 (by decide) ?_
    obtain ⟨r15, e15, h⟩ := tw_bs h
    refine tw_callViF (ws' := (tw_wM cI ma r15.2)) (As := [.int (1 : Int32)]) (rest := []) F hN hK hP hD hS hA (mX4_fails l G cI ma (M.1, M.2.1, M.2.2.1, M.2.2.2.1, M.2.2.2.2.1, M.2.2.2.2.2.1, (0 : Int32), M.2.2.2.2.2.2.2.1, M.2.2.2.2.2.2.2.2.1, M.2.2.2.2.2.2.2.2.2.1, M.2.2.2.2.2.2.2.2.2.2.1, M.2.2.2.2.2.2.2.2.2.2.2.1, M.2.2.2.2.2.2.2.2.2.2.2.2) H.size (1 : Int32) e15) (cwV 1 hts gX4_change_X4_fails rfl rfl rfl (by decide +kernel) ⟨(Nat.le_of_ble_eq_true rfl), (Nat.le_of_ble_eq_true rfl)⟩) rfl (r0 := 0) (ci := 4) rfl rfl rfl rfl hl.1 rfl (Nat.le_of_ble_eq_true rfl) dX4_change_15 ⟨Nat.zero_le _, Nat.zero_le _⟩ (fun H locs hP hD hS => ?_)
    exact hq H locs _ ls r15.1 (tw_rt (fun r => r.1 = r15.1) h rfl) rfl (tw_rt (fun r => va_P G vwCl (tw_wM cI ma r.2) H) h hP) hS dX4_change_18
abbrev rmX4_slip : Room := { frames := 5, cells := 0, slots := 0, locals := 119 }
set_option maxRecDepth 20000 in
theorem qX4_slip_0 : (Cond.fieldLink RX4 31 "TheatreWallModel" "thrown" "I") ∈ wsX4_slip := (List.mem_cons_of_mem _ (List.mem_append_left _ (List.mem_append_left _ (List.mem_of_getElem? (i := 0) rfl))))
set_option maxRecDepth 20000 in
theorem qX4_slip_1 : (Cond.fieldLink RX4 25 "TheatreWallModel" "plan" "[I") ∈ wsX4_slip := (List.mem_cons_of_mem _ (List.mem_append_left _ (List.mem_append_left _ (List.mem_of_getElem? (i := 1) rfl))))
set_option maxRecDepth 20000 in
theorem qX4_slip_2 : (Cond.fieldLink RX4 7 "TheatreWallModel" "now" "[I") ∈ wsX4_slip := (List.mem_cons_of_mem _ (List.mem_append_left _ (List.mem_append_left _ (List.mem_of_getElem? (i := 2) rfl))))
set_option maxRecDepth 20000 in
theorem iX4_slip_X4 : ∀ w ∈ u_ws RX4 TX4 13, w ∈ wsX4_slip := fun w h => (List.mem_cons_of_mem _ (List.mem_append_right _ h))
set_option maxHeartbeats 4000000 in
set_option maxRecDepth 100000 in
theorem mX4_slip (l : Launch) (G : va_G) (cI : ClassId) (ma : Nat → Nat) (M : tw_Md) (sz : Nat) (p1 : Int32) (p2 : Int32) {rv : Int32 × tw_Md} (h : fX4_slip M p1 p2 = some rv) : tw_Mi l yX4_slip wsX4_slip rmX4_slip G [(cI, .int)] (tw_wM cI ma M) [.ref (ma 0), .int p1, .int p2] sz rv.1 (tw_wM cI ma rv.2) := by
  refine tw_ofi (ty := .int) (cc := cX4_slip) (maxL := 4) (own := RX4) (by decide) rfl rfl (Nat.le_of_ble_eq_true rfl) ?_
  intro p e s m args below meth c Q A ls H locs F hN hK hP hD hS hA hl hq
  obtain ⟨hx, hb, hml, hown, hts⟩ := id F
  have hl : lv_has ls 4 [(0, .ref (ma 0)), (1, .int p1), (2, .int p2)] := hl
  unfold fX4_slip at h
  refine lv_aload_n hx hb dX4_slip_0 rfl (lv_at hl 0 rfl) ?_
  refine lv_iconst (v := (0 : Int32)) hx hb dX4_slip_1 (by decide) ?_
  refine tw_put (ws' := (tw_wM cI ma (M.1, M.2.1, M.2.2.1, M.2.2.2.1, M.2.2.2.2.1, M.2.2.2.2.2.1, (0 : Int32), M.2.2.2.2.2.2.2.1, M.2.2.2.2.2.2.2.2.1, M.2.2.2.2.2.2.2.2.2.1, M.2.2.2.2.2.2.2.2.2.2.1, M.2.2.2.2.2.2.2.2.2.2.2.1, M.2.2.2.2.2.2.2.2.2.2.2.2))) (D := G) (ci := 4) (v := .int (0 : Int32)) (ty := .int) (C := RX4) (T := TX4) (N := 13) hx hb hts iX4_slip_X4 tyX4 tyX4_ok nmX4 hown hK hP hD hS 0 rfl rfl 6 (by decide) (hts _ qX4_slip_0) (fun _ h9 => h9) rfl (by decide +kernel) rfl rfl (Nat.le_of_ble_eq_true rfl) dX4_slip_2 rfl (fun H locs hP hD hS => ?_)
  refine lv_aload_n hx hb dX4_slip_5 rfl (lv_at hl 0 rfl) ?_
  refine lv_iload_n hx hb dX4_slip_6 rfl (lv_at hl 1 rfl) ?_
  obtain ⟨r7, e7, h⟩ := tw_bs h
  refine tw_callViF (ws' := (tw_wM cI ma (M.1, M.2.1, M.2.2.1, M.2.2.2.1, M.2.2.2.2.1, M.2.2.2.2.2.1, (0 : Int32), M.2.2.2.2.2.2.2.1, M.2.2.2.2.2.2.2.2.1, M.2.2.2.2.2.2.2.2.2.1, M.2.2.2.2.2.2.2.2.2.2.1, M.2.2.2.2.2.2.2.2.2.2.2.1, M.2.2.2.2.2.2.2.2.2.2.2.2))) (As := [.int p1]) (rest := []) F hN hK hP hD hS hA (mX4_isTask l G cI ma (M.1, M.2.1, M.2.2.1, M.2.2.2.1, M.2.2.2.2.1, M.2.2.2.2.2.1, (0 : Int32), M.2.2.2.2.2.2.2.1, M.2.2.2.2.2.2.2.2.1, M.2.2.2.2.2.2.2.2.2.1, M.2.2.2.2.2.2.2.2.2.2.1, M.2.2.2.2.2.2.2.2.2.2.2.1, M.2.2.2.2.2.2.2.2.2.2.2.2) H.size p1 e7) (cwV 1 hts gX4_slip_X4_isTask rfl rfl rfl (by decide +kernel) ⟨(Nat.le_of_ble_eq_true rfl), (Nat.le_of_ble_eq_true rfl)⟩) rfl (r0 := 0) (ci := 4) rfl rfl rfl rfl hl.1 rfl (Nat.le_of_ble_eq_true rfl) dX4_slip_7 ⟨Nat.zero_le _, Nat.zero_le _⟩ (fun H locs hP hD hS => ?_)
  refine lv_if_ne (tgt := 19) hx hb dX4_slip_10 (by decide) (fun c10 => ?_) (fun c10 => ?_)
  · replace h := tw_t c10 h
    refine lv_iload_n hx hb dX4_slip_19 rfl (lv_at hl 2 rfl) ?_
    refine lv_iconst (v := (1 : Int32)) hx hb dX4_slip_20 (by decide) ?_
    refine lv_bipush (v := (20 : Int32)) hx hb dX4_slip_21 (by decide) ?_
    obtain ⟨r23, e23, h⟩ := tw_bs h
    refine tw_callSi (ws' := (tw_wM cI ma (M.1, M.2.1, M.2.2.1, M.2.2.2.1, M.2.2.2.2.1, M.2.2.2.2.2.1, (0 : Int32), M.2.2.2.2.2.2.2.1, M.2.2.2.2.2.2.2.2.1, M.2.2.2.2.2.2.2.2.2.1, M.2.2.2.2.2.2.2.2.2.2.1, M.2.2.2.2.2.2.2.2.2.2.2.1, M.2.2.2.2.2.2.2.2.2.2.2.2))) (As := [.int p2, .int (1 : Int32), .int (20 : Int32)]) (rest := []) F hN hK hP hD hS hA (mX4_in l G cI H.size p2 (1 : Int32) (20 : Int32) e23) (va_cwS 3 hts gX4_slip_X4_in rfl rfl rfl (by decide +kernel) ⟨(Nat.le_of_ble_eq_true rfl), (Nat.le_of_ble_eq_true rfl)⟩) [0] rfl [] (by decide) rfl rfl rfl rfl hl.1 rfl (Nat.le_of_ble_eq_true rfl) dX4_slip_23 ⟨Nat.zero_le _, Nat.zero_le _⟩ (fun H locs hP hD hS => ?_)
    refine lv_if_ne (tgt := 35) hx hb dX4_slip_26 (by decide) (fun c26 => ?_) (fun c26 => ?_)
    · replace h := tw_t c26 h
      refine lv_aload_n hx hb dX4_slip_35 rfl (lv_at hl 0 rfl) ?_
      obtain ⟨r36, e36, h⟩ := tw_bs h
      refine tw_callVvF (ws' := (tw_wM cI ma r36)) (As := []) (rest := []) F hN hK hP hD hS hA (mX4_plans l G cI ma (M.1, M.2.1, M.2.2.1, M.2.2.2.1, M.2.2.2.2.1, M.2.2.2.2.2.1, (0 : Int32), M.2.2.2.2.2.2.2.1, M.2.2.2.2.2.2.2.2.1, M.2.2.2.2.2.2.2.2.2.1, M.2.2.2.2.2.2.2.2.2.2.1, M.2.2.2.2.2.2.2.2.2.2.2.1, M.2.2.2.2.2.2.2.2.2.2.2.2) H.size e36) (cwV 0 hts gX4_slip_X4_plans rfl rfl rfl (by decide +kernel) ⟨(Nat.le_of_ble_eq_true rfl), (Nat.le_of_ble_eq_true rfl)⟩) rfl (r0 := 0) (ci := 4) rfl rfl rfl rfl hl.1 rfl (Nat.le_of_ble_eq_true rfl) dX4_slip_36 ⟨Nat.zero_le _, Nat.zero_le _⟩ (fun H locs hP hD hS => ?_)
      refine lv_aload_n hx hb dX4_slip_39 rfl (lv_at hl 0 rfl) ?_
      refine va_get (D := G) (ci := 4) (v := .ref (ma 6)) (C := RX4) (T := TX4) (N := 13) hx hb hts iX4_slip_X4 hown hK hP 0 rfl rfl 11 (by decide) (hts _ qX4_slip_1) (fun _ h9 => h9) rfl dX4_slip_40 ?_
      refine lv_iload_n hx hb dX4_slip_43 rfl (lv_at hl 1 rfl) ?_
      obtain ⟨g44, h⟩ := tw_gs h
      refine va_iald (f := r36.2.2.2.2.2.2.2.2.2.2.2.1) (n := 12) hx hb hK hP 6 0 rfl rfl g44 dX4_slip_44 ?_
      refine lv_iconst (v := (-1 : Int32)) hx hb dX4_slip_45 (by decide) ?_
      refine lv_icmp_eq (tgt := 62) hx hb dX4_slip_46 (by decide) (fun c46 => ?_) (fun c46 => ?_)
      · replace h := tw_t c46 h
        refine lv_aload_n hx hb dX4_slip_62 rfl (lv_at hl 0 rfl) ?_
        refine lv_iconst (v := (3 : Int32)) hx hb dX4_slip_63 (by decide) ?_
        obtain ⟨r64, e64, h⟩ := tw_bs h
        refine tw_callViF (ws' := (tw_wM cI ma r64.2)) (As := [.int (3 : Int32)]) (rest := []) F hN hK hP hD hS hA (mX4_fails l G cI ma r36 H.size (3 : Int32) e64) (cwV 1 hts gX4_slip_X4_fails rfl rfl rfl (by decide +kernel) ⟨(Nat.le_of_ble_eq_true rfl), (Nat.le_of_ble_eq_true rfl)⟩) rfl (r0 := 0) (ci := 4) rfl rfl rfl rfl hl.1 rfl (Nat.le_of_ble_eq_true rfl) dX4_slip_64 ⟨Nat.zero_le _, Nat.zero_le _⟩ (fun H locs hP hD hS => ?_)
        exact hq H locs _ ls r64.1 (tw_rt (fun r => r.1 = r64.1) h rfl) rfl (tw_rt (fun r => va_P G vwCl (tw_wM cI ma r.2) H) h hP) hS dX4_slip_67
      · replace h := tw_f c46 h
        refine lv_aload_n hx hb dX4_slip_49 rfl (lv_at hl 0 rfl) ?_
        refine va_get (D := G) (ci := 4) (v := .ref (ma 6)) (C := RX4) (T := TX4) (N := 13) hx hb hts iX4_slip_X4 hown hK hP 0 rfl rfl 11 (by decide) (hts _ qX4_slip_1) (fun _ h9 => h9) rfl dX4_slip_50 ?_
        refine lv_iload_n hx hb dX4_slip_53 rfl (lv_at hl 1 rfl) ?_
        obtain ⟨g54, h⟩ := tw_gs h
        refine va_iald (f := r36.2.2.2.2.2.2.2.2.2.2.2.1) (n := 12) hx hb hK hP 6 0 rfl rfl g54 dX4_slip_54 ?_
        refine lv_iload_n hx hb dX4_slip_55 rfl (lv_at hl 2 rfl) ?_
        refine lv_iadd hx hb dX4_slip_56 ?_
        refine lv_bipush (v := (60 : Int32)) hx hb dX4_slip_57 (by decide) ?_
        refine lv_icmp_le (tgt := 68) hx hb dX4_slip_59 (by decide) (fun c59 => ?_) (fun c59 => ?_)
        · replace h := tw_t c59 h
          refine lv_aload_n hx hb dX4_slip_68 rfl (lv_at hl 0 rfl) ?_
          obtain ⟨r69, e69, h⟩ := tw_bs h
          refine tw_callVvF (ws' := (tw_wM cI ma r69)) (As := []) (rest := []) F hN hK hP hD hS hA (mX4_saves l G cI ma r36 H.size e69) (cwV 0 hts gX4_slip_X4_saves rfl rfl rfl (by decide +kernel) ⟨(Nat.le_of_ble_eq_true rfl), (Nat.le_of_ble_eq_true rfl)⟩) rfl (r0 := 0) (ci := 4) rfl rfl rfl rfl hl.1 rfl (Nat.le_of_ble_eq_true rfl) dX4_slip_69 ⟨Nat.zero_le _, Nat.zero_le _⟩ (fun H locs hP hD hS => ?_)
          refine lv_aload_n hx hb dX4_slip_72 rfl (lv_at hl 0 rfl) ?_
          refine va_get (D := G) (ci := 4) (v := .ref (ma 1)) (C := RX4) (T := TX4) (N := 13) hx hb hts iX4_slip_X4 hown hK hP 0 rfl rfl 0 (by decide) (hts _ qX4_slip_2) (fun _ h9 => h9) rfl dX4_slip_73 ?_
          refine lv_aload_n hx hb dX4_slip_76 rfl (lv_at hl 0 rfl) ?_
          refine va_get (D := G) (ci := 4) (v := .ref (ma 6)) (C := RX4) (T := TX4) (N := 13) hx hb hts iX4_slip_X4 hown hK hP 0 rfl rfl 11 (by decide) (hts _ qX4_slip_1) (fun _ h9 => h9) rfl dX4_slip_77 ?_
          obtain ⟨r80, e80, h⟩ := tw_bs h
          refine tw_callSi (ws' := (tw_wM cI ma r69)) (As := [.ref (ma 1), .ref (ma 6)]) (rest := []) F hN hK hP hD hS hA (mX4_end l G cI (ma 1) (ma 6) r69.1 r69.2.2.2.2.2.2.2.2.2.2.2.1 H.size e80) (va_cwS 2 hts gX4_slip_X4_end rfl rfl rfl (by decide +kernel) ⟨(Nat.le_of_ble_eq_true rfl), (Nat.le_of_ble_eq_true rfl)⟩) [0] rfl [1, 6] (by decide) rfl rfl rfl rfl hl.1 rfl (Nat.le_of_ble_eq_true rfl) dX4_slip_80 ⟨Nat.zero_le _, Nat.zero_le _⟩ (fun H locs hP hD hS => ?_)
          refine lv_istore_n (lv' := [(3, .int r80), (0, .ref (ma 0)), (1, .int p1), (2, .int p2)]) hx hb dX4_slip_83 rfl hl (by decide) rfl (fun ls hl => ?_)
          refine lv_aload_n hx hb dX4_slip_84 rfl (lv_at hl 1 rfl) ?_
          refine va_get (D := G) (ci := 4) (v := .ref (ma 1)) (C := RX4) (T := TX4) (N := 13) hx hb hts iX4_slip_X4 hown hK hP 0 rfl rfl 0 (by decide) (hts _ qX4_slip_2) (fun _ h9 => h9) rfl dX4_slip_85 ?_
          refine lv_bipush (v := (10 : Int32)) hx hb dX4_slip_88 (by decide) ?_
          refine lv_iconst (v := (5 : Int32)) hx hb dX4_slip_90 (by decide) ?_
          refine lv_iload_n hx hb dX4_slip_91 rfl (lv_at hl 2 rfl) ?_
          refine lv_imul hx hb dX4_slip_92 ?_
          refine lv_iadd hx hb dX4_slip_93 ?_
          refine lv_iconst (v := (3 : Int32)) hx hb dX4_slip_94 (by decide) ?_
          refine lv_iadd hx hb dX4_slip_95 ?_
          refine lv_aload_n hx hb dX4_slip_96 rfl (lv_at hl 1 rfl) ?_
          refine va_get (D := G) (ci := 4) (v := .ref (ma 6)) (C := RX4) (T := TX4) (N := 13) hx hb hts iX4_slip_X4 hown hK hP 0 rfl rfl 11 (by decide) (hts _ qX4_slip_1) (fun _ h9 => h9) rfl dX4_slip_97 ?_
          refine lv_iload_n hx hb dX4_slip_100 rfl (lv_at hl 2 rfl) ?_
          obtain ⟨g101, h⟩ := tw_gs h
          refine va_iald (f := r69.2.2.2.2.2.2.2.2.2.2.2.1) (n := 12) hx hb hK hP 6 0 rfl rfl g101 dX4_slip_101 ?_
          refine lv_iload_n hx hb dX4_slip_102 rfl (lv_at hl 3 rfl) ?_
          refine lv_iadd hx hb dX4_slip_103 ?_
          obtain ⟨g104, h⟩ := tw_gs h
          refine tw_iast (ws' := (tw_wM cI ma ((upd r69.1 (((10 : Int32) + ((5 : Int32) * p1)) + (3 : Int32)).toNatClampNeg ((r69.2.2.2.2.2.2.2.2.2.2.2.1 p1.toNatClampNeg) + p2)), r69.2.1, r69.2.2.1, r69.2.2.2.1, r69.2.2.2.2.1, r69.2.2.2.2.2.1, r69.2.2.2.2.2.2.1, r69.2.2.2.2.2.2.2.1, r69.2.2.2.2.2.2.2.2.1, r69.2.2.2.2.2.2.2.2.2.1, r69.2.2.2.2.2.2.2.2.2.2.1, r69.2.2.2.2.2.2.2.2.2.2.2.1, r69.2.2.2.2.2.2.2.2.2.2.2.2))) (f := r69.1) (n := 70) hx hb hK hP hD hS 1 0 rfl rfl g104 dX4_slip_104 rfl (fun H locs hP hD hS => ?_)
          refine lv_aload_n hx hb dX4_slip_105 rfl (lv_at hl 1 rfl) ?_
          obtain ⟨r106, e106, h⟩ := tw_bs h
          refine tw_callVvF (ws' := (tw_wM cI ma r106)) (As := []) (rest := []) F hN hK hP hD hS hA (mX4_plans l G cI ma ((upd r69.1 (((10 : Int32) + ((5 : Int32) * p1)) + (3 : Int32)).toNatClampNeg ((r69.2.2.2.2.2.2.2.2.2.2.2.1 p1.toNatClampNeg) + p2)), r69.2.1, r69.2.2.1, r69.2.2.2.1, r69.2.2.2.2.1, r69.2.2.2.2.2.1, r69.2.2.2.2.2.2.1, r69.2.2.2.2.2.2.2.1, r69.2.2.2.2.2.2.2.2.1, r69.2.2.2.2.2.2.2.2.2.1, r69.2.2.2.2.2.2.2.2.2.2.1, r69.2.2.2.2.2.2.2.2.2.2.2.1, r69.2.2.2.2.2.2.2.2.2.2.2.2) H.size e106) (cwV 0 hts gX4_slip_X4_plans rfl rfl rfl (by decide +kernel) ⟨(Nat.le_of_ble_eq_true rfl), (Nat.le_of_ble_eq_true rfl)⟩) rfl (r0 := 0) (ci := 4) rfl rfl rfl rfl hl.1 rfl (Nat.le_of_ble_eq_true rfl) dX4_slip_106 ⟨Nat.zero_le _, Nat.zero_le _⟩ (fun H locs hP hD hS => ?_)
          refine lv_aload_n hx hb dX4_slip_109 rfl (lv_at hl 1 rfl) ?_
          refine va_get (D := G) (ci := 4) (v := .ref (ma 1)) (C := RX4) (T := TX4) (N := 13) hx hb hts iX4_slip_X4 hown hK hP 0 rfl rfl 0 (by decide) (hts _ qX4_slip_2) (fun _ h9 => h9) rfl dX4_slip_110 ?_
          refine lv_aload_n hx hb dX4_slip_113 rfl (lv_at hl 1 rfl) ?_
          refine va_get (D := G) (ci := 4) (v := .ref (ma 6)) (C := RX4) (T := TX4) (N := 13) hx hb hts iX4_slip_X4 hown hK hP 0 rfl rfl 11 (by decide) (hts _ qX4_slip_1) (fun _ h9 => h9) rfl dX4_slip_114 ?_
          obtain ⟨r117, e117, h⟩ := tw_bs h
          refine tw_callSi (ws' := (tw_wM cI ma r106)) (As := [.ref (ma 1), .ref (ma 6)]) (rest := []) F hN hK hP hD hS hA (mX4_end l G cI (ma 1) (ma 6) r106.1 r106.2.2.2.2.2.2.2.2.2.2.2.1 H.size e117) (va_cwS 2 hts gX4_slip_X4_end rfl rfl rfl (by decide +kernel) ⟨(Nat.le_of_ble_eq_true rfl), (Nat.le_of_ble_eq_true rfl)⟩) [0] rfl [1, 6] (by decide) rfl rfl rfl rfl hl.1 rfl (Nat.le_of_ble_eq_true rfl) dX4_slip_117 ⟨Nat.zero_le _, Nat.zero_le _⟩ (fun H locs hP hD hS => ?_)
          refine lv_iload_n hx hb dX4_slip_120 rfl (lv_at hl 0 rfl) ?_
          refine lv_isub hx hb dX4_slip_121 ?_
          exact hq H locs _ ls (r117 - r80) (tw_rt (fun r => r.1 = (r117 - r80)) h rfl) rfl (tw_rt (fun r => va_P G vwCl (tw_wM cI ma r.2) H) h hP) hS dX4_slip_122
        · replace h := tw_f c59 h
          refine lv_aload_n hx hb dX4_slip_62 rfl (lv_at hl 0 rfl) ?_
          refine lv_iconst (v := (3 : Int32)) hx hb dX4_slip_63 (by decide) ?_
          obtain ⟨r64, e64, h⟩ := tw_bs h
          refine tw_callViF (ws' := (tw_wM cI ma r64.2)) (As := [.int (3 : Int32)]) (rest := []) F hN hK hP hD hS hA (mX4_fails l G cI ma r36 H.size (3 : Int32) e64) (cwV 1 hts gX4_slip_X4_fails rfl rfl rfl (by decide +kernel) ⟨(Nat.le_of_ble_eq_true rfl), (Nat.le_of_ble_eq_true rfl)⟩) rfl (r0 := 0) (ci := 4) rfl rfl rfl rfl hl.1 rfl (Nat.le_of_ble_eq_true rfl) dX4_slip_64 ⟨Nat.zero_le _, Nat.zero_le _⟩ (fun H locs hP hD hS => ?_)
          exact hq H locs _ ls r64.1 (tw_rt (fun r => r.1 = r64.1) h rfl) rfl (tw_rt (fun r => va_P G vwCl (tw_wM cI ma r.2) H) h hP) hS dX4_slip_67
    · replace h := tw_fn c26 h
      refine lv_aload_n hx hb dX4_slip_29 rfl (lv_at hl 0 rfl) ?_
      refine lv_iconst (v := (2 : Int32)) hx hb dX4_slip_30 (by decide) ?_
      obtain ⟨r31, e31, h⟩ := tw_bs h
      refine tw_callViF (ws' := (tw_wM cI ma r31.2)) (As := [.int (2 : Int32)]) (rest := []) F hN hK hP hD hS hA (mX4_fails l G cI ma (M.1, M.2.1, M.2.2.1, M.2.2.2.1, M.2.2.2.2.1, M.2.2.2.2.2.1, (0 : Int32), M.2.2.2.2.2.2.2.1, M.2.2.2.2.2.2.2.2.1, M.2.2.2.2.2.2.2.2.2.1, M.2.2.2.2.2.2.2.2.2.2.1, M.2.2.2.2.2.2.2.2.2.2.2.1, M.2.2.2.2.2.2.2.2.2.2.2.2) H.size (2 : Int32) e31) (cwV 1 hts gX4_slip_X4_fails rfl rfl rfl (by decide +kernel) ⟨(Nat.le_of_ble_eq_true rfl), (Nat.le_of_ble_eq_true rfl)⟩) rfl (r0 := 0) (ci := 4) rfl rfl rfl rfl hl.1 rfl (Nat.le_of_ble_eq_true rfl) dX4_slip_31 ⟨Nat.zero_le _, Nat.zero_le _⟩ (fun H locs hP hD hS => ?_)
      exact hq H locs _ ls r31.1 (tw_rt (fun r => r.1 = r31.1) h rfl) rfl (tw_rt (fun r => va_P G vwCl (tw_wM cI ma r.2) H) h hP) hS dX4_slip_34
  · replace h := tw_fn c10 h
    refine lv_aload_n hx hb dX4_slip_13 rfl (lv_at hl 0 rfl) ?_
    refine lv_iconst (v := (1 : Int32)) hx hb dX4_slip_14 (by decide) ?_
    obtain ⟨r15, e15, h⟩ := tw_bs h
    refine tw_callViF (ws' := (tw_wM cI ma r15.2)) (As := [.int (1 : Int32)]) (rest := []) F hN hK hP hD hS hA (mX4_fails l G cI ma (M.1, M.2.1, M.2.2.1, M.2.2.2.1, M.2.2.2.2.1, M.2.2.2.2.2.1, (0 : Int32), M.2.2.2.2.2.2.2.1, M.2.2.2.2.2.2.2.2.1, M.2.2.2.2.2.2.2.2.2.1, M.2.2.2.2.2.2.2.2.2.2.1, M.2.2.2.2.2.2.2.2.2.2.2.1, M.2.2.2.2.2.2.2.2.2.2.2.2) H.size (1 : Int32) e15) (cwV 1 hts gX4_slip_X4_fails rfl rfl rfl (by decide +kernel) ⟨(Nat.le_of_ble_eq_true rfl), (Nat.le_of_ble_eq_true rfl)⟩) rfl (r0 := 0) (ci := 4) rfl rfl rfl rfl hl.1 rfl (Nat.le_of_ble_eq_true rfl) dX4_slip_15 ⟨Nat.zero_le _, Nat.zero_le _⟩ (fun H locs hP hD hS => ?_)
    exact hq H locs _ ls r15.1 (tw_rt (fun r => r.1 = r15.1) h rfl) rfl (tw_rt (fun r => va_P G vwCl (tw_wM cI ma r.2) H) h hP) hS dX4_slip_18
abbrev rmX4_borrow : Room := { frames := 5, cells := 0, slots := 0, locals := 119 }
set_option maxRecDepth 20000 in
theorem qX4_borrow_0 : (Cond.fieldLink RX4 31 "TheatreWallModel" "thrown" "I") ∈ wsX4_borrow := (List.mem_cons_of_mem _ (List.mem_append_left _ (List.mem_append_left _ (List.mem_of_getElem? (i := 0) rfl))))
set_option maxRecDepth 20000 in
theorem qX4_borrow_1 : (Cond.fieldLink RX4 7 "TheatreWallModel" "now" "[I") ∈ wsX4_borrow := (List.mem_cons_of_mem _ (List.mem_append_left _ (List.mem_append_left _ (List.mem_of_getElem? (i := 1) rfl))))
set_option maxRecDepth 20000 in
theorem qX4_borrow_2 : (Cond.fieldLink RX4 25 "TheatreWallModel" "plan" "[I") ∈ wsX4_borrow := (List.mem_cons_of_mem _ (List.mem_append_left _ (List.mem_append_left _ (List.mem_of_getElem? (i := 2) rfl))))
set_option maxRecDepth 20000 in
theorem iX4_borrow_X4 : ∀ w ∈ u_ws RX4 TX4 13, w ∈ wsX4_borrow := fun w h => (List.mem_cons_of_mem _ (List.mem_append_right _ h))
set_option maxHeartbeats 4000000 in
set_option maxRecDepth 100000 in
theorem mX4_borrow (l : Launch) (G : va_G) (cI : ClassId) (ma : Nat → Nat) (M : tw_Md) (sz : Nat) (p1 : Int32) (p2 : Int32) (p3 : Int32) {rv : Int32 × tw_Md} (h : fX4_borrow M p1 p2 p3 = some rv) : tw_Mi l yX4_borrow wsX4_borrow rmX4_borrow G [(cI, .int)] (tw_wM cI ma M) [.ref (ma 0), .int p1, .int p2, .int p3] sz rv.1 (tw_wM cI ma rv.2) := by
  refine tw_ofi (ty := .int) (cc := cX4_borrow) (maxL := 4) (own := RX4) (by decide) rfl rfl (Nat.le_of_ble_eq_true rfl) ?_
  intro p e s m args below meth c Q A ls H locs F hN hK hP hD hS hA hl hq
  obtain ⟨hx, hb, hml, hown, hts⟩ := id F
  have hl : lv_has ls 4 [(0, .ref (ma 0)), (1, .int p1), (2, .int p2), (3, .int p3)] := hl
  unfold fX4_borrow at h
  refine lv_aload_n hx hb dX4_borrow_0 rfl (lv_at hl 0 rfl) ?_
  refine lv_iconst (v := (0 : Int32)) hx hb dX4_borrow_1 (by decide) ?_
  refine tw_put (ws' := (tw_wM cI ma (M.1, M.2.1, M.2.2.1, M.2.2.2.1, M.2.2.2.2.1, M.2.2.2.2.2.1, (0 : Int32), M.2.2.2.2.2.2.2.1, M.2.2.2.2.2.2.2.2.1, M.2.2.2.2.2.2.2.2.2.1, M.2.2.2.2.2.2.2.2.2.2.1, M.2.2.2.2.2.2.2.2.2.2.2.1, M.2.2.2.2.2.2.2.2.2.2.2.2))) (D := G) (ci := 4) (v := .int (0 : Int32)) (ty := .int) (C := RX4) (T := TX4) (N := 13) hx hb hts iX4_borrow_X4 tyX4 tyX4_ok nmX4 hown hK hP hD hS 0 rfl rfl 6 (by decide) (hts _ qX4_borrow_0) (fun _ h9 => h9) rfl (by decide +kernel) rfl rfl (Nat.le_of_ble_eq_true rfl) dX4_borrow_2 rfl (fun H locs hP hD hS => ?_)
  refine lv_iload_n hx hb dX4_borrow_5 rfl (lv_at hl 1 rfl) ?_
  obtain ⟨r6, e6, h⟩ := tw_bs h
  refine tw_callSi (ws' := (tw_wM cI ma (M.1, M.2.1, M.2.2.1, M.2.2.2.1, M.2.2.2.2.1, M.2.2.2.2.2.1, (0 : Int32), M.2.2.2.2.2.2.2.1, M.2.2.2.2.2.2.2.2.1, M.2.2.2.2.2.2.2.2.2.1, M.2.2.2.2.2.2.2.2.2.2.1, M.2.2.2.2.2.2.2.2.2.2.2.1, M.2.2.2.2.2.2.2.2.2.2.2.2))) (As := [.int p1]) (rest := []) F hN hK hP hD hS hA (mX4_isHall l G cI H.size p1 e6) (va_cwS 1 hts gX4_borrow_X4_isHall rfl rfl rfl (by decide +kernel) ⟨(Nat.le_of_ble_eq_true rfl), (Nat.le_of_ble_eq_true rfl)⟩) [0] rfl [] (by decide) rfl rfl rfl rfl hl.1 rfl (Nat.le_of_ble_eq_true rfl) dX4_borrow_6 ⟨Nat.zero_le _, Nat.zero_le _⟩ (fun H locs hP hD hS => ?_)
  refine lv_if_ne (tgt := 18) hx hb dX4_borrow_9 (by decide) (fun c9 => ?_) (fun c9 => ?_)
  · replace h := tw_t c9 h
    refine lv_iload_n hx hb dX4_borrow_18 rfl (lv_at hl 2 rfl) ?_
    obtain ⟨r19, e19, h⟩ := tw_bs h
    refine tw_callSi (ws' := (tw_wM cI ma (M.1, M.2.1, M.2.2.1, M.2.2.2.1, M.2.2.2.2.1, M.2.2.2.2.2.1, (0 : Int32), M.2.2.2.2.2.2.2.1, M.2.2.2.2.2.2.2.2.1, M.2.2.2.2.2.2.2.2.2.1, M.2.2.2.2.2.2.2.2.2.2.1, M.2.2.2.2.2.2.2.2.2.2.2.1, M.2.2.2.2.2.2.2.2.2.2.2.2))) (As := [.int p2]) (rest := []) F hN hK hP hD hS hA (mX4_isDay l G cI H.size p2 e19) (va_cwS 1 hts gX4_borrow_X4_isDay rfl rfl rfl (by decide +kernel) ⟨(Nat.le_of_ble_eq_true rfl), (Nat.le_of_ble_eq_true rfl)⟩) [0] rfl [] (by decide) rfl rfl rfl rfl hl.1 rfl (Nat.le_of_ble_eq_true rfl) dX4_borrow_19 ⟨Nat.zero_le _, Nat.zero_le _⟩ (fun H locs hP hD hS => ?_)
    refine lv_if_eq (tgt := 35) hx hb dX4_borrow_22 (by decide) (fun c22 => ?_) (fun c22 => ?_)
    · replace h := tw_t c22 h
      refine lv_aload_n hx hb dX4_borrow_35 rfl (lv_at hl 0 rfl) ?_
      refine lv_iconst (v := (2 : Int32)) hx hb dX4_borrow_36 (by decide) ?_
      obtain ⟨r37, e37, h⟩ := tw_bs h
      refine tw_callViF (ws' := (tw_wM cI ma r37.2)) (As := [.int (2 : Int32)]) (rest := []) F hN hK hP hD hS hA (mX4_fails l G cI ma (M.1, M.2.1, M.2.2.1, M.2.2.2.1, M.2.2.2.2.1, M.2.2.2.2.2.1, (0 : Int32), M.2.2.2.2.2.2.2.1, M.2.2.2.2.2.2.2.2.1, M.2.2.2.2.2.2.2.2.2.1, M.2.2.2.2.2.2.2.2.2.2.1, M.2.2.2.2.2.2.2.2.2.2.2.1, M.2.2.2.2.2.2.2.2.2.2.2.2) H.size (2 : Int32) e37) (cwV 1 hts gX4_borrow_X4_fails rfl rfl rfl (by decide +kernel) ⟨(Nat.le_of_ble_eq_true rfl), (Nat.le_of_ble_eq_true rfl)⟩) rfl (r0 := 0) (ci := 4) rfl rfl rfl rfl hl.1 rfl (Nat.le_of_ble_eq_true rfl) dX4_borrow_37 ⟨Nat.zero_le _, Nat.zero_le _⟩ (fun H locs hP hD hS => ?_)
      exact hq H locs _ ls r37.1 (tw_rt (fun r => r.1 = r37.1) h rfl) rfl (tw_rt (fun r => va_P G vwCl (tw_wM cI ma r.2) H) h hP) hS dX4_borrow_40
    · replace h := tw_f c22 h
      refine lv_iload_n hx hb dX4_borrow_25 rfl (lv_at hl 3 rfl) ?_
      refine lv_iload_n hx hb dX4_borrow_26 rfl (lv_at hl 2 rfl) ?_
      refine lv_bipush (v := (99 : Int32)) hx hb dX4_borrow_27 (by decide) ?_
      obtain ⟨r29, e29, h⟩ := tw_bs h
      refine tw_callSi (ws' := (tw_wM cI ma (M.1, M.2.1, M.2.2.1, M.2.2.2.1, M.2.2.2.2.1, M.2.2.2.2.2.1, (0 : Int32), M.2.2.2.2.2.2.2.1, M.2.2.2.2.2.2.2.2.1, M.2.2.2.2.2.2.2.2.2.1, M.2.2.2.2.2.2.2.2.2.2.1, M.2.2.2.2.2.2.2.2.2.2.2.1, M.2.2.2.2.2.2.2.2.2.2.2.2))) (As := [.int p3, .int p2, .int (99 : Int32)]) (rest := []) F hN hK hP hD hS hA (mX4_in l G cI H.size p3 p2 (99 : Int32) e29) (va_cwS 3 hts gX4_borrow_X4_in rfl rfl rfl (by decide +kernel) ⟨(Nat.le_of_ble_eq_true rfl), (Nat.le_of_ble_eq_true rfl)⟩) [0] rfl [] (by decide) rfl rfl rfl rfl hl.1 rfl (Nat.le_of_ble_eq_true rfl) dX4_borrow_29 ⟨Nat.zero_le _, Nat.zero_le _⟩ (fun H locs hP hD hS => ?_)
      refine lv_if_ne (tgt := 41) hx hb dX4_borrow_32 (by decide) (fun c32 => ?_) (fun c32 => ?_)
      · replace h := tw_t c32 h
        refine lv_aload_n hx hb dX4_borrow_41 rfl (lv_at hl 0 rfl) ?_
        obtain ⟨r42, e42, h⟩ := tw_bs h
        refine tw_callVvF (ws' := (tw_wM cI ma r42)) (As := []) (rest := []) F hN hK hP hD hS hA (mX4_saves l G cI ma (M.1, M.2.1, M.2.2.1, M.2.2.2.1, M.2.2.2.2.1, M.2.2.2.2.2.1, (0 : Int32), M.2.2.2.2.2.2.2.1, M.2.2.2.2.2.2.2.2.1, M.2.2.2.2.2.2.2.2.2.1, M.2.2.2.2.2.2.2.2.2.2.1, M.2.2.2.2.2.2.2.2.2.2.2.1, M.2.2.2.2.2.2.2.2.2.2.2.2) H.size e42) (cwV 0 hts gX4_borrow_X4_saves rfl rfl rfl (by decide +kernel) ⟨(Nat.le_of_ble_eq_true rfl), (Nat.le_of_ble_eq_true rfl)⟩) rfl (r0 := 0) (ci := 4) rfl rfl rfl rfl hl.1 rfl (Nat.le_of_ble_eq_true rfl) dX4_borrow_42 ⟨Nat.zero_le _, Nat.zero_le _⟩ (fun H locs hP hD hS => ?_)
        refine lv_aload_n hx hb dX4_borrow_45 rfl (lv_at hl 0 rfl) ?_
        refine va_get (D := G) (ci := 4) (v := .ref (ma 1)) (C := RX4) (T := TX4) (N := 13) hx hb hts iX4_borrow_X4 hown hK hP 0 rfl rfl 0 (by decide) (hts _ qX4_borrow_1) (fun _ h9 => h9) rfl dX4_borrow_46 ?_
        refine lv_iconst (v := (2 : Int32)) hx hb dX4_borrow_49 (by decide) ?_
        refine lv_iconst (v := (2 : Int32)) hx hb dX4_borrow_50 (by decide) ?_
        refine lv_iload_n hx hb dX4_borrow_51 rfl (lv_at hl 1 rfl) ?_
        refine lv_imul hx hb dX4_borrow_52 ?_
        refine lv_iadd hx hb dX4_borrow_53 ?_
        refine lv_iload_n hx hb dX4_borrow_54 rfl (lv_at hl 2 rfl) ?_
        obtain ⟨g55, h⟩ := tw_gs h
        refine tw_iast (ws' := (tw_wM cI ma ((upd r42.1 ((2 : Int32) + ((2 : Int32) * p1)).toNatClampNeg p2), r42.2.1, r42.2.2.1, r42.2.2.2.1, r42.2.2.2.2.1, r42.2.2.2.2.2.1, r42.2.2.2.2.2.2.1, r42.2.2.2.2.2.2.2.1, r42.2.2.2.2.2.2.2.2.1, r42.2.2.2.2.2.2.2.2.2.1, r42.2.2.2.2.2.2.2.2.2.2.1, r42.2.2.2.2.2.2.2.2.2.2.2.1, r42.2.2.2.2.2.2.2.2.2.2.2.2))) (f := r42.1) (n := 70) hx hb hK hP hD hS 1 0 rfl rfl g55 dX4_borrow_55 rfl (fun H locs hP hD hS => ?_)
        refine lv_aload_n hx hb dX4_borrow_56 rfl (lv_at hl 0 rfl) ?_
        refine va_get (D := G) (ci := 4) (v := .ref (ma 1)) (C := RX4) (T := TX4) (N := 13) hx hb hts iX4_borrow_X4 hown hK hP 0 rfl rfl 0 (by decide) (hts _ qX4_borrow_1) (fun _ h9 => h9) rfl dX4_borrow_57 ?_
        refine lv_iconst (v := (2 : Int32)) hx hb dX4_borrow_60 (by decide) ?_
        refine lv_iconst (v := (2 : Int32)) hx hb dX4_borrow_61 (by decide) ?_
        refine lv_iload_n hx hb dX4_borrow_62 rfl (lv_at hl 1 rfl) ?_
        refine lv_imul hx hb dX4_borrow_63 ?_
        refine lv_iadd hx hb dX4_borrow_64 ?_
        refine lv_iconst (v := (1 : Int32)) hx hb dX4_borrow_65 (by decide) ?_
        refine lv_iadd hx hb dX4_borrow_66 ?_
        refine lv_iload_n hx hb dX4_borrow_67 rfl (lv_at hl 3 rfl) ?_
        obtain ⟨g68, h⟩ := tw_gs h
        refine tw_iast (ws' := (tw_wM cI ma ((upd (upd r42.1 ((2 : Int32) + ((2 : Int32) * p1)).toNatClampNeg p2) (((2 : Int32) + ((2 : Int32) * p1)) + (1 : Int32)).toNatClampNeg p3), r42.2.1, r42.2.2.1, r42.2.2.2.1, r42.2.2.2.2.1, r42.2.2.2.2.2.1, r42.2.2.2.2.2.2.1, r42.2.2.2.2.2.2.2.1, r42.2.2.2.2.2.2.2.2.1, r42.2.2.2.2.2.2.2.2.2.1, r42.2.2.2.2.2.2.2.2.2.2.1, r42.2.2.2.2.2.2.2.2.2.2.2.1, r42.2.2.2.2.2.2.2.2.2.2.2.2))) (f := (upd r42.1 ((2 : Int32) + ((2 : Int32) * p1)).toNatClampNeg p2)) (n := 70) hx hb hK hP hD hS 1 0 rfl rfl g68 dX4_borrow_68 rfl (fun H locs hP hD hS => ?_)
        refine lv_aload_n hx hb dX4_borrow_69 rfl (lv_at hl 0 rfl) ?_
        obtain ⟨r70, e70, h⟩ := tw_bs h
        refine tw_callVvF (ws' := (tw_wM cI ma r70)) (As := []) (rest := []) F hN hK hP hD hS hA (mX4_plans l G cI ma ((upd (upd r42.1 ((2 : Int32) + ((2 : Int32) * p1)).toNatClampNeg p2) (((2 : Int32) + ((2 : Int32) * p1)) + (1 : Int32)).toNatClampNeg p3), r42.2.1, r42.2.2.1, r42.2.2.2.1, r42.2.2.2.2.1, r42.2.2.2.2.2.1, r42.2.2.2.2.2.2.1, r42.2.2.2.2.2.2.2.1, r42.2.2.2.2.2.2.2.2.1, r42.2.2.2.2.2.2.2.2.2.1, r42.2.2.2.2.2.2.2.2.2.2.1, r42.2.2.2.2.2.2.2.2.2.2.2.1, r42.2.2.2.2.2.2.2.2.2.2.2.2) H.size e70) (cwV 0 hts gX4_borrow_X4_plans rfl rfl rfl (by decide +kernel) ⟨(Nat.le_of_ble_eq_true rfl), (Nat.le_of_ble_eq_true rfl)⟩) rfl (r0 := 0) (ci := 4) rfl rfl rfl rfl hl.1 rfl (Nat.le_of_ble_eq_true rfl) dX4_borrow_70 ⟨Nat.zero_le _, Nat.zero_le _⟩ (fun H locs hP hD hS => ?_)
        refine lv_aload_n hx hb dX4_borrow_73 rfl (lv_at hl 0 rfl) ?_
        refine va_get (D := G) (ci := 4) (v := .ref (ma 1)) (C := RX4) (T := TX4) (N := 13) hx hb hts iX4_borrow_X4 hown hK hP 0 rfl rfl 0 (by decide) (hts _ qX4_borrow_1) (fun _ h9 => h9) rfl dX4_borrow_74 ?_
        refine lv_aload_n hx hb dX4_borrow_77 rfl (lv_at hl 0 rfl) ?_
        refine va_get (D := G) (ci := 4) (v := .ref (ma 6)) (C := RX4) (T := TX4) (N := 13) hx hb hts iX4_borrow_X4 hown hK hP 0 rfl rfl 11 (by decide) (hts _ qX4_borrow_2) (fun _ h9 => h9) rfl dX4_borrow_78 ?_
        obtain ⟨r81, e81, h⟩ := tw_bs h
        refine tw_callSi (ws' := (tw_wM cI ma r70)) (As := [.ref (ma 1), .ref (ma 6)]) (rest := []) F hN hK hP hD hS hA (mX4_laid l G cI (ma 1) (ma 6) r70.1 r70.2.2.2.2.2.2.2.2.2.2.2.1 H.size e81) (va_cwS 2 hts gX4_borrow_X4_laid rfl rfl rfl (by decide +kernel) ⟨(Nat.le_of_ble_eq_true rfl), (Nat.le_of_ble_eq_true rfl)⟩) [0] rfl [1, 6] (by decide) rfl rfl rfl rfl hl.1 rfl (Nat.le_of_ble_eq_true rfl) dX4_borrow_81 ⟨Nat.zero_le _, Nat.zero_le _⟩ (fun H locs hP hD hS => ?_)
        exact hq H locs _ ls r81 (tw_rt (fun r => r.1 = r81) h rfl) rfl (tw_rt (fun r => va_P G vwCl (tw_wM cI ma r.2) H) h hP) hS dX4_borrow_84
      · replace h := tw_fn c32 h
        refine lv_aload_n hx hb dX4_borrow_35 rfl (lv_at hl 0 rfl) ?_
        refine lv_iconst (v := (2 : Int32)) hx hb dX4_borrow_36 (by decide) ?_
        obtain ⟨r37, e37, h⟩ := tw_bs h
        refine tw_callViF (ws' := (tw_wM cI ma r37.2)) (As := [.int (2 : Int32)]) (rest := []) F hN hK hP hD hS hA (mX4_fails l G cI ma (M.1, M.2.1, M.2.2.1, M.2.2.2.1, M.2.2.2.2.1, M.2.2.2.2.2.1, (0 : Int32), M.2.2.2.2.2.2.2.1, M.2.2.2.2.2.2.2.2.1, M.2.2.2.2.2.2.2.2.2.1, M.2.2.2.2.2.2.2.2.2.2.1, M.2.2.2.2.2.2.2.2.2.2.2.1, M.2.2.2.2.2.2.2.2.2.2.2.2) H.size (2 : Int32) e37) (cwV 1 hts gX4_borrow_X4_fails rfl rfl rfl (by decide +kernel) ⟨(Nat.le_of_ble_eq_true rfl), (Nat.le_of_ble_eq_true rfl)⟩) rfl (r0 := 0) (ci := 4) rfl rfl rfl rfl hl.1 rfl (Nat.le_of_ble_eq_true rfl) dX4_borrow_37 ⟨Nat.zero_le _, Nat.zero_le _⟩ (fun H locs hP hD hS => ?_)
        exact hq H locs _ ls r37.1 (tw_rt (fun r => r.1 = r37.1) h rfl) rfl (tw_rt (fun r => va_P G vwCl (tw_wM cI ma r.2) H) h hP) hS dX4_borrow_40
  · replace h := tw_fn c9 h
    refine lv_aload_n hx hb dX4_borrow_12 rfl (lv_at hl 0 rfl) ?_
    refine lv_iconst (v := (1 : Int32)) hx hb dX4_borrow_13 (by decide) ?_
    obtain ⟨r14, e14, h⟩ := tw_bs h
    refine tw_callViF (ws' := (tw_wM cI ma r14.2)) (As := [.int (1 : Int32)]) (rest := []) F hN hK hP hD hS hA (mX4_fails l G cI ma (M.1, M.2.1, M.2.2.1, M.2.2.2.1, M.2.2.2.2.1, M.2.2.2.2.2.1, (0 : Int32), M.2.2.2.2.2.2.2.1, M.2.2.2.2.2.2.2.2.1, M.2.2.2.2.2.2.2.2.2.1, M.2.2.2.2.2.2.2.2.2.2.1, M.2.2.2.2.2.2.2.2.2.2.2.1, M.2.2.2.2.2.2.2.2.2.2.2.2) H.size (1 : Int32) e14) (cwV 1 hts gX4_borrow_X4_fails rfl rfl rfl (by decide +kernel) ⟨(Nat.le_of_ble_eq_true rfl), (Nat.le_of_ble_eq_true rfl)⟩) rfl (r0 := 0) (ci := 4) rfl rfl rfl rfl hl.1 rfl (Nat.le_of_ble_eq_true rfl) dX4_borrow_14 ⟨Nat.zero_le _, Nat.zero_le _⟩ (fun H locs hP hD hS => ?_)
    exact hq H locs _ ls r14.1 (tw_rt (fun r => r.1 = r14.1) h rfl) rfl (tw_rt (fun r => va_P G vwCl (tw_wM cI ma r.2) H) h hP) hS dX4_borrow_17
abbrev rmX4_rule : Room := { frames := 1, cells := 0, slots := 0, locals := 22 }
set_option maxRecDepth 20000 in
theorem qX4_rule_0 : (Cond.fieldLink RX4 31 "TheatreWallModel" "thrown" "I") ∈ wsX4_rule := (List.mem_cons_of_mem _ (List.mem_append_left _ (List.mem_of_getElem? (i := 0) rfl)))
set_option maxRecDepth 20000 in
theorem qX4_rule_1 : (Cond.fieldLink RX4 7 "TheatreWallModel" "now" "[I") ∈ wsX4_rule := (List.mem_cons_of_mem _ (List.mem_append_left _ (List.mem_of_getElem? (i := 1) rfl)))
set_option maxRecDepth 20000 in
theorem iX4_rule_X4 : ∀ w ∈ u_ws RX4 TX4 13, w ∈ wsX4_rule := fun w h => (List.mem_cons_of_mem _ (List.mem_append_right _ h))
set_option maxHeartbeats 4000000 in
set_option maxRecDepth 100000 in
theorem mX4_rule (l : Launch) (G : va_G) (cI : ClassId) (ma : Nat → Nat) (M : tw_Md) (sz : Nat) (p1 : Int32) {rv : Int32 × tw_Md} (h : fX4_rule M p1 = some rv) : tw_Mi l yX4_rule wsX4_rule rmX4_rule G [(cI, .int)] (tw_wM cI ma M) [.ref (ma 0), .int p1] sz rv.1 (tw_wM cI ma rv.2) := by
  refine tw_ofi (ty := .int) (cc := cX4_rule) (maxL := 3) (own := RX4) (by decide) rfl rfl (Nat.le_of_ble_eq_true rfl) ?_
  intro p e s m args below meth c Q A ls H locs F hN hK hP hD hS hA hl hq
  obtain ⟨hx, hb, hml, hown, hts⟩ := id F
  have hl : lv_has ls 3 [(0, .ref (ma 0)), (1, .int p1)] := hl
  unfold fX4_rule at h
  refine lv_aload_n hx hb dX4_rule_0 rfl (lv_at hl 0 rfl) ?_
  refine lv_iconst (v := (0 : Int32)) hx hb dX4_rule_1 (by decide) ?_
  refine tw_put (ws' := (tw_wM cI ma (M.1, M.2.1, M.2.2.1, M.2.2.2.1, M.2.2.2.2.1, M.2.2.2.2.2.1, (0 : Int32), M.2.2.2.2.2.2.2.1, M.2.2.2.2.2.2.2.2.1, M.2.2.2.2.2.2.2.2.2.1, M.2.2.2.2.2.2.2.2.2.2.1, M.2.2.2.2.2.2.2.2.2.2.2.1, M.2.2.2.2.2.2.2.2.2.2.2.2))) (D := G) (ci := 4) (v := .int (0 : Int32)) (ty := .int) (C := RX4) (T := TX4) (N := 13) hx hb hts iX4_rule_X4 tyX4 tyX4_ok nmX4 hown hK hP hD hS 0 rfl rfl 6 (by decide) (hts _ qX4_rule_0) (fun _ h9 => h9) rfl (by decide +kernel) rfl rfl (Nat.le_of_ble_eq_true rfl) dX4_rule_2 rfl (fun H locs hP hD hS => ?_)
  refine lv_iload_n hx hb dX4_rule_5 rfl (lv_at hl 1 rfl) ?_
  refine lv_iconst (v := (0 : Int32)) hx hb dX4_rule_6 (by decide) ?_
  refine lv_iconst (v := (3 : Int32)) hx hb dX4_rule_7 (by decide) ?_
  obtain ⟨r8, e8, h⟩ := tw_bs h
  refine tw_callSi (ws' := (tw_wM cI ma (M.1, M.2.1, M.2.2.1, M.2.2.2.1, M.2.2.2.2.1, M.2.2.2.2.2.1, (0 : Int32), M.2.2.2.2.2.2.2.1, M.2.2.2.2.2.2.2.2.1, M.2.2.2.2.2.2.2.2.2.1, M.2.2.2.2.2.2.2.2.2.2.1, M.2.2.2.2.2.2.2.2.2.2.2.1, M.2.2.2.2.2.2.2.2.2.2.2.2))) (As := [.int p1, .int (0 : Int32), .int (3 : Int32)]) (rest := []) F hN hK hP hD hS hA (mX4_in l G cI H.size p1 (0 : Int32) (3 : Int32) e8) (va_cwS 3 hts gX4_rule_X4_in rfl rfl rfl (by decide +kernel) ⟨(Nat.le_of_ble_eq_true rfl), (Nat.le_of_ble_eq_true rfl)⟩) [0] rfl [] (by decide) rfl rfl rfl rfl hl.1 rfl (Nat.le_of_ble_eq_true rfl) dX4_rule_8 ⟨Nat.zero_le _, Nat.zero_le _⟩ (fun H locs hP hD hS => ?_)
  refine lv_if_ne (tgt := 20) hx hb dX4_rule_11 (by decide) (fun c11 => ?_) (fun c11 => ?_)
  · replace h := tw_t c11 h
    refine lv_aload_n hx hb dX4_rule_20 rfl (lv_at hl 0 rfl) ?_
    obtain ⟨r21, e21, h⟩ := tw_bs h
    refine tw_callVvF (ws' := (tw_wM cI ma r21)) (As := []) (rest := []) F hN hK hP hD hS hA (mX4_saves l G cI ma (M.1, M.2.1, M.2.2.1, M.2.2.2.1, M.2.2.2.2.1, M.2.2.2.2.2.1, (0 : Int32), M.2.2.2.2.2.2.2.1, M.2.2.2.2.2.2.2.2.1, M.2.2.2.2.2.2.2.2.2.1, M.2.2.2.2.2.2.2.2.2.2.1, M.2.2.2.2.2.2.2.2.2.2.2.1, M.2.2.2.2.2.2.2.2.2.2.2.2) H.size e21) (cwV 0 hts gX4_rule_X4_saves rfl rfl rfl (by decide +kernel) ⟨(Nat.le_of_ble_eq_true rfl), (Nat.le_of_ble_eq_true rfl)⟩) rfl (r0 := 0) (ci := 4) rfl rfl rfl rfl hl.1 rfl (Nat.le_of_ble_eq_true rfl) dX4_rule_21 ⟨Nat.zero_le _, Nat.zero_le _⟩ (fun H locs hP hD hS => ?_)
    refine lv_aload_n hx hb dX4_rule_24 rfl (lv_at hl 0 rfl) ?_
    refine va_get (D := G) (ci := 4) (v := .ref (ma 1)) (C := RX4) (T := TX4) (N := 13) hx hb hts iX4_rule_X4 hown hK hP 0 rfl rfl 0 (by decide) (hts _ qX4_rule_1) (fun _ h9 => h9) rfl dX4_rule_25 ?_
    refine lv_iconst (v := (1 : Int32)) hx hb dX4_rule_28 (by decide) ?_
    refine va_iald (f := r21.1) (n := 70) hx hb hK hP 1 0 rfl rfl (tw_vin (by decide)) dX4_rule_29 ?_
    refine lv_istore_n (lv' := [(2, .int (r21.1 (1 : Int32).toNatClampNeg)), (0, .ref (ma 0)), (1, .int p1)]) hx hb dX4_rule_30 rfl hl (by decide) rfl (fun ls hl => ?_)
    refine lv_aload_n hx hb dX4_rule_31 rfl (lv_at hl 1 rfl) ?_
    refine va_get (D := G) (ci := 4) (v := .ref (ma 1)) (C := RX4) (T := TX4) (N := 13) hx hb hts iX4_rule_X4 hown hK hP 0 rfl rfl 0 (by decide) (hts _ qX4_rule_1) (fun _ h9 => h9) rfl dX4_rule_32 ?_
    refine lv_iconst (v := (1 : Int32)) hx hb dX4_rule_35 (by decide) ?_
    refine lv_iload_n hx hb dX4_rule_36 rfl (lv_at hl 2 rfl) ?_
    refine tw_iast (ws' := (tw_wM cI ma ((upd r21.1 (1 : Int32).toNatClampNeg p1), r21.2.1, r21.2.2.1, r21.2.2.2.1, r21.2.2.2.2.1, r21.2.2.2.2.2.1, r21.2.2.2.2.2.2.1, r21.2.2.2.2.2.2.2.1, r21.2.2.2.2.2.2.2.2.1, r21.2.2.2.2.2.2.2.2.2.1, r21.2.2.2.2.2.2.2.2.2.2.1, r21.2.2.2.2.2.2.2.2.2.2.2.1, r21.2.2.2.2.2.2.2.2.2.2.2.2))) (f := r21.1) (n := 70) hx hb hK hP hD hS 1 0 rfl rfl (tw_vin (by decide)) dX4_rule_37 rfl (fun H locs hP hD hS => ?_)
    refine lv_iload_n hx hb dX4_rule_38 rfl (lv_at hl 0 rfl) ?_
    exact hq H locs _ ls (r21.1 (1 : Int32).toNatClampNeg) (tw_rt (fun r => r.1 = (r21.1 (1 : Int32).toNatClampNeg)) h rfl) rfl (tw_rt (fun r => va_P G vwCl (tw_wM cI ma r.2) H) h hP) hS dX4_rule_39
  · replace h := tw_fn c11 h
    refine lv_aload_n hx hb dX4_rule_14 rfl (lv_at hl 0 rfl) ?_
    refine lv_iconst (v := (1 : Int32)) hx hb dX4_rule_15 (by decide) ?_
    obtain ⟨r16, e16, h⟩ := tw_bs h
    refine tw_callViF (ws' := (tw_wM cI ma r16.2)) (As := [.int (1 : Int32)]) (rest := []) F hN hK hP hD hS hA (mX4_fails l G cI ma (M.1, M.2.1, M.2.2.1, M.2.2.2.1, M.2.2.2.2.1, M.2.2.2.2.2.1, (0 : Int32), M.2.2.2.2.2.2.2.1, M.2.2.2.2.2.2.2.2.1, M.2.2.2.2.2.2.2.2.2.1, M.2.2.2.2.2.2.2.2.2.2.1, M.2.2.2.2.2.2.2.2.2.2.2.1, M.2.2.2.2.2.2.2.2.2.2.2.2) H.size (1 : Int32) e16) (cwV 1 hts gX4_rule_X4_fails rfl rfl rfl (by decide +kernel) ⟨(Nat.le_of_ble_eq_true rfl), (Nat.le_of_ble_eq_true rfl)⟩) rfl (r0 := 0) (ci := 4) rfl rfl rfl rfl hl.1 rfl (Nat.le_of_ble_eq_true rfl) dX4_rule_16 ⟨Nat.zero_le _, Nat.zero_le _⟩ (fun H locs hP hD hS => ?_)
    exact hq H locs _ ls r16.1 (tw_rt (fun r => r.1 = r16.1) h rfl) rfl (tw_rt (fun r => va_P G vwCl (tw_wM cI ma r.2) H) h hP) hS dX4_rule_19
abbrev rmX4_append : Room := { frames := 1, cells := 0, slots := 0, locals := 22 }
set_option maxRecDepth 20000 in
theorem qX4_append_0 : (Cond.fieldLink RX4 31 "TheatreWallModel" "thrown" "I") ∈ wsX4_append := (List.mem_cons_of_mem _ (List.mem_append_left _ (List.mem_of_getElem? (i := 0) rfl)))
set_option maxRecDepth 20000 in
theorem qX4_append_1 : (Cond.fieldLink RX4 113 "TheatreWallModel" "typed" "I") ∈ wsX4_append := (List.mem_cons_of_mem _ (List.mem_append_left _ (List.mem_of_getElem? (i := 1) rfl)))
set_option maxRecDepth 20000 in
theorem qX4_append_2 : (Cond.fieldLink RX4 19 "TheatreWallModel" "text" "[I") ∈ wsX4_append := (List.mem_cons_of_mem _ (List.mem_append_left _ (List.mem_of_getElem? (i := 2) rfl)))
set_option maxRecDepth 20000 in
theorem iX4_append_X4 : ∀ w ∈ u_ws RX4 TX4 13, w ∈ wsX4_append := fun w h => (List.mem_cons_of_mem _ (List.mem_append_right _ h))
set_option maxHeartbeats 4000000 in
set_option maxRecDepth 100000 in
theorem mX4_append (l : Launch) (G : va_G) (cI : ClassId) (ma : Nat → Nat) (M : tw_Md) (sz : Nat) (p1 : Int32) {rv : Int32 × tw_Md} (h : fX4_append M p1 = some rv) : tw_Mi l yX4_append wsX4_append rmX4_append G [(cI, .int)] (tw_wM cI ma M) [.ref (ma 0), .int p1] sz rv.1 (tw_wM cI ma rv.2) := by
  refine tw_ofi (ty := .int) (cc := cX4_append) (maxL := 2) (own := RX4) (by decide) rfl rfl (Nat.le_of_ble_eq_true rfl) ?_
  intro p e s m args below meth c Q A ls H locs F hN hK hP hD hS hA hl hq
  obtain ⟨hx, hb, hml, hown, hts⟩ := id F
  have hl : lv_has ls 2 [(0, .ref (ma 0)), (1, .int p1)] := hl
  unfold fX4_append at h
  refine lv_aload_n hx hb dX4_append_0 rfl (lv_at hl 0 rfl) ?_
  refine lv_iconst (v := (0 : Int32)) hx hb dX4_append_1 (by decide) ?_
  refine tw_put (ws' := (tw_wM cI ma (M.1, M.2.1, M.2.2.1, M.2.2.2.1, M.2.2.2.2.1, M.2.2.2.2.2.1, (0 : Int32), M.2.2.2.2.2.2.2.1, M.2.2.2.2.2.2.2.2.1, M.2.2.2.2.2.2.2.2.2.1, M.2.2.2.2.2.2.2.2.2.2.1, M.2.2.2.2.2.2.2.2.2.2.2.1, M.2.2.2.2.2.2.2.2.2.2.2.2))) (D := G) (ci := 4) (v := .int (0 : Int32)) (ty := .int) (C := RX4) (T := TX4) (N := 13) hx hb hts iX4_append_X4 tyX4 tyX4_ok nmX4 hown hK hP hD hS 0 rfl rfl 6 (by decide) (hts _ qX4_append_0) (fun _ h9 => h9) rfl (by decide +kernel) rfl rfl (Nat.le_of_ble_eq_true rfl) dX4_append_2 rfl (fun H locs hP hD hS => ?_)
  refine lv_iload_n hx hb dX4_append_5 rfl (lv_at hl 1 rfl) ?_
  refine lv_bipush (v := (33 : Int32)) hx hb dX4_append_6 (by decide) ?_
  refine lv_bipush (v := (126 : Int32)) hx hb dX4_append_8 (by decide) ?_
  obtain ⟨r10, e10, h⟩ := tw_bs h
  refine tw_callSi (ws' := (tw_wM cI ma (M.1, M.2.1, M.2.2.1, M.2.2.2.1, M.2.2.2.2.1, M.2.2.2.2.2.1, (0 : Int32), M.2.2.2.2.2.2.2.1, M.2.2.2.2.2.2.2.2.1, M.2.2.2.2.2.2.2.2.2.1, M.2.2.2.2.2.2.2.2.2.2.1, M.2.2.2.2.2.2.2.2.2.2.2.1, M.2.2.2.2.2.2.2.2.2.2.2.2))) (As := [.int p1, .int (33 : Int32), .int (126 : Int32)]) (rest := []) F hN hK hP hD hS hA (mX4_in l G cI H.size p1 (33 : Int32) (126 : Int32) e10) (va_cwS 3 hts gX4_append_X4_in rfl rfl rfl (by decide +kernel) ⟨(Nat.le_of_ble_eq_true rfl), (Nat.le_of_ble_eq_true rfl)⟩) [0] rfl [] (by decide) rfl rfl rfl rfl hl.1 rfl (Nat.le_of_ble_eq_true rfl) dX4_append_10 ⟨Nat.zero_le _, Nat.zero_le _⟩ (fun H locs hP hD hS => ?_)
  refine lv_if_ne (tgt := 22) hx hb dX4_append_13 (by decide) (fun c13 => ?_) (fun c13 => ?_)
  · replace h := tw_t c13 h
    refine lv_aload_n hx hb dX4_append_22 rfl (lv_at hl 0 rfl) ?_
    refine va_get (D := G) (ci := 4) (v := .int M.2.2.2.2.2.1) (C := RX4) (T := TX4) (N := 13) hx hb hts iX4_append_X4 hown hK hP 0 rfl rfl 5 (by decide) (hts _ qX4_append_1) (fun _ h9 => h9) rfl dX4_append_23 ?_
    refine lv_bipush (v := (60 : Int32)) hx hb dX4_append_26 (by decide) ?_
    refine lv_icmp_ne (tgt := 37) hx hb dX4_append_28 (by decide) (fun c28 => ?_) (fun c28 => ?_)
    · replace h := tw_t c28 h
      refine lv_aload_n hx hb dX4_append_37 rfl (lv_at hl 0 rfl) ?_
      refine va_get (D := G) (ci := 4) (v := .ref (ma 4)) (C := RX4) (T := TX4) (N := 13) hx hb hts iX4_append_X4 hown hK hP 0 rfl rfl 4 (by decide) (hts _ qX4_append_2) (fun _ h9 => h9) rfl dX4_append_38 ?_
      refine lv_aload_n hx hb dX4_append_41 rfl (lv_at hl 0 rfl) ?_
      refine va_get (D := G) (ci := 4) (v := .int M.2.2.2.2.2.1) (C := RX4) (T := TX4) (N := 13) hx hb hts iX4_append_X4 hown hK hP 0 rfl rfl 5 (by decide) (hts _ qX4_append_1) (fun _ h9 => h9) rfl dX4_append_42 ?_
      refine lv_iload_n hx hb dX4_append_45 rfl (lv_at hl 1 rfl) ?_
      obtain ⟨g46, h⟩ := tw_gs h
      refine tw_iast (ws' := (tw_wM cI ma (M.1, M.2.1, M.2.2.1, M.2.2.2.1, (upd M.2.2.2.2.1 M.2.2.2.2.2.1.toNatClampNeg p1), M.2.2.2.2.2.1, (0 : Int32), M.2.2.2.2.2.2.2.1, M.2.2.2.2.2.2.2.2.1, M.2.2.2.2.2.2.2.2.2.1, M.2.2.2.2.2.2.2.2.2.2.1, M.2.2.2.2.2.2.2.2.2.2.2.1, M.2.2.2.2.2.2.2.2.2.2.2.2))) (f := M.2.2.2.2.1) (n := 60) hx hb hK hP hD hS 4 0 rfl rfl g46 dX4_append_46 rfl (fun H locs hP hD hS => ?_)
      refine lv_aload_n hx hb dX4_append_47 rfl (lv_at hl 0 rfl) ?_
      refine lv_dup hx hb dX4_append_48 rfl ?_
      refine va_get (D := G) (ci := 4) (v := .int M.2.2.2.2.2.1) (C := RX4) (T := TX4) (N := 13) hx hb hts iX4_append_X4 hown hK hP 0 rfl rfl 5 (by decide) (hts _ qX4_append_1) (fun _ h9 => h9) rfl dX4_append_49 ?_
      refine lv_iconst (v := (1 : Int32)) hx hb dX4_append_52 (by decide) ?_
      refine lv_iadd hx hb dX4_append_53 ?_
      refine tw_put (ws' := (tw_wM cI ma (M.1, M.2.1, M.2.2.1, M.2.2.2.1, (upd M.2.2.2.2.1 M.2.2.2.2.2.1.toNatClampNeg p1), (M.2.2.2.2.2.1 + (1 : Int32)), (0 : Int32), M.2.2.2.2.2.2.2.1, M.2.2.2.2.2.2.2.2.1, M.2.2.2.2.2.2.2.2.2.1, M.2.2.2.2.2.2.2.2.2.2.1, M.2.2.2.2.2.2.2.2.2.2.2.1, M.2.2.2.2.2.2.2.2.2.2.2.2))) (D := G) (ci := 4) (v := .int (M.2.2.2.2.2.1 + (1 : Int32))) (ty := .int) (C := RX4) (T := TX4) (N := 13) hx hb hts iX4_append_X4 tyX4 tyX4_ok nmX4 hown hK hP hD hS 0 rfl rfl 5 (by decide) (hts _ qX4_append_1) (fun _ h9 => h9) rfl (by decide +kernel) rfl rfl (Nat.le_of_ble_eq_true rfl) dX4_append_54 rfl (fun H locs hP hD hS => ?_)
      refine lv_aload_n hx hb dX4_append_57 rfl (lv_at hl 0 rfl) ?_
      refine va_get (D := G) (ci := 4) (v := .int (M.2.2.2.2.2.1 + (1 : Int32))) (C := RX4) (T := TX4) (N := 13) hx hb hts iX4_append_X4 hown hK hP 0 rfl rfl 5 (by decide) (hts _ qX4_append_1) (fun _ h9 => h9) rfl dX4_append_58 ?_
      exact hq H locs _ ls (M.2.2.2.2.2.1 + (1 : Int32)) (tw_rt (fun r => r.1 = (M.2.2.2.2.2.1 + (1 : Int32))) h rfl) rfl (tw_rt (fun r => va_P G vwCl (tw_wM cI ma r.2) H) h hP) hS dX4_append_61
    · replace h := tw_fn c28 h
      refine lv_aload_n hx hb dX4_append_31 rfl (lv_at hl 0 rfl) ?_
      refine lv_iconst (v := (2 : Int32)) hx hb dX4_append_32 (by decide) ?_
      obtain ⟨r33, e33, h⟩ := tw_bs h
      refine tw_callViF (ws' := (tw_wM cI ma r33.2)) (As := [.int (2 : Int32)]) (rest := []) F hN hK hP hD hS hA (mX4_fails l G cI ma (M.1, M.2.1, M.2.2.1, M.2.2.2.1, M.2.2.2.2.1, M.2.2.2.2.2.1, (0 : Int32), M.2.2.2.2.2.2.2.1, M.2.2.2.2.2.2.2.2.1, M.2.2.2.2.2.2.2.2.2.1, M.2.2.2.2.2.2.2.2.2.2.1, M.2.2.2.2.2.2.2.2.2.2.2.1, M.2.2.2.2.2.2.2.2.2.2.2.2) H.size (2 : Int32) e33) (cwV 1 hts gX4_append_X4_fails rfl rfl rfl (by decide +kernel) ⟨(Nat.le_of_ble_eq_true rfl), (Nat.le_of_ble_eq_true rfl)⟩) rfl (r0 := 0) (ci := 4) rfl rfl rfl rfl hl.1 rfl (Nat.le_of_ble_eq_true rfl) dX4_append_33 ⟨Nat.zero_le _, Nat.zero_le _⟩ (fun H locs hP hD hS => ?_)
      exact hq H locs _ ls r33.1 (tw_rt (fun r => r.1 = r33.1) h rfl) rfl (tw_rt (fun r => va_P G vwCl (tw_wM cI ma r.2) H) h hP) hS dX4_append_36
  · replace h := tw_fn c13 h
    refine lv_aload_n hx hb dX4_append_16 rfl (lv_at hl 0 rfl) ?_
    refine lv_iconst (v := (1 : Int32)) hx hb dX4_append_17 (by decide) ?_
    obtain ⟨r18, e18, h⟩ := tw_bs h
    refine tw_callViF (ws' := (tw_wM cI ma r18.2)) (As := [.int (1 : Int32)]) (rest := []) F hN hK hP hD hS hA (mX4_fails l G cI ma (M.1, M.2.1, M.2.2.1, M.2.2.2.1, M.2.2.2.2.1, M.2.2.2.2.2.1, (0 : Int32), M.2.2.2.2.2.2.2.1, M.2.2.2.2.2.2.2.2.1, M.2.2.2.2.2.2.2.2.2.1, M.2.2.2.2.2.2.2.2.2.2.1, M.2.2.2.2.2.2.2.2.2.2.2.1, M.2.2.2.2.2.2.2.2.2.2.2.2) H.size (1 : Int32) e18) (cwV 1 hts gX4_append_X4_fails rfl rfl rfl (by decide +kernel) ⟨(Nat.le_of_ble_eq_true rfl), (Nat.le_of_ble_eq_true rfl)⟩) rfl (r0 := 0) (ci := 4) rfl rfl rfl rfl hl.1 rfl (Nat.le_of_ble_eq_true rfl) dX4_append_18 ⟨Nat.zero_le _, Nat.zero_le _⟩ (fun H locs hP hD hS => ?_)
    exact hq H locs _ ls r18.1 (tw_rt (fun r => r.1 = r18.1) h rfl) rfl (tw_rt (fun r => va_P G vwCl (tw_wM cI ma r.2) H) h hP) hS dX4_append_21
abbrev rmX4_clearBuffer : Room := { frames := 0, cells := 0, slots := 0, locals := 0 }
set_option maxRecDepth 20000 in
theorem qX4_clearBuffer_0 : (Cond.fieldLink RX4 31 "TheatreWallModel" "thrown" "I") ∈ wsX4_clearBuffer := (List.mem_cons_of_mem _ (List.mem_append_left _ (List.mem_of_getElem? (i := 0) rfl)))
set_option maxRecDepth 20000 in
theorem qX4_clearBuffer_1 : (Cond.fieldLink RX4 113 "TheatreWallModel" "typed" "I") ∈ wsX4_clearBuffer := (List.mem_cons_of_mem _ (List.mem_append_left _ (List.mem_of_getElem? (i := 1) rfl)))
set_option maxRecDepth 20000 in
theorem iX4_clearBuffer_X4 : ∀ w ∈ u_ws RX4 TX4 13, w ∈ wsX4_clearBuffer := fun w h => (List.mem_cons_of_mem _ (List.mem_append_right _ h))
set_option maxHeartbeats 4000000 in
set_option maxRecDepth 100000 in
theorem mX4_clearBuffer (l : Launch) (G : va_G) (cI : ClassId) (ma : Nat → Nat) (M : tw_Md) (sz : Nat)  {rv : Int32 × tw_Md} (h : fX4_clearBuffer M = some rv) : tw_Mi l yX4_clearBuffer wsX4_clearBuffer rmX4_clearBuffer G [(cI, .int)] (tw_wM cI ma M) [.ref (ma 0)] sz rv.1 (tw_wM cI ma rv.2) := by
  refine tw_ofi (ty := .int) (cc := cX4_clearBuffer) (maxL := 2) (own := RX4) (by decide) rfl rfl (Nat.le_of_ble_eq_true rfl) ?_
  intro p e s m args below meth c Q A ls H locs F hN hK hP hD hS hA hl hq
  obtain ⟨hx, hb, hml, hown, hts⟩ := id F
  have hl : lv_has ls 2 [(0, .ref (ma 0))] := hl
  unfold fX4_clearBuffer at h
  refine lv_aload_n hx hb dX4_clearBuffer_0 rfl (lv_at hl 0 rfl) ?_
  refine lv_iconst (v := (0 : Int32)) hx hb dX4_clearBuffer_1 (by decide) ?_
  refine tw_put (ws' := (tw_wM cI ma (M.1, M.2.1, M.2.2.1, M.2.2.2.1, M.2.2.2.2.1, M.2.2.2.2.2.1, (0 : Int32), M.2.2.2.2.2.2.2.1, M.2.2.2.2.2.2.2.2.1, M.2.2.2.2.2.2.2.2.2.1, M.2.2.2.2.2.2.2.2.2.2.1, M.2.2.2.2.2.2.2.2.2.2.2.1, M.2.2.2.2.2.2.2.2.2.2.2.2))) (D := G) (ci := 4) (v := .int (0 : Int32)) (ty := .int) (C := RX4) (T := TX4) (N := 13) hx hb hts iX4_clearBuffer_X4 tyX4 tyX4_ok nmX4 hown hK hP hD hS 0 rfl rfl 6 (by decide) (hts _ qX4_clearBuffer_0) (fun _ h9 => h9) rfl (by decide +kernel) rfl rfl (Nat.le_of_ble_eq_true rfl) dX4_clearBuffer_2 rfl (fun H locs hP hD hS => ?_)
  refine lv_aload_n hx hb dX4_clearBuffer_5 rfl (lv_at hl 0 rfl) ?_
  refine va_get (D := G) (ci := 4) (v := .int M.2.2.2.2.2.1) (C := RX4) (T := TX4) (N := 13) hx hb hts iX4_clearBuffer_X4 hown hK hP 0 rfl rfl 5 (by decide) (hts _ qX4_clearBuffer_1) (fun _ h9 => h9) rfl dX4_clearBuffer_6 ?_
  refine lv_istore_n (lv' := [(1, .int M.2.2.2.2.2.1), (0, .ref (ma 0))]) hx hb dX4_clearBuffer_9 rfl hl (by decide) rfl (fun ls hl => ?_)
  refine lv_aload_n hx hb dX4_clearBuffer_10 rfl (lv_at hl 1 rfl) ?_
  refine lv_iconst (v := (0 : Int32)) hx hb dX4_clearBuffer_11 (by decide) ?_
  refine tw_put (ws' := (tw_wM cI ma (M.1, M.2.1, M.2.2.1, M.2.2.2.1, M.2.2.2.2.1, (0 : Int32), (0 : Int32), M.2.2.2.2.2.2.2.1, M.2.2.2.2.2.2.2.2.1, M.2.2.2.2.2.2.2.2.2.1, M.2.2.2.2.2.2.2.2.2.2.1, M.2.2.2.2.2.2.2.2.2.2.2.1, M.2.2.2.2.2.2.2.2.2.2.2.2))) (D := G) (ci := 4) (v := .int (0 : Int32)) (ty := .int) (C := RX4) (T := TX4) (N := 13) hx hb hts iX4_clearBuffer_X4 tyX4 tyX4_ok nmX4 hown hK hP hD hS 0 rfl rfl 5 (by decide) (hts _ qX4_clearBuffer_1) (fun _ h9 => h9) rfl (by decide +kernel) rfl rfl (Nat.le_of_ble_eq_true rfl) dX4_clearBuffer_12 rfl (fun H locs hP hD hS => ?_)
  refine lv_iload_n hx hb dX4_clearBuffer_15 rfl (lv_at hl 0 rfl) ?_
  exact hq H locs _ ls M.2.2.2.2.2.1 (tw_rt (fun r => r.1 = M.2.2.2.2.2.1) h rfl) rfl (tw_rt (fun r => va_P G vwCl (tw_wM cI ma r.2) H) h hP) hS dX4_clearBuffer_16
