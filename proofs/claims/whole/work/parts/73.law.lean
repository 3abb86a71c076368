/-! the law's loop -/
set_option maxHeartbeats 4000000 in
set_option maxRecDepth 100000 in
theorem law_loop {p : Program} {l : Launch} {e : Env} {s : State} {m : MethodId} {below : List Frame} {meth : Method} {c : Code} (hst : l.stackTraces = false) {b L : Nat} {xs : Nat → Int32} (hL : L ≤ 2048) (C : lw_L p s m c b L xs) {Q : State → Prop} {G : va_G} {cI cQ cL : ClassId} {a na pa ta qa xa : Nat → Nat} {z : Nat → Nat → Nat} {o : Nat} {ma : Nat → Nat} (hK : va_K G vwCl [(cI, .int), (cQ, .object RX1), (cL, .long)] s)
    (hend : ∀ (H : Heap) (locs : List Loc) (ls : Array Slot), va_S (fun q : Nat => s.heap.size ≤ q) s.heap H locs → W p l e room_1 s m #[Value.ref b] below meth c H locs 601650 7291155 Q (F0 m 1430 ls [.int 1])) : ∀ (n j cells slots : Nat) (Y : tw_Wl) (f : Nat → Int64) (M : tw_Md) (H : Heap) (locs : List Loc) (ls : Array Slot) (x4 : Int32), j + n = 513 → x4 = zi ((4 * j : Nat) : Int) → cells + n ≤ 601650 → slots + 6 * n ≤ 7291155 → sp_I Y M → va_P G vwCl (tw_LW cI cQ cL a na pa ta qa xa z o ma Y f M) H → va_D (fun q : Nat => s.heap.size ≤ q) (tw_LW cI cQ cL a na pa ta qa xa z o ma Y f M) → va_S (fun q : Nat => s.heap.size ≤ q) s.heap H locs → lv_has ls 9 [(0, .ref b), (1, .ref (a 0)), (2, .ref (ma 0)), (3, .ref o), (4, .int x4)] → W p l e room_1 s m #[Value.ref b] below meth c H locs cells slots Q (F0 m 23 ls []) := by
  obtain ⟨hx, hb, hml, hown, hts, hX, hbl, hN, hNX, hNC, hU, hZ⟩ := id C
  have hbA : ¬ (fun q : Nat => s.heap.size ≤ q) b := Nat.not_le.mpr hbl
  intro n
  induction n with
  | zero =>
    intro j cells slots Y f M H locs ls x4 hj hx4 hc1 hc2 hI hP hD hS hl
    refine lv_iload hx hb dL_law_23 (lv_at hl 4 rfl) ?_
    refine lv_aload_n hx hb dL_law_25 rfl (lv_at hl 0 rfl) ?_
    refine va_slen hx hb hX hbl hbA hS dL_law_26 ?_
    refine lv_iconst (v := (4 : Int32)) hx hb dL_law_27 (by decide) ?_
    refine lv_isub hx hb dL_law_28 ?_
    refine lv_icmp_gt (tgt := 1429) hx hb dL_law_29 (by decide) (fun _ => ?_) (fun h => ?_)
    · refine lv_iconst (v := (1 : Int32)) hx hb dL_law_1429 (by decide) ?_
      refine W.widen (k := 601650) (n := 7291155) (by omega) (by omega) ?_
      exact hend H locs ls hS
    · exfalso
      apply h
      rw [hx4, show Int32.ofNat L = zi (L : Int) from (zi_nI L).symm, show (4 : Int32) = zi 4 from rfl, zi_sub, zi_lt (by omega) (by omega) (by omega) (by omega)]
      omega
  | succ n ih =>
    intro j cells slots Y f M H locs ls x4 hj hx4 hc1 hc2 hI hP hD hS hl
    refine lv_iload hx hb dL_law_23 (lv_at hl 4 rfl) ?_
    refine lv_aload_n hx hb dL_law_25 rfl (lv_at hl 0 rfl) ?_
    refine va_slen hx hb hX hbl hbA hS dL_law_26 ?_
    refine lv_iconst (v := (4 : Int32)) hx hb dL_law_27 (by decide) ?_
    refine lv_isub hx hb dL_law_28 ?_
    refine lv_icmp_gt (tgt := 1429) hx hb dL_law_29 (by decide) (fun _ => ?_) (fun h => ?_)
    · refine lv_iconst (v := (1 : Int32)) hx hb dL_law_1429 (by decide) ?_
      refine W.widen (k := 601650) (n := 7291155) (by omega) (by omega) ?_
      exact hend H locs ls hS
    · have h4 : 4 * j + 4 ≤ L := by
        rw [hx4, show Int32.ofNat L = zi (L : Int) from (zi_nI L).symm, show (4 : Int32) = zi 4 from rfl, zi_sub, zi_lt (by omega) (by omega) (by omega) (by omega)] at h
        omega
      have h0 : vp_in x4 L := lw_in0 hx4 hL h4
      have h1 : vp_in (x4 + (1 : Int32)) L := lw_in (k := 1) hx4 (by omega) hL h4
      have h2 : vp_in (x4 + (2 : Int32)) L := lw_in (k := 2) hx4 (by omega) hL h4
      have h3 : vp_in (x4 + (3 : Int32)) L := lw_in (k := 3) hx4 (by omega) hL h4
      have hcs : cells + 1 ≤ 601650 ∧ slots + 6 ≤ 7291155 := ⟨by omega, by omega⟩
      have kk : lw_K p l e s m below meth c b Q G cI cQ cL a na pa ta qa xa z o ma x4 (cells + 1) (slots + 6) := by
        intro Y f M H locs ls hI hP hD hS hl
        obtain ⟨x5, hx5⟩ : ∃ x5 : Int32, x5 = zi ((4 * (j + 1) : Nat) : Int) := ⟨_, rfl⟩
        refine lv_iinc (v := x5) (lv' := [(4, .int x5), (0, .ref b), (1, .ref (a 0)), (2, .ref (ma 0)), (3, .ref o)]) hx hb dL_law_1423 hl (k := 4) rfl (by rw [hx5, hx4]; exact (zi_add _ 4).trans (congrArg zi (by omega))) (by decide) rfl (fun ls hl => ?_)
        refine lv_goto (tgt := 23) hx hb dL_law_1426 (by decide) ?_
        exact ih (j + 1) (cells + 1) (slots + 6) Y f M H locs ls x5 (by omega) hx5 (by omega) (by omega) hI hP hD hS (lv_sub hl [1, 2, 3, 4, 0] rfl)
      refine lv_aload_n hx hb dL_law_32 rfl (lv_at hl 0 rfl) ?_
      refine lv_iload hx hb dL_law_33 (lv_at hl 4 rfl) ?_
      refine va_sld hx hb hX hbl hbA hS h0 dL_law_35 ?_
      refine lv_bipush (v := (31 : Int32)) hx hb dL_law_36 (by decide) ?_
      refine lv_iand hx hb dL_law_38 ?_
      obtain ⟨v, hv⟩ : ∃ v : Int32, v = xs x4.toNatClampNeg &&& (31 : Int32) := ⟨_, rfl⟩
      rw [← hv]
      by_cases c0 : v = 0
      · refine tw_tab (v := 0) (tgt := 148) hx hb dL_law_39 c0 (by decide) (by decide) rfl (by decide) ?_
        exact lc_add hst C h1 h2 h3 hI hK hP hD hS hl hcs kk
      by_cases c1 : v = 1
      · refine tw_tab (v := 1) (tgt := 228) hx hb dL_law_39 c1 (by decide) (by decide) rfl (by decide) ?_
        exact lc_remove hst C h1 h2 h3 hI hK hP hD hS hl hcs kk
      by_cases c2 : v = 2
      · refine tw_tab (v := 2) (tgt := 284) hx hb dL_law_39 c2 (by decide) (by decide) rfl (by decide) ?_
        exact lc_need hst C h1 h2 h3 hI hK hP hD hS hl hcs kk
      by_cases c3 : v = 3
      · refine tw_tab (v := 3) (tgt := 380) hx hb dL_law_39 c3 (by decide) (by decide) rfl (by decide) ?_
        exact lc_change hst C h1 h2 h3 hI hK hP hD hS hl hcs kk
      by_cases c4 : v = 4
      · refine tw_tab (v := 4) (tgt := 460) hx hb dL_law_39 c4 (by decide) (by decide) rfl (by decide) ?_
        exact lc_slip hst C h1 h2 h3 hI hK hP hD hS hl hcs kk
      by_cases c5 : v = 5
      · refine tw_tab (v := 5) (tgt := 528) hx hb dL_law_39 c5 (by decide) (by decide) rfl (by decide) ?_
        exact lc_borrow hst C h1 h2 h3 hI hK hP hD hS hl hcs kk
      by_cases c6 : v = 6
      · refine tw_tab (v := 6) (tgt := 608) hx hb dL_law_39 c6 (by decide) (by decide) rfl (by decide) ?_
        exact lc_rule hst C h1 h2 h3 hI hK hP hD hS hl hcs kk
      by_cases c7 : v = 7
      · refine tw_tab (v := 7) (tgt := 664) hx hb dL_law_39 c7 (by decide) (by decide) rfl (by decide) ?_
        exact lc_append hst C h1 h2 h3 hI hK hP hD hS hl hcs kk
      by_cases c8 : v = 8
      · refine tw_tab (v := 8) (tgt := 720) hx hb dL_law_39 c8 (by decide) (by decide) rfl (by decide) ?_
        exact lc_clearBuffer hst C h1 h2 h3 hI hK hP hD hS hl hcs kk
      by_cases c9 : v = 9
      · refine tw_tab (v := 9) (tgt := 733) hx hb dL_law_39 c9 (by decide) (by decide) rfl (by decide) ?_
        exact lc_firstError hst C h1 h2 h3 hI hK hP hD hS hl hcs kk
      by_cases c10 : v = 10
      · refine tw_tab (v := 10) (tgt := 746) hx hb dL_law_39 c10 (by decide) (by decide) rfl (by decide) ?_
        exact lc_addAll hst C h1 h2 h3 hI hK hP hD hS hl hcs kk
      by_cases c11 : v = 11
      · refine tw_tab (v := 11) (tgt := 790) hx hb dL_law_39 c11 (by decide) (by decide) rfl (by decide) ?_
        exact lc_undo hst C h1 h2 h3 hI hK hP hD hS hl hcs kk
      by_cases c12 : v = 12
      · refine tw_tab (v := 12) (tgt := 834) hx hb dL_law_39 c12 (by decide) (by decide) rfl (by decide) ?_
        exact lc_task hst C h1 h2 h3 hI hK hP hD hS hl hcs kk
      by_cases c13 : v = 13
      · refine tw_tab (v := 13) (tgt := 902) hx hb dL_law_39 c13 (by decide) (by decide) rfl (by decide) ?_
        exact lc_personOn hst C h1 h2 h3 hI hK hP hD hS hl hcs kk
      by_cases c14 : v = 14
      · refine tw_tab (v := 14) (tgt := 970) hx hb dL_law_39 c14 (by decide) (by decide) rfl (by decide) ?_
        exact lc_hallOn hst C h1 h2 h3 hI hK hP hD hS hl hcs kk
      by_cases c15 : v = 15
      · refine tw_tab (v := 15) (tgt := 1038) hx hb dL_law_39 c15 (by decide) (by decide) rfl (by decide) ?_
        exact lc_hall hst C h1 h2 h3 hI hK hP hD hS hl hcs kk
      by_cases c16 : v = 16
      · refine tw_tab (v := 16) (tgt := 1106) hx hb dL_law_39 c16 (by decide) (by decide) rfl (by decide) ?_
        exact lc_count hst C h1 h2 h3 hI hK hP hD hS hl hcs kk
      by_cases c17 : v = 17
      · refine tw_tab (v := 17) (tgt := 1162) hx hb dL_law_39 c17 (by decide) (by decide) rfl (by decide) ?_
        exact lc_setting hst C h1 h2 h3 hI hK hP hD hS hl hcs kk
      by_cases c18 : v = 18
      · refine tw_tab (v := 18) (tgt := 1175) hx hb dL_law_39 c18 (by decide) (by decide) rfl (by decide) ?_
        exact lc_ifRule hst C h1 h2 h3 hI hK hP hD hS hl hcs kk
      by_cases c19 : v = 19
      · refine tw_tab (v := 19) (tgt := 1243) hx hb dL_law_39 c19 (by decide) (by decide) rfl (by decide) ?_
        exact lc_bestRule hst C h1 h2 h3 hI hK hP hD hS hl hcs kk
      by_cases c20 : v = 20
      · refine tw_tab (v := 20) (tgt := 1256) hx hb dL_law_39 c20 (by decide) (by decide) rfl (by decide) ?_
        exact lc_ifFreed hst C h1 h2 h3 hI hK hP hD hS hl hcs kk
      by_cases c21 : v = 21
      · refine tw_tab (v := 21) (tgt := 1312) hx hb dL_law_39 c21 (by decide) (by decide) rfl (by decide) ?_
        exact lc_worstSlip hst C h1 h2 h3 hI hK hP hD hS hl hcs kk
      by_cases c22 : v = 22
      · refine tw_tab (v := 22) (tgt := 1368) hx hb dL_law_39 c22 (by decide) (by decide) rfl (by decide) ?_
        exact lc_busyness hst C h1 h2 h3 hI hK hP hD hS hl hcs kk
      by_cases c23 : v = 23
      · refine tw_tab (v := 23) (tgt := 1409) hx hb dL_law_39 c23 (by decide) (by decide) rfl (by decide) ?_
        exact lc_digest hst C h1 h2 h3 hI hK hP hD hS hl hcs kk
      have z0 := lv_neT c0 (a := 0) rfl
      have z1 := lv_neT c1 (a := 1) rfl
      have z2 := lv_neT c2 (a := 2) rfl
      have z3 := lv_neT c3 (a := 3) rfl
      have z4 := lv_neT c4 (a := 4) rfl
      have z5 := lv_neT c5 (a := 5) rfl
      have z6 := lv_neT c6 (a := 6) rfl
      have z7 := lv_neT c7 (a := 7) rfl
      have z8 := lv_neT c8 (a := 8) rfl
      have z9 := lv_neT c9 (a := 9) rfl
      have z10 := lv_neT c10 (a := 10) rfl
      have z11 := lv_neT c11 (a := 11) rfl
      have z12 := lv_neT c12 (a := 12) rfl
      have z13 := lv_neT c13 (a := 13) rfl
      have z14 := lv_neT c14 (a := 14) rfl
      have z15 := lv_neT c15 (a := 15) rfl
      have z16 := lv_neT c16 (a := 16) rfl
      have z17 := lv_neT c17 (a := 17) rfl
      have z18 := lv_neT c18 (a := 18) rfl
      have z19 := lv_neT c19 (a := 19) rfl
      have z20 := lv_neT c20 (a := 20) rfl
      have z21 := lv_neT c21 (a := 21) rfl
      have z22 := lv_neT c22 (a := 22) rfl
      have z23 := lv_neT c23 (a := 23) rfl
      refine lv_tableOut (tgt := 1423) hx hb dL_law_39 (by omega) (by decide) ?_
      refine W.widen (k := cells + 1) (n := slots + 6) (Nat.le_succ _) (Nat.le_add_right _ 6) ?_
      exact kk Y f M H locs ls hI hP hD hS hl
