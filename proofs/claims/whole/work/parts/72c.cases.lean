/-! the law, case by case -/
set_option maxHeartbeats 4000000 in
set_option maxRecDepth 100000 in
theorem lc_task {p : Program} {l : Launch} {e : Env} {s : State} {m : MethodId} {below : List Frame} {meth : Method} {c : Code} (hst : l.stackTraces = false) {b L : Nat} {xs : Nat → Int32} (C : lw_L p s m c b L xs) {Q : State → Prop} {G : va_G} {cI cQ cL : ClassId} {a na pa ta qa xa : Nat → Nat} {z : Nat → Nat → Nat} {o : Nat} {ma : Nat → Nat} {Y : tw_Wl} {f : Nat → Int64} {M : tw_Md} {H : Heap} {locs : List Loc} {cells slots : Nat} {ls : Array Slot} {x4 : Int32} (h1 : vp_in (x4 + (1 : Int32)) L) (h2 : vp_in (x4 + (2 : Int32)) L) (h3 : vp_in (x4 + (3 : Int32)) L) (hI : sp_I Y M) (hK : va_K G vwCl [(cI, .int), (cQ, .object RX1), (cL, .long)] s) (hP : va_P G vwCl (tw_LW cI cQ cL a na pa ta qa xa z o ma Y f M) H) (hD : va_D (fun q : Nat => s.heap.size ≤ q) (tw_LW cI cQ cL a na pa ta qa xa z o ma Y f M)) (hS : va_S (fun q : Nat => s.heap.size ≤ q) s.heap H locs) (hl : lv_has ls 9 [(0, .ref b), (1, .ref (a 0)), (2, .ref (ma 0)), (3, .ref o), (4, .int x4)]) (hcs : cells + 1 ≤ 601650 ∧ slots + 6 ≤ 7291155) (kk : lw_K p l e s m below meth c b Q G cI cQ cL a na pa ta qa xa z o ma x4 (cells + 1) (slots + 6)) : W p l e room_1 s m #[Value.ref b] below meth c H locs cells slots Q (F0 m 834 ls []) := by
  obtain ⟨hx, hb, hml, hown, hts, hX, hbl, hN, hNX, hNC, hU, hZ⟩ := id C
  have F : CallFix p m c cL_law 9 s #[Value.ref b] wsL_law RL := ⟨hx, hb, hml, hown, hts⟩
  have hA : ∀ q : Nat, s.heap.size ≤ q → (fun q : Nat => s.heap.size ≤ q) q := fun _ h => h
  have hbA : ¬ (fun q : Nat => s.heap.size ≤ q) b := Nat.not_le.mpr hbl
  unfold tw_LW at hP hD
  refine lv_aload_n hx hb dL_law_834 rfl (lv_at hl 1 rfl) ?_
  refine lv_aload_n hx hb dL_law_835 rfl (lv_at hl 0 rfl) ?_
  refine lv_iload hx hb dL_law_836 (lv_at hl 4 rfl) ?_
  refine lv_iconst (v := (1 : Int32)) hx hb dL_law_838 (by decide) ?_
  refine lv_iadd hx hb dL_law_839 ?_
  refine va_sld hx hb hX hbl hbA hS h1 dL_law_840 ?_
  refine lv_aload_n hx hb dL_law_841 rfl (lv_at hl 0 rfl) ?_
  refine lv_iload hx hb dL_law_842 (lv_at hl 4 rfl) ?_
  refine lv_iconst (v := (2 : Int32)) hx hb dL_law_844 (by decide) ?_
  refine lv_iadd hx hb dL_law_845 ?_
  refine va_sld hx hb hX hbl hbA hS h2 dL_law_846 ?_
  refine lv_aload_n hx hb dL_law_847 rfl (lv_at hl 3 rfl) ?_
  obtain ⟨kc, r, Y2, rb, M2, o1, o2, hI2, o3, o4, o5, o6⟩ := sp_A_t (op_task hI (xs (x4 + (1 : Int32)).toNatClampNeg) (xs (x4 + (2 : Int32)).toNatClampNeg))
  have hkc : kc = 0 ∨ kc = 1 ∨ kc = 3 := by
    rcases o3 with h | ⟨h, h9⟩ | ⟨h, h9⟩ | ⟨h, h9⟩
    · exact Or.inl h
    · exact Or.inr (Or.inl h)
    · exact absurd rfl h9
    · exact Or.inr (Or.inr h)
  refine lw_callH (w1' := tw_wW cI cQ a na pa ta qa xa z Y2 ++ ([(o, .inl (cL, 1, .inr (.inl (if kc = 0 then vp_updL f 0 (r).toInt64 else f))))] : va_W)) F hN hK hP hD hS hA hNX hNC hU hZ (hL_task l hst G cI cQ cL a na pa ta qa xa z o Y f H.size (xs (x4 + (1 : Int32)).toNatClampNeg) (xs (x4 + (2 : Int32)).toNatClampNeg) o1 hkc) (vx_cwSW 4 hts gL_law_L_task rfl rfl rfl (by decide +kernel) ⟨Nat.le_of_ble_eq_true rfl, Nat.le_of_ble_eq_true rfl⟩) [0, 1, 2] rfl lw_fO (As := [.ref (a 0), .int (xs (x4 + (1 : Int32)).toNatClampNeg), .int (xs (x4 + (2 : Int32)).toNatClampNeg), .ref o]) (rest := []) rfl hl.1 rfl (Nat.le_of_ble_eq_true rfl) dL_law_848 hcs (fun H locs hP hD hS => ?_)
  refine lv_istore (lv' := [(5, .int (tw_hk 2 0 1 kc)), (0, .ref b), (1, .ref (a 0)), (2, .ref (ma 0)), (3, .ref o), (4, .int x4)]) hx hb dL_law_851 hl (by decide) rfl (fun ls hl => ?_)
  refine lv_aload_n hx hb dL_law_853 rfl (lv_at hl 3 rfl) ?_
  refine lv_aload_n hx hb dL_law_854 rfl (lv_at hl 1 rfl) ?_
  refine lv_iload hx hb dL_law_855 (lv_at hl 5 rfl) ?_
  refine lv_iconst (v := (1 : Int32)) hx hb dL_law_857 (by decide) ?_
  refine lv_iadd hx hb dL_law_858 ?_
  refine va_sld hx hb hX hbl hbA hS h1 dL_law_859 ?_
  refine lv_aload_n hx hb dL_law_860 rfl (lv_at hl 1 rfl) ?_
  refine lv_iload hx hb dL_law_861 (lv_at hl 5 rfl) ?_
  refine lv_iconst (v := (2 : Int32)) hx hb dL_law_863 (by decide) ?_
  refine lv_iadd hx hb dL_law_864 ?_
  refine va_sld hx hb hX hbl hbA hS h2 dL_law_865 ?_
  refine tw_callVi (ws' := (tw_wW cI cQ a na pa ta qa xa z Y2 ++ ([(o, .inl (cL, 1, .inr (.inl (if kc = 0 then vp_updL f 0 (r).toInt64 else f))))] : va_W)) ++ tw_wM cI ma M2) F hN hK hP hD hS hA (mX4_task l G cI ma M H.size (xs (x4 + (1 : Int32)).toNatClampNeg) (xs (x4 + (2 : Int32)).toNatClampNeg) o2) (cwV 2 hts gL_law_X4_task rfl rfl rfl (by decide +kernel) ⟨Nat.le_of_ble_eq_true rfl, Nat.le_of_ble_eq_true rfl⟩) [0] rfl ((List.range (tw_wM cI ma M).length).map (fun i => i + (tw_wW cI cQ a na pa ta qa xa z Y2 ++ ([(o, .inl (cL, 1, .inr (.inl (if kc = 0 then vp_updL f 0 (r).toInt64 else f))))] : va_W)).length)) tw_snd tw_sC lw_fM (tw_sM lw_nM) (ci := 4) (r0 := 0) rfl rfl rfl (As := [.int (xs (x4 + (1 : Int32)).toNatClampNeg), .int (xs (x4 + (2 : Int32)).toNatClampNeg)]) (rest := []) rfl hl.1 rfl (Nat.le_of_ble_eq_true rfl) dL_law_866 hcs (fun H locs hP hD hS => ?_)
  refine lv_istore (lv' := [(6, .int rb), (5, .int (tw_hk 2 0 1 kc)), (0, .ref b), (1, .ref (a 0)), (2, .ref (ma 0)), (3, .ref o), (4, .int x4)]) hx hb dL_law_869 hl (by decide) rfl (fun ls hl => ?_)
  refine lv_aload_n hx hb dL_law_871 rfl (lv_at hl 4 rfl) ?_
  refine tw_callVi (rv := M2.2.2.2.2.2.2.1) (ws' := (tw_wW cI cQ a na pa ta qa xa z Y2 ++ ([(o, .inl (cL, 1, .inr (.inl (if kc = 0 then vp_updL f 0 (r).toInt64 else f))))] : va_W)) ++ (tw_wM cI ma M2)) F hN hK hP hD hS hA (mX4_thrown l G cI ma M2 H.size rfl) (cwV 0 hts gL_law_X4_thrown rfl rfl rfl (by decide +kernel) ⟨Nat.le_of_ble_eq_true rfl, Nat.le_of_ble_eq_true rfl⟩) [0] rfl ((List.range (tw_wM cI ma M2).length).map (fun i => i + (tw_wW cI cQ a na pa ta qa xa z Y2 ++ ([(o, .inl (cL, 1, .inr (.inl (if kc = 0 then vp_updL f 0 (r).toInt64 else f))))] : va_W)).length)) tw_snd tw_sC lw_fM (tw_sM lw_nM) (ci := 4) (r0 := 0) rfl rfl rfl (As := []) (rest := []) rfl hl.1 rfl (Nat.le_of_ble_eq_true rfl) dL_law_872 hcs (fun H locs hP hD hS => ?_)
  refine lv_iload hx hb dL_law_875 (lv_at hl 1 rfl) ?_
  refine lv_icmp_eq (tgt := 882) hx hb dL_law_877 (by decide) (fun _ => ?_) (fun c => absurd o4 c)
  refine lv_iload hx hb dL_law_882 (lv_at hl 1 rfl) ?_
  refine lv_if_ne (tgt := 899) hx hb dL_law_884 (by decide) (fun c5 => ?_) (fun c5 => ?_)
  · refine lv_goto (tgt := 1423) hx hb dL_law_899 (by decide) ?_
    exact kk Y2 (if kc = 0 then vp_updL f 0 (r).toInt64 else f) M2 H locs ls hI2 hP hD hS (lv_sub hl [2, 3, 4, 5, 6] rfl)
  · have hk0 : kc = 0 := Classical.byContradiction (fun q => o6 q c5)
    refine lv_aload_n hx hb dL_law_887 rfl (lv_at hl 5 rfl) ?_
    refine lv_iconst (v := (0 : Int32)) hx hb dL_law_888 (by decide) ?_
    refine va_lald (f := (if kc = 0 then vp_updL f 0 (r).toInt64 else f)) (n := 1) hx hb hK hP (tw_wW cI cQ a na pa ta qa xa z Y2).length 2 (by rw [List.getElem?_append_left (by rw [List.length_append]; exact Nat.lt_succ_self _)]; exact tw_get_l) rfl (i := (0 : Int32)) (tw_vin (by decide)) dL_law_889 ?_
    refine lv_iload hx hb dL_law_890 (lv_at hl 0 rfl) ?_
    refine lv_i2l hx hb dL_law_892 rfl ?_
    refine W.lcmp hx hb dL_law_893 ?_
    have he9 : lg_cmp ((if kc = 0 then vp_updL f 0 (r).toInt64 else f) (0 : Int32).toNatClampNeg) rb.toInt64 = 0 := by
      have : (if kc = 0 then vp_updL f 0 (r).toInt64 else f) (0 : Int32).toNatClampNeg = rb.toInt64 := by
        rw [if_pos hk0, ← o5 hk0]
        rfl
      rw [this]; exact lw_cmp_eq _
    refine lv_if_eq (tgt := 899) hx hb dL_law_894 (by decide) (fun _ => ?_) (fun c => absurd he9 c)
    refine lv_goto (tgt := 1423) hx hb dL_law_899 (by decide) ?_
    exact kk Y2 (if kc = 0 then vp_updL f 0 (r).toInt64 else f) M2 H locs ls hI2 hP hD hS (lv_sub hl [2, 3, 4, 5, 6] rfl)
set_option maxHeartbeats 4000000 in
set_option maxRecDepth 100000 in
theorem lc_personOn {p : Program} {l : Launch} {e : Env} {s : State} {m : MethodId} {below : List Frame} {meth : Method} {c : Code} (hst : l.stackTraces = false) {b L : Nat} {xs : Nat → Int32} (C : lw_L p s m c b L xs) {Q : State → Prop} {G : va_G} {cI cQ cL : ClassId} {a na pa ta qa xa : Nat → Nat} {z : Nat → Nat → Nat} {o : Nat} {ma : Nat → Nat} {Y : tw_Wl} {f : Nat → Int64} {M : tw_Md} {H : Heap} {locs : List Loc} {cells slots : Nat} {ls : Array Slot} {x4 : Int32} (h1 : vp_in (x4 + (1 : Int32)) L) (h2 : vp_in (x4 + (2 : Int32)) L) (h3 : vp_in (x4 + (3 : Int32)) L) (hI : sp_I Y M) (hK : va_K G vwCl [(cI, .int), (cQ, .object RX1), (cL, .long)] s) (hP : va_P G vwCl (tw_LW cI cQ cL a na pa ta qa xa z o ma Y f M) H) (hD : va_D (fun q : Nat => s.heap.size ≤ q) (tw_LW cI cQ cL a na pa ta qa xa z o ma Y f M)) (hS : va_S (fun q : Nat => s.heap.size ≤ q) s.heap H locs) (hl : lv_has ls 9 [(0, .ref b), (1, .ref (a 0)), (2, .ref (ma 0)), (3, .ref o), (4, .int x4)]) (hcs : cells + 1 ≤ 601650 ∧ slots + 6 ≤ 7291155) (kk : lw_K p l e s m below meth c b Q G cI cQ cL a na pa ta qa xa z o ma x4 (cells + 1) (slots + 6)) : W p l e room_1 s m #[Value.ref b] below meth c H locs cells slots Q (F0 m 902 ls []) := by
  obtain ⟨hx, hb, hml, hown, hts, hX, hbl, hN, hNX, hNC, hU, hZ⟩ := id C
  have F : CallFix p m c cL_law 9 s #[Value.ref b] wsL_law RL := ⟨hx, hb, hml, hown, hts⟩
  have hA : ∀ q : Nat, s.heap.size ≤ q → (fun q : Nat => s.heap.size ≤ q) q := fun _ h => h
  have hbA : ¬ (fun q : Nat => s.heap.size ≤ q) b := Nat.not_le.mpr hbl
  unfold tw_LW at hP hD
  refine lv_aload_n hx hb dL_law_902 rfl (lv_at hl 1 rfl) ?_
  refine lv_aload_n hx hb dL_law_903 rfl (lv_at hl 0 rfl) ?_
  refine lv_iload hx hb dL_law_904 (lv_at hl 4 rfl) ?_
  refine lv_iconst (v := (1 : Int32)) hx hb dL_law_906 (by decide) ?_
  refine lv_iadd hx hb dL_law_907 ?_
  refine va_sld hx hb hX hbl hbA hS h1 dL_law_908 ?_
  refine lv_aload_n hx hb dL_law_909 rfl (lv_at hl 0 rfl) ?_
  refine lv_iload hx hb dL_law_910 (lv_at hl 4 rfl) ?_
  refine lv_iconst (v := (2 : Int32)) hx hb dL_law_912 (by decide) ?_
  refine lv_iadd hx hb dL_law_913 ?_
  refine va_sld hx hb hX hbl hbA hS h2 dL_law_914 ?_
  refine lv_aload_n hx hb dL_law_915 rfl (lv_at hl 3 rfl) ?_
  obtain ⟨kc, r, Y2, rb, M2, o1, o2, hI2, o3, o4, o5, o6⟩ := sp_A_t (op_personOn hI (xs (x4 + (1 : Int32)).toNatClampNeg) (xs (x4 + (2 : Int32)).toNatClampNeg))
  obtain ⟨u, o8, o7⟩ : ∃ u, fX3_personOn Y (xs (x4 + (1 : Int32)).toNatClampNeg) (xs (x4 + (2 : Int32)).toNatClampNeg) = some u ∧ (u.1 = kc ∧ u.2 = r ∧ Y = Y2) := by
    cases hu : fX3_personOn Y (xs (x4 + (1 : Int32)).toNatClampNeg) (xs (x4 + (2 : Int32)).toNatClampNeg) with
    | none => rw [hu] at o1; cases o1
    | some u => rw [hu] at o1; cases o1; exact ⟨u, rfl, rfl, rfl, rfl⟩
  obtain ⟨rfl, rfl, rfl⟩ := o7
  have hkc : u.1 = 0 ∨ u.1 = 3 := by
    rcases o3 with h | ⟨h, h9⟩ | ⟨h, h9⟩ | ⟨h, h9⟩
    · exact Or.inl h
    · exact absurd rfl h9
    · exact absurd rfl h9
    · exact Or.inr h
  refine lw_callH (w1' := tw_wW cI cQ a na pa ta qa xa z Y ++ ([(o, .inl (cL, 1, .inr (.inl (if u.1 = 0 then vp_updL f 0 (u.2).toInt64 else f))))] : va_W)) F hN hK hP hD hS hA hNX hNC hU hZ (hL_personOn l hst G cI cQ cL a na pa ta qa xa z o Y f H.size (xs (x4 + (1 : Int32)).toNatClampNeg) (xs (x4 + (2 : Int32)).toNatClampNeg) o8 hkc) (vx_cwSW 4 hts gL_law_L_personOn rfl rfl rfl (by decide +kernel) ⟨Nat.le_of_ble_eq_true rfl, Nat.le_of_ble_eq_true rfl⟩) [0, 1, 2] rfl lw_fO (As := [.ref (a 0), .int (xs (x4 + (1 : Int32)).toNatClampNeg), .int (xs (x4 + (2 : Int32)).toNatClampNeg), .ref o]) (rest := []) rfl hl.1 rfl (Nat.le_of_ble_eq_true rfl) dL_law_916 hcs (fun H locs hP hD hS => ?_)
  refine lv_istore (lv' := [(5, .int (tw_hk 0 0 1 u.1)), (0, .ref b), (1, .ref (a 0)), (2, .ref (ma 0)), (3, .ref o), (4, .int x4)]) hx hb dL_law_919 hl (by decide) rfl (fun ls hl => ?_)
  refine lv_aload_n hx hb dL_law_921 rfl (lv_at hl 3 rfl) ?_
  refine lv_aload_n hx hb dL_law_922 rfl (lv_at hl 1 rfl) ?_
  refine lv_iload hx hb dL_law_923 (lv_at hl 5 rfl) ?_
  refine lv_iconst (v := (1 : Int32)) hx hb dL_law_925 (by decide) ?_
  refine lv_iadd hx hb dL_law_926 ?_
  refine va_sld hx hb hX hbl hbA hS h1 dL_law_927 ?_
  refine lv_aload_n hx hb dL_law_928 rfl (lv_at hl 1 rfl) ?_
  refine lv_iload hx hb dL_law_929 (lv_at hl 5 rfl) ?_
  refine lv_iconst (v := (2 : Int32)) hx hb dL_law_931 (by decide) ?_
  refine lv_iadd hx hb dL_law_932 ?_
  refine va_sld hx hb hX hbl hbA hS h2 dL_law_933 ?_
  refine tw_callVi (ws' := (tw_wW cI cQ a na pa ta qa xa z Y ++ ([(o, .inl (cL, 1, .inr (.inl (if u.1 = 0 then vp_updL f 0 (u.2).toInt64 else f))))] : va_W)) ++ tw_wM cI ma M2) F hN hK hP hD hS hA (mX4_personOn l G cI ma M H.size (xs (x4 + (1 : Int32)).toNatClampNeg) (xs (x4 + (2 : Int32)).toNatClampNeg) o2) (cwV 2 hts gL_law_X4_personOn rfl rfl rfl (by decide +kernel) ⟨Nat.le_of_ble_eq_true rfl, Nat.le_of_ble_eq_true rfl⟩) [0] rfl ((List.range (tw_wM cI ma M).length).map (fun i => i + (tw_wW cI cQ a na pa ta qa xa z Y ++ ([(o, .inl (cL, 1, .inr (.inl (if u.1 = 0 then vp_updL f 0 (u.2).toInt64 else f))))] : va_W)).length)) tw_snd tw_sC lw_fM (tw_sM lw_nM) (ci := 4) (r0 := 0) rfl rfl rfl (As := [.int (xs (x4 + (1 : Int32)).toNatClampNeg), .int (xs (x4 + (2 : Int32)).toNatClampNeg)]) (rest := []) rfl hl.1 rfl (Nat.le_of_ble_eq_true rfl) dL_law_934 hcs (fun H locs hP hD hS => ?_)
  refine lv_istore (lv' := [(6, .int rb), (5, .int (tw_hk 0 0 1 u.1)), (0, .ref b), (1, .ref (a 0)), (2, .ref (ma 0)), (3, .ref o), (4, .int x4)]) hx hb dL_law_937 hl (by decide) rfl (fun ls hl => ?_)
  refine lv_aload_n hx hb dL_law_939 rfl (lv_at hl 4 rfl) ?_
  refine tw_callVi (rv := M2.2.2.2.2.2.2.1) (ws' := (tw_wW cI cQ a na pa ta qa xa z Y ++ ([(o, .inl (cL, 1, .inr (.inl (if u.1 = 0 then vp_updL f 0 (u.2).toInt64 else f))))] : va_W)) ++ (tw_wM cI ma M2)) F hN hK hP hD hS hA (mX4_thrown l G cI ma M2 H.size rfl) (cwV 0 hts gL_law_X4_thrown rfl rfl rfl (by decide +kernel) ⟨Nat.le_of_ble_eq_true rfl, Nat.le_of_ble_eq_true rfl⟩) [0] rfl ((List.range (tw_wM cI ma M2).length).map (fun i => i + (tw_wW cI cQ a na pa ta qa xa z Y ++ ([(o, .inl (cL, 1, .inr (.inl (if u.1 = 0 then vp_updL f 0 (u.2).toInt64 else f))))] : va_W)).length)) tw_snd tw_sC lw_fM (tw_sM lw_nM) (ci := 4) (r0 := 0) rfl rfl rfl (As := []) (rest := []) rfl hl.1 rfl (Nat.le_of_ble_eq_true rfl) dL_law_940 hcs (fun H locs hP hD hS => ?_)
  refine lv_iload hx hb dL_law_943 (lv_at hl 1 rfl) ?_
  refine lv_icmp_eq (tgt := 950) hx hb dL_law_945 (by decide) (fun _ => ?_) (fun c => absurd o4 c)
  refine lv_iload hx hb dL_law_950 (lv_at hl 1 rfl) ?_
  refine lv_if_ne (tgt := 967) hx hb dL_law_952 (by decide) (fun c5 => ?_) (fun c5 => ?_)
  · refine lv_goto (tgt := 1423) hx hb dL_law_967 (by decide) ?_
    exact kk Y (if u.1 = 0 then vp_updL f 0 (u.2).toInt64 else f) M2 H locs ls hI2 hP hD hS (lv_sub hl [2, 3, 4, 5, 6] rfl)
  · have hk0 : u.1 = 0 := Classical.byContradiction (fun q => o6 q c5)
    refine lv_aload_n hx hb dL_law_955 rfl (lv_at hl 5 rfl) ?_
    refine lv_iconst (v := (0 : Int32)) hx hb dL_law_956 (by decide) ?_
    refine va_lald (f := (if u.1 = 0 then vp_updL f 0 (u.2).toInt64 else f)) (n := 1) hx hb hK hP (tw_wW cI cQ a na pa ta qa xa z Y).length 2 (by rw [List.getElem?_append_left (by rw [List.length_append]; exact Nat.lt_succ_self _)]; exact tw_get_l) rfl (i := (0 : Int32)) (tw_vin (by decide)) dL_law_957 ?_
    refine lv_iload hx hb dL_law_958 (lv_at hl 0 rfl) ?_
    refine lv_i2l hx hb dL_law_960 rfl ?_
    refine W.lcmp hx hb dL_law_961 ?_
    have he9 : lg_cmp ((if u.1 = 0 then vp_updL f 0 (u.2).toInt64 else f) (0 : Int32).toNatClampNeg) rb.toInt64 = 0 := by
      have : (if u.1 = 0 then vp_updL f 0 (u.2).toInt64 else f) (0 : Int32).toNatClampNeg = rb.toInt64 := by
        rw [if_pos hk0, ← o5 hk0]
        rfl
      rw [this]; exact lw_cmp_eq _
    refine lv_if_eq (tgt := 967) hx hb dL_law_962 (by decide) (fun _ => ?_) (fun c => absurd he9 c)
    refine lv_goto (tgt := 1423) hx hb dL_law_967 (by decide) ?_
    exact kk Y (if u.1 = 0 then vp_updL f 0 (u.2).toInt64 else f) M2 H locs ls hI2 hP hD hS (lv_sub hl [2, 3, 4, 5, 6] rfl)
set_option maxHeartbeats 4000000 in
set_option maxRecDepth 100000 in
theorem lc_hallOn {p : Program} {l : Launch} {e : Env} {s : State} {m : MethodId} {below : List Frame} {meth : Method} {c : Code} (hst : l.stackTraces = false) {b L : Nat} {xs : Nat → Int32} (C : lw_L p s m c b L xs) {Q : State → Prop} {G : va_G} {cI cQ cL : ClassId} {a na pa ta qa xa : Nat → Nat} {z : Nat → Nat → Nat} {o : Nat} {ma : Nat → Nat} {Y : tw_Wl} {f : Nat → Int64} {M : tw_Md} {H : Heap} {locs : List Loc} {cells slots : Nat} {ls : Array Slot} {x4 : Int32} (h1 : vp_in (x4 + (1 : Int32)) L) (h2 : vp_in (x4 + (2 : Int32)) L) (h3 : vp_in (x4 + (3 : Int32)) L) (hI : sp_I Y M) (hK : va_K G vwCl [(cI, .int), (cQ, .object RX1), (cL, .long)] s) (hP : va_P G vwCl (tw_LW cI cQ cL a na pa ta qa xa z o ma Y f M) H) (hD : va_D (fun q : Nat => s.heap.size ≤ q) (tw_LW cI cQ cL a na pa ta qa xa z o ma Y f M)) (hS : va_S (fun q : Nat => s.heap.size ≤ q) s.heap H locs) (hl : lv_has ls 9 [(0, .ref b), (1, .ref (a 0)), (2, .ref (ma 0)), (3, .ref o), (4, .int x4)]) (hcs : cells + 1 ≤ 601650 ∧ slots + 6 ≤ 7291155) (kk : lw_K p l e s m below meth c b Q G cI cQ cL a na pa ta qa xa z o ma x4 (cells + 1) (slots + 6)) : W p l e room_1 s m #[Value.ref b] below meth c H locs cells slots Q (F0 m 970 ls []) := by
  obtain ⟨hx, hb, hml, hown, hts, hX, hbl, hN, hNX, hNC, hU, hZ⟩ := id C
  have F : CallFix p m c cL_law 9 s #[Value.ref b] wsL_law RL := ⟨hx, hb, hml, hown, hts⟩
  have hA : ∀ q : Nat, s.heap.size ≤ q → (fun q : Nat => s.heap.size ≤ q) q := fun _ h => h
  have hbA : ¬ (fun q : Nat => s.heap.size ≤ q) b := Nat.not_le.mpr hbl
  unfold tw_LW at hP hD
  refine lv_aload_n hx hb dL_law_970 rfl (lv_at hl 1 rfl) ?_
  refine lv_aload_n hx hb dL_law_971 rfl (lv_at hl 0 rfl) ?_
  refine lv_iload hx hb dL_law_972 (lv_at hl 4 rfl) ?_
  refine lv_iconst (v := (1 : Int32)) hx hb dL_law_974 (by decide) ?_
  refine lv_iadd hx hb dL_law_975 ?_
  refine va_sld hx hb hX hbl hbA hS h1 dL_law_976 ?_
  refine lv_aload_n hx hb dL_law_977 rfl (lv_at hl 0 rfl) ?_
  refine lv_iload hx hb dL_law_978 (lv_at hl 4 rfl) ?_
  refine lv_iconst (v := (2 : Int32)) hx hb dL_law_980 (by decide) ?_
  refine lv_iadd hx hb dL_law_981 ?_
  refine va_sld hx hb hX hbl hbA hS h2 dL_law_982 ?_
  refine lv_aload_n hx hb dL_law_983 rfl (lv_at hl 3 rfl) ?_
  obtain ⟨kc, r, Y2, rb, M2, o1, o2, hI2, o3, o4, o5, o6⟩ := sp_A_t (op_hallOn hI (xs (x4 + (1 : Int32)).toNatClampNeg) (xs (x4 + (2 : Int32)).toNatClampNeg))
  obtain ⟨u, o8, o7⟩ : ∃ u, fX3_hallOn Y (xs (x4 + (1 : Int32)).toNatClampNeg) (xs (x4 + (2 : Int32)).toNatClampNeg) = some u ∧ (u.1 = kc ∧ u.2 = r ∧ Y = Y2) := by
    cases hu : fX3_hallOn Y (xs (x4 + (1 : Int32)).toNatClampNeg) (xs (x4 + (2 : Int32)).toNatClampNeg) with
    | none => rw [hu] at o1; cases o1
    | some u => rw [hu] at o1; cases o1; exact ⟨u, rfl, rfl, rfl, rfl⟩
  obtain ⟨rfl, rfl, rfl⟩ := o7
  have hkc : u.1 = 0 ∨ u.1 = 3 := by
    rcases o3 with h | ⟨h, h9⟩ | ⟨h, h9⟩ | ⟨h, h9⟩
    · exact Or.inl h
    · exact absurd rfl h9
    · exact absurd rfl h9
    · exact Or.inr h
  refine lw_callH (w1' := tw_wW cI cQ a na pa ta qa xa z Y ++ ([(o, .inl (cL, 1, .inr (.inl (if u.1 = 0 then vp_updL f 0 (u.2).toInt64 else f))))] : va_W)) F hN hK hP hD hS hA hNX hNC hU hZ (hL_hallOn l hst G cI cQ cL a na pa ta qa xa z o Y f H.size (xs (x4 + (1 : Int32)).toNatClampNeg) (xs (x4 + (2 : Int32)).toNatClampNeg) o8 hkc) (vx_cwSW 4 hts gL_law_L_hallOn rfl rfl rfl (by decide +kernel) ⟨Nat.le_of_ble_eq_true rfl, Nat.le_of_ble_eq_true rfl⟩) [0, 1, 2] rfl lw_fO (As := [.ref (a 0), .int (xs (x4 + (1 : Int32)).toNatClampNeg), .int (xs (x4 + (2 : Int32)).toNatClampNeg), .ref o]) (rest := []) rfl hl.1 rfl (Nat.le_of_ble_eq_true rfl) dL_law_984 hcs (fun H locs hP hD hS => ?_)
  refine lv_istore (lv' := [(5, .int (tw_hk 0 0 1 u.1)), (0, .ref b), (1, .ref (a 0)), (2, .ref (ma 0)), (3, .ref o), (4, .int x4)]) hx hb dL_law_987 hl (by decide) rfl (fun ls hl => ?_)
  refine lv_aload_n hx hb dL_law_989 rfl (lv_at hl 3 rfl) ?_
  refine lv_aload_n hx hb dL_law_990 rfl (lv_at hl 1 rfl) ?_
  refine lv_iload hx hb dL_law_991 (lv_at hl 5 rfl) ?_
  refine lv_iconst (v := (1 : Int32)) hx hb dL_law_993 (by decide) ?_
  refine lv_iadd hx hb dL_law_994 ?_
  refine va_sld hx hb hX hbl hbA hS h1 dL_law_995 ?_
  refine lv_aload_n hx hb dL_law_996 rfl (lv_at hl 1 rfl) ?_
  refine lv_iload hx hb dL_law_997 (lv_at hl 5 rfl) ?_
  refine lv_iconst (v := (2 : Int32)) hx hb dL_law_999 (by decide) ?_
  refine lv_iadd hx hb dL_law_1000 ?_
  refine va_sld hx hb hX hbl hbA hS h2 dL_law_1001 ?_
  refine tw_callVi (ws' := (tw_wW cI cQ a na pa ta qa xa z Y ++ ([(o, .inl (cL, 1, .inr (.inl (if u.1 = 0 then vp_updL f 0 (u.2).toInt64 else f))))] : va_W)) ++ tw_wM cI ma M2) F hN hK hP hD hS hA (mX4_hallOn l G cI ma M H.size (xs (x4 + (1 : Int32)).toNatClampNeg) (xs (x4 + (2 : Int32)).toNatClampNeg) o2) (cwV 2 hts gL_law_X4_hallOn rfl rfl rfl (by decide +kernel) ⟨Nat.le_of_ble_eq_true rfl, Nat.le_of_ble_eq_true rfl⟩) [0] rfl ((List.range (tw_wM cI ma M).length).map (fun i => i + (tw_wW cI cQ a na pa ta qa xa z Y ++ ([(o, .inl (cL, 1, .inr (.inl (if u.1 = 0 then vp_updL f 0 (u.2).toInt64 else f))))] : va_W)).length)) tw_snd tw_sC lw_fM (tw_sM lw_nM) (ci := 4) (r0 := 0) rfl rfl rfl (As := [.int (xs (x4 + (1 : Int32)).toNatClampNeg), .int (xs (x4 + (2 : Int32)).toNatClampNeg)]) (rest := []) rfl hl.1 rfl (Nat.le_of_ble_eq_true rfl) dL_law_1002 hcs (fun H locs hP hD hS => ?_)
  refine lv_istore (lv' := [(6, .int rb), (5, .int (tw_hk 0 0 1 u.1)), (0, .ref b), (1, .ref (a 0)), (2, .ref (ma 0)), (3, .ref o), (4, .int x4)]) hx hb dL_law_1005 hl (by decide) rfl (fun ls hl => ?_)
  refine lv_aload_n hx hb dL_law_1007 rfl (lv_at hl 4 rfl) ?_
  refine tw_callVi (rv := M2.2.2.2.2.2.2.1) (ws' := (tw_wW cI cQ a na pa ta qa xa z Y ++ ([(o, .inl (cL, 1, .inr (.inl (if u.1 = 0 then vp_updL f 0 (u.2).toInt64 else f))))] : va_W)) ++ (tw_wM cI ma M2)) F hN hK hP hD hS hA (mX4_thrown l G cI ma M2 H.size rfl) (cwV 0 hts gL_law_X4_thrown rfl rfl rfl (by decide +kernel) ⟨Nat.le_of_ble_eq_true rfl, Nat.le_of_ble_eq_true rfl⟩) [0] rfl ((List.range (tw_wM cI ma M2).length).map (fun i => i + (tw_wW cI cQ a na pa ta qa xa z Y ++ ([(o, .inl (cL, 1, .inr (.inl (if u.1 = 0 then vp_updL f 0 (u.2).toInt64 else f))))] : va_W)).length)) tw_snd tw_sC lw_fM (tw_sM lw_nM) (ci := 4) (r0 := 0) rfl rfl rfl (As := []) (rest := []) rfl hl.1 rfl (Nat.le_of_ble_eq_true rfl) dL_law_1008 hcs (fun H locs hP hD hS => ?_)
  refine lv_iload hx hb dL_law_1011 (lv_at hl 1 rfl) ?_
  refine lv_icmp_eq (tgt := 1018) hx hb dL_law_1013 (by decide) (fun _ => ?_) (fun c => absurd o4 c)
  refine lv_iload hx hb dL_law_1018 (lv_at hl 1 rfl) ?_
  refine lv_if_ne (tgt := 1035) hx hb dL_law_1020 (by decide) (fun c5 => ?_) (fun c5 => ?_)
  · refine lv_goto (tgt := 1423) hx hb dL_law_1035 (by decide) ?_
    exact kk Y (if u.1 = 0 then vp_updL f 0 (u.2).toInt64 else f) M2 H locs ls hI2 hP hD hS (lv_sub hl [2, 3, 4, 5, 6] rfl)
  · have hk0 : u.1 = 0 := Classical.byContradiction (fun q => o6 q c5)
    refine lv_aload_n hx hb dL_law_1023 rfl (lv_at hl 5 rfl) ?_
    refine lv_iconst (v := (0 : Int32)) hx hb dL_law_1024 (by decide) ?_
    refine va_lald (f := (if u.1 = 0 then vp_updL f 0 (u.2).toInt64 else f)) (n := 1) hx hb hK hP (tw_wW cI cQ a na pa ta qa xa z Y).length 2 (by rw [List.getElem?_append_left (by rw [List.length_append]; exact Nat.lt_succ_self _)]; exact tw_get_l) rfl (i := (0 : Int32)) (tw_vin (by decide)) dL_law_1025 ?_
    refine lv_iload hx hb dL_law_1026 (lv_at hl 0 rfl) ?_
    refine lv_i2l hx hb dL_law_1028 rfl ?_
    refine W.lcmp hx hb dL_law_1029 ?_
    have he9 : lg_cmp ((if u.1 = 0 then vp_updL f 0 (u.2).toInt64 else f) (0 : Int32).toNatClampNeg) rb.toInt64 = 0 := by
      have : (if u.1 = 0 then vp_updL f 0 (u.2).toInt64 else f) (0 : Int32).toNatClampNeg = rb.toInt64 := by
        rw [if_pos hk0, ← o5 hk0]
        rfl
      rw [this]; exact lw_cmp_eq _
    refine lv_if_eq (tgt := 1035) hx hb dL_law_1030 (by decide) (fun _ => ?_) (fun c => absurd he9 c)
    refine lv_goto (tgt := 1423) hx hb dL_law_1035 (by decide) ?_
    exact kk Y (if u.1 = 0 then vp_updL f 0 (u.2).toInt64 else f) M2 H locs ls hI2 hP hD hS (lv_sub hl [2, 3, 4, 5, 6] rfl)
set_option maxHeartbeats 4000000 in
set_option maxRecDepth 100000 in
theorem lc_hall {p : Program} {l : Launch} {e : Env} {s : State} {m : MethodId} {below : List Frame} {meth : Method} {c : Code} (hst : l.stackTraces = false) {b L : Nat} {xs : Nat → Int32} (C : lw_L p s m c b L xs) {Q : State → Prop} {G : va_G} {cI cQ cL : ClassId} {a na pa ta qa xa : Nat → Nat} {z : Nat → Nat → Nat} {o : Nat} {ma : Nat → Nat} {Y : tw_Wl} {f : Nat → Int64} {M : tw_Md} {H : Heap} {locs : List Loc} {cells slots : Nat} {ls : Array Slot} {x4 : Int32} (h1 : vp_in (x4 + (1 : Int32)) L) (h2 : vp_in (x4 + (2 : Int32)) L) (h3 : vp_in (x4 + (3 : Int32)) L) (hI : sp_I Y M) (hK : va_K G vwCl [(cI, .int), (cQ, .object RX1), (cL, .long)] s) (hP : va_P G vwCl (tw_LW cI cQ cL a na pa ta qa xa z o ma Y f M) H) (hD : va_D (fun q : Nat => s.heap.size ≤ q) (tw_LW cI cQ cL a na pa ta qa xa z o ma Y f M)) (hS : va_S (fun q : Nat => s.heap.size ≤ q) s.heap H locs) (hl : lv_has ls 9 [(0, .ref b), (1, .ref (a 0)), (2, .ref (ma 0)), (3, .ref o), (4, .int x4)]) (hcs : cells + 1 ≤ 601650 ∧ slots + 6 ≤ 7291155) (kk : lw_K p l e s m below meth c b Q G cI cQ cL a na pa ta qa xa z o ma x4 (cells + 1) (slots + 6)) : W p l e room_1 s m #[Value.ref b] below meth c H locs cells slots Q (F0 m 1038 ls []) := by
  obtain ⟨hx, hb, hml, hown, hts, hX, hbl, hN, hNX, hNC, hU, hZ⟩ := id C
  have F : CallFix p m c cL_law 9 s #[Value.ref b] wsL_law RL := ⟨hx, hb, hml, hown, hts⟩
  have hA : ∀ q : Nat, s.heap.size ≤ q → (fun q : Nat => s.heap.size ≤ q) q := fun _ h => h
  have hbA : ¬ (fun q : Nat => s.heap.size ≤ q) b := Nat.not_le.mpr hbl
  unfold tw_LW at hP hD
  refine lv_aload_n hx hb dL_law_1038 rfl (lv_at hl 1 rfl) ?_
  refine lv_aload_n hx hb dL_law_1039 rfl (lv_at hl 0 rfl) ?_
  refine lv_iload hx hb dL_law_1040 (lv_at hl 4 rfl) ?_
  refine lv_iconst (v := (1 : Int32)) hx hb dL_law_1042 (by decide) ?_
  refine lv_iadd hx hb dL_law_1043 ?_
  refine va_sld hx hb hX hbl hbA hS h1 dL_law_1044 ?_
  refine lv_aload_n hx hb dL_law_1045 rfl (lv_at hl 0 rfl) ?_
  refine lv_iload hx hb dL_law_1046 (lv_at hl 4 rfl) ?_
  refine lv_iconst (v := (2 : Int32)) hx hb dL_law_1048 (by decide) ?_
  refine lv_iadd hx hb dL_law_1049 ?_
  refine va_sld hx hb hX hbl hbA hS h2 dL_law_1050 ?_
  refine lv_aload_n hx hb dL_law_1051 rfl (lv_at hl 3 rfl) ?_
  obtain ⟨kc, r, Y2, rb, M2, o1, o2, hI2, o3, o4, o5, o6⟩ := sp_A_t (op_hall hI (xs (x4 + (1 : Int32)).toNatClampNeg) (xs (x4 + (2 : Int32)).toNatClampNeg))
  obtain ⟨u, o8, o7⟩ : ∃ u, fX3_hall Y (xs (x4 + (1 : Int32)).toNatClampNeg) (xs (x4 + (2 : Int32)).toNatClampNeg) = some u ∧ (u.1 = kc ∧ u.2 = r ∧ Y = Y2) := by
    cases hu : fX3_hall Y (xs (x4 + (1 : Int32)).toNatClampNeg) (xs (x4 + (2 : Int32)).toNatClampNeg) with
    | none => rw [hu] at o1; cases o1
    | some u => rw [hu] at o1; cases o1; exact ⟨u, rfl, rfl, rfl, rfl⟩
  obtain ⟨rfl, rfl, rfl⟩ := o7
  have hkc : u.1 = 0 ∨ u.1 = 1 ∨ u.1 = 3 := by
    rcases o3 with h | ⟨h, h9⟩ | ⟨h, h9⟩ | ⟨h, h9⟩
    · exact Or.inl h
    · exact Or.inr (Or.inl h)
    · exact absurd rfl h9
    · exact Or.inr (Or.inr h)
  refine lw_callH (w1' := tw_wW cI cQ a na pa ta qa xa z Y ++ ([(o, .inl (cL, 1, .inr (.inl (if u.1 = 0 then vp_updL f 0 (u.2).toInt64 else f))))] : va_W)) F hN hK hP hD hS hA hNX hNC hU hZ (hL_hall l hst G cI cQ cL a na pa ta qa xa z o Y f H.size (xs (x4 + (1 : Int32)).toNatClampNeg) (xs (x4 + (2 : Int32)).toNatClampNeg) o8 hkc) (vx_cwSW 4 hts gL_law_L_hall rfl rfl rfl (by decide +kernel) ⟨Nat.le_of_ble_eq_true rfl, Nat.le_of_ble_eq_true rfl⟩) [0, 1, 2] rfl lw_fO (As := [.ref (a 0), .int (xs (x4 + (1 : Int32)).toNatClampNeg), .int (xs (x4 + (2 : Int32)).toNatClampNeg), .ref o]) (rest := []) rfl hl.1 rfl (Nat.le_of_ble_eq_true rfl) dL_law_1052 hcs (fun H locs hP hD hS => ?_)
  refine lv_istore (lv' := [(5, .int (tw_hk 2 0 1 u.1)), (0, .ref b), (1, .ref (a 0)), (2, .ref (ma 0)), (3, .ref o), (4, .int x4)]) hx hb dL_law_1055 hl (by decide) rfl (fun ls hl => ?_)
  refine lv_aload_n hx hb dL_law_1057 rfl (lv_at hl 3 rfl) ?_
  refine lv_aload_n hx hb dL_law_1058 rfl (lv_at hl 1 rfl) ?_
  refine lv_iload hx hb dL_law_1059 (lv_at hl 5 rfl) ?_
  refine lv_iconst (v := (1 : Int32)) hx hb dL_law_1061 (by decide) ?_
  refine lv_iadd hx hb dL_law_1062 ?_
  refine va_sld hx hb hX hbl hbA hS h1 dL_law_1063 ?_
  refine lv_aload_n hx hb dL_law_1064 rfl (lv_at hl 1 rfl) ?_
  refine lv_iload hx hb dL_law_1065 (lv_at hl 5 rfl) ?_
  refine lv_iconst (v := (2 : Int32)) hx hb dL_law_1067 (by decide) ?_
  refine lv_iadd hx hb dL_law_1068 ?_
  refine va_sld hx hb hX hbl hbA hS h2 dL_law_1069 ?_
  refine tw_callVi (ws' := (tw_wW cI cQ a na pa ta qa xa z Y ++ ([(o, .inl (cL, 1, .inr (.inl (if u.1 = 0 then vp_updL f 0 (u.2).toInt64 else f))))] : va_W)) ++ tw_wM cI ma M2) F hN hK hP hD hS hA (mX4_hall l G cI ma M H.size (xs (x4 + (1 : Int32)).toNatClampNeg) (xs (x4 + (2 : Int32)).toNatClampNeg) o2) (cwV 2 hts gL_law_X4_hall rfl rfl rfl (by decide +kernel) ⟨Nat.le_of_ble_eq_true rfl, Nat.le_of_ble_eq_true rfl⟩) [0] rfl ((List.range (tw_wM cI ma M).length).map (fun i => i + (tw_wW cI cQ a na pa ta qa xa z Y ++ ([(o, .inl (cL, 1, .inr (.inl (if u.1 = 0 then vp_updL f 0 (u.2).toInt64 else f))))] : va_W)).length)) tw_snd tw_sC lw_fM (tw_sM lw_nM) (ci := 4) (r0 := 0) rfl rfl rfl (As := [.int (xs (x4 + (1 : Int32)).toNatClampNeg), .int (xs (x4 + (2 : Int32)).toNatClampNeg)]) (rest := []) rfl hl.1 rfl (Nat.le_of_ble_eq_true rfl) dL_law_1070 hcs (fun H locs hP hD hS => ?_)
  refine lv_istore (lv' := [(6, .int rb), (5, .int (tw_hk 2 0 1 u.1)), (0, .ref b), (1, .ref (a 0)), (2, .ref (ma 0)), (3, .ref o), (4, .int x4)]) hx hb dL_law_1073 hl (by decide) rfl (fun ls hl => ?_)
  refine lv_aload_n hx hb dL_law_1075 rfl (lv_at hl 4 rfl) ?_
  refine tw_callVi (rv := M2.2.2.2.2.2.2.1) (ws' := (tw_wW cI cQ a na pa ta qa xa z Y ++ ([(o, .inl (cL, 1, .inr (.inl (if u.1 = 0 then vp_updL f 0 (u.2).toInt64 else f))))] : va_W)) ++ (tw_wM cI ma M2)) F hN hK hP hD hS hA (mX4_thrown l G cI ma M2 H.size rfl) (cwV 0 hts gL_law_X4_thrown rfl rfl rfl (by decide +kernel) ⟨Nat.le_of_ble_eq_true rfl, Nat.le_of_ble_eq_true rfl⟩) [0] rfl ((List.range (tw_wM cI ma M2).length).map (fun i => i + (tw_wW cI cQ a na pa ta qa xa z Y ++ ([(o, .inl (cL, 1, .inr (.inl (if u.1 = 0 then vp_updL f 0 (u.2).toInt64 else f))))] : va_W)).length)) tw_snd tw_sC lw_fM (tw_sM lw_nM) (ci := 4) (r0 := 0) rfl rfl rfl (As := []) (rest := []) rfl hl.1 rfl (Nat.le_of_ble_eq_true rfl) dL_law_1076 hcs (fun H locs hP hD hS => ?_)
  refine lv_iload hx hb dL_law_1079 (lv_at hl 1 rfl) ?_
  refine lv_icmp_eq (tgt := 1086) hx hb dL_law_1081 (by decide) (fun _ => ?_) (fun c => absurd o4 c)
  refine lv_iload hx hb dL_law_1086 (lv_at hl 1 rfl) ?_
  refine lv_if_ne (tgt := 1103) hx hb dL_law_1088 (by decide) (fun c5 => ?_) (fun c5 => ?_)
  · refine lv_goto (tgt := 1423) hx hb dL_law_1103 (by decide) ?_
    exact kk Y (if u.1 = 0 then vp_updL f 0 (u.2).toInt64 else f) M2 H locs ls hI2 hP hD hS (lv_sub hl [2, 3, 4, 5, 6] rfl)
  · have hk0 : u.1 = 0 := Classical.byContradiction (fun q => o6 q c5)
    refine lv_aload_n hx hb dL_law_1091 rfl (lv_at hl 5 rfl) ?_
    refine lv_iconst (v := (0 : Int32)) hx hb dL_law_1092 (by decide) ?_
    refine va_lald (f := (if u.1 = 0 then vp_updL f 0 (u.2).toInt64 else f)) (n := 1) hx hb hK hP (tw_wW cI cQ a na pa ta qa xa z Y).length 2 (by rw [List.getElem?_append_left (by rw [List.length_append]; exact Nat.lt_succ_self _)]; exact tw_get_l) rfl (i := (0 : Int32)) (tw_vin (by decide)) dL_law_1093 ?_
    refine lv_iload hx hb dL_law_1094 (lv_at hl 0 rfl) ?_
    refine lv_i2l hx hb dL_law_1096 rfl ?_
    refine W.lcmp hx hb dL_law_1097 ?_
    have he9 : lg_cmp ((if u.1 = 0 then vp_updL f 0 (u.2).toInt64 else f) (0 : Int32).toNatClampNeg) rb.toInt64 = 0 := by
      have : (if u.1 = 0 then vp_updL f 0 (u.2).toInt64 else f) (0 : Int32).toNatClampNeg = rb.toInt64 := by
        rw [if_pos hk0, ← o5 hk0]
        rfl
      rw [this]; exact lw_cmp_eq _
    refine lv_if_eq (tgt := 1103) hx hb dL_law_1098 (by decide) (fun _ => ?_) (fun c => absurd he9 c)
    refine lv_goto (tgt := 1423) hx hb dL_law_1103 (by decide) ?_
    exact kk Y (if u.1 = 0 then vp_updL f 0 (u.2).toInt64 else f) M2 H locs ls hI2 hP hD hS (lv_sub hl [2, 3, 4, 5, 6] rfl)
set_option maxHeartbeats 4000000 in
set_option maxRecDepth 100000 in
theorem lc_count {p : Program} {l : Launch} {e : Env} {s : State} {m : MethodId} {below : List Frame} {meth : Method} {c : Code} (hst : l.stackTraces = false) {b L : Nat} {xs : Nat → Int32} (C : lw_L p s m c b L xs) {Q : State → Prop} {G : va_G} {cI cQ cL : ClassId} {a na pa ta qa xa : Nat → Nat} {z : Nat → Nat → Nat} {o : Nat} {ma : Nat → Nat} {Y : tw_Wl} {f : Nat → Int64} {M : tw_Md} {H : Heap} {locs : List Loc} {cells slots : Nat} {ls : Array Slot} {x4 : Int32} (h1 : vp_in (x4 + (1 : Int32)) L) (h2 : vp_in (x4 + (2 : Int32)) L) (h3 : vp_in (x4 + (3 : Int32)) L) (hI : sp_I Y M) (hK : va_K G vwCl [(cI, .int), (cQ, .object RX1), (cL, .long)] s) (hP : va_P G vwCl (tw_LW cI cQ cL a na pa ta qa xa z o ma Y f M) H) (hD : va_D (fun q : Nat => s.heap.size ≤ q) (tw_LW cI cQ cL a na pa ta qa xa z o ma Y f M)) (hS : va_S (fun q : Nat => s.heap.size ≤ q) s.heap H locs) (hl : lv_has ls 9 [(0, .ref b), (1, .ref (a 0)), (2, .ref (ma 0)), (3, .ref o), (4, .int x4)]) (hcs : cells + 1 ≤ 601650 ∧ slots + 6 ≤ 7291155) (kk : lw_K p l e s m below meth c b Q G cI cQ cL a na pa ta qa xa z o ma x4 (cells + 1) (slots + 6)) : W p l e room_1 s m #[Value.ref b] below meth c H locs cells slots Q (F0 m 1106 ls []) := by
  obtain ⟨hx, hb, hml, hown, hts, hX, hbl, hN, hNX, hNC, hU, hZ⟩ := id C
  have F : CallFix p m c cL_law 9 s #[Value.ref b] wsL_law RL := ⟨hx, hb, hml, hown, hts⟩
  have hA : ∀ q : Nat, s.heap.size ≤ q → (fun q : Nat => s.heap.size ≤ q) q := fun _ h => h
  have hbA : ¬ (fun q : Nat => s.heap.size ≤ q) b := Nat.not_le.mpr hbl
  unfold tw_LW at hP hD
  refine lv_aload_n hx hb dL_law_1106 rfl (lv_at hl 1 rfl) ?_
  refine lv_aload_n hx hb dL_law_1107 rfl (lv_at hl 0 rfl) ?_
  refine lv_iload hx hb dL_law_1108 (lv_at hl 4 rfl) ?_
  refine lv_iconst (v := (1 : Int32)) hx hb dL_law_1110 (by decide) ?_
  refine lv_iadd hx hb dL_law_1111 ?_
  refine va_sld hx hb hX hbl hbA hS h1 dL_law_1112 ?_
  refine lv_aload_n hx hb dL_law_1113 rfl (lv_at hl 3 rfl) ?_
  obtain ⟨kc, r, Y2, rb, M2, o1, o2, hI2, o3, o4, o5, o6⟩ := sp_A_t (op_count hI (xs (x4 + (1 : Int32)).toNatClampNeg))
  have hkc : kc = 0 ∨ kc = 1 := by
    rcases o3 with h | ⟨h, h9⟩ | ⟨h, h9⟩ | ⟨h, h9⟩
    · exact Or.inl h
    · exact Or.inr h
    · exact absurd rfl h9
    · exact absurd rfl h9
  refine lw_callH (w1' := tw_wW cI cQ a na pa ta qa xa z Y2 ++ ([(o, .inl (cL, 1, .inr (.inl (if kc = 0 then vp_updL f 0 (r).toInt64 else f))))] : va_W)) F hN hK hP hD hS hA hNX hNC hU hZ (hL_count l hst G cI cQ cL a na pa ta qa xa z o Y f H.size (xs (x4 + (1 : Int32)).toNatClampNeg) o1 hkc) (vx_cwSW 3 hts gL_law_L_count rfl rfl rfl (by decide +kernel) ⟨Nat.le_of_ble_eq_true rfl, Nat.le_of_ble_eq_true rfl⟩) [0, 1, 2] rfl lw_fO (As := [.ref (a 0), .int (xs (x4 + (1 : Int32)).toNatClampNeg), .ref o]) (rest := []) rfl hl.1 rfl (Nat.le_of_ble_eq_true rfl) dL_law_1114 hcs (fun H locs hP hD hS => ?_)
  refine lv_istore (lv' := [(5, .int (tw_hk 1 0 0 kc)), (0, .ref b), (1, .ref (a 0)), (2, .ref (ma 0)), (3, .ref o), (4, .int x4)]) hx hb dL_law_1117 hl (by decide) rfl (fun ls hl => ?_)
  refine lv_aload_n hx hb dL_law_1119 rfl (lv_at hl 3 rfl) ?_
  refine lv_aload_n hx hb dL_law_1120 rfl (lv_at hl 1 rfl) ?_
  refine lv_iload hx hb dL_law_1121 (lv_at hl 5 rfl) ?_
  refine lv_iconst (v := (1 : Int32)) hx hb dL_law_1123 (by decide) ?_
  refine lv_iadd hx hb dL_law_1124 ?_
  refine va_sld hx hb hX hbl hbA hS h1 dL_law_1125 ?_
  refine tw_callVi (ws' := (tw_wW cI cQ a na pa ta qa xa z Y2 ++ ([(o, .inl (cL, 1, .inr (.inl (if kc = 0 then vp_updL f 0 (r).toInt64 else f))))] : va_W)) ++ tw_wM cI ma M2) F hN hK hP hD hS hA (mX4_count l G cI ma M H.size (xs (x4 + (1 : Int32)).toNatClampNeg) o2) (cwV 1 hts gL_law_X4_count rfl rfl rfl (by decide +kernel) ⟨Nat.le_of_ble_eq_true rfl, Nat.le_of_ble_eq_true rfl⟩) [0] rfl ((List.range (tw_wM cI ma M).length).map (fun i => i + (tw_wW cI cQ a na pa ta qa xa z Y2 ++ ([(o, .inl (cL, 1, .inr (.inl (if kc = 0 then vp_updL f 0 (r).toInt64 else f))))] : va_W)).length)) tw_snd tw_sC lw_fM (tw_sM lw_nM) (ci := 4) (r0 := 0) rfl rfl rfl (As := [.int (xs (x4 + (1 : Int32)).toNatClampNeg)]) (rest := []) rfl hl.1 rfl (Nat.le_of_ble_eq_true rfl) dL_law_1126 hcs (fun H locs hP hD hS => ?_)
  refine lv_istore (lv' := [(6, .int rb), (5, .int (tw_hk 1 0 0 kc)), (0, .ref b), (1, .ref (a 0)), (2, .ref (ma 0)), (3, .ref o), (4, .int x4)]) hx hb dL_law_1129 hl (by decide) rfl (fun ls hl => ?_)
  refine lv_aload_n hx hb dL_law_1131 rfl (lv_at hl 4 rfl) ?_
  refine tw_callVi (rv := M2.2.2.2.2.2.2.1) (ws' := (tw_wW cI cQ a na pa ta qa xa z Y2 ++ ([(o, .inl (cL, 1, .inr (.inl (if kc = 0 then vp_updL f 0 (r).toInt64 else f))))] : va_W)) ++ (tw_wM cI ma M2)) F hN hK hP hD hS hA (mX4_thrown l G cI ma M2 H.size rfl) (cwV 0 hts gL_law_X4_thrown rfl rfl rfl (by decide +kernel) ⟨Nat.le_of_ble_eq_true rfl, Nat.le_of_ble_eq_true rfl⟩) [0] rfl ((List.range (tw_wM cI ma M2).length).map (fun i => i + (tw_wW cI cQ a na pa ta qa xa z Y2 ++ ([(o, .inl (cL, 1, .inr (.inl (if kc = 0 then vp_updL f 0 (r).toInt64 else f))))] : va_W)).length)) tw_snd tw_sC lw_fM (tw_sM lw_nM) (ci := 4) (r0 := 0) rfl rfl rfl (As := []) (rest := []) rfl hl.1 rfl (Nat.le_of_ble_eq_true rfl) dL_law_1132 hcs (fun H locs hP hD hS => ?_)
  refine lv_iload hx hb dL_law_1135 (lv_at hl 1 rfl) ?_
  refine lv_icmp_eq (tgt := 1142) hx hb dL_law_1137 (by decide) (fun _ => ?_) (fun c => absurd o4 c)
  refine lv_iload hx hb dL_law_1142 (lv_at hl 1 rfl) ?_
  refine lv_if_ne (tgt := 1159) hx hb dL_law_1144 (by decide) (fun c5 => ?_) (fun c5 => ?_)
  · refine lv_goto (tgt := 1423) hx hb dL_law_1159 (by decide) ?_
    exact kk Y2 (if kc = 0 then vp_updL f 0 (r).toInt64 else f) M2 H locs ls hI2 hP hD hS (lv_sub hl [2, 3, 4, 5, 6] rfl)
  · have hk0 : kc = 0 := Classical.byContradiction (fun q => o6 q c5)
    refine lv_aload_n hx hb dL_law_1147 rfl (lv_at hl 5 rfl) ?_
    refine lv_iconst (v := (0 : Int32)) hx hb dL_law_1148 (by decide) ?_
    refine va_lald (f := (if kc = 0 then vp_updL f 0 (r).toInt64 else f)) (n := 1) hx hb hK hP (tw_wW cI cQ a na pa ta qa xa z Y2).length 2 (by rw [List.getElem?_append_left (by rw [List.length_append]; exact Nat.lt_succ_self _)]; exact tw_get_l) rfl (i := (0 : Int32)) (tw_vin (by decide)) dL_law_1149 ?_
    refine lv_iload hx hb dL_law_1150 (lv_at hl 0 rfl) ?_
    refine lv_i2l hx hb dL_law_1152 rfl ?_
    refine W.lcmp hx hb dL_law_1153 ?_
    have he9 : lg_cmp ((if kc = 0 then vp_updL f 0 (r).toInt64 else f) (0 : Int32).toNatClampNeg) rb.toInt64 = 0 := by
      have : (if kc = 0 then vp_updL f 0 (r).toInt64 else f) (0 : Int32).toNatClampNeg = rb.toInt64 := by
        rw [if_pos hk0, ← o5 hk0]
        rfl
      rw [this]; exact lw_cmp_eq _
    refine lv_if_eq (tgt := 1159) hx hb dL_law_1154 (by decide) (fun _ => ?_) (fun c => absurd he9 c)
    refine lv_goto (tgt := 1423) hx hb dL_law_1159 (by decide) ?_
    exact kk Y2 (if kc = 0 then vp_updL f 0 (r).toInt64 else f) M2 H locs ls hI2 hP hD hS (lv_sub hl [2, 3, 4, 5, 6] rfl)
set_option maxHeartbeats 4000000 in
set_option maxRecDepth 100000 in
theorem lc_setting {p : Program} {l : Launch} {e : Env} {s : State} {m : MethodId} {below : List Frame} {meth : Method} {c : Code} (hst : l.stackTraces = false) {b L : Nat} {xs : Nat → Int32} (C : lw_L p s m c b L xs) {Q : State → Prop} {G : va_G} {cI cQ cL : ClassId} {a na pa ta qa xa : Nat → Nat} {z : Nat → Nat → Nat} {o : Nat} {ma : Nat → Nat} {Y : tw_Wl} {f : Nat → Int64} {M : tw_Md} {H : Heap} {locs : List Loc} {cells slots : Nat} {ls : Array Slot} {x4 : Int32} (h1 : vp_in (x4 + (1 : Int32)) L) (h2 : vp_in (x4 + (2 : Int32)) L) (h3 : vp_in (x4 + (3 : Int32)) L) (hI : sp_I Y M) (hK : va_K G vwCl [(cI, .int), (cQ, .object RX1), (cL, .long)] s) (hP : va_P G vwCl (tw_LW cI cQ cL a na pa ta qa xa z o ma Y f M) H) (hD : va_D (fun q : Nat => s.heap.size ≤ q) (tw_LW cI cQ cL a na pa ta qa xa z o ma Y f M)) (hS : va_S (fun q : Nat => s.heap.size ≤ q) s.heap H locs) (hl : lv_has ls 9 [(0, .ref b), (1, .ref (a 0)), (2, .ref (ma 0)), (3, .ref o), (4, .int x4)]) (hcs : cells + 1 ≤ 601650 ∧ slots + 6 ≤ 7291155) (kk : lw_K p l e s m below meth c b Q G cI cQ cL a na pa ta qa xa z o ma x4 (cells + 1) (slots + 6)) : W p l e room_1 s m #[Value.ref b] below meth c H locs cells slots Q (F0 m 1162 ls []) := by
  obtain ⟨hx, hb, hml, hown, hts, hX, hbl, hN, hNX, hNC, hU, hZ⟩ := id C
  have F : CallFix p m c cL_law 9 s #[Value.ref b] wsL_law RL := ⟨hx, hb, hml, hown, hts⟩
  have hA : ∀ q : Nat, s.heap.size ≤ q → (fun q : Nat => s.heap.size ≤ q) q := fun _ h => h
  have hbA : ¬ (fun q : Nat => s.heap.size ≤ q) b := Nat.not_le.mpr hbl
  unfold tw_LW at hP hD
  refine lv_aload_n hx hb dL_law_1162 rfl (lv_at hl 1 rfl) ?_
  obtain ⟨v, Y2, M2, o1, o2, hI2⟩ := op_setting hI
  obtain ⟨o8, rfl⟩ : fX3_setting Y = some v ∧ Y = Y2 := by
    cases hu : fX3_setting Y with
    | none => rw [hu] at o1; cases o1
    | some u => rw [hu] at o1; cases o1; exact ⟨rfl, rfl⟩
  have hP := hP
  rw [List.append_assoc] at hP hD
  refine tw_callVi (ws' := tw_wW cI cQ a na pa ta qa xa z Y ++ (([(o, .inl (cL, 1, .inr (.inl f)))] : va_W) ++ tw_wM cI ma M)) F hN hK hP hD hS hA (mX3_setting l G cI cQ a na pa ta qa xa z Y H.size o8) (cwV 0 hts gL_law_X3_setting rfl rfl rfl (by decide +kernel) ⟨Nat.le_of_ble_eq_true rfl, Nat.le_of_ble_eq_true rfl⟩) [0, 1] rfl (List.range (tw_wW cI cQ a na pa ta qa xa z Y).length) (tw_ndR _) tw_pC lw_fW (tw_mix_hit _ rfl lw_nW) (ci := 3) (r0 := 0) rfl rfl rfl (As := []) (rest := []) rfl hl.1 rfl (Nat.le_of_ble_eq_true rfl) dL_law_1163 ⟨Nat.le_of_lt hcs.1, Nat.le_trans (Nat.le_add_right _ 6) hcs.2⟩ (fun H locs hP hD hS => ?_)
  rw [← List.append_assoc] at hP hD
  refine lv_aload_n hx hb dL_law_1166 rfl (lv_at hl 2 rfl) ?_
  refine tw_callVi (ws' := (tw_wW cI cQ a na pa ta qa xa z Y ++ ([(o, .inl (cL, 1, .inr (.inl f)))] : va_W)) ++ tw_wM cI ma M2) F hN hK hP hD hS hA (mX4_setting l G cI ma M H.size o2) (cwV 0 hts gL_law_X4_setting rfl rfl rfl (by decide +kernel) ⟨Nat.le_of_ble_eq_true rfl, Nat.le_of_ble_eq_true rfl⟩) [0] rfl ((List.range (tw_wM cI ma M).length).map (fun i => i + (tw_wW cI cQ a na pa ta qa xa z Y ++ ([(o, .inl (cL, 1, .inr (.inl f)))] : va_W)).length)) tw_snd tw_sC lw_fM (tw_sM lw_nM) (ci := 4) (r0 := 0) rfl rfl rfl (As := []) (rest := [.int v]) rfl hl.1 rfl (Nat.le_of_ble_eq_true rfl) dL_law_1167 ⟨Nat.le_of_lt hcs.1, Nat.le_trans (Nat.le_add_right _ 6) hcs.2⟩ (fun H locs hP hD hS => ?_)
  refine lv_icmp_eq (tgt := 1423) hx hb dL_law_1170 (by decide) (fun _ => ?_) (fun c => absurd rfl c)
  refine W.widen (k := cells + 1) (n := slots + 6) (Nat.le_succ _) (Nat.le_add_right _ 6) ?_
  exact kk Y f M2 H locs ls hI2 hP hD hS hl
