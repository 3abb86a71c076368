/-! the law from its entry -/
def tw_V0 : tw_V := (0, 0, fun w _ => if w = 5 then 99 else 0, fun _ => 0)
theorem tw_V0_ok : sp_ok6 tw_V0 := ⟨⟨by decide, by decide, by decide, fun t ht => absurd ht (Nat.not_lt_zero t), fun h _ => ⟨(show (0 : Int) ≤ 0 by decide), (show (0 : Int) ≤ 99 by decide), (show (0 : Int) ≤ 99 by decide), (show (99 : Int) ≤ 99 by decide)⟩⟩, fun t ht => absurd ht (Nat.not_lt_zero t)⟩
theorem tw_I0 : qp_I tw_W0 (tw_V0, 0, fun _ => tw_V0, 0, fun _ => 33) := by
  refine ⟨⟨tw_V0_ok, fun i hi => absurd hi (Nat.not_lt_zero i), by decide, fun i hi => absurd hi (Nat.not_lt_zero i)⟩, ⟨⟨rfl, rfl, fun t ht => absurd ht (Nat.not_lt_zero t), fun h hh => ?_⟩, ⟨fun t ht => absurd ht (Nat.not_lt_zero t), rfl, rfl⟩, ⟨rfl, fun i hi => absurd hi (Nat.not_lt_zero i)⟩, rfl, by decide, ⟨fun i hi => hi, fun i j _ _ q => q⟩, fun i hi => absurd hi (Nat.not_lt_zero i)⟩, fun h _ => (show (0 : Int) ≤ 99 by decide), fun i hi => absurd hi (Nat.not_lt_zero i)⟩
  rcases (show h = 0 ∨ h = 1 ∨ h = 2 ∨ h = 3 by omega) with rfl | rfl | rfl | rfl <;> exact ⟨rfl, rfl⟩
theorem lw_T {L : Nat} (hL : L ≤ 260) : Int32.ofNat L / (4 : Int32) = zi ((L / 4 : Nat) : Int) := by
  have m1 : Int32.minValue.toInt = -2147483648 := by decide
  have m2 : Int32.maxValue.toInt = 2147483647 := by decide
  have e : Int32.ofNat L = zi (L : Int) := (zi_nI L).symm
  have := Int32.ofInt_tdiv (a := (L : Int)) (b := 4) (by rw [m1]; omega) (by rw [m2]; omega) (by rw [m1]; omega) (by rw [m2]; omega)
  rw [Int.tdiv_eq_ediv_of_nonneg (by omega)] at this
  rw [e]
  exact this.symm
set_option maxHeartbeats 8000000 in
set_option maxRecDepth 100000 in
/-- from the entry, for every script of at most 260 ints, the law comes to its end with true -/
theorem whole_start {p : Program} {e : Env} {s : State} {m : MethodId} {below : List Frame} {meth : Method} {c : Code} (l : Launch) (hflags : l.flags = flags0) {b L : Nat} {xs : Nat → Int32} (hL : L ≤ 260) (C0 : lw_At p s m meth c b L xs) : W p l e room_1 s m #[Value.ref b] below meth c s.heap [] 0 0 (lw_Z below #[Value.ref b] s) (entryFrame m ([Value.ref b] : List Value).toArray 9) := by
  obtain ⟨hx, hb, hr, hml, hown, hts, hX, hbl, hlocks, hgv⟩ := id C0
  have hst : l.stackTraces = false := by unfold Launch.stackTraces; rw [hflags]; decide
  have hA : ∀ q : Nat, s.heap.size ≤ q → (fun q : Nat => s.heap.size ≤ q) q := fun _ h => h
  have hbA : ¬ (fun q : Nat => s.heap.size ≤ q) b := Nat.not_le.mpr hbl
  have hgf := flat_of_before _ hgv
  have hown : s.vm.findClass RL = some m.cls := hown
  have hN : tw_N s := ⟨va_Nw.of rfl (hts _ (List.mem_of_getElem? (i := 86) (by decide +kernel))), va_Nw.of rfl (hts _ (List.mem_of_getElem? (i := 112) (by decide +kernel)))⟩
  have hNX : tw_NX s := ⟨⟨va_Nw.of rfl (hts _ (List.mem_of_getElem? (i := 155) (by decide +kernel))), va_Nw.of rfl (hts _ (List.mem_of_getElem? (i := 157) (by decide +kernel))), va_Nw.of rfl (hts _ (List.mem_of_getElem? (i := 159) (by decide +kernel)))⟩, va_Nw.of rfl (hts _ (List.mem_of_getElem? (i := 154) (by decide +kernel))), va_Nw.of rfl (hts _ (List.mem_of_getElem? (i := 417) (by decide +kernel))), va_Nw.of rfl (hts _ (List.mem_of_getElem? (i := 298) (by decide +kernel)))⟩
  have hNC : tw_NC s := trivial
  have hU : vx_Zq Bundle.tN "UNASSIGNED_STACK" Bundle.steD (fun q : Nat => s.heap.size ≤ q) s s.heap := vx_Zqof (hts _ (List.mem_of_getElem? (i := 179) (by decide +kernel))) (hts _ (List.mem_of_getElem? (i := 18) (by decide +kernel))) (hgf _ (by decide +kernel)) (fun q h => Nat.not_le.mpr h)
  have hZ : vx_Zq Bundle.tN "SUPPRESSED_SENTINEL" Bundle.listD (fun q : Nat => s.heap.size ≤ q) s s.heap := vx_Zqof (hts _ (List.mem_of_getElem? (i := 181) (by decide +kernel))) (hts _ (List.mem_of_getElem? (i := 18) (by decide +kernel))) (hgf _ (by decide +kernel)) (fun q h => Nat.not_le.mpr h)
  have hAO : va_AO RX1 s := va_AO.of (hts _ (List.mem_of_getElem? (i := 109) (by decide +kernel)))
  have hW : ∀ w ∈ wsL_law, w.before #[Value.ref b] s = true := fun w h => hts w (wsL_law_in w h)
  have C : lw_L p s m c b L xs := ⟨hx, hb, hml, hown, hW, hX, hbl, hN, hNX, hNC, hU, hZ⟩
  have F : CallFix p m c cL_law 9 s #[Value.ref b] wsL_law RL := ⟨hx, hb, hml, hown, hW⟩
  obtain ⟨c0, iS0, hKn0⟩ := u_known (C := RX0) (T := TX0) (N := 5) (n := 5) hts inX0 (hts _ (List.mem_of_getElem? (i := 85) (by decide +kernel)))
  obtain ⟨c1, iS1, hKn1⟩ := u_known (C := RX1) (T := TX1) (N := 9) (n := 9) hts inX1 (hts _ (List.mem_of_getElem? (i := 34) (by decide +kernel)))
  obtain ⟨c2, iS2, hKn2⟩ := u_known (C := RX2) (T := TX2) (N := 2) (n := 2) hts inX2 (hts _ (List.mem_of_getElem? (i := 111) (by decide +kernel)))
  obtain ⟨c3, iS3, hKn3⟩ := u_known (C := RX3) (T := TX3) (N := 8) (n := 8) hts inX3 (hts _ (List.mem_of_getElem? (i := 26) (by decide +kernel)))
  obtain ⟨G, hKc⟩ : ∃ G : va_G, ∀ (k : Nat) (q : vw_C), vwCl[k]? = some q → u_Kn s q.1 q.2.1 q.2.2 (G.1 k) (G.2 k) := by
    refine ⟨(fun k => match k with | 0 => c0 | 1 => c1 | 2 => c2 | _ => c3, fun k => match k with | 0 => iS0 | 1 => iS1 | 2 => iS2 | _ => iS3), ?_⟩
    intro k q hq
    match k, hq with
    | 0, hq => cases hq; exact hKn0
    | 1, hq => cases hq; exact hKn1
    | 2, hq => cases hq; exact hKn2
    | 3, hq => cases hq; exact hKn3
    | k + 4, hq => simp [vwCl] at hq
  obtain ⟨cI, kI, compI, hI1, hI2, hI3⟩ := Cond.arrayClass_spec (hts _ (wsL_law_in _ (List.mem_append_left _ (List.mem_append_left _ (List.mem_append_left _ (List.mem_append_left _ (List.mem_append_left _ (List.mem_append_left _ (List.mem_append_left _ (List.mem_append_left _ (List.mem_append_right _ (List.mem_append_left _ (List.mem_of_getElem? (i := 0) rfl)))))))))))))
  have hK : va_K G vwCl [(cI, .int)] s := ⟨hKc, fun k q hq => by
    match k, hq with
    | 0, hq => cases hq; exact ⟨fun n z => ⟨fun k h => (by cases h), kI, hI2, compI, hI3⟩, hI1⟩
    | k + 1, hq => simp at hq⟩
  have hS : va_S (fun q : Nat => s.heap.size ≤ q) s.heap s.heap [] := va_S.rf
  have hP : va_P G vwCl [] s.heap := fun k q h => by simp at h
  have hD : va_D (fun q : Nat => s.heap.size ≤ q) [] := ⟨fun i j p q h => by simp at h, fun k q h => by simp at h⟩
  have hl := lv_entry ([.ref b]) (n := 9) (Nat.le_of_ble_eq_true rfl)
  rw [lg_entry_eq]
  generalize (lg_sl ([.ref b]) ++ List.replicate (9 - (lg_sl ([.ref b])).length) Slot.unset).toArray = ls at hl ⊢
  have hl : lv_has ls 9 [(0, .ref b)] := hl
  refine va_new (ci := 3) (fs := [.null, .null, .null, .null, .null, .null, .null, .int 0]) (C := RX3) (T := TX3) (N := 8) hx hb hts inX3 tyX3 tyX3_ok hown (hts _ (wsL_law_in _ (List.mem_append_left _ (List.mem_append_left _ (List.mem_append_left _ (List.mem_append_left _ (List.mem_append_left _ (List.mem_append_left _ (List.mem_append_left _ (List.mem_append_left _ (List.mem_append_left _ (List.mem_of_getElem? (i := 0) rfl)))))))))))) (hts _ (List.mem_of_getElem? (i := 26) (by decide +kernel))) (hts _ (List.mem_of_getElem? (i := 14) (by decide +kernel))) hK hP hD hS hA rfl (fun j hj => by rcases (show j = 0 ∨ j = 1 ∨ j = 2 ∨ j = 3 ∨ j = 4 ∨ j = 5 ∨ j = 6 ∨ j = 7 by omega) with rfl | rfl | rfl | rfl | rfl | rfl | rfl | rfl <;> rfl) (Nat.le_of_ble_eq_true rfl) (Nat.le_of_ble_eq_true rfl) dL_law_0 (fun b3 H hP hD hS => ?_)
  refine lv_dup hx hb dL_law_3 rfl ?_
  refine tw_callIO (wr := []) (B := fun (u : tw_U) t => u.2.1 0 = b3 ∧ va_P G vwCl (tw_wW cI u.1 u.2.1 u.2.2.1 u.2.2.2.1 u.2.2.2.2.1 u.2.2.2.2.2.1 u.2.2.2.2.2.2.1 u.2.2.2.2.2.2.2 tw_W0) t.heap ∧ va_D (va_A [(b3, .inr (3, [.null, .null, .null, .null, .null, .null, .null, .int 0]))] H.size) (tw_wW cI u.1 u.2.1 u.2.2.1 u.2.2.2.1 u.2.2.2.2.1 u.2.2.2.2.2.1 u.2.2.2.2.2.2.1 u.2.2.2.2.2.2.2 tw_W0) ∧ va_K G vwCl [(cI, .int), (u.1, .object RX1)] t) F hN hAO hK hP hD hS hA (nX3_init l G cI b3 H.size) (cwI 0 hW gL_law_X3_init rfl rfl rfl (hts _ (wsL_law_in _ (List.mem_append_left _ (List.mem_append_left _ (List.mem_append_left _ (List.mem_append_left _ (List.mem_append_left _ (List.mem_append_left _ (List.mem_append_left _ (List.mem_append_left _ (List.mem_append_left _ (List.mem_of_getElem? (i := 2) rfl)))))))))))) (hts _ (wsL_law_in _ (List.mem_append_left _ (List.mem_append_left _ (List.mem_append_left _ (List.mem_append_left _ (List.mem_append_left _ (List.mem_append_left _ (List.mem_append_left _ (List.mem_append_left _ (List.mem_append_left _ (List.mem_of_getElem? (i := 3) rfl)))))))))))) (hts _ (wsL_law_in _ (List.mem_append_left _ (List.mem_append_left _ (List.mem_append_left _ (List.mem_append_left _ (List.mem_append_left _ (List.mem_append_left _ (List.mem_append_left _ (List.mem_append_left _ (List.mem_append_left _ (List.mem_of_getElem? (i := 4) rfl)))))))))))) rfl (by decide +kernel) ⟨Nat.le_of_ble_eq_true rfl, Nat.le_of_ble_eq_true rfl⟩) [0] rfl (fun u => tw_wW cI u.1 u.2.1 u.2.2.1 u.2.2.2.1 u.2.2.2.2.1 u.2.2.2.2.2.1 u.2.2.2.2.2.2.1 u.2.2.2.2.2.2.2 tw_W0) (fun u t h => ⟨h.2.1, h.2.2.1⟩) hl.1 (Nat.le_of_ble_eq_true rfl) dL_law_4 ⟨Nat.le_of_ble_eq_true rfl, Nat.le_of_ble_eq_true rfl⟩ (fun u t H locs hB9 ht9 hvm hP7 hD7 hS7 => ?_)
  obtain ⟨e9, -, -, hK2⟩ := hB9
  subst e9
  have hP := hP7
  have hD := hD7
  have hS := hS7
  have hK : va_K G vwCl [(cI, .int), (u.1, .object RX1)] s := va_K.moved hvm.symm hK2
  have hd0 := Drawn.sameBut.refl s.drawn lw_cs
  have go : ∀ (T : Nat) (H : Heap) (locs : List Loc) (ls : Array Slot) (cells slots : Nat), T ≤ 24 → 4 * T ≤ L → cells ≤ 1000 → slots ≤ 1000 → va_P G vwCl (tw_wW cI u.1 u.2.1 u.2.2.1 u.2.2.2.1 u.2.2.2.2.1 u.2.2.2.2.2.1 u.2.2.2.2.2.2.1 u.2.2.2.2.2.2.2 tw_W0) H → va_D (fun q : Nat => s.heap.size ≤ q) (tw_wW cI u.1 u.2.1 u.2.2.1 u.2.2.2.1 u.2.2.2.2.1 u.2.2.2.2.2.1 u.2.2.2.2.2.2.1 u.2.2.2.2.2.2.2 tw_W0) → va_S (fun q : Nat => s.heap.size ≤ q) s.heap H locs → lv_has ls 9 [(2, .int (1 : Int32)), (1, .ref (u.2.1 0)), (0, .ref b)] → W p l e room_1 s m #[Value.ref b] below meth c H locs cells slots (lw_Z below #[Value.ref b] s) (F0 m 28 ls [.int (zi (T : Int))]) := by
    intro T H locs ls cells slots hT hT4 hc1 hc2 hP hD hS hl
    refine lv_istore_n (lv' := [(3, .int (zi (T : Int))), (2, .int (1 : Int32)), (1, .ref (u.2.1 0)), (0, .ref b)]) hx hb dL_law_28 rfl hl (by decide) rfl (fun ls hl => ?_)
    refine lv_iconst (v := (0 : Int32)) hx hb dL_law_29 (by decide) ?_
    refine lv_istore (lv' := [(4, .int (0 : Int32)), (3, .int (zi (T : Int))), (2, .int (1 : Int32)), (1, .ref (u.2.1 0)), (0, .ref b)]) hx hb dL_law_30 hl (by decide) rfl (fun ls hl => ?_)
    exact law_loop C hK hst hL hT hT4 (fun H locs ls hS => va_forget hS.2.2 (lw_ret (s := s) (d0 := s.drawn) hd0 hx hb hr hlocks dL_law_163)) T 0 cells slots tw_W0 _ H locs ls (by omega) (by omega) (by omega) tw_I0 hP hD hS (lv_sub hl [4, 3, 2, 1, 0] rfl)
  refine lv_astore_n (lv' := [(1, .ref (u.2.1 0)), (0, .ref b)]) hx hb dL_law_7 rfl hl (by decide) rfl (fun ls hl => ?_)
  refine lv_iconst (v := (1 : Int32)) hx hb dL_law_8 (by decide) ?_
  refine lv_istore_n (lv' := [(2, .int (1 : Int32)), (1, .ref (u.2.1 0)), (0, .ref b)]) hx hb dL_law_9 rfl hl (by decide) rfl (fun ls hl => ?_)
  refine lv_aload_n hx hb dL_law_10 rfl (lv_at hl 2 rfl) ?_
  refine va_slen hx hb hX hbl hbA hS dL_law_11 ?_
  refine lv_iconst (v := (4 : Int32)) hx hb dL_law_12 (by decide) ?_
  refine lv_idiv hx hb dL_law_13 (by decide) ?_
  rw [lw_T hL]
  refine lv_bipush (v := (24 : Int32)) hx hb dL_law_14 (by decide) ?_
  have c24 : zi ((L / 4 : Nat) : Int) ≤ (24 : Int32) ↔ ((L / 4 : Nat) : Int) ≤ 24 := zi_le (b := 24) (by omega) (by omega) (by omega) (by omega)
  refine lv_icmp_le (tgt := 24) hx hb dL_law_16 (by decide) (fun c8 => ?_) (fun c8 => ?_)
  · refine lv_aload_n hx hb dL_law_24 rfl (lv_at hl 2 rfl) ?_
    refine va_slen hx hb hX hbl hbA hS dL_law_25 ?_
    refine lv_iconst (v := (4 : Int32)) hx hb dL_law_26 (by decide) ?_
    refine lv_idiv hx hb dL_law_27 (by decide) ?_
    rw [lw_T hL]
    have h24 := c24.mp c8
    exact go (L / 4) H _ ls _ _ (by omega) (by omega) (Nat.le_of_ble_eq_true rfl) (Nat.le_of_ble_eq_true rfl) hP hD hS hl
  · refine lv_bipush (v := (24 : Int32)) hx hb dL_law_19 (by decide) ?_
    refine lv_goto (tgt := 28) hx hb dL_law_21 (by decide) ?_
    have h24 : 24 < L / 4 := by
      have : ¬ ((L / 4 : Nat) : Int) ≤ 24 := fun q => c8 (c24.mpr q)
      omega
    exact go 24 H _ ls _ _ (by omega) (by omega) (Nat.le_of_ble_eq_true rfl) (Nat.le_of_ble_eq_true rfl) hP hD hS hl
