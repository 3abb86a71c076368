/-! the law from its entry -/
def tw_V0 : tw_V := (0, 0, fun w _ => if w = 5 then 99 else 0, fun _ => 0)
theorem tw_V0_ok : sp_ok6 tw_V0 := ⟨⟨by decide, by decide, by decide, fun t ht => absurd ht (Nat.not_lt_zero t), fun h _ => ⟨(show (0 : Int) ≤ 0 by decide), (show (0 : Int) ≤ 99 by decide), (show (0 : Int) ≤ 99 by decide), (show (99 : Int) ≤ 99 by decide)⟩⟩, fun t ht => absurd ht (Nat.not_lt_zero t)⟩
theorem tw_I0 : sp_I tw_W0 tw_M0 := by
  refine ⟨(tw_V0, 0, fun _ => tw_V0, 0, fun _ => 33), ⟨tw_V0_ok, fun i hi => absurd hi (Nat.not_lt_zero i), by decide, fun i hi => absurd hi (Nat.not_lt_zero i)⟩, ⟨⟨rfl, rfl, fun t ht => absurd ht (Nat.not_lt_zero t), fun h hh => ?_⟩, ⟨fun t ht => absurd ht (Nat.not_lt_zero t), rfl, rfl⟩, ⟨rfl, fun i hi => absurd hi (Nat.not_lt_zero i)⟩, rfl, by decide, ⟨fun i hi => hi, fun i j _ _ q => q⟩, fun i hi => absurd hi (Nat.not_lt_zero i)⟩, ⟨rfl, rfl, fun t ht => absurd ht (Nat.not_lt_zero t), fun h hh => ?_⟩, ⟨rfl, by decide, fun i hi => absurd hi (Nat.not_lt_zero i)⟩, rfl, fun i hi => absurd hi (Nat.not_lt_zero i)⟩
  · rcases (show h = 0 ∨ h = 1 ∨ h = 2 ∨ h = 3 by omega) with rfl | rfl | rfl | rfl <;> exact ⟨rfl, rfl⟩
  · rcases (show h = 0 ∨ h = 1 ∨ h = 2 ∨ h = 3 by omega) with rfl | rfl | rfl | rfl <;> exact ⟨rfl, rfl⟩
set_option maxHeartbeats 8000000 in
set_option maxRecDepth 100000 in
/-- from the entry, for every script of at most 2048 ints, the law comes to its end with true -/
theorem whole_start {p : Program} {e : Env} {s : State} {m : MethodId} {below : List Frame} {meth : Method} {c : Code} (l : Launch) (hflags : l.flags = flags0) {b L : Nat} {xs : Nat → Int32} (hL : L ≤ 2048) (C0 : lw_At p s m meth c b L xs) : W p l e room_1 s m #[Value.ref b] below meth c s.heap [] 0 0 (lw_Z below #[Value.ref b] s) (entryFrame m ([Value.ref b] : List Value).toArray 9) := by
  obtain ⟨hx, hb, hr, hml, hown, hts, hX, hbl, hlocks, hgv⟩ := id C0
  have hst : l.stackTraces = false := by unfold Launch.stackTraces; rw [hflags]; decide
  have hA : ∀ q : Nat, s.heap.size ≤ q → (fun q : Nat => s.heap.size ≤ q) q := fun _ h => h
  have hbA : ¬ (fun q : Nat => s.heap.size ≤ q) b := Nat.not_le.mpr hbl
  have hgf := flat_of_before _ hgv
  have hown : s.vm.findClass RL = some m.cls := hown
  have hN : tw_N s := ⟨va_Nw.of rfl (hts _ (List.mem_of_getElem? (i := 208) (by decide +kernel))), va_Nw.of rfl (hts _ (List.mem_of_getElem? (i := 211) (by decide +kernel))), va_Nw.of rfl (hts _ (List.mem_of_getElem? (i := 214) (by decide +kernel))), va_Nw.of rfl (hts _ (List.mem_of_getElem? (i := 126) (by decide +kernel))), va_Nw.of rfl (hts _ (List.mem_of_getElem? (i := 152) (by decide +kernel)))⟩
  have hNX : tw_NX s := ⟨⟨va_Nw.of rfl (hts _ (List.mem_of_getElem? (i := 297) (by decide +kernel))), va_Nw.of rfl (hts _ (List.mem_of_getElem? (i := 299) (by decide +kernel))), va_Nw.of rfl (hts _ (List.mem_of_getElem? (i := 301) (by decide +kernel)))⟩, va_Nw.of rfl (hts _ (List.mem_of_getElem? (i := 296) (by decide +kernel))), va_Nw.of rfl (hts _ (List.mem_of_getElem? (i := 504) (by decide +kernel))), va_Nw.of rfl (hts _ (List.mem_of_getElem? (i := 397) (by decide +kernel)))⟩
  have hNC : tw_NC s := ⟨va_Nc.of (hgf _ (by decide +kernel)), va_Nc.of (hgf _ (by decide +kernel)), va_Nc.of (hgf _ (by decide +kernel)), va_Nc.of (hgf _ (by decide +kernel)), va_Nc.of (hgf _ (by decide +kernel)), va_Nc.of (hgf _ (by decide +kernel))⟩
  have hU : vx_Zq Bundle.tN "UNASSIGNED_STACK" Bundle.steD (fun q : Nat => s.heap.size ≤ q) s s.heap := vx_Zqof (hts _ (List.mem_of_getElem? (i := 321) (by decide +kernel))) (hts _ (List.mem_of_getElem? (i := 52) (by decide +kernel))) (hgf _ (by decide +kernel)) (fun q h => Nat.not_le.mpr h)
  have hZ : vx_Zq Bundle.tN "SUPPRESSED_SENTINEL" Bundle.listD (fun q : Nat => s.heap.size ≤ q) s s.heap := vx_Zqof (hts _ (List.mem_of_getElem? (i := 323) (by decide +kernel))) (hts _ (List.mem_of_getElem? (i := 52) (by decide +kernel))) (hgf _ (by decide +kernel)) (fun q h => Nat.not_le.mpr h)
  have hAO : va_AO RX1 s := va_AO.of (hts _ (List.mem_of_getElem? (i := 149) (by decide +kernel)))
  have hW : ∀ w ∈ wsL_law, w.before #[Value.ref b] s = true := fun w h => hts w (wsL_law_in w h)
  have C : lw_L p s m c b L xs := ⟨hx, hb, hml, hown, hW, hX, hbl, hN, hNX, hNC, hU, hZ⟩
  have F : CallFix p m c cL_law 9 s #[Value.ref b] wsL_law RL := ⟨hx, hb, hml, hown, hW⟩
  obtain ⟨c0, iS0, hKn0⟩ := u_known (C := RX0) (T := TX0) (N := 5) (n := 5) hts inX0 (hts _ (List.mem_of_getElem? (i := 125) (by decide +kernel)))
  obtain ⟨c1, iS1, hKn1⟩ := u_known (C := RX1) (T := TX1) (N := 9) (n := 9) hts inX1 (hts _ (List.mem_of_getElem? (i := 69) (by decide +kernel)))
  obtain ⟨c2, iS2, hKn2⟩ := u_known (C := RX2) (T := TX2) (N := 2) (n := 2) hts inX2 (hts _ (List.mem_of_getElem? (i := 151) (by decide +kernel)))
  obtain ⟨c3, iS3, hKn3⟩ := u_known (C := RX3) (T := TX3) (N := 8) (n := 8) hts inX3 (hts _ (List.mem_of_getElem? (i := 61) (by decide +kernel)))
  obtain ⟨c4, iS4, hKn4⟩ := u_known (C := RX4) (T := TX4) (N := 13) (n := 13) hts inX4 (hts _ (List.mem_of_getElem? (i := 651) (by decide +kernel)))
  obtain ⟨G, hKc⟩ : ∃ G : va_G, ∀ (k : Nat) (q : vw_C), vwCl[k]? = some q → u_Kn s q.1 q.2.1 q.2.2 (G.1 k) (G.2 k) := by
    refine ⟨(fun k => match k with | 0 => c0 | 1 => c1 | 2 => c2 | 3 => c3 | _ => c4, fun k => match k with | 0 => iS0 | 1 => iS1 | 2 => iS2 | 3 => iS3 | _ => iS4), ?_⟩
    intro k q hq
    match k, hq with
    | 0, hq => cases hq; exact hKn0
    | 1, hq => cases hq; exact hKn1
    | 2, hq => cases hq; exact hKn2
    | 3, hq => cases hq; exact hKn3
    | 4, hq => cases hq; exact hKn4
    | k + 5, hq => simp [vwCl] at hq
  obtain ⟨cI, kI, compI, hI1, hI2, hI3⟩ := Cond.arrayClass_spec (hts _ (wsL_law_in _ (List.mem_append_left _ (List.mem_append_left _ (List.mem_append_left _ (List.mem_append_left _ (List.mem_append_left _ (List.mem_append_left _ (List.mem_append_left _ (List.mem_append_left _ (List.mem_append_left _ (List.mem_append_right _ (List.mem_append_left _ (List.mem_of_getElem? (i := 4) rfl))))))))))))))
  have hK : va_K G vwCl [(cI, .int)] s := ⟨hKc, fun k q hq => by
    match k, hq with
    | 0, hq => cases hq; exact ⟨fun n z => ⟨fun k h => (by cases h), kI, hI2, compI, hI3⟩, hI1⟩
    | k + 1, hq => simp at hq⟩
  have hS : va_S (fun q : Nat => s.heap.size ≤ q) s.heap s.heap [] := va_S.rf
  have hP : va_P G vwCl [] s.heap := fun k q h => by simp at h
  have hD : va_D (fun q : Nat => s.heap.size ≤ q) [] := ⟨fun i j p q h => by simp at h, fun k q h => by simp at h⟩
  have hl := lv_entry ([.ref b]) (n := 9) (Nat.le_of_ble_eq_true rfl)
  rw [lg_entry_eq]
  generalize (lg_sl ([.ref b]) ++ List.replicate (9 - (lg_sl ([.ref b])).length) Slot.unset).toArray = ls at hl ⊢
  have hl : lv_has ls 9 [(0, .ref b)] := hl
  refine va_new (ci := 3) (fs := [.null, .null, .null, .null, .null, .null, .null, .int 0]) (C := RX3) (T := TX3) (N := 8) hx hb hts inX3 tyX3 tyX3_ok hown (hts _ (wsL_law_in _ (List.mem_append_left _ (List.mem_append_left _ (List.mem_append_left _ (List.mem_append_left _ (List.mem_append_left _ (List.mem_append_left _ (List.mem_append_left _ (List.mem_append_left _ (List.mem_append_left _ (List.mem_append_left _ (List.mem_of_getElem? (i := 0) rfl))))))))))))) (hts _ (List.mem_of_getElem? (i := 61) (by decide +kernel))) (hts _ (List.mem_of_getElem? (i := 47) (by decide +kernel))) hK hP hD hS hA rfl (fun j hj => by rcases (show j = 0 ∨ j = 1 ∨ j = 2 ∨ j = 3 ∨ j = 4 ∨ j = 5 ∨ j = 6 ∨ j = 7 by omega) with rfl | rfl | rfl | rfl | rfl | rfl | rfl | rfl <;> rfl) (Nat.le_of_ble_eq_true rfl) (Nat.le_of_ble_eq_true rfl) dL_law_0 (fun b3 H hP hD hS => ?_)
  refine lv_dup hx hb dL_law_3 rfl ?_
  refine tw_callIO (wr := []) (B := fun (u : tw_U) t => u.2.1 0 = b3 ∧ va_P G vwCl (tw_wW cI u.1 u.2.1 u.2.2.1 u.2.2.2.1 u.2.2.2.2.1 u.2.2.2.2.2.1 u.2.2.2.2.2.2.1 u.2.2.2.2.2.2.2 tw_W0) t.heap ∧ va_D (va_A [(b3, .inr (3, [.null, .null, .null, .null, .null, .null, .null, .int 0]))] H.size) (tw_wW cI u.1 u.2.1 u.2.2.1 u.2.2.2.1 u.2.2.2.2.1 u.2.2.2.2.2.1 u.2.2.2.2.2.2.1 u.2.2.2.2.2.2.2 tw_W0) ∧ va_K G vwCl [(cI, .int), (u.1, .object RX1)] t) F hN hAO hK hP hD hS hA (nX3_init l G cI b3 H.size) (cwI 0 hW gL_law_X3_init rfl rfl rfl (hts _ (wsL_law_in _ (List.mem_append_left _ (List.mem_append_left _ (List.mem_append_left _ (List.mem_append_left _ (List.mem_append_left _ (List.mem_append_left _ (List.mem_append_left _ (List.mem_append_left _ (List.mem_append_left _ (List.mem_append_left _ (List.mem_of_getElem? (i := 2) rfl))))))))))))) (hts _ (wsL_law_in _ (List.mem_append_left _ (List.mem_append_left _ (List.mem_append_left _ (List.mem_append_left _ (List.mem_append_left _ (List.mem_append_left _ (List.mem_append_left _ (List.mem_append_left _ (List.mem_append_left _ (List.mem_append_left _ (List.mem_of_getElem? (i := 7) rfl))))))))))))) (hts _ (wsL_law_in _ (List.mem_append_left _ (List.mem_append_left _ (List.mem_append_left _ (List.mem_append_left _ (List.mem_append_left _ (List.mem_append_left _ (List.mem_append_left _ (List.mem_append_left _ (List.mem_append_left _ (List.mem_append_left _ (List.mem_of_getElem? (i := 8) rfl))))))))))))) rfl (by decide +kernel) ⟨Nat.le_of_ble_eq_true rfl, Nat.le_of_ble_eq_true rfl⟩) [0] rfl (fun u => tw_wW cI u.1 u.2.1 u.2.2.1 u.2.2.2.1 u.2.2.2.2.1 u.2.2.2.2.2.1 u.2.2.2.2.2.2.1 u.2.2.2.2.2.2.2 tw_W0) (fun u t h => ⟨h.2.1, h.2.2.1⟩) hl.1 (Nat.le_of_ble_eq_true rfl) dL_law_4 ⟨Nat.le_of_ble_eq_true rfl, Nat.le_of_ble_eq_true rfl⟩ (fun u t H locs hB9 ht9 hvm hP7 hD7 hS7 => ?_)
  obtain ⟨e9, -, -, hK2⟩ := hB9
  subst e9
  have hP := hP7
  have hD := hD7
  have hS := hS7
  have hK : va_K G vwCl [(cI, .int), (u.1, .object RX1)] s := va_K.moved hvm.symm hK2
  refine lv_astore_n (lv' := [(1, .ref (u.2.1 0)), (0, .ref b)]) hx hb dL_law_7 rfl hl (by decide) rfl (fun ls hl => ?_)
  refine va_new (ci := 4) (fs := [.null, .null, .null, .int 0, .null, .int 0, .int 0, .int 0, .int 0, .null, .int 0, .null, .null]) (C := RX4) (T := TX4) (N := 13) hx hb hts inX4 tyX4 tyX4_ok hown (hts _ (wsL_law_in _ (List.mem_append_left _ (List.mem_append_left _ (List.mem_append_left _ (List.mem_append_left _ (List.mem_append_left _ (List.mem_append_left _ (List.mem_append_left _ (List.mem_append_left _ (List.mem_append_left _ (List.mem_append_left _ (List.mem_of_getElem? (i := 3) rfl))))))))))))) (hts _ (List.mem_of_getElem? (i := 651) (by decide +kernel))) (hts _ (List.mem_of_getElem? (i := 51) (by decide +kernel))) hK hP hD hS hA rfl (fun j hj => by rcases (show j = 0 ∨ j = 1 ∨ j = 2 ∨ j = 3 ∨ j = 4 ∨ j = 5 ∨ j = 6 ∨ j = 7 ∨ j = 8 ∨ j = 9 ∨ j = 10 ∨ j = 11 ∨ j = 12 by omega) with rfl | rfl | rfl | rfl | rfl | rfl | rfl | rfl | rfl | rfl | rfl | rfl | rfl <;> rfl) (Nat.le_of_ble_eq_true rfl) (Nat.le_of_ble_eq_true rfl) dL_law_8 (fun b4 H hP hD hS => ?_)
  refine lv_dup hx hb dL_law_11 rfl ?_
  refine tw_callI (wr := [] ++ tw_wW cI u.1 u.2.1 u.2.2.1 u.2.2.2.1 u.2.2.2.2.1 u.2.2.2.2.2.1 u.2.2.2.2.2.2.1 u.2.2.2.2.2.2.2 tw_W0) (B := fun (a : Nat → Nat) t => a 0 = b4 ∧ va_P G vwCl (tw_wM cI a tw_M0) t.heap ∧ va_D (va_A [(b4, .inr (4, [.null, .null, .null, .int 0, .null, .int 0, .int 0, .int 0, .int 0, .null, .int 0, .null, .null]))] H.size) (tw_wM cI a tw_M0)) F hN hK hP hD hS hA (nX4_init l G cI b4 H.size) (cwI 0 hW gL_law_X4_init rfl rfl rfl (hts _ (wsL_law_in _ (List.mem_append_left _ (List.mem_append_left _ (List.mem_append_left _ (List.mem_append_left _ (List.mem_append_left _ (List.mem_append_left _ (List.mem_append_left _ (List.mem_append_left _ (List.mem_append_left _ (List.mem_append_left _ (List.mem_of_getElem? (i := 5) rfl))))))))))))) (hts _ (wsL_law_in _ (List.mem_append_left _ (List.mem_append_left _ (List.mem_append_left _ (List.mem_append_left _ (List.mem_append_left _ (List.mem_append_left _ (List.mem_append_left _ (List.mem_append_left _ (List.mem_append_left _ (List.mem_append_right _ (List.mem_append_right _ (List.mem_append_left _ (List.mem_of_getElem? (i := 9) rfl))))))))))))))) (hts _ (wsL_law_in _ (List.mem_append_left _ (List.mem_append_left _ (List.mem_append_left _ (List.mem_append_left _ (List.mem_append_left _ (List.mem_append_left _ (List.mem_append_left _ (List.mem_append_left _ (List.mem_append_left _ (List.mem_append_right _ (List.mem_append_right _ (List.mem_append_left _ (List.mem_of_getElem? (i := 10) rfl))))))))))))))) rfl (by decide +kernel) ⟨Nat.le_of_ble_eq_true rfl, Nat.le_of_ble_eq_true rfl⟩) [0] rfl (fun a => tw_wM cI a tw_M0) (fun u t h => h.2) hl.1 (Nat.le_of_ble_eq_true rfl) dL_law_12 ⟨Nat.le_of_ble_eq_true rfl, Nat.le_of_ble_eq_true rfl⟩ (fun ma t4 H locs hB9 ht4 hP7 hD7 hS7 => ?_)
  obtain ⟨e9, -⟩ := hB9
  subst e9
  have hP := hP7
  have hD := hD7
  have hS := hS7
  refine lv_astore_n (lv' := [(2, .ref (ma 0)), (1, .ref (u.2.1 0)), (0, .ref b)]) hx hb dL_law_15 rfl hl (by decide) rfl (fun ls hl => ?_)
  refine lv_iconst (v := (1 : Int32)) hx hb dL_law_16 (by decide) ?_
  refine tw_newl hx hb (hts _ (wsL_law_in _ (List.mem_append_left _ (List.mem_append_left _ (List.mem_append_left _ (List.mem_append_left _ (List.mem_append_left _ (List.mem_append_left _ (List.mem_append_left _ (List.mem_append_left _ (List.mem_append_left _ (List.mem_append_left _ (List.mem_of_getElem? (i := 6) rfl))))))))))))) hK hP hD hS hA (N' := 1) (by decide) (by decide) (Nat.le_of_ble_eq_true rfl) (Nat.le_of_ble_eq_true rfl) (Nat.le_of_ble_eq_true rfl) dL_law_17 (fun o cL H hK hP hD hS => ?_)
  have hK : va_K G vwCl [(cI, .int), (u.1, .object RX1), (cL, .long)] s := hK
  refine lv_astore_n (lv' := [(3, .ref o), (2, .ref (ma 0)), (1, .ref (u.2.1 0)), (0, .ref b)]) hx hb dL_law_19 rfl hl (by decide) rfl (fun ls hl => ?_)
  refine lv_iconst (v := (0 : Int32)) hx hb dL_law_20 (by decide) ?_
  refine lv_istore (lv' := [(4, .int (0 : Int32)), (3, .ref o), (2, .ref (ma 0)), (1, .ref (u.2.1 0)), (0, .ref b)]) hx hb dL_law_21 hl (by decide) rfl (fun ls hl => ?_)
  have hP1 : va_P G vwCl (tw_LW cI u.1 cL u.2.1 u.2.2.1 u.2.2.2.1 u.2.2.2.2.1 u.2.2.2.2.2.1 u.2.2.2.2.2.2.1 u.2.2.2.2.2.2.2 o ma tw_W0 (fun _ => 0) tw_M0) H := hP.sub ((List.range 75) ++ ([83] ++ (List.range 8).map (fun i => i + 75))) rfl
  have hD1 : va_D (fun q : Nat => s.heap.size ≤ q) (tw_LW cI u.1 cL u.2.1 u.2.2.1 u.2.2.2.1 u.2.2.2.2.1 u.2.2.2.2.2.1 u.2.2.2.2.2.2.1 u.2.2.2.2.2.2.2 o ma tw_W0 (fun _ => 0) tw_M0) := hD.sub ((List.range 75) ++ ([83] ++ (List.range 8).map (fun i => i + 75))) (by decide) rfl
  have hd0 := Drawn.sameBut.refl s.drawn lw_cs
  exact law_loop hst hL C hK (fun H locs ls hS => va_forget hS.2.2 (lw_ret (s := s) (d0 := s.drawn) hd0 hx hb hr hlocks dL_law_1430)) 513 0 _ _ tw_W0 (fun _ => 0) tw_M0 H _ ls (0 : Int32) rfl rfl (Nat.le_of_ble_eq_true rfl) (Nat.le_of_ble_eq_true rfl) tw_I0 hP1 hD1 hS (lv_sub hl [4, 3, 2, 1, 0] rfl)
