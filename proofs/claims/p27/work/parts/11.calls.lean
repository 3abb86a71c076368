section TWC
variable {p : Program} {l : Launch} {e : Env} {R : Room} {s : State} {m : MethodId} {args : Array Value} {below : List Frame} {meth : Method} {c : Code} {H : Heap} {locs : List Loc} {cells slots : Nat} {Q : State → Prop}
variable {cc bytes : ByteArray} {nL maxL n index : Nat} {Ts wsY : List Cond} {own C host : String} {y : MethodName} {ret : Option FieldType} {rm : Room} {b : Addr} {As rest st : List Value} {pc : Nat} {ls : Array Slot} {G : va_G} {tys tysY : List (ClassId × FieldType)} {ws wc wc' ws' : va_W} {A0 : Nat → Prop} {H0 : Heap}
theorem tw_callVi {rv : Int32} (F : CallFix p m c cc nL s args Ts own) (hN : tw_N s) (hK : va_K G vwCl tys s) (hP : va_P G vwCl ws H) (hD : va_D A0 ws) (hS : va_S A0 H0 H locs) (hA : ∀ q : Nat, H0.size ≤ q → A0 q)
    (hM : tw_Mi l y wsY rm G tysY wc (.ref b :: As) H.size rv wc') (cw : CallW R s args own C index y bytes maxL ret wsY rm 0 0 n)
    (ks : List Nat) (hks : ks.filterMap (fun i => tys[i]?) = tysY) (is : List Nat) (hnd : va_nd is = true) (hC : is.map (fun i => ws[i]?) = wc.map some) (ha : wc'.map Prod.fst = wc.map Prod.fst) (hmix : tw_mix ws is wc' = ws')
    {r0 ci : Nat} {q : vw_C} {fs : List Value} (hcl : vwCl[ci]? = some q) (hqC : q.1 = C) (hr0 : wc[r0]? = some (b, .inr (ci, fs)))
    (hn : As.length = n) (hl : ls.size = nL) (hst : st = As.reverse ++ .ref b :: rest) (hcat : (rest.map fun v => v.category).sum ≤ 8) (hdg : decode cc pc = .ok (.invokevirtual index, 3)) (hcs : cells ≤ R.cells ∧ slots ≤ R.slots)
    (kk : ∀ (H1 : Heap) (locs1 : List Loc), va_P G vwCl ws' H1 → va_D A0 ws' → va_S A0 H0 H1 locs1 → W p l e R s m args below meth c H1 locs1 cells slots Q (F0 m (pc + 3) ls (.int rv :: rest))) :
    W p l e R s m args below meth c H locs cells slots Q (F0 m pc ls st) := by
  subst hqC
  have hPc : va_P G vwCl wc H := fun k q hq => by obtain ⟨i, -, h⟩ := tw_is_get hC hq; exact hP i q h
  have hDc := hD.sub is hnd hC
  have hKc := hK.sub ks hks
  have hFc := va_free hD hS hA is hC
  refine va_calli (va_runV (As := As) (rest := rest) F hM cw ⟨tw_Pc_blind, va_recv hKc hPc hcl hr0, fun U hU hW => ⟨rfl, by rw [hU], by rw [hU]; exact hPc, ⟨va_K.moved hW.alike hKc, tw_N.warm hW hN⟩, hDc.weaken (fun _ _ _ _ => trivial)⟩⟩ rfl hn hl hst (lv_room hcat) hdg hcs) hS (fun q _ h => hFc q h) hFc (fun r u t H1 locs1 ht hvm hw hB hz1 hk1 hS1 => ?_)
  subst hw
  have hB : va_P G vwCl wc' t.heap := hB
  rw [ht] at hB
  obtain ⟨hP1, hD1⟩ := tw_back hP hD is hC ha hk1 hB
  rw [hmix] at hP1 hD1
  exact kk H1 locs1 hP1 hD1 hS1
theorem tw_callVv (F : CallFix p m c cc nL s args Ts own) (hN : tw_N s) (hK : va_K G vwCl tys s) (hP : va_P G vwCl ws H) (hD : va_D A0 ws) (hS : va_S A0 H0 H locs) (hA : ∀ q : Nat, H0.size ≤ q → A0 q)
    (hM : tw_Mv l y wsY rm G tysY wc (.ref b :: As) H.size wc') (cw : CallW R s args own C index y bytes maxL ret wsY rm 0 0 n)
    (ks : List Nat) (hks : ks.filterMap (fun i => tys[i]?) = tysY) (is : List Nat) (hnd : va_nd is = true) (hC : is.map (fun i => ws[i]?) = wc.map some) (ha : wc'.map Prod.fst = wc.map Prod.fst) (hmix : tw_mix ws is wc' = ws')
    {r0 ci : Nat} {q : vw_C} {fs : List Value} (hcl : vwCl[ci]? = some q) (hqC : q.1 = C) (hr0 : wc[r0]? = some (b, .inr (ci, fs)))
    (hn : As.length = n) (hl : ls.size = nL) (hst : st = As.reverse ++ .ref b :: rest) (hcat : (rest.map fun v => v.category).sum ≤ 8) (hdg : decode cc pc = .ok (.invokevirtual index, 3)) (hcs : cells ≤ R.cells ∧ slots ≤ R.slots)
    (kk : ∀ (H1 : Heap) (locs1 : List Loc), va_P G vwCl ws' H1 → va_D A0 ws' → va_S A0 H0 H1 locs1 → W p l e R s m args below meth c H1 locs1 cells slots Q (F0 m (pc + 3) ls (rest))) :
    W p l e R s m args below meth c H locs cells slots Q (F0 m pc ls st) := by
  subst hqC
  have hPc : va_P G vwCl wc H := fun k q hq => by obtain ⟨i, -, h⟩ := tw_is_get hC hq; exact hP i q h
  have hDc := hD.sub is hnd hC
  have hKc := hK.sub ks hks
  have hFc := va_free hD hS hA is hC
  refine va_callv (va_runV (As := As) (rest := rest) F hM cw ⟨tw_Pc_blind, va_recv hKc hPc hcl hr0, fun U hU hW => ⟨rfl, by rw [hU], by rw [hU]; exact hPc, ⟨va_K.moved hW.alike hKc, tw_N.warm hW hN⟩, hDc.weaken (fun _ _ _ _ => trivial)⟩⟩ rfl hn hl hst (lv_room hcat) hdg hcs) hS (fun q _ h => hFc q h) hFc (fun u t H1 locs1 ht hvm hw hB hz1 hk1 hS1 => ?_)
  have hB : va_P G vwCl wc' t.heap := hB
  rw [ht] at hB
  obtain ⟨hP1, hD1⟩ := tw_back hP hD is hC ha hk1 hB
  rw [hmix] at hP1 hD1
  exact kk H1 locs1 hP1 hD1 hS1
theorem tw_callVl {rv : Int64} (F : CallFix p m c cc nL s args Ts own) (hN : tw_N s) (hK : va_K G vwCl tys s) (hP : va_P G vwCl ws H) (hD : va_D A0 ws) (hS : va_S A0 H0 H locs) (hA : ∀ q : Nat, H0.size ≤ q → A0 q)
    (hM : tw_Ml l y wsY rm G tysY wc (.ref b :: As) H.size rv wc') (cw : CallW R s args own C index y bytes maxL ret wsY rm 0 0 n)
    (ks : List Nat) (hks : ks.filterMap (fun i => tys[i]?) = tysY) (is : List Nat) (hnd : va_nd is = true) (hC : is.map (fun i => ws[i]?) = wc.map some) (ha : wc'.map Prod.fst = wc.map Prod.fst) (hmix : tw_mix ws is wc' = ws')
    {r0 ci : Nat} {q : vw_C} {fs : List Value} (hcl : vwCl[ci]? = some q) (hqC : q.1 = C) (hr0 : wc[r0]? = some (b, .inr (ci, fs)))
    (hn : As.length = n) (hl : ls.size = nL) (hst : st = As.reverse ++ .ref b :: rest) (hcat : (rest.map fun v => v.category).sum ≤ 8) (hdg : decode cc pc = .ok (.invokevirtual index, 3)) (hcs : cells ≤ R.cells ∧ slots ≤ R.slots)
    (kk : ∀ (H1 : Heap) (locs1 : List Loc), va_P G vwCl ws' H1 → va_D A0 ws' → va_S A0 H0 H1 locs1 → W p l e R s m args below meth c H1 locs1 cells slots Q (F0 m (pc + 3) ls (.long rv :: rest))) :
    W p l e R s m args below meth c H locs cells slots Q (F0 m pc ls st) := by
  subst hqC
  have hPc : va_P G vwCl wc H := fun k q hq => by obtain ⟨i, -, h⟩ := tw_is_get hC hq; exact hP i q h
  have hDc := hD.sub is hnd hC
  have hKc := hK.sub ks hks
  have hFc := va_free hD hS hA is hC
  refine va_calll (va_runV (As := As) (rest := rest) F hM cw ⟨tw_Pc_blind, va_recv hKc hPc hcl hr0, fun U hU hW => ⟨rfl, by rw [hU], by rw [hU]; exact hPc, ⟨va_K.moved hW.alike hKc, tw_N.warm hW hN⟩, hDc.weaken (fun _ _ _ _ => trivial)⟩⟩ rfl hn hl hst (lv_room hcat) hdg hcs) hS (fun q _ h => hFc q h) hFc (fun r u t H1 locs1 ht hvm hw hB hz1 hk1 hS1 => ?_)
  subst hw
  have hB : va_P G vwCl wc' t.heap := hB
  rw [ht] at hB
  obtain ⟨hP1, hD1⟩ := tw_back hP hD is hC ha hk1 hB
  rw [hmix] at hP1 hD1
  exact kk H1 locs1 hP1 hD1 hS1
theorem tw_callVd {rv : UInt64} (F : CallFix p m c cc nL s args Ts own) (hN : tw_N s) (hK : va_K G vwCl tys s) (hP : va_P G vwCl ws H) (hD : va_D A0 ws) (hS : va_S A0 H0 H locs) (hA : ∀ q : Nat, H0.size ≤ q → A0 q)
    (hM : tw_Mu l y wsY rm G tysY wc (.ref b :: As) H.size rv wc') (cw : CallW R s args own C index y bytes maxL ret wsY rm 0 0 n)
    (ks : List Nat) (hks : ks.filterMap (fun i => tys[i]?) = tysY) (is : List Nat) (hnd : va_nd is = true) (hC : is.map (fun i => ws[i]?) = wc.map some) (ha : wc'.map Prod.fst = wc.map Prod.fst) (hmix : tw_mix ws is wc' = ws')
    {r0 ci : Nat} {q : vw_C} {fs : List Value} (hcl : vwCl[ci]? = some q) (hqC : q.1 = C) (hr0 : wc[r0]? = some (b, .inr (ci, fs)))
    (hn : As.length = n) (hl : ls.size = nL) (hst : st = As.reverse ++ .ref b :: rest) (hcat : (rest.map fun v => v.category).sum ≤ 8) (hdg : decode cc pc = .ok (.invokevirtual index, 3)) (hcs : cells ≤ R.cells ∧ slots ≤ R.slots)
    (kk : ∀ (H1 : Heap) (locs1 : List Loc), va_P G vwCl ws' H1 → va_D A0 ws' → va_S A0 H0 H1 locs1 → W p l e R s m args below meth c H1 locs1 cells slots Q (F0 m (pc + 3) ls (.double rv :: rest))) :
    W p l e R s m args below meth c H locs cells slots Q (F0 m pc ls st) := by
  subst hqC
  have hPc : va_P G vwCl wc H := fun k q hq => by obtain ⟨i, -, h⟩ := tw_is_get hC hq; exact hP i q h
  have hDc := hD.sub is hnd hC
  have hKc := hK.sub ks hks
  have hFc := va_free hD hS hA is hC
  refine va_calld (va_runV (As := As) (rest := rest) F hM cw ⟨tw_Pc_blind, va_recv hKc hPc hcl hr0, fun U hU hW => ⟨rfl, by rw [hU], by rw [hU]; exact hPc, ⟨va_K.moved hW.alike hKc, tw_N.warm hW hN⟩, hDc.weaken (fun _ _ _ _ => trivial)⟩⟩ rfl hn hl hst (lv_room hcat) hdg hcs) hS (fun q _ h => hFc q h) hFc (fun r u t H1 locs1 ht hvm hw hB hz1 hk1 hS1 => ?_)
  subst hw
  have hB : va_P G vwCl wc' t.heap := hB
  rw [ht] at hB
  obtain ⟨hP1, hD1⟩ := tw_back hP hD is hC ha hk1 hB
  rw [hmix] at hP1 hD1
  exact kk H1 locs1 hP1 hD1 hS1
theorem tw_callVr {rv : Nat} (F : CallFix p m c cc nL s args Ts own) (hN : tw_N s) (hK : va_K G vwCl tys s) (hP : va_P G vwCl ws H) (hD : va_D A0 ws) (hS : va_S A0 H0 H locs) (hA : ∀ q : Nat, H0.size ≤ q → A0 q)
    (hM : tw_Mr l y wsY rm G tysY wc (.ref b :: As) H.size rv wc') (cw : CallW R s args own C index y bytes maxL ret wsY rm 0 0 n)
    (ks : List Nat) (hks : ks.filterMap (fun i => tys[i]?) = tysY) (is : List Nat) (hnd : va_nd is = true) (hC : is.map (fun i => ws[i]?) = wc.map some) (ha : wc'.map Prod.fst = wc.map Prod.fst) (hmix : tw_mix ws is wc' = ws')
    {r0 ci : Nat} {q : vw_C} {fs : List Value} (hcl : vwCl[ci]? = some q) (hqC : q.1 = C) (hr0 : wc[r0]? = some (b, .inr (ci, fs)))
    (hn : As.length = n) (hl : ls.size = nL) (hst : st = As.reverse ++ .ref b :: rest) (hcat : (rest.map fun v => v.category).sum ≤ 8) (hdg : decode cc pc = .ok (.invokevirtual index, 3)) (hcs : cells ≤ R.cells ∧ slots ≤ R.slots)
    (kk : ∀ (H1 : Heap) (locs1 : List Loc), va_P G vwCl ws' H1 → va_D A0 ws' → va_S A0 H0 H1 locs1 → W p l e R s m args below meth c H1 locs1 cells slots Q (F0 m (pc + 3) ls (.ref rv :: rest))) :
    W p l e R s m args below meth c H locs cells slots Q (F0 m pc ls st) := by
  subst hqC
  have hPc : va_P G vwCl wc H := fun k q hq => by obtain ⟨i, -, h⟩ := tw_is_get hC hq; exact hP i q h
  have hDc := hD.sub is hnd hC
  have hKc := hK.sub ks hks
  have hFc := va_free hD hS hA is hC
  refine va_callr (va_runV (As := As) (rest := rest) F hM cw ⟨tw_Pc_blind, va_recv hKc hPc hcl hr0, fun U hU hW => ⟨rfl, by rw [hU], by rw [hU]; exact hPc, ⟨va_K.moved hW.alike hKc, tw_N.warm hW hN⟩, hDc.weaken (fun _ _ _ _ => trivial)⟩⟩ rfl hn hl hst (lv_room hcat) hdg hcs) hS (fun q _ h => hFc q h) hFc (fun u ra t H1 locs1 ht hvm hw hB hz1 hk1 hS1 => ?_)
  obtain ⟨rfl, hB⟩ := hB
  have hB : va_P G vwCl wc' t.heap := hB
  rw [ht] at hB
  obtain ⟨hP1, hD1⟩ := tw_back hP hD is hC ha hk1 hB
  rw [hmix] at hP1 hD1
  exact kk H1 locs1 hP1 hD1 hS1
theorem tw_callSi {rv : Int32} (F : CallFix p m c cc nL s args Ts own) (hN : tw_N s) (hK : va_K G vwCl tys s) (hP : va_P G vwCl ws H) (hD : va_D A0 ws) (hS : va_S A0 H0 H locs) (hA : ∀ q : Nat, H0.size ≤ q → A0 q)
    (hM : tw_Mi l y wsY rm G tysY wc As H.size rv wc') (cw : CallB R s args own index y bytes maxL ret wsY rm 0 0 n ∧ (Cond.static y).before args s = true)
    (ks : List Nat) (hks : ks.filterMap (fun i => tys[i]?) = tysY) (is : List Nat) (hnd : va_nd is = true) (hC : is.map (fun i => ws[i]?) = wc.map some) (ha : wc'.map Prod.fst = wc.map Prod.fst) (hmix : tw_mix ws is wc' = ws')
    (hn : As.length = n) (hl : ls.size = nL) (hst : st = As.reverse ++ rest) (hcat : (rest.map fun v => v.category).sum ≤ 8) (hdg : decode cc pc = .ok (.invokestatic index, 3)) (hcs : cells ≤ R.cells ∧ slots ≤ R.slots)
    (kk : ∀ (H1 : Heap) (locs1 : List Loc), va_P G vwCl ws' H1 → va_D A0 ws' → va_S A0 H0 H1 locs1 → W p l e R s m args below meth c H1 locs1 cells slots Q (F0 m (pc + 3) ls (.int rv :: rest))) :
    W p l e R s m args below meth c H locs cells slots Q (F0 m pc ls st) := by
  have hPc : va_P G vwCl wc H := fun k q hq => by obtain ⟨i, -, h⟩ := tw_is_get hC hq; exact hP i q h
  have hDc := hD.sub is hnd hC
  have hKc := hK.sub ks hks
  have hFc := va_free hD hS hA is hC
  refine va_calli (va_runS (As := As) (rest := rest) F hM cw ⟨tw_Pc_blind, fun U hU hW => ⟨rfl, by rw [hU], by rw [hU]; exact hPc, ⟨va_K.moved hW.alike hKc, tw_N.warm hW hN⟩, hDc.weaken (fun _ _ _ _ => trivial)⟩⟩ rfl hn hl hst (lv_room hcat) hdg hcs) hS (fun q _ h => hFc q h) hFc (fun r u t H1 locs1 ht hvm hw hB hz1 hk1 hS1 => ?_)
  subst hw
  have hB : va_P G vwCl wc' t.heap := hB
  rw [ht] at hB
  obtain ⟨hP1, hD1⟩ := tw_back hP hD is hC ha hk1 hB
  rw [hmix] at hP1 hD1
  exact kk H1 locs1 hP1 hD1 hS1
theorem tw_callSv (F : CallFix p m c cc nL s args Ts own) (hN : tw_N s) (hK : va_K G vwCl tys s) (hP : va_P G vwCl ws H) (hD : va_D A0 ws) (hS : va_S A0 H0 H locs) (hA : ∀ q : Nat, H0.size ≤ q → A0 q)
    (hM : tw_Mv l y wsY rm G tysY wc As H.size wc') (cw : CallB R s args own index y bytes maxL ret wsY rm 0 0 n ∧ (Cond.static y).before args s = true)
    (ks : List Nat) (hks : ks.filterMap (fun i => tys[i]?) = tysY) (is : List Nat) (hnd : va_nd is = true) (hC : is.map (fun i => ws[i]?) = wc.map some) (ha : wc'.map Prod.fst = wc.map Prod.fst) (hmix : tw_mix ws is wc' = ws')
    (hn : As.length = n) (hl : ls.size = nL) (hst : st = As.reverse ++ rest) (hcat : (rest.map fun v => v.category).sum ≤ 8) (hdg : decode cc pc = .ok (.invokestatic index, 3)) (hcs : cells ≤ R.cells ∧ slots ≤ R.slots)
    (kk : ∀ (H1 : Heap) (locs1 : List Loc), va_P G vwCl ws' H1 → va_D A0 ws' → va_S A0 H0 H1 locs1 → W p l e R s m args below meth c H1 locs1 cells slots Q (F0 m (pc + 3) ls (rest))) :
    W p l e R s m args below meth c H locs cells slots Q (F0 m pc ls st) := by
  have hPc : va_P G vwCl wc H := fun k q hq => by obtain ⟨i, -, h⟩ := tw_is_get hC hq; exact hP i q h
  have hDc := hD.sub is hnd hC
  have hKc := hK.sub ks hks
  have hFc := va_free hD hS hA is hC
  refine va_callv (va_runS (As := As) (rest := rest) F hM cw ⟨tw_Pc_blind, fun U hU hW => ⟨rfl, by rw [hU], by rw [hU]; exact hPc, ⟨va_K.moved hW.alike hKc, tw_N.warm hW hN⟩, hDc.weaken (fun _ _ _ _ => trivial)⟩⟩ rfl hn hl hst (lv_room hcat) hdg hcs) hS (fun q _ h => hFc q h) hFc (fun u t H1 locs1 ht hvm hw hB hz1 hk1 hS1 => ?_)
  have hB : va_P G vwCl wc' t.heap := hB
  rw [ht] at hB
  obtain ⟨hP1, hD1⟩ := tw_back hP hD is hC ha hk1 hB
  rw [hmix] at hP1 hD1
  exact kk H1 locs1 hP1 hD1 hS1
theorem tw_callSl {rv : Int64} (F : CallFix p m c cc nL s args Ts own) (hN : tw_N s) (hK : va_K G vwCl tys s) (hP : va_P G vwCl ws H) (hD : va_D A0 ws) (hS : va_S A0 H0 H locs) (hA : ∀ q : Nat, H0.size ≤ q → A0 q)
    (hM : tw_Ml l y wsY rm G tysY wc As H.size rv wc') (cw : CallB R s args own index y bytes maxL ret wsY rm 0 0 n ∧ (Cond.static y).before args s = true)
    (ks : List Nat) (hks : ks.filterMap (fun i => tys[i]?) = tysY) (is : List Nat) (hnd : va_nd is = true) (hC : is.map (fun i => ws[i]?) = wc.map some) (ha : wc'.map Prod.fst = wc.map Prod.fst) (hmix : tw_mix ws is wc' = ws')
    (hn : As.length = n) (hl : ls.size = nL) (hst : st = As.reverse ++ rest) (hcat : (rest.map fun v => v.category).sum ≤ 8) (hdg : decode cc pc = .ok (.invokestatic index, 3)) (hcs : cells ≤ R.cells ∧ slots ≤ R.slots)
    (kk : ∀ (H1 : Heap) (locs1 : List Loc), va_P G vwCl ws' H1 → va_D A0 ws' → va_S A0 H0 H1 locs1 → W p l e R s m args below meth c H1 locs1 cells slots Q (F0 m (pc + 3) ls (.long rv :: rest))) :
    W p l e R s m args below meth c H locs cells slots Q (F0 m pc ls st) := by
  have hPc : va_P G vwCl wc H := fun k q hq => by obtain ⟨i, -, h⟩ := tw_is_get hC hq; exact hP i q h
  have hDc := hD.sub is hnd hC
  have hKc := hK.sub ks hks
  have hFc := va_free hD hS hA is hC
  refine va_calll (va_runS (As := As) (rest := rest) F hM cw ⟨tw_Pc_blind, fun U hU hW => ⟨rfl, by rw [hU], by rw [hU]; exact hPc, ⟨va_K.moved hW.alike hKc, tw_N.warm hW hN⟩, hDc.weaken (fun _ _ _ _ => trivial)⟩⟩ rfl hn hl hst (lv_room hcat) hdg hcs) hS (fun q _ h => hFc q h) hFc (fun r u t H1 locs1 ht hvm hw hB hz1 hk1 hS1 => ?_)
  subst hw
  have hB : va_P G vwCl wc' t.heap := hB
  rw [ht] at hB
  obtain ⟨hP1, hD1⟩ := tw_back hP hD is hC ha hk1 hB
  rw [hmix] at hP1 hD1
  exact kk H1 locs1 hP1 hD1 hS1
theorem tw_callSNi {rv : Int32} (F : CallFix p m c cc nL s args Ts own) (hN : tw_N s) (hK : va_K G vwCl tys s) (hP : va_P G vwCl ws H) (hD : va_D A0 ws) (hS : va_S A0 H0 H locs) (hA : ∀ q : Nat, H0.size ≤ q → A0 q)
    (hM : tw_Mi l y wsY rm G tysY wc As H.size rv wc') (cw : va_CN R s args own index y host bytes maxL ret wsY rm 0 0 n ∧ (Cond.static y).before args s = true ∧ True)
    (ks : List Nat) (hks : ks.filterMap (fun i => tys[i]?) = tysY) (is : List Nat) (hnd : va_nd is = true) (hC : is.map (fun i => ws[i]?) = wc.map some) (ha : wc'.map Prod.fst = wc.map Prod.fst) (hmix : tw_mix ws is wc' = ws')
    (hn : As.length = n) (hl : ls.size = nL) (hst : st = As.reverse ++ rest) (hcat : (rest.map fun v => v.category).sum ≤ 8) (hdg : decode cc pc = .ok (.invokestatic index, 3)) (hcs : cells ≤ R.cells ∧ slots ≤ R.slots)
    (kk : ∀ (H1 : Heap) (locs1 : List Loc), va_P G vwCl ws' H1 → va_D A0 ws' → va_S A0 H0 H1 locs1 → W p l e R s m args below meth c H1 locs1 cells slots Q (F0 m (pc + 3) ls (.int rv :: rest))) :
    W p l e R s m args below meth c H locs cells slots Q (F0 m pc ls st) := by
  have hPc : va_P G vwCl wc H := fun k q hq => by obtain ⟨i, -, h⟩ := tw_is_get hC hq; exact hP i q h
  have hDc := hD.sub is hnd hC
  have hKc := hK.sub ks hks
  have hFc := va_free hD hS hA is hC
  refine va_calli (va_runSN (As := As) (rest := rest) F hM cw ⟨tw_Pc_blind, fun U hU hW => ⟨rfl, by rw [hU], by rw [hU]; exact hPc, ⟨va_K.moved hW.alike hKc, tw_N.warm hW hN⟩, hDc.weaken (fun _ _ _ _ => trivial)⟩⟩ rfl hn hl hst (lv_room hcat) hdg hcs) hS (fun q _ h => hFc q h) hFc (fun r u t H1 locs1 ht hvm hw hB hz1 hk1 hS1 => ?_)
  subst hw
  have hB : va_P G vwCl wc' t.heap := hB
  rw [ht] at hB
  obtain ⟨hP1, hD1⟩ := tw_back hP hD is hC ha hk1 hB
  rw [hmix] at hP1 hD1
  exact kk H1 locs1 hP1 hD1 hS1
theorem tw_callViF {rv : Int32} (F : CallFix p m c cc nL s args Ts own) (hN : tw_N s) (hK : va_K G vwCl tys s) (hP : va_P G vwCl ws H) (hD : va_D A0 ws) (hS : va_S A0 H0 H locs) (hA : ∀ q : Nat, H0.size ≤ q → A0 q)
    (hM : tw_Mi l y wsY rm G tys ws (.ref b :: As) H.size rv ws') (cw : CallW R s args own C index y bytes maxL ret wsY rm 0 0 n)
    (ha : ws'.map Prod.fst = ws.map Prod.fst)
    {r0 ci : Nat} {q : vw_C} {fs : List Value} (hcl : vwCl[ci]? = some q) (hqC : q.1 = C) (hr0 : ws[r0]? = some (b, .inr (ci, fs)))
    (hn : As.length = n) (hl : ls.size = nL) (hst : st = As.reverse ++ .ref b :: rest) (hcat : (rest.map fun v => v.category).sum ≤ 8) (hdg : decode cc pc = .ok (.invokevirtual index, 3)) (hcs : cells ≤ R.cells ∧ slots ≤ R.slots)
    (kk : ∀ (H1 : Heap) (locs1 : List Loc), va_P G vwCl ws' H1 → va_D A0 ws' → va_S A0 H0 H1 locs1 → W p l e R s m args below meth c H1 locs1 cells slots Q (F0 m (pc + 3) ls (.int rv :: rest))) :
    W p l e R s m args below meth c H locs cells slots Q (F0 m pc ls st) := by
  subst hqC
  have hFc : ∀ q, va_A ws H.size q → A0 q := fun q h => h.elim (fun ⟨k, e, h⟩ => hD.2 k _ h) (fun h => hA q (Nat.le_trans hS.1 h))
  refine va_calli (va_runV (As := As) (rest := rest) F hM cw ⟨tw_Pc_blind, va_recv hK hP hcl hr0, fun U hU hW => ⟨rfl, by rw [hU], by rw [hU]; exact hP, ⟨va_K.moved hW.alike hK, tw_N.warm hW hN⟩, hD.weaken (fun _ _ _ _ => trivial)⟩⟩ rfl hn hl hst (lv_room hcat) hdg hcs) hS (fun q _ h => hFc q h) hFc (fun r u t H1 locs1 ht hvm hw hB hz1 hk1 hS1 => ?_)
  subst hw
  have hB : va_P G vwCl ws' t.heap := hB
  rw [ht] at hB
  exact kk H1 locs1 hB (tw_D_fst ha hD) hS1
theorem tw_callVvF (F : CallFix p m c cc nL s args Ts own) (hN : tw_N s) (hK : va_K G vwCl tys s) (hP : va_P G vwCl ws H) (hD : va_D A0 ws) (hS : va_S A0 H0 H locs) (hA : ∀ q : Nat, H0.size ≤ q → A0 q)
    (hM : tw_Mv l y wsY rm G tys ws (.ref b :: As) H.size ws') (cw : CallW R s args own C index y bytes maxL ret wsY rm 0 0 n)
    (ha : ws'.map Prod.fst = ws.map Prod.fst)
    {r0 ci : Nat} {q : vw_C} {fs : List Value} (hcl : vwCl[ci]? = some q) (hqC : q.1 = C) (hr0 : ws[r0]? = some (b, .inr (ci, fs)))
    (hn : As.length = n) (hl : ls.size = nL) (hst : st = As.reverse ++ .ref b :: rest) (hcat : (rest.map fun v => v.category).sum ≤ 8) (hdg : decode cc pc = .ok (.invokevirtual index, 3)) (hcs : cells ≤ R.cells ∧ slots ≤ R.slots)
    (kk : ∀ (H1 : Heap) (locs1 : List Loc), va_P G vwCl ws' H1 → va_D A0 ws' → va_S A0 H0 H1 locs1 → W p l e R s m args below meth c H1 locs1 cells slots Q (F0 m (pc + 3) ls (rest))) :
    W p l e R s m args below meth c H locs cells slots Q (F0 m pc ls st) := by
  subst hqC
  have hFc : ∀ q, va_A ws H.size q → A0 q := fun q h => h.elim (fun ⟨k, e, h⟩ => hD.2 k _ h) (fun h => hA q (Nat.le_trans hS.1 h))
  refine va_callv (va_runV (As := As) (rest := rest) F hM cw ⟨tw_Pc_blind, va_recv hK hP hcl hr0, fun U hU hW => ⟨rfl, by rw [hU], by rw [hU]; exact hP, ⟨va_K.moved hW.alike hK, tw_N.warm hW hN⟩, hD.weaken (fun _ _ _ _ => trivial)⟩⟩ rfl hn hl hst (lv_room hcat) hdg hcs) hS (fun q _ h => hFc q h) hFc (fun u t H1 locs1 ht hvm hw hB hz1 hk1 hS1 => ?_)
  have hB : va_P G vwCl ws' t.heap := hB
  rw [ht] at hB
  exact kk H1 locs1 hB (tw_D_fst ha hD) hS1
theorem tw_callVlF {rv : Int64} (F : CallFix p m c cc nL s args Ts own) (hN : tw_N s) (hK : va_K G vwCl tys s) (hP : va_P G vwCl ws H) (hD : va_D A0 ws) (hS : va_S A0 H0 H locs) (hA : ∀ q : Nat, H0.size ≤ q → A0 q)
    (hM : tw_Ml l y wsY rm G tys ws (.ref b :: As) H.size rv ws') (cw : CallW R s args own C index y bytes maxL ret wsY rm 0 0 n)
    (ha : ws'.map Prod.fst = ws.map Prod.fst)
    {r0 ci : Nat} {q : vw_C} {fs : List Value} (hcl : vwCl[ci]? = some q) (hqC : q.1 = C) (hr0 : ws[r0]? = some (b, .inr (ci, fs)))
    (hn : As.length = n) (hl : ls.size = nL) (hst : st = As.reverse ++ .ref b :: rest) (hcat : (rest.map fun v => v.category).sum ≤ 8) (hdg : decode cc pc = .ok (.invokevirtual index, 3)) (hcs : cells ≤ R.cells ∧ slots ≤ R.slots)
    (kk : ∀ (H1 : Heap) (locs1 : List Loc), va_P G vwCl ws' H1 → va_D A0 ws' → va_S A0 H0 H1 locs1 → W p l e R s m args below meth c H1 locs1 cells slots Q (F0 m (pc + 3) ls (.long rv :: rest))) :
    W p l e R s m args below meth c H locs cells slots Q (F0 m pc ls st) := by
  subst hqC
  have hFc : ∀ q, va_A ws H.size q → A0 q := fun q h => h.elim (fun ⟨k, e, h⟩ => hD.2 k _ h) (fun h => hA q (Nat.le_trans hS.1 h))
  refine va_calll (va_runV (As := As) (rest := rest) F hM cw ⟨tw_Pc_blind, va_recv hK hP hcl hr0, fun U hU hW => ⟨rfl, by rw [hU], by rw [hU]; exact hP, ⟨va_K.moved hW.alike hK, tw_N.warm hW hN⟩, hD.weaken (fun _ _ _ _ => trivial)⟩⟩ rfl hn hl hst (lv_room hcat) hdg hcs) hS (fun q _ h => hFc q h) hFc (fun r u t H1 locs1 ht hvm hw hB hz1 hk1 hS1 => ?_)
  subst hw
  have hB : va_P G vwCl ws' t.heap := hB
  rw [ht] at hB
  exact kk H1 locs1 hB (tw_D_fst ha hD) hS1
theorem tw_callVdF {rv : UInt64} (F : CallFix p m c cc nL s args Ts own) (hN : tw_N s) (hK : va_K G vwCl tys s) (hP : va_P G vwCl ws H) (hD : va_D A0 ws) (hS : va_S A0 H0 H locs) (hA : ∀ q : Nat, H0.size ≤ q → A0 q)
    (hM : tw_Mu l y wsY rm G tys ws (.ref b :: As) H.size rv ws') (cw : CallW R s args own C index y bytes maxL ret wsY rm 0 0 n)
    (ha : ws'.map Prod.fst = ws.map Prod.fst)
    {r0 ci : Nat} {q : vw_C} {fs : List Value} (hcl : vwCl[ci]? = some q) (hqC : q.1 = C) (hr0 : ws[r0]? = some (b, .inr (ci, fs)))
    (hn : As.length = n) (hl : ls.size = nL) (hst : st = As.reverse ++ .ref b :: rest) (hcat : (rest.map fun v => v.category).sum ≤ 8) (hdg : decode cc pc = .ok (.invokevirtual index, 3)) (hcs : cells ≤ R.cells ∧ slots ≤ R.slots)
    (kk : ∀ (H1 : Heap) (locs1 : List Loc), va_P G vwCl ws' H1 → va_D A0 ws' → va_S A0 H0 H1 locs1 → W p l e R s m args below meth c H1 locs1 cells slots Q (F0 m (pc + 3) ls (.double rv :: rest))) :
    W p l e R s m args below meth c H locs cells slots Q (F0 m pc ls st) := by
  subst hqC
  have hFc : ∀ q, va_A ws H.size q → A0 q := fun q h => h.elim (fun ⟨k, e, h⟩ => hD.2 k _ h) (fun h => hA q (Nat.le_trans hS.1 h))
  refine va_calld (va_runV (As := As) (rest := rest) F hM cw ⟨tw_Pc_blind, va_recv hK hP hcl hr0, fun U hU hW => ⟨rfl, by rw [hU], by rw [hU]; exact hP, ⟨va_K.moved hW.alike hK, tw_N.warm hW hN⟩, hD.weaken (fun _ _ _ _ => trivial)⟩⟩ rfl hn hl hst (lv_room hcat) hdg hcs) hS (fun q _ h => hFc q h) hFc (fun r u t H1 locs1 ht hvm hw hB hz1 hk1 hS1 => ?_)
  subst hw
  have hB : va_P G vwCl ws' t.heap := hB
  rw [ht] at hB
  exact kk H1 locs1 hB (tw_D_fst ha hD) hS1
theorem tw_callSiF {rv : Int32} (F : CallFix p m c cc nL s args Ts own) (hN : tw_N s) (hK : va_K G vwCl tys s) (hP : va_P G vwCl ws H) (hD : va_D A0 ws) (hS : va_S A0 H0 H locs) (hA : ∀ q : Nat, H0.size ≤ q → A0 q)
    (hM : tw_Mi l y wsY rm G tys ws As H.size rv ws') (cw : CallB R s args own index y bytes maxL ret wsY rm 0 0 n ∧ (Cond.static y).before args s = true)
    (ha : ws'.map Prod.fst = ws.map Prod.fst)
    (hn : As.length = n) (hl : ls.size = nL) (hst : st = As.reverse ++ rest) (hcat : (rest.map fun v => v.category).sum ≤ 8) (hdg : decode cc pc = .ok (.invokestatic index, 3)) (hcs : cells ≤ R.cells ∧ slots ≤ R.slots)
    (kk : ∀ (H1 : Heap) (locs1 : List Loc), va_P G vwCl ws' H1 → va_D A0 ws' → va_S A0 H0 H1 locs1 → W p l e R s m args below meth c H1 locs1 cells slots Q (F0 m (pc + 3) ls (.int rv :: rest))) :
    W p l e R s m args below meth c H locs cells slots Q (F0 m pc ls st) := by
  have hFc : ∀ q, va_A ws H.size q → A0 q := fun q h => h.elim (fun ⟨k, e, h⟩ => hD.2 k _ h) (fun h => hA q (Nat.le_trans hS.1 h))
  refine va_calli (va_runS (As := As) (rest := rest) F hM cw ⟨tw_Pc_blind, fun U hU hW => ⟨rfl, by rw [hU], by rw [hU]; exact hP, ⟨va_K.moved hW.alike hK, tw_N.warm hW hN⟩, hD.weaken (fun _ _ _ _ => trivial)⟩⟩ rfl hn hl hst (lv_room hcat) hdg hcs) hS (fun q _ h => hFc q h) hFc (fun r u t H1 locs1 ht hvm hw hB hz1 hk1 hS1 => ?_)
  subst hw
  have hB : va_P G vwCl ws' t.heap := hB
  rw [ht] at hB
  exact kk H1 locs1 hB (tw_D_fst ha hD) hS1
theorem tw_callSvF (F : CallFix p m c cc nL s args Ts own) (hN : tw_N s) (hK : va_K G vwCl tys s) (hP : va_P G vwCl ws H) (hD : va_D A0 ws) (hS : va_S A0 H0 H locs) (hA : ∀ q : Nat, H0.size ≤ q → A0 q)
    (hM : tw_Mv l y wsY rm G tys ws As H.size ws') (cw : CallB R s args own index y bytes maxL ret wsY rm 0 0 n ∧ (Cond.static y).before args s = true)
    (ha : ws'.map Prod.fst = ws.map Prod.fst)
    (hn : As.length = n) (hl : ls.size = nL) (hst : st = As.reverse ++ rest) (hcat : (rest.map fun v => v.category).sum ≤ 8) (hdg : decode cc pc = .ok (.invokestatic index, 3)) (hcs : cells ≤ R.cells ∧ slots ≤ R.slots)
    (kk : ∀ (H1 : Heap) (locs1 : List Loc), va_P G vwCl ws' H1 → va_D A0 ws' → va_S A0 H0 H1 locs1 → W p l e R s m args below meth c H1 locs1 cells slots Q (F0 m (pc + 3) ls (rest))) :
    W p l e R s m args below meth c H locs cells slots Q (F0 m pc ls st) := by
  have hFc : ∀ q, va_A ws H.size q → A0 q := fun q h => h.elim (fun ⟨k, e, h⟩ => hD.2 k _ h) (fun h => hA q (Nat.le_trans hS.1 h))
  refine va_callv (va_runS (As := As) (rest := rest) F hM cw ⟨tw_Pc_blind, fun U hU hW => ⟨rfl, by rw [hU], by rw [hU]; exact hP, ⟨va_K.moved hW.alike hK, tw_N.warm hW hN⟩, hD.weaken (fun _ _ _ _ => trivial)⟩⟩ rfl hn hl hst (lv_room hcat) hdg hcs) hS (fun q _ h => hFc q h) hFc (fun u t H1 locs1 ht hvm hw hB hz1 hk1 hS1 => ?_)
  have hB : va_P G vwCl ws' t.heap := hB
  rw [ht] at hB
  exact kk H1 locs1 hB (tw_D_fst ha hD) hS1
end TWC
theorem tw_ofi {l : Launch} {y : MethodName} {ws ws1 : List Cond} {rm : Room} {G : va_G} {tys : List (ClassId × FieldType)} {wc wc' : va_W} {av : List Value} {sz : Nat} {rv : Int32} {cc : ByteArray} {maxL : Nat} {ty : FieldType} {own : String} (hy : plainName y.cls = true) (how : y.cls = own) (hw : ws = Cond.code y cc maxL (some ty) :: ws1) (hmx : (lg_sl av).length ≤ maxL)
    (body : ∀ (p : Program) (e : Env) (s : State) (m : MethodId) (args : Array Value) (below : List Frame) (meth : Method) (c : Code) (Q : State → Prop) (A : Nat → Prop) (ls : Array Slot) (H : Heap) (locs : List Loc), CallFix p m c cc maxL s args ws own → tw_N s → va_K G vwCl tys s → va_P G vwCl wc H → va_D A wc → va_S A s.heap H locs → (∀ q : Nat, s.heap.size ≤ q → A q) → lv_has ls maxL (lv_args 0 av) →
      (∀ (H : Heap) (locs : List Loc) (pc : Nat) (ls : Array Slot) (x : Int32), rv = x → narrow ty (.int x) = .int x →  va_P G vwCl wc' H → va_S A s.heap H locs → decode cc pc = .ok (.ireturn, 1) → W p l e rm s m args below meth c H locs 0 0 Q (F0 m pc ls [.int x])) →
      W p l e rm s m args below meth c H locs 0 0 Q (F0 m 0 ls [])) : tw_Mi l y ws rm G tys wc av sz rv wc' := by
  subst how
  refine Met.ofW (cc := cc) (maxL := maxL) (ret := (some ty)) hy hw ?_
  intro p e s m args below meth c s₁ B hml hv
  obtain ⟨rfl, hsz, hP, ⟨hK, hN⟩, hD0⟩ := hv
  have hD := hD0.self (sz := sz)
  have hl := lv_entry av (n := maxL) hmx
  rw [lg_entry_eq]
  refine body p e s m av.toArray below meth c _ (va_A wc sz) _ _ _ ⟨B.exec, B.bytes, hml, findClass_of_methodNamed B.named, atoms_spec (ws := ws) B.pre⟩ hN hK hP hD va_S.rf (fun q h => Or.inr (hsz ▸ h)) hl (fun H locs pc ls x hx9 hn hP9 hS9 hd => ?_)
  exact W.zret B.exec B.bytes B.returns hn (fun t ht hW => ⟨⟨x, (), rfl, hx9, by dsimp only; rw [ht]; exact hP9⟩, hS9.F ht⟩) hS9.2.2 hd B.notSynchronized
theorem tw_ofl {l : Launch} {y : MethodName} {ws ws1 : List Cond} {rm : Room} {G : va_G} {tys : List (ClassId × FieldType)} {wc wc' : va_W} {av : List Value} {sz : Nat} {rv : Int64} {cc : ByteArray} {maxL : Nat} {own : String} (hy : plainName y.cls = true) (how : y.cls = own) (hw : ws = Cond.code y cc maxL (some .long) :: ws1) (hmx : (lg_sl av).length ≤ maxL)
    (body : ∀ (p : Program) (e : Env) (s : State) (m : MethodId) (args : Array Value) (below : List Frame) (meth : Method) (c : Code) (Q : State → Prop) (A : Nat → Prop) (ls : Array Slot) (H : Heap) (locs : List Loc), CallFix p m c cc maxL s args ws own → tw_N s → va_K G vwCl tys s → va_P G vwCl wc H → va_D A wc → va_S A s.heap H locs → (∀ q : Nat, s.heap.size ≤ q → A q) → lv_has ls maxL (lv_args 0 av) →
      (∀ (H : Heap) (locs : List Loc) (pc : Nat) (ls : Array Slot) (x : Int64), rv = x →  va_P G vwCl wc' H → va_S A s.heap H locs → decode cc pc = .ok (.lreturn, 1) → W p l e rm s m args below meth c H locs 0 0 Q (F0 m pc ls [.long x])) →
      W p l e rm s m args below meth c H locs 0 0 Q (F0 m 0 ls [])) : tw_Ml l y ws rm G tys wc av sz rv wc' := by
  subst how
  refine Met.ofW (cc := cc) (maxL := maxL) (ret := (some .long)) hy hw ?_
  intro p e s m args below meth c s₁ B hml hv
  obtain ⟨rfl, hsz, hP, ⟨hK, hN⟩, hD0⟩ := hv
  have hD := hD0.self (sz := sz)
  have hl := lv_entry av (n := maxL) hmx
  rw [lg_entry_eq]
  refine body p e s m av.toArray below meth c _ (va_A wc sz) _ _ _ ⟨B.exec, B.bytes, hml, findClass_of_methodNamed B.named, atoms_spec (ws := ws) B.pre⟩ hN hK hP hD va_S.rf (fun q h => Or.inr (hsz ▸ h)) hl (fun H locs pc ls x hx9 hP9 hS9 hd => ?_)
  exact W.lret B.exec B.bytes B.returns (fun t ht hW => ⟨⟨x, (), rfl, hx9, by dsimp only; rw [ht]; exact hP9⟩, hS9.F ht⟩) hS9.2.2 hd B.notSynchronized
theorem tw_ofd {l : Launch} {y : MethodName} {ws ws1 : List Cond} {rm : Room} {G : va_G} {tys : List (ClassId × FieldType)} {wc wc' : va_W} {av : List Value} {sz : Nat} {rv : UInt64} {cc : ByteArray} {maxL : Nat} {own : String} (hy : plainName y.cls = true) (how : y.cls = own) (hw : ws = Cond.code y cc maxL (some .double) :: ws1) (hmx : (lg_sl av).length ≤ maxL)
    (body : ∀ (p : Program) (e : Env) (s : State) (m : MethodId) (args : Array Value) (below : List Frame) (meth : Method) (c : Code) (Q : State → Prop) (A : Nat → Prop) (ls : Array Slot) (H : Heap) (locs : List Loc), CallFix p m c cc maxL s args ws own → tw_N s → va_K G vwCl tys s → va_P G vwCl wc H → va_D A wc → va_S A s.heap H locs → (∀ q : Nat, s.heap.size ≤ q → A q) → lv_has ls maxL (lv_args 0 av) →
      (∀ (H : Heap) (locs : List Loc) (pc : Nat) (ls : Array Slot) (x : UInt64), rv = x →  va_P G vwCl wc' H → va_S A s.heap H locs → decode cc pc = .ok (.dreturn, 1) → W p l e rm s m args below meth c H locs 0 0 Q (F0 m pc ls [.double x])) →
      W p l e rm s m args below meth c H locs 0 0 Q (F0 m 0 ls [])) : tw_Mu l y ws rm G tys wc av sz rv wc' := by
  subst how
  refine Met.ofW (cc := cc) (maxL := maxL) (ret := (some .double)) hy hw ?_
  intro p e s m args below meth c s₁ B hml hv
  obtain ⟨rfl, hsz, hP, ⟨hK, hN⟩, hD0⟩ := hv
  have hD := hD0.self (sz := sz)
  have hl := lv_entry av (n := maxL) hmx
  rw [lg_entry_eq]
  refine body p e s m av.toArray below meth c _ (va_A wc sz) _ _ _ ⟨B.exec, B.bytes, hml, findClass_of_methodNamed B.named, atoms_spec (ws := ws) B.pre⟩ hN hK hP hD va_S.rf (fun q h => Or.inr (hsz ▸ h)) hl (fun H locs pc ls x hx9 hP9 hS9 hd => ?_)
  exact W.dret B.exec B.bytes B.returns (fun t ht hW => ⟨⟨x, (), rfl, hx9, by dsimp only; rw [ht]; exact hP9⟩, hS9.F ht⟩) hS9.2.2 hd B.notSynchronized
theorem tw_ofv {l : Launch} {y : MethodName} {ws ws1 : List Cond} {rm : Room} {G : va_G} {tys : List (ClassId × FieldType)} {wc wc' : va_W} {av : List Value} {sz : Nat} {cc : ByteArray} {maxL : Nat} {own : String} (hy : plainName y.cls = true) (how : y.cls = own) (hw : ws = Cond.code y cc maxL none :: ws1) (hmx : (lg_sl av).length ≤ maxL)
    (body : ∀ (p : Program) (e : Env) (s : State) (m : MethodId) (args : Array Value) (below : List Frame) (meth : Method) (c : Code) (Q : State → Prop) (A : Nat → Prop) (ls : Array Slot) (H : Heap) (locs : List Loc), CallFix p m c cc maxL s args ws own → tw_N s → va_K G vwCl tys s → va_P G vwCl wc H → va_D A wc → va_S A s.heap H locs → (∀ q : Nat, s.heap.size ≤ q → A q) → lv_has ls maxL (lv_args 0 av) →
      (∀ (H : Heap) (locs : List Loc) (pc : Nat) (ls : Array Slot), va_P G vwCl wc' H → va_S A s.heap H locs → decode cc pc = .ok (.return_, 1) → W p l e rm s m args below meth c H locs 0 0 Q (F0 m pc ls [])) →
      W p l e rm s m args below meth c H locs 0 0 Q (F0 m 0 ls [])) : tw_Mv l y ws rm G tys wc av sz wc' := by
  subst how
  refine Met.ofW (cc := cc) (maxL := maxL) (ret := none) hy hw ?_
  intro p e s m args below meth c s₁ B hml hv
  obtain ⟨rfl, hsz, hP, ⟨hK, hN⟩, hD0⟩ := hv
  have hD := hD0.self (sz := sz)
  have hl := lv_entry av (n := maxL) hmx
  rw [lg_entry_eq]
  refine body p e s m av.toArray below meth c _ (va_A wc sz) _ _ _ ⟨B.exec, B.bytes, hml, findClass_of_methodNamed B.named, atoms_spec (ws := ws) B.pre⟩ hN hK hP hD va_S.rf (fun q h => Or.inr (hsz ▸ h)) hl (fun H locs pc ls hP9 hS9 hd => ?_)
  exact W.vret B.exec B.bytes B.returns (fun t ht hW => ⟨⟨(), rfl, trivial, by dsimp only; rw [ht]; exact hP9⟩, hS9.F ht⟩) hS9.2.2 hd B.notSynchronized
theorem tw_ofr {l : Launch} {y : MethodName} {ws ws1 : List Cond} {rm : Room} {G : va_G} {tys : List (ClassId × FieldType)} {wc wc' : va_W} {av : List Value} {sz : Nat} {rv : Nat} {cc : ByteArray} {maxL : Nat} {own : String} (hy : plainName y.cls = true) (how : y.cls = own) (hw : ws = Cond.code y cc maxL (some (.array .int)) :: ws1) (hmx : (lg_sl av).length ≤ maxL)
    (body : ∀ (p : Program) (e : Env) (s : State) (m : MethodId) (args : Array Value) (below : List Frame) (meth : Method) (c : Code) (Q : State → Prop) (A : Nat → Prop) (ls : Array Slot) (H : Heap) (locs : List Loc), CallFix p m c cc maxL s args ws own → tw_N s → va_K G vwCl tys s → va_P G vwCl wc H → va_D A wc → va_S A s.heap H locs → (∀ q : Nat, s.heap.size ≤ q → A q) → lv_has ls maxL (lv_args 0 av) →
      (∀ (H : Heap) (locs : List Loc) (pc : Nat) (ls : Array Slot) (x : Nat), x = rv →  va_P G vwCl wc' H → va_S A s.heap H locs → decode cc pc = .ok (.areturn, 1) → W p l e rm s m args below meth c H locs 0 0 Q (F0 m pc ls [.ref x])) →
      W p l e rm s m args below meth c H locs 0 0 Q (F0 m 0 ls [])) : tw_Mr l y ws rm G tys wc av sz rv wc' := by
  subst how
  refine Met.ofW (cc := cc) (maxL := maxL) (ret := (some (.array .int))) hy hw ?_
  intro p e s m args below meth c s₁ B hml hv
  obtain ⟨rfl, hsz, hP, ⟨hK, hN⟩, hD0⟩ := hv
  have hD := hD0.self (sz := sz)
  have hl := lv_entry av (n := maxL) hmx
  rw [lg_entry_eq]
  refine body p e s m av.toArray below meth c _ (va_A wc sz) _ _ _ ⟨B.exec, B.bytes, hml, findClass_of_methodNamed B.named, atoms_spec (ws := ws) B.pre⟩ hN hK hP hD va_S.rf (fun q h => Or.inr (hsz ▸ h)) hl (fun H locs pc ls x hx9 hP9 hS9 hd => ?_)
  exact W.aret B.exec B.bytes B.returns (Or.inr ⟨_, rfl⟩) (Or.inr ⟨_, rfl⟩) (fun t ht hW => ⟨⟨(), x, rfl, trivial, hx9, by rw [ht]; exact hP9⟩, hS9.F ht⟩) hS9.2.2 hd B.notSynchronized
section TWS
variable {p : Program} {l : Launch} {e : Env} {R : Room} {s : State} {m : MethodId} {args : Array Value} {below : List Frame} {meth : Method} {c : Code} {H : Heap} {locs : List Loc} {cells slots : Nat} {Q : State → Prop}
variable {cc : ByteArray} {pc : Nat} {ls : Array Slot} {rest : List Value} {D : va_G} {cl : List vw_C} {A : Nat → Prop} {a : Nat} {tys : List (ClassId × FieldType)} {ws ws' : va_W} {H0 : Heap}
theorem tw_put (hexec : p.tables.exec = Jvm.exec) (hb : c.code = cc) {own ref C : String} {T : u_T} {N ci index : Nat} {Ts : List Cond} (hts : ∀ w ∈ Ts, w.before args s = true) (hin : ∀ w ∈ u_ws C T N, w ∈ Ts) (ty0 : Nat → FieldType) (hty : ∀ k, k < N → parseFieldDescriptor (T k).2.2.1 = some (ty0 k)) (hnm : ∀ a, a < N → ∀ b, b < N → a ≠ b → (T a).2.1 ≠ (T b).2.1) (hown : s.vm.findClass own = some m.cls) (hK : va_K D cl tys s) (hP : va_P D cl ws H) (hD : va_D A ws) (hS0 : va_S A H0 H locs) (q0 : Nat) {fs : List Value} (he : ws[q0]? = some (a, .inr (ci, fs))) (hc : cl[ci]? = some (C, T, N)) (k : Nat) (hk : k < N) (hlink : (Cond.fieldLink own index ref (T k).2.1 (T k).2.2.1).before args s = true) (hsame : ∀ x, s.fieldFound? (T k).1 (T k).2.1 (T k).2.2.1 = some x → s.fieldFound? ref (T k).2.1 (T k).2.2.1 = some x) (hfin : (T k).2.2.2 = false) {ty : FieldType} {v : Value} (hd : parseFieldDescriptor (T k).2.2.1 = some ty) (hn : narrow ty v = v) (hfit : fits ty v = true) (hl : k < fs.length)
    (hdg : decode cc pc = .ok (.putfield index, 3)) (hws : ws.set q0 (a, .inr (ci, fs.set k v)) = ws')
    (kk : ∀ (H1 : Heap) (locs1 : List Loc), va_P D cl ws' H1 → va_D A ws' → va_S A H0 H1 locs1 → W p l e R s m args below meth c H1 locs1 cells slots Q (F0 m (pc + 3) ls rest)) : W p l e R s m args below meth c H locs cells slots Q (F0 m pc ls (v :: .ref a :: rest)) := by
  subst hws
  exact va_put hexec hb hts hin ty0 hty hnm hown hK hP hD hS0 q0 he hc k hk hlink hsame hfin hd hn hfit hl hdg kk
theorem tw_iast (hexec : p.tables.exec = Jvm.exec) (hb : c.code = cc) (hK : va_K D cl tys s) (hP : va_P D cl ws H) (hD : va_D A ws) (hS : va_S A H0 H locs) (q0 t0 : Nat) {cA : ClassId} {n : Nat} {f : Nat → Int32} (ha : ws[q0]? = some (a, .inl (cA, n, .inl f))) (ht : tys[t0]? = some (cA, .int)) {i : Int32} {x : Int32} (hin : vp_in i n) (hdg : decode cc pc = .ok (.iastore, 1))
    (hws : ws.set q0 (a, .inl (cA, n, .inl (upd f i.toNatClampNeg x))) = ws')
    (kk : ∀ (H1 : Heap) (locs1 : List Loc), va_P D cl ws' H1 → va_D A ws' → va_S A H0 H1 locs1 → W p l e R s m args below meth c H1 locs1 cells slots Q (F0 m (pc + 1) ls rest)) : W p l e R s m args below meth c H locs cells slots Q (F0 m pc ls (.int x :: .int i :: .ref a :: rest)) := by
  subst hws
  exact va_iast hexec hb hK hP hD hS q0 t0 ha ht hin hdg kk
theorem tw_astq (hexec : p.tables.exec = Jvm.exec) (hb : c.code = cc) (hK : va_K D cl tys s) (hP : va_P D cl ws H) (hD : va_D A ws) (hS : va_S A H0 H locs) (q0 t0 qk ci : Nat) {cA : ClassId} {r : vw_C} {n v : Nat} {vs : List Value} {f : Nat → Option Nat} (ha : ws[q0]? = some (a, .inl (cA, n, .inr (.inr (.inr (.inr f)))))) (ht : tys[t0]? = some (cA, .object r.1)) (hv : ws[qk]? = some (v, .inr (ci, vs))) (hc : cl[ci]? = some r) {i : Int32} (hin : vp_in i n) (hdg : decode cc pc = .ok (.aastore, 1))
    (hws : ws.set q0 (a, .inl (cA, n, .inr (.inr (.inr (.inr (va_up f i.toNatClampNeg (some v))))))) = ws')
    (kk : ∀ (H1 : Heap) (locs1 : List Loc), va_P D cl ws' H1 → va_D A ws' → va_S A H0 H1 locs1 → W p l e R s m args below meth c H1 locs1 cells slots Q (F0 m (pc + 1) ls rest)) : W p l e R s m args below meth c H locs cells slots Q (F0 m pc ls (.ref v :: .int i :: .ref a :: rest)) := by
  subst hws
  exact va_astq hexec hb hK hP hD hS q0 t0 qk ci ha ht hv hc hin hdg kk
/-- a switch: the key is none of lo .. lo + n - 1 -/
theorem tw_out {x : Int32} {lo : Int} {n : Nat} (h : ∀ k : Nat, k < n → ¬ x.toInt = lo + k) : x.toInt < lo ∨ lo + n - 1 < x.toInt := by
  rcases Int.lt_or_le x.toInt lo with h1 | h1
  · exact Or.inl h1
  · by_cases h2 : lo + n - 1 < x.toInt
    · exact Or.inr h2
    · exact absurd (show x.toInt = lo + ((x.toInt - lo).toNat : Nat) by omega) (h _ (by omega))
end TWS
theorem tw_vin {i : Int32} {n : Nat} (h : ¬ (i < 0 ∨ n ≤ i.toNatClampNeg)) : vp_in i n := h
theorem tw_pi (z : Nat → Nat → Nat) (f : Nat → Nat) (k j : Nat) : va_up (fun i => some (z (f i) 0)) k (some (z j 0)) = fun i => some (z (va_up f k j i) 0) := by
  funext i
  unfold va_up
  by_cases h : i = k
  · rw [if_pos h, if_pos h]
  · rw [if_neg h, if_neg h]
theorem tw_tab {p : Program} {l : Launch} {e : Env} {R : Room} {s : State} {m : MethodId} {args : Array Value} {below : List Frame} {meth : Method} {c : Code} {H : Heap} {locs : List Loc} {cells slots : Nat} {Q : State → Prop} {cc : ByteArray} {pc : Nat} {ls : Array Slot} {rest : List Value} (hexec : p.tables.exec = Jvm.exec) (hb : c.code = cc) {dflt lo hi : Int} {offs : Array Int} {len : Nat} {x v : Int32} {off : Int} {tgt : Nat} (hdg : decode cc pc = .ok (.tableswitch dflt lo hi offs, len)) (hk : x = v) (h1 : ¬ v.toInt < lo) (h2 : ¬ hi < v.toInt) (ho : offs[(v.toInt - lo).toNat]? = some off) (ht : (pc : Int) + off = (tgt : Int))
    (k : W p l e R s m args below meth c H locs cells slots Q (F0 m tgt ls rest)) : W p l e R s m args below meth c H locs cells slots Q (F0 m pc ls (.int x :: rest)) := by
  subst hk
  exact lv_tableIn hexec hb hdg h1 h2 ho ht k
theorem tw_loo {p : Program} {l : Launch} {e : Env} {R : Room} {s : State} {m : MethodId} {args : Array Value} {below : List Frame} {meth : Method} {c : Code} {H : Heap} {locs : List Loc} {cells slots : Nat} {Q : State → Prop} {cc : ByteArray} {pc : Nat} {ls : Array Slot} {rest : List Value} (hexec : p.tables.exec = Jvm.exec) (hb : c.code = cc) {dflt : Int} {ps : Array (Int × Int)} {len : Nat} {x v : Int32} {off : Int} {tgt : Nat} (hdg : decode cc pc = .ok (.lookupswitch dflt ps, len)) (hk : x = v) (hp : (ps.toList.zip (ps.toList.drop 1)).all (fun (a, next) => a.1 < next.1) = true) (ho : Op.lookupswitch.offset ps.toList dflt v.toInt = off) (ht : (pc : Int) + off = (tgt : Int))
    (k : W p l e R s m args below meth c H locs cells slots Q (F0 m tgt ls rest)) : W p l e R s m args below meth c H locs cells slots Q (F0 m pc ls (.int x :: rest)) := by
  subst hk
  exact lv_lookup hexec hb hdg hp ho ht k
theorem tw_nb {x : Int32} (h : x = 0 ∨ x = 1) : narrow .boolean (.int x) = .int x := by rcases h with rfl | rfl <;> rfl
theorem tw_fb {x : Int32} (h : x = 0 ∨ x = 1) : fits .boolean (.int x) = true := by rcases h with rfl | rfl <;> rfl
theorem tw_thr {α : Type} {k : Nat} {x : α} {rv : Nat × α} {P : Prop} (h : some (k, x) = some rv) (h0 : rv.1 = 0) (hk : ¬ k = 0) : P := absurd ((congrArg Prod.fst (Option.some.inj h)).trans h0) hk
theorem tw_rt {α : Type} {x rv : α} (M : α → Prop) (h : some x = some rv) (hx : M x) : M rv := (Option.some.inj h) ▸ hx
theorem tw_aldq {p : Program} {l : Launch} {e : Env} {R : Room} {s : State} {m : MethodId} {args : Array Value} {below : List Frame} {meth : Method} {c : Code} {H : Heap} {locs : List Loc} {cells slots : Nat} {Q : State → Prop} {cc : ByteArray} {pc : Nat} {ls : Array Slot} {rest : List Value} {D : va_G} {cl : List vw_C} {a : Nat} {tys : List (ClassId × FieldType)} {ws : va_W} (hexec : p.tables.exec = Jvm.exec) (hb : c.code = cc) (hK : va_K D cl tys s) (hP : va_P D cl ws H) (q0 t0 : Nat) {cA : ClassId} {C : String} {n v : Nat} {f : Nat → Option Nat} (ha : ws[q0]? = some (a, .inl (cA, n, .inr (.inr (.inr (.inr f)))))) (ht : tys[t0]? = some (cA, .object C)) {i : Int32} (hin : vp_in i n) (hv : f i.toNatClampNeg = some v) (hdg : decode cc pc = .ok (.aaload, 1))
    (kk : W p l e R s m args below meth c H locs cells slots Q (F0 m (pc + 1) ls (.ref v :: rest))) : W p l e R s m args below meth c H locs cells slots Q (F0 m pc ls (.int i :: .ref a :: rest)) := by
  refine va_aldq hexec hb hK hP q0 t0 ha ht hin hdg ?_
  rw [hv]
  exact kk
