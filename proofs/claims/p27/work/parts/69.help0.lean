/-! the law's own methods: the script that they read, what they throw and catch -/
/-- the law's one handler each needs no word on other classes -/
def tw_NC (_ : State) : Prop := True
theorem tw_NC.moved {u U : State} (_ : u.vm.Alike U.vm) (_ : tw_NC u) : tw_NC U := trivial
def tw_Ph (G : va_G) (tys : List (ClassId × FieldType)) (ws : va_W) (sz : Nat) (av : List Value) : Array Value → State → Prop := va_Pc av (fun U => U.heap.size = sz ∧ va_P G vwCl ws U.heap ∧ (va_K G vwCl tys U ∧ tw_N U) ∧ va_D (fun _ => True) ws ∧ tw_NX U ∧ vx_Zq Bundle.tN "UNASSIGNED_STACK" Bundle.steD (va_A ws sz) U U.heap ∧ vx_Zq Bundle.tN "SUPPRESSED_SENTINEL" Bundle.listD (va_A ws sz) U U.heap ∧ tw_NC U)
theorem tw_Ph_blind {G : va_G} {tys : List (ClassId × FieldType)} {ws : va_W} {sz : Nat} {av : List Value} : FrameBlind (tw_Ph G tys ws sz av) := fun a U g mk q => by
  obtain ⟨q0, q1, qP, ⟨qK, qN⟩, qD, qX, qU, qZ, qC⟩ := q
  exact ⟨q0, q1, qP, ⟨va_K.moved (u := U) (U := U.calling g mk a) (Vm.Alike.refl U.vm) qK, tw_N.same (s := U) (U := U.calling g mk a) rfl qN⟩, qD, tw_NX.same (s := U) (U := U.calling g mk a) rfl qX, vx_Zq.moved (u := U) (U := U.calling g mk a) (Vm.Alike.refl U.vm) qU, vx_Zq.moved (u := U) (U := U.calling g mk a) (Vm.Alike.refl U.vm) qZ, tw_NC.moved (u := U) (U := U.calling g mk a) (Vm.Alike.refl U.vm) qC⟩
def tw_Mh (l : Launch) (y : MethodName) (wsY : List Cond) (rm : Room) (G : va_G) (tys : List (ClassId × FieldType)) (wc : va_W) (av : List Value) (sz : Nat) (rv : Int32) (wc' : va_W) : Prop := vx_Met l y wsY rm (tw_Ph G tys wc sz av) (va_Qi (fun r (_ : Unit) => rv = r) (fun _ t => va_P G vwCl wc' t.heap) (va_A wc sz)) (vx_X (fun (_ : Unit) => False) (fun _ _ _ => True) (va_A wc sz)) 1 6 (va_A wc sz)
theorem tw_ofh {l : Launch} {y : MethodName} {ws ws1 : List Cond} {rm : Room} {G : va_G} {tys : List (ClassId × FieldType)} {wc wc' : va_W} {av : List Value} {sz : Nat} {rv : Int32} {cc : ByteArray} {maxL : Nat} {hh : List (Nat × Nat × Nat × Nat)} {own : String} (hy : plainName y.cls = true) (how : y.cls = own) (hw : ws = Cond.codeWith y cc maxL (some .int) hh :: ws1) (hmx : (lg_sl av).length ≤ maxL)
    (body : ∀ (p : Program) (e : Env) (s : State) (m : MethodId) (args : Array Value) (below : List Frame) (meth : Method) (c : Code) (Q : State → Prop) (A : Nat → Prop) (ls : Array Slot) (H : Heap) (locs : List Loc), CallFix p m c cc maxL s args ws own → tw_N s → va_K G vwCl tys s → va_P G vwCl wc H → va_D A wc → va_S A s.heap H locs → (∀ q : Nat, s.heap.size ≤ q → A q) → lv_has ls maxL (lv_args 0 av) → tw_NX s → tw_NC s → vx_Zq Bundle.tN "UNASSIGNED_STACK" Bundle.steD A s s.heap → vx_Zq Bundle.tN "SUPPRESSED_SENTINEL" Bundle.listD A s s.heap → c.exceptionTable.toList = tableOf hh →
      (∀ (H : Heap) (locs : List Loc) (pc : Nat) (ls : Array Slot) (x : Int32) (cells slots : Nat), rv = x → va_P G vwCl wc' H → va_S A s.heap H locs → decode cc pc = .ok (.ireturn, 1) → cells ≤ 1 → slots ≤ 6 → W p l e rm s m args below meth c H locs cells slots Q (F0 m pc ls [.int x])) →
      W p l e rm s m args below meth c H locs 0 0 Q (F0 m 0 ls [])) : tw_Mh l y ws rm G tys wc av sz rv wc' := by
  subst how
  refine vx_ofWH (cc := cc) (maxL := maxL) (ret := (some .int)) hy hw ?_
  intro p e s m args below meth c s₁ B hml hv
  obtain ⟨rfl, hsz, hP, ⟨hK, hN⟩, hD0, hNX, hU, hZ, hNC⟩ := hv
  have hD := hD0.self (sz := sz)
  have hl := lv_entry av (n := maxL) hmx
  have htab := vx_table (x := y) B (atoms_spec (ws := ws) B.pre _ (by rw [hw]; exact List.mem_cons_self))
  rw [lg_entry_eq]
  refine body p e s m av.toArray below meth c _ (va_A wc sz) _ _ _ ⟨B.exec, B.bytes, hml, findClass_of_methodNamed B.named, atoms_spec (ws := ws) B.pre⟩ hN hK hP hD va_S.rf (fun q h => Or.inr (hsz ▸ h)) hl hNX hNC hU hZ htab (fun H locs pc ls x cells slots hr9 hP9 hS9 hd hc9 hs9 => ?_)
  refine vx_ret ?_
  refine W.widen (k := 1) (n := 6) hc9 hs9 ?_
  exact W.iret B.exec B.bytes B.returns (fun t ht hW => ⟨⟨x, (), rfl, hr9, by dsimp only; rw [ht]; exact hP9⟩, hS9.F ht⟩) hS9.2.2 hd B.notSynchronized
/-! a method that reads the script alone -/
def tw_Pk (b L : Nat) (xs : Nat → Int32) (sz : Nat) (av : List Value) : Array Value → State → Prop := va_Pc av (fun U => U.heap.size = sz ∧ va_X b L xs U U.heap ∧ b < U.heap.size)
theorem tw_Pk_blind {b L : Nat} {xs : Nat → Int32} {sz : Nat} {av : List Value} : FrameBlind (tw_Pk b L xs sz av) := fun a U g mk q => by
  obtain ⟨q0, q1, qX, qb⟩ := q
  exact ⟨q0, q1, va_X.moved (u := U) (U := U.calling g mk a) (Vm.Alike.refl U.vm) qX, qb⟩
def tw_Mk (l : Launch) (y : MethodName) (wsY : List Cond) (rm : Room) (b L : Nat) (xs : Nat → Int32) (av : List Value) (sz : Nat) (rv : Int32) : Prop := Met l y wsY rm (tw_Pk b L xs sz av) (va_Qi (fun r (_ : Unit) => rv = r) (fun _ _ => True) (va_A ([] : va_W) sz)) 0 0 (va_A ([] : va_W) sz)
theorem tw_ofk {l : Launch} {y : MethodName} {ws ws1 : List Cond} {rm : Room} {b L : Nat} {xs : Nat → Int32} {av : List Value} {sz : Nat} {rv : Int32} {cc : ByteArray} {maxL : Nat} {own : String} (hy : plainName y.cls = true) (how : y.cls = own) (hw : ws = Cond.code y cc maxL (some .int) :: ws1) (hmx : (lg_sl av).length ≤ maxL)
    (body : ∀ (p : Program) (e : Env) (s : State) (m : MethodId) (args : Array Value) (below : List Frame) (meth : Method) (c : Code) (Q : State → Prop) (A : Nat → Prop) (ls : Array Slot) (H : Heap) (locs : List Loc), CallFix p m c cc maxL s args ws own → va_X b L xs s s.heap → b < s.heap.size → ¬ A b → va_S A s.heap H locs → lv_has ls maxL (lv_args 0 av) →
      (∀ (H : Heap) (locs : List Loc) (pc : Nat) (ls : Array Slot) (x : Int32), rv = x → va_S A s.heap H locs → decode cc pc = .ok (.ireturn, 1) → W p l e rm s m args below meth c H locs 0 0 Q (F0 m pc ls [.int x])) →
      W p l e rm s m args below meth c H locs 0 0 Q (F0 m 0 ls [])) : tw_Mk l y ws rm b L xs av sz rv := by
  subst how
  refine Met.ofW (cc := cc) (maxL := maxL) (ret := (some .int)) hy hw ?_
  intro p e s m args below meth c s₁ B hml hv
  obtain ⟨rfl, hsz, hX, hbl⟩ := hv
  have hl := lv_entry av (n := maxL) hmx
  have hbA : ¬ va_A ([] : va_W) sz b := fun h => by
    rcases h with ⟨k, e, h⟩ | h
    · simp at h
    · exact absurd (hsz ▸ hbl) (Nat.not_lt.mpr h)
  rw [lg_entry_eq]
  refine body p e s m av.toArray below meth c _ (va_A ([] : va_W) sz) _ _ _ ⟨B.exec, B.bytes, hml, findClass_of_methodNamed B.named, atoms_spec (ws := ws) B.pre⟩ hX hbl hbA va_S.rf hl (fun H locs pc ls x hx9 hS9 hd => ?_)
  exact W.iret B.exec B.bytes B.returns (fun t ht hW => ⟨⟨x, (), rfl, hx9, trivial⟩, hS9.F ht⟩) hS9.2.2 hd B.notSynchronized
/-! a method that reads the script, changes the wall, and may have caught something -/
def tw_Pa (G : va_G) (tys : List (ClassId × FieldType)) (b L : Nat) (xs : Nat → Int32) (ws : va_W) (sz : Nat) (av : List Value) : Array Value → State → Prop := va_Pc av (fun U => U.heap.size = sz ∧ va_P G vwCl ws U.heap ∧ (va_K G vwCl tys U ∧ tw_N U) ∧ va_D (fun _ => True) ws ∧ tw_NX U ∧ vx_Zq Bundle.tN "UNASSIGNED_STACK" Bundle.steD (va_A ws sz) U U.heap ∧ vx_Zq Bundle.tN "SUPPRESSED_SENTINEL" Bundle.listD (va_A ws sz) U U.heap ∧ tw_NC U ∧ va_X b L xs U U.heap ∧ b < U.heap.size ∧ ¬ va_A ws sz b)
theorem tw_Pa_blind {G : va_G} {tys : List (ClassId × FieldType)} {b L : Nat} {xs : Nat → Int32} {ws : va_W} {sz : Nat} {av : List Value} : FrameBlind (tw_Pa G tys b L xs ws sz av) := fun a U g mk q => by
  obtain ⟨q0, q1, qP, ⟨qK, qN⟩, qD, qX, qU, qZ, qC, qS, qb, qn⟩ := q
  exact ⟨q0, q1, qP, ⟨va_K.moved (u := U) (U := U.calling g mk a) (Vm.Alike.refl U.vm) qK, tw_N.same (s := U) (U := U.calling g mk a) rfl qN⟩, qD, tw_NX.same (s := U) (U := U.calling g mk a) rfl qX, vx_Zq.moved (u := U) (U := U.calling g mk a) (Vm.Alike.refl U.vm) qU, vx_Zq.moved (u := U) (U := U.calling g mk a) (Vm.Alike.refl U.vm) qZ, tw_NC.moved (u := U) (U := U.calling g mk a) (Vm.Alike.refl U.vm) qC, va_X.moved (u := U) (U := U.calling g mk a) (Vm.Alike.refl U.vm) qS, qb, qn⟩
def tw_Ma (l : Launch) (y : MethodName) (wsY : List Cond) (rm : Room) (G : va_G) (tys : List (ClassId × FieldType)) (b L : Nat) (xs : Nat → Int32) (wc : va_W) (av : List Value) (sz : Nat) (rv : Int32) (wc' : va_W) : Prop := Met l y wsY rm (tw_Pa G tys b L xs wc sz av) (va_Qi (fun r (_ : Unit) => rv = r) (fun _ t => va_P G vwCl wc' t.heap) (va_A wc sz)) 1 6 (va_A wc sz)
theorem tw_ofa {l : Launch} {y : MethodName} {ws ws1 : List Cond} {rm : Room} {G : va_G} {tys : List (ClassId × FieldType)} {b L : Nat} {xs : Nat → Int32} {wc wc' : va_W} {av : List Value} {sz : Nat} {rv : Int32} {cc : ByteArray} {maxL : Nat} {own : String} (hy : plainName y.cls = true) (how : y.cls = own) (hw : ws = Cond.code y cc maxL (some .int) :: ws1) (hmx : (lg_sl av).length ≤ maxL)
    (body : ∀ (p : Program) (e : Env) (s : State) (m : MethodId) (args : Array Value) (below : List Frame) (meth : Method) (c : Code) (Q : State → Prop) (A : Nat → Prop) (ls : Array Slot) (H : Heap) (locs : List Loc), CallFix p m c cc maxL s args ws own → tw_N s → va_K G vwCl tys s → va_P G vwCl wc H → va_D A wc → va_S A s.heap H locs → (∀ q : Nat, s.heap.size ≤ q → A q) → lv_has ls maxL (lv_args 0 av) → tw_NX s → tw_NC s → vx_Zq Bundle.tN "UNASSIGNED_STACK" Bundle.steD A s s.heap → vx_Zq Bundle.tN "SUPPRESSED_SENTINEL" Bundle.listD A s s.heap → va_X b L xs s s.heap → b < s.heap.size → ¬ A b →
      (∀ (H : Heap) (locs : List Loc) (pc : Nat) (ls : Array Slot) (x : Int32) (cells slots : Nat), rv = x → va_P G vwCl wc' H → va_S A s.heap H locs → decode cc pc = .ok (.ireturn, 1) → cells ≤ 1 → slots ≤ 6 → W p l e rm s m args below meth c H locs cells slots Q (F0 m pc ls [.int x])) →
      W p l e rm s m args below meth c H locs 0 0 Q (F0 m 0 ls [])) : tw_Ma l y ws rm G tys b L xs wc av sz rv wc' := by
  subst how
  refine Met.ofW (cc := cc) (maxL := maxL) (ret := (some .int)) hy hw ?_
  intro p e s m args below meth c s₁ B hml hv
  obtain ⟨rfl, hsz, hP, ⟨hK, hN⟩, hD0, hNX, hU, hZ, hNC, hX, hbl, hbA⟩ := hv
  have hD := hD0.self (sz := sz)
  have hl := lv_entry av (n := maxL) hmx
  rw [lg_entry_eq]
  refine body p e s m av.toArray below meth c _ (va_A wc sz) _ _ _ ⟨B.exec, B.bytes, hml, findClass_of_methodNamed B.named, atoms_spec (ws := ws) B.pre⟩ hN hK hP hD va_S.rf (fun q h => Or.inr (hsz ▸ h)) hl hNX hNC hU hZ hX hbl hbA (fun H locs pc ls x cells slots hr9 hP9 hS9 hd hc9 hs9 => ?_)
  refine W.widen (k := 1) (n := 6) hc9 hs9 ?_
  exact W.iret B.exec B.bytes B.returns (fun t ht hW => ⟨⟨x, (), rfl, hr9, by dsimp only; rw [ht]; exact hP9⟩, hS9.F ht⟩) hS9.2.2 hd B.notSynchronized
section TWH
variable {p : Program} {l : Launch} {e : Env} {R : Room} {s : State} {m : MethodId} {args : Array Value} {below : List Frame} {meth : Method} {c : Code} {H : Heap} {locs : List Loc} {cells slots : Nat} {Q : State → Prop}
variable {cc bytes : ByteArray} {nL maxL n index : Nat} {Ts wsY : List Cond} {own C : String} {y : MethodName} {ret : Option FieldType} {rm : Room} {b : Addr} {As rest st : List Value} {pc : Nat} {ls : Array Slot} {G : va_G} {tys tysY : List (ClassId × FieldType)} {ws wc wc' w1 w1' : va_W} {A0 : Nat → Prop} {L : Nat} {xs : Nat → Int32}
/-- a call of the wall's that throws: only what is behind the throw is owed -/
theorem tw_callXF {E : String} (F : CallFix p m c cc nL s args Ts own) (hN : tw_N s) (hK : va_K G vwCl tys s) (hP : va_P G vwCl wc H) (hD : va_D A0 wc) (hS : va_S A0 s.heap H locs) (hA : ∀ q : Nat, s.heap.size ≤ q → A0 q) (hNX : tw_NX s) (hU : vx_Zq Bundle.tN "UNASSIGNED_STACK" Bundle.steD A0 s s.heap) (hZ : vx_Zq Bundle.tN "SUPPRESSED_SENTINEL" Bundle.listD A0 s s.heap)
    (hM : tw_Mx l y wsY rm G tysY wc (.ref b :: As) H.size E wc' (va_Qi (fun _ (_ : Unit) => False) (fun _ _ => True) (va_A wc H.size))) (cw : CallW R s args own C index y bytes maxL ret wsY rm 1 6 n)
    (ks : List Nat) (hks : ks.filterMap (fun i => tys[i]?) = tysY)
    {r0 ci : Nat} {q : vw_C} {fs : List Value} (hcl : vwCl[ci]? = some q) (hqC : q.1 = C) (hr0 : wc[r0]? = some (b, .inr (ci, fs)))
    (hn : As.length = n) (hl : ls.size = nL) (hst : st = As.reverse ++ .ref b :: rest) (hcat : (rest.map fun v => v.category).sum ≤ 8) (hdg : decode cc pc = .ok (.invokevirtual index, 3)) (hcs : cells + 1 ≤ R.cells ∧ slots + 6 ≤ R.slots)
    (kx : ∀ (ce : Cell) (q9 : Addr) (H1 : Heap) (locs1 : List Loc), va_P G vwCl wc' H1 → va_S A0 s.heap H1 locs1 → H1[q9]? = some ce → ce.vm = .none → s.vm.findClass E = some ce.cls → vx_W p l e R s m args below meth c H1 locs1 (cells + 1) (slots + 6) Q (F0 m pc ls rest) q9) :
    W p l e R s m args below meth c H locs cells slots Q (F0 m pc ls st) := by
  subst hqC
  have hKc := hK.sub ks hks
  have hFc : ∀ q, va_A wc H.size q → A0 q := fun q h => h.elim (fun ⟨k, e, h⟩ => hD.2 k _ h) (fun h => hA q (Nat.le_trans hS.1 h))
  have hU1 : vx_Zq Bundle.tN "UNASSIGNED_STACK" Bundle.steD (va_A wc H.size) s H := (hU.kept hS.2.1).narrow hFc
  have hZ1 : vx_Zq Bundle.tN "SUPPRESSED_SENTINEL" Bundle.listD (va_A wc H.size) s H := (hZ.kept hS.2.1).narrow hFc
  refine vx_calli (vx_runV (As := As) (rest := rest) F hM cw ⟨tw_Px_blind, va_recv hKc hP hcl hr0, fun U hU hW => ⟨rfl, by rw [hU], by rw [hU]; exact hP, ⟨va_K.moved hW.alike hKc, tw_N.warm hW hN⟩, hD.weaken (fun _ _ _ _ => trivial), tw_NX.warm hW hNX, by rw [hU]; exact vx_Zq.moved hW.alike hU1, by rw [hU]; exact vx_Zq.moved hW.alike hZ1⟩⟩ rfl hn hl hst (lv_room hcat) hdg hcs) hS (fun q _ h => hFc q h) hFc (fun q _ h => hFc q h) (fun E9 ce q9 u t H1 locs1 ht hvm hpx hBX hz1 hk1 hS1 hce hcv hcl9 => ?_) (fun r u t H1 locs1 ht hvm hw hB hz1 hk1 hS1 => hw.elim)
  obtain ⟨rfl, hP1⟩ := hBX
  rw [ht] at hP1
  exact kx ce q9 H1 locs1 hP1 hS1 hce hcv hcl9
/-- a helper is called -/
theorem tw_callHF {hh : List (Nat × Nat × Nat × Nat)} {rv : Int32} (F : CallFix p m c cc nL s args Ts own) (hN : tw_N s) (hK : va_K G vwCl tys s) (hP : va_P G vwCl w1 H) (hD : va_D A0 w1) (hS : va_S A0 s.heap H locs) (hA : ∀ q : Nat, s.heap.size ≤ q → A0 q) (hNX : tw_NX s) (hNC : tw_NC s) (hU : vx_Zq Bundle.tN "UNASSIGNED_STACK" Bundle.steD A0 s s.heap) (hZ : vx_Zq Bundle.tN "SUPPRESSED_SENTINEL" Bundle.listD A0 s s.heap)
    (hM : tw_Mh l y wsY rm G tysY w1 As H.size rv w1') (cw : vx_CSW R s args own index y bytes maxL ret hh wsY rm 1 6 n)
    (ks : List Nat) (hks : ks.filterMap (fun i => tys[i]?) = tysY) (ha : w1'.map Prod.fst = w1.map Prod.fst)
    (hn : As.length = n) (hl : ls.size = nL) (hst : st = As.reverse ++ rest) (hcat : (rest.map fun v => v.category).sum ≤ 8) (hdg : decode cc pc = .ok (.invokestatic index, 3)) (hcs : cells + 1 ≤ R.cells ∧ slots + 6 ≤ R.slots)
    (kk : ∀ (H1 : Heap) (locs1 : List Loc), va_P G vwCl w1' H1 → va_D A0 w1' → va_S A0 s.heap H1 locs1 → W p l e R s m args below meth c H1 locs1 (cells + 1) (slots + 6) Q (F0 m (pc + 3) ls (.int rv :: rest))) :
    W p l e R s m args below meth c H locs cells slots Q (F0 m pc ls st) := by
  have hKc := hK.sub ks hks
  have hFc : ∀ q, va_A w1 H.size q → A0 q := fun q h => h.elim (fun ⟨k, e, h⟩ => hD.2 k _ h) (fun h => hA q (Nat.le_trans hS.1 h))
  have hU1 : vx_Zq Bundle.tN "UNASSIGNED_STACK" Bundle.steD (va_A w1 H.size) s H := (hU.kept hS.2.1).narrow hFc
  have hZ1 : vx_Zq Bundle.tN "SUPPRESSED_SENTINEL" Bundle.listD (va_A w1 H.size) s H := (hZ.kept hS.2.1).narrow hFc
  refine vx_calli (vx_runSX (As := As) (rest := rest) F hM cw ⟨tw_Ph_blind, fun U hU hW => ⟨rfl, by rw [hU], by rw [hU]; exact hP, ⟨va_K.moved hW.alike hKc, tw_N.warm hW hN⟩, hD.weaken (fun _ _ _ _ => trivial), tw_NX.warm hW hNX, by rw [hU]; exact vx_Zq.moved hW.alike hU1, by rw [hU]; exact vx_Zq.moved hW.alike hZ1, tw_NC.moved hW.alike hNC⟩⟩ rfl hn hl hst (lv_room hcat) hdg hcs) hS (fun q _ h => hFc q h) hFc (fun q _ h => hFc q h) (fun E9 ce q9 u t H1 locs1 ht hvm hpx hBX hz1 hk1 hS1 hce hcv hcl9 => hpx.elim) (fun r u t H1 locs1 ht hvm hw hB hz1 hk1 hS1 => ?_)
  subst hw
  have hB : va_P G vwCl w1' t.heap := hB
  rw [ht] at hB
  exact kk H1 locs1 hB (tw_D_fst ha hD) hS1
/-- the script is read by a call -/
theorem tw_callK {rv : Int32} (F : CallFix p m c cc nL s args Ts own) (hP : va_P G vwCl ws H) (hD : va_D A0 ws) (hS : va_S A0 s.heap H locs) (hA : ∀ q : Nat, s.heap.size ≤ q → A0 q) (hX : va_X b L xs s s.heap) (hbl : b < s.heap.size) (hbA : ¬ A0 b)
    (hM : tw_Mk l y wsY rm b L xs As H.size rv) (cw : CallB R s args own index y bytes maxL ret wsY rm 0 0 n ∧ (Cond.static y).before args s = true)
    (hn : As.length = n) (hl : ls.size = nL) (hst : st = As.reverse ++ rest) (hcat : (rest.map fun v => v.category).sum ≤ 8) (hdg : decode cc pc = .ok (.invokestatic index, 3)) (hcs : cells ≤ R.cells ∧ slots ≤ R.slots)
    (kk : ∀ (H1 : Heap) (locs1 : List Loc), va_P G vwCl ws H1 → va_D A0 ws → va_S A0 s.heap H1 locs1 → W p l e R s m args below meth c H1 locs1 cells slots Q (F0 m (pc + 3) ls (.int rv :: rest))) :
    W p l e R s m args below meth c H locs cells slots Q (F0 m pc ls st) := by
  have hFc : ∀ q, va_A ([] : va_W) H.size q → A0 q := fun q h => h.elim (fun ⟨k, e, h⟩ => by simp at h) (fun h => hA q (Nat.le_trans hS.1 h))
  have hX1 : va_X b L xs s H := hX.kept (hS.2.1 b hbl hbA)
  have hb1 : b < H.size := Nat.lt_of_lt_of_le hbl hS.1
  refine va_calli (va_runS (As := As) (rest := rest) F hM cw ⟨tw_Pk_blind, fun U hU hW => ⟨rfl, by rw [hU], by rw [hU]; exact va_X.moved hW.alike hX1, by rw [hU]; exact hb1⟩⟩ rfl hn hl hst (lv_room hcat) hdg hcs) hS (fun q _ h => hFc q h) hFc (fun r u t H1 locs1 ht hvm hw hB hz1 hk1 hS1 => ?_)
  subst hw
  refine kk H1 locs1 (fun k q hq => ?_) hD hS1
  have hlt := (hP k q hq).lt
  refine (hP k q hq).kept (hk1 q.1 hlt (fun hAq => ?_))
  rcases hAq with ⟨k2, e2, h3⟩ | h3
  · simp at h3
  · exact absurd hlt (Nat.not_lt.mpr h3)
/-- the law's turn is called -/
theorem tw_callA {rv : Int32} (F : CallFix p m c cc nL s args Ts own) (hN : tw_N s) (hK : va_K G vwCl tys s) (hP : va_P G vwCl w1 H) (hD : va_D A0 w1) (hS : va_S A0 s.heap H locs) (hA : ∀ q : Nat, s.heap.size ≤ q → A0 q) (hNX : tw_NX s) (hNC : tw_NC s) (hU : vx_Zq Bundle.tN "UNASSIGNED_STACK" Bundle.steD A0 s s.heap) (hZ : vx_Zq Bundle.tN "SUPPRESSED_SENTINEL" Bundle.listD A0 s s.heap) (hX : va_X b L xs s s.heap) (hbl : b < s.heap.size) (hbA : ¬ A0 b)
    (hM : tw_Ma l y wsY rm G tysY b L xs w1 As H.size rv w1') (cw : CallB R s args own index y bytes maxL ret wsY rm 1 6 n ∧ (Cond.static y).before args s = true)
    (ks : List Nat) (hks : ks.filterMap (fun i => tys[i]?) = tysY) (ha : w1'.map Prod.fst = w1.map Prod.fst)
    (hn : As.length = n) (hl : ls.size = nL) (hst : st = As.reverse ++ rest) (hcat : (rest.map fun v => v.category).sum ≤ 8) (hdg : decode cc pc = .ok (.invokestatic index, 3)) (hcs : cells + 1 ≤ R.cells ∧ slots + 6 ≤ R.slots)
    (kk : ∀ (H1 : Heap) (locs1 : List Loc), va_P G vwCl w1' H1 → va_D A0 w1' → va_S A0 s.heap H1 locs1 → W p l e R s m args below meth c H1 locs1 (cells + 1) (slots + 6) Q (F0 m (pc + 3) ls (.int rv :: rest))) :
    W p l e R s m args below meth c H locs cells slots Q (F0 m pc ls st) := by
  have hKc := hK.sub ks hks
  have hFc : ∀ q, va_A w1 H.size q → A0 q := fun q h => h.elim (fun ⟨k, e, h⟩ => hD.2 k _ h) (fun h => hA q (Nat.le_trans hS.1 h))
  have hU1 : vx_Zq Bundle.tN "UNASSIGNED_STACK" Bundle.steD (va_A w1 H.size) s H := (hU.kept hS.2.1).narrow hFc
  have hZ1 : vx_Zq Bundle.tN "SUPPRESSED_SENTINEL" Bundle.listD (va_A w1 H.size) s H := (hZ.kept hS.2.1).narrow hFc
  have hX1 : va_X b L xs s H := hX.kept (hS.2.1 b hbl hbA)
  have hb1 : b < H.size := Nat.lt_of_lt_of_le hbl hS.1
  refine va_calli (va_runS (As := As) (rest := rest) F hM cw ⟨tw_Pa_blind, fun U hU hW => ⟨rfl, by rw [hU], by rw [hU]; exact hP, ⟨va_K.moved hW.alike hKc, tw_N.warm hW hN⟩, hD.weaken (fun _ _ _ _ => trivial), tw_NX.warm hW hNX, by rw [hU]; exact vx_Zq.moved hW.alike hU1, by rw [hU]; exact vx_Zq.moved hW.alike hZ1, tw_NC.moved hW.alike hNC, by rw [hU]; exact va_X.moved hW.alike hX1, by rw [hU]; exact hb1, fun h => hbA (hFc b h)⟩⟩ rfl hn hl hst (lv_room hcat) hdg hcs) hS (fun q _ h => hFc q h) hFc (fun r u t H1 locs1 ht hvm hw hB hz1 hk1 hS1 => ?_)
  subst hw
  have hB : va_P G vwCl w1' t.heap := hB
  rw [ht] at hB
  exact kk H1 locs1 hB (tw_D_fst ha hD) hS1
end TWH
/-! the addresses of a world don't depend on what it holds -/
theorem lw_fW {cI cQ : ClassId} {a na pa ta qa xa : Nat → Nat} {z : Nat → Nat → Nat} {V W : tw_Wl} : (tw_wW cI cQ a na pa ta qa xa z V).map Prod.fst = (tw_wW cI cQ a na pa ta qa xa z W).map Prod.fst := rfl
/-! a cell of the script -/
def fL_cell (L : Nat) (xs : Nat → Int32) (p1 : Int32) : Option Int32 := if Int32.ofNat L ≤ p1 then some (((40503 : Int32) * p1) + (977 : Int32)) else tw_g p1 L <| some (xs p1.toNatClampNeg)
abbrev rmL_cell : Room := { frames := 0, cells := 0, slots := 0, locals := 0 }
theorem qL_cell_0 : Cond.constant RL 8 (40503) ∈ wsL_cell := List.mem_cons_of_mem _ (List.mem_of_getElem? (i := 0) rfl)
set_option maxHeartbeats 4000000 in
set_option maxRecDepth 100000 in
theorem mL_cell (l : Launch) (b L : Nat) (xs : Nat → Int32) (sz : Nat) (p1 : Int32) {rv : Int32} (h : fL_cell L xs p1 = some rv) : tw_Mk l yL_cell wsL_cell rmL_cell b L xs [.ref b, .int p1] sz rv := by
  refine tw_ofk (cc := cL_cell) (maxL := 2) (own := RL) (by decide) rfl rfl (Nat.le_of_ble_eq_true rfl) ?_
  intro p e s m args below meth c Q A ls H locs F hX hbl hbA hS hl hq
  obtain ⟨hx, hb, hml, hown, hts⟩ := id F
  have hl : lv_has ls 2 [(0, .ref b), (1, .int p1)] := hl
  unfold fL_cell at h
  refine lv_iload_n hx hb dL_cell_0 rfl (lv_at hl 1 rfl) ?_
  refine lv_aload_n hx hb dL_cell_1 rfl (lv_at hl 0 rfl) ?_
  refine va_slen hx hb hX hbl hbA hS dL_cell_2 ?_
  refine lv_icmp_ge (tgt := 12) hx hb dL_cell_3 (by decide) (fun c3 => ?_) (fun c3 => ?_)
  · replace h := tw_t c3 h
    refine lv_ldc hx hb hown (hts _ qL_cell_0) dL_cell_12 ?_
    refine lv_iload_n hx hb dL_cell_14 rfl (lv_at hl 1 rfl) ?_
    refine lv_imul hx hb dL_cell_15 ?_
    refine lv_sipush (v := (977 : Int32)) hx hb dL_cell_16 (by decide) ?_
    refine lv_iadd hx hb dL_cell_19 ?_
    exact hq H locs _ ls _ (Option.some.inj h).symm hS dL_cell_20
  · replace h := tw_f c3 h
    obtain ⟨g8, h⟩ := tw_gs h
    refine lv_aload_n hx hb dL_cell_6 rfl (lv_at hl 0 rfl) ?_
    refine lv_iload_n hx hb dL_cell_7 rfl (lv_at hl 1 rfl) ?_
    refine va_sld hx hb hX hbl hbA hS g8 dL_cell_8 ?_
    refine lv_goto (tgt := 20) hx hb dL_cell_9 (by decide) ?_
    exact hq H locs _ ls _ (Option.some.inj h).symm hS dL_cell_20
