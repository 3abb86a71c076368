/-! methods that throw: 1 IllegalArgumentException, 2 IllegalStateException, 3 IndexOutOfBoundsException -/
abbrev tw_E1 : String := "java/lang/IllegalArgumentException"
abbrev tw_E2 : String := "java/lang/IllegalStateException"
abbrev tw_E3 : String := "java/lang/IndexOutOfBoundsException"
abbrev tw_nm : List String := ["java/lang/RuntimeException", "java/lang/Exception"]
def tw_en (k : Nat) : String := if k = 1 then tw_E1 else if k = 2 then tw_E2 else tw_E3
abbrev tw_B : List Cond := [.declares (Bundle.init0 "java/lang/RuntimeException"), .declares (Bundle.init0 "java/lang/Exception"), .declares (Bundle.init0 "java/lang/Throwable"), .castable tw_E1 tw_E1, .castable tw_E2 tw_E2, .castable tw_E3 tw_E3]
def tw_NX (U : State) : Prop := (va_Nw (.declares (Bundle.init0 "java/lang/RuntimeException")) U ∧ va_Nw (.declares (Bundle.init0 "java/lang/Exception")) U ∧ va_Nw (.declares (Bundle.init0 "java/lang/Throwable")) U) ∧ va_Nw (.castable tw_E1 tw_E1) U ∧ va_Nw (.castable tw_E2 tw_E2) U ∧ va_Nw (.castable tw_E3 tw_E3) U
theorem tw_NX.warm {s U : State} (hW : s.WarmedH U.vm) (h : tw_NX s) : tw_NX U := ⟨⟨va_Nw.warmD hW h.1.1, va_Nw.warmD hW h.1.2.1, va_Nw.warmD hW h.1.2.2⟩, va_Nw.warmC hW h.2.1, va_Nw.warmC hW h.2.2.1, va_Nw.warmC hW h.2.2.2⟩
theorem tw_NX.same {s U : State} (hv : s.vm = U.vm) (h : tw_NX s) : tw_NX U := ⟨⟨va_Nw.same rfl hv h.1.1, va_Nw.same rfl hv h.1.2.1, va_Nw.same rfl hv h.1.2.2⟩, va_Nw.same rfl hv h.2.1, va_Nw.same rfl hv h.2.2.1, va_Nw.same rfl hv h.2.2.2⟩
theorem tw_NX.words {args : Array Value} {s : State} (h : tw_NX s) : ∀ w ∈ tw_B, w.before args s = true := vx_c (va_Nw.use rfl h.1.1) (vx_c (va_Nw.use rfl h.1.2.1) (vx_c (va_Nw.use rfl h.1.2.2) (vx_c (va_Nw.use rfl h.2.1) (vx_c (va_Nw.use rfl h.2.2.1) (vx_c (va_Nw.use rfl h.2.2.2) vx_n)))))
theorem tw_xb1 : ∀ w ∈ (vx_at0 RX3 60 tw_E1 tw_nm).filter (fun w => !goodWord w), w ∈ tw_B := by decide +kernel
theorem tw_xb2 : ∀ w ∈ (vx_at0 RX3 66 tw_E2 tw_nm).filter (fun w => !goodWord w), w ∈ tw_B := by decide +kernel
theorem tw_xb3 : ∀ w ∈ (vx_at0 RX3 83 tw_E3 tw_nm).filter (fun w => !goodWord w), w ∈ tw_B := by decide +kernel
theorem tw_xg1 : ∀ w ∈ Cond.classLink RX3 58 tw_E1 :: Cond.initialized tw_E1 :: vx_at0 RX3 60 tw_E1 tw_nm, vx_ot w = true := by decide +kernel
theorem tw_xg2 : ∀ w ∈ Cond.classLink RX3 64 tw_E2 :: Cond.initialized tw_E2 :: vx_at0 RX3 66 tw_E2 tw_nm, vx_ot w = true := by decide +kernel
theorem tw_xg3 : ∀ w ∈ Cond.classLink RX3 81 tw_E3 :: Cond.initialized tw_E3 :: vx_at0 RX3 83 tw_E3 tw_nm, vx_ot w = true := by decide +kernel
def tw_Px (G : va_G) (tys : List (ClassId × FieldType)) (ws : va_W) (sz : Nat) (av : List Value) : Array Value → State → Prop := va_Pc av (fun U => U.heap.size = sz ∧ va_P G vwCl ws U.heap ∧ (va_K G vwCl tys U ∧ tw_N U) ∧ va_D (fun _ => True) ws ∧ tw_NX U ∧ vx_Zq Bundle.tN "UNASSIGNED_STACK" Bundle.steD (va_A ws sz) U U.heap ∧ vx_Zq Bundle.tN "SUPPRESSED_SENTINEL" Bundle.listD (va_A ws sz) U U.heap)
theorem tw_Px_blind {G : va_G} {tys : List (ClassId × FieldType)} {ws : va_W} {sz : Nat} {av : List Value} : FrameBlind (tw_Px G tys ws sz av) := fun a U g mk q => by
  obtain ⟨q0, q1, qP, ⟨qK, qN⟩, qD, qX, qU, qZ⟩ := q
  exact ⟨q0, q1, qP, ⟨va_K.moved (u := U) (U := U.calling g mk a) (Vm.Alike.refl U.vm) qK, tw_N.same (s := U) (U := U.calling g mk a) rfl qN⟩, qD, tw_NX.same (s := U) (U := U.calling g mk a) rfl qX, vx_Zq.moved (u := U) (U := U.calling g mk a) (Vm.Alike.refl U.vm) qU, vx_Zq.moved (u := U) (U := U.calling g mk a) (Vm.Alike.refl U.vm) qZ⟩
def tw_Mx (l : Launch) (y : MethodName) (wsY : List Cond) (rm : Room) (G : va_G) (tys : List (ClassId × FieldType)) (wc : va_W) (av : List Value) (sz : Nat) (E : String) (wc' : va_W) (Qc : Array Value → State → Outcome → State → Prop) : Prop := vx_Met l y wsY rm (tw_Px G tys wc sz av) Qc (vx_X (fun (_ : Unit) => True) (fun E' _ t => E' = E ∧ va_P G vwCl wc' t.heap) (va_A wc sz)) 1 6 (va_A wc sz)
theorem tw_ofx {l : Launch} (hst : l.stackTraces = false) {y : MethodName} {ws ws1 : List Cond} {rm : Room} {G : va_G} {tys : List (ClassId × FieldType)} {wc wc' : va_W} {av : List Value} {sz : Nat} {E : String} {Qc : Array Value → State → Outcome → State → Prop} {cc : ByteArray} {maxL : Nat} {ret : Option FieldType} {own : String} (hy : plainName y.cls = true) (how : y.cls = own) (hw : ws = Cond.code y cc maxL ret :: ws1) (hmx : (lg_sl av).length ≤ maxL) (hrf : 5 < rm.frames) (hrl : 81 ≤ rm.locals) (hrc : 1 ≤ rm.cells) (hrs : 6 ≤ rm.slots)
    (body : ∀ (p : Program) (e : Env) (s : State) (m : MethodId) (args : Array Value) (below : List Frame) (meth : Method) (c : Code) (Q : State → Prop) (A : Nat → Prop) (ls : Array Slot) (H : Heap) (locs : List Loc), CallFix p m c cc maxL s args ws own → tw_N s → va_K G vwCl tys s → va_P G vwCl wc H → va_D A wc → va_S A s.heap H locs → (∀ q : Nat, s.heap.size ≤ q → A q) → lv_has ls maxL (lv_args 0 av) → tw_NX s →
      (∀ (H : Heap) (locs : List Loc) (pc : Nat) (ls : Array Slot) (E' : String) (ik ic : Nat), E' = E → Bundle.fit E' = true → (Cond.classLink own ik E').before args s = true → (Cond.initialized E').before args s = true → (∀ w ∈ vx_at0 own ic E' tw_nm, w.before args s = true) → (∀ w ∈ Cond.classLink own ik E' :: Cond.initialized E' :: vx_at0 own ic E' tw_nm, vx_ot w = true) → decode cc pc = .ok (.new ik, 3) → decode cc (pc + 3) = .ok (.dup, 1) → decode cc (pc + 4) = .ok (.invokespecial ic, 3) → decode cc (pc + 7) = .ok (.athrow, 1) → ls.size = maxL → va_P G vwCl wc' H → va_S A s.heap H locs → W p l e rm s m args below meth c H locs 0 0 Q (F0 m pc ls [])) →
      W p l e rm s m args below meth c H locs 0 0 Q (F0 m 0 ls [])) : tw_Mx l y ws rm G tys wc av sz E wc' Qc := by
  subst how
  refine vx_ofW (cc := cc) (maxL := maxL) (ret := ret) hy hw ?_
  intro p e s m args below meth c s₁ B hml hnt hv
  obtain ⟨rfl, hsz, hP, ⟨hK, hN⟩, hD0, hNX, hU, hZ⟩ := hv
  have hD := hD0.self (sz := sz)
  have hl := lv_entry av (n := maxL) hmx
  rw [lg_entry_eq]
  refine body p e s m av.toArray below meth c _ (va_A wc sz) _ _ _ ⟨B.exec, B.bytes, hml, findClass_of_methodNamed B.named, atoms_spec (ws := ws) B.pre⟩ hN hK hP hD va_S.rf (fun q h => Or.inr (hsz ▸ h)) hl hNX (fun H locs pc ls E' ik ic hE hfit hk hini hat hgd d0 d3 d4 d7 hls hP9 hS9 => ?_)
  subst hE
  refine vx_throw0 (names := tw_nm) (A := va_A wc sz) B.exec B.bytes hst (findClass_of_methodNamed B.named) hfit (by decide) hk hini hat hgd hU hZ hS9 (hls.trans hml.symm) d0 d3 d4 d7 (fun x hx => (hnt x hx).elim) hrf (by simpa using hrl) (by simpa using hrc) (by simpa using hrs) B.notSynchronized (fun t _ hz hq => ⟨(), trivial, ⟨rfl, hP9.kept (fun k q hk2 => hq q.1 (vx_lt hP9 hk2))⟩, Nat.le_trans hS9.1 hz, fun q h1 h2 => (hq q (Nat.lt_of_lt_of_le h1 hS9.1)).trans (hS9.2.1 q h1 h2)⟩) hS9.2.2 (by omega) (by omega)
