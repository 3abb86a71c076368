/-! the law's helpers: a call, and the codes of what it throws -/
def tw_NC (U : State) : Prop := va_Nc tw_E1 tw_E2 U ∧ va_Nc tw_E1 tw_E3 U ∧ va_Nc tw_E2 tw_E1 U ∧ va_Nc tw_E2 tw_E3 U ∧ va_Nc tw_E3 tw_E1 U ∧ va_Nc tw_E3 tw_E2 U
theorem tw_NC.moved {u U : State} (hvm : u.vm.Alike U.vm) (h : tw_NC u) : tw_NC U := ⟨va_Nc.moved hvm h.1, va_Nc.moved hvm h.2.1, va_Nc.moved hvm h.2.2.1, va_Nc.moved hvm h.2.2.2.1, va_Nc.moved hvm h.2.2.2.2.1, va_Nc.moved hvm h.2.2.2.2.2⟩
def tw_Ph (G : va_G) (tys : List (ClassId × FieldType)) (ws : va_W) (sz : Nat) (av : List Value) : Array Value → State → Prop := va_Pc av (fun U => U.heap.size = sz ∧ va_P G vwCl ws U.heap ∧ (va_K G vwCl tys U ∧ tw_N U) ∧ va_D (fun _ => True) ws ∧ tw_NX U ∧ vx_Zq Bundle.tN "UNASSIGNED_STACK" Bundle.steD (va_A ws sz) U U.heap ∧ vx_Zq Bundle.tN "SUPPRESSED_SENTINEL" Bundle.listD (va_A ws sz) U U.heap ∧ tw_NC U)
theorem tw_Ph_blind {G : va_G} {tys : List (ClassId × FieldType)} {ws : va_W} {sz : Nat} {av : List Value} : FrameBlind (tw_Ph G tys ws sz av) := fun a U g mk q => by
  obtain ⟨q0, q1, qP, ⟨qK, qN⟩, qD, qX, qU, qZ, qC⟩ := q
  exact ⟨q0, q1, qP, ⟨va_K.moved (u := U) (U := U.calling g mk a) (Vm.Alike.refl U.vm) qK, tw_N.same (s := U) (U := U.calling g mk a) rfl qN⟩, qD, tw_NX.same (s := U) (U := U.calling g mk a) rfl qX, vx_Zq.moved (u := U) (U := U.calling g mk a) (Vm.Alike.refl U.vm) qU, vx_Zq.moved (u := U) (U := U.calling g mk a) (Vm.Alike.refl U.vm) qZ, tw_NC.moved (u := U) (U := U.calling g mk a) (Vm.Alike.refl U.vm) qC⟩
def tw_Mh (l : Launch) (y : MethodName) (wsY : List Cond) (rm : Room) (G : va_G) (tys : List (ClassId × FieldType)) (wc : va_W) (av : List Value) (sz : Nat) (rv : Int32) (wc' : va_W) : Prop := vx_Met l y wsY rm (tw_Ph G tys wc sz av) (va_Qi (fun r (_ : Unit) => rv = r) (fun _ t => va_P G vwCl wc' t.heap) (va_A wc sz)) (vx_X (fun (_ : Unit) => False) (fun _ _ _ => True) (va_A wc sz)) 1 6 (va_A wc sz)
/-- what a helper answers, by what the wall's method threw -/
def tw_hk (a b c : Int32) (k : Nat) : Int32 := if k = 0 then 0 else if k = 1 then a else if k = 2 then b else c
theorem tw_ofh {l : Launch} {y : MethodName} {ws ws1 : List Cond} {rm : Room} {G : va_G} {tys : List (ClassId × FieldType)} {wc wc' : va_W} {av : List Value} {sz : Nat} {rv : Int32} {cc : ByteArray} {maxL : Nat} {hh : List (Nat × Nat × Nat × Nat)} {own : String} (hy : plainName y.cls = true) (how : y.cls = own) (hw : ws = Cond.codeWith y cc maxL (some .int) hh :: ws1) (hmx : (lg_sl av).length ≤ maxL)
    (body : ∀ (p : Program) (e : Env) (s : State) (m : MethodId) (args : Array Value) (below : List Frame) (meth : Method) (c : Code) (Q : State → Prop) (A : Nat → Prop) (ls : Array Slot) (H : Heap) (locs : List Loc), CallFix p m c cc maxL s args ws own → tw_N s → va_K G vwCl tys s → va_P G vwCl wc H → va_D A wc → va_S A s.heap H locs → (∀ q : Nat, s.heap.size ≤ q → A q) → lv_has ls maxL (lv_args 0 av) → tw_NX s → tw_NC s → vx_Zq Bundle.tN "UNASSIGNED_STACK" Bundle.steD A s s.heap → vx_Zq Bundle.tN "SUPPRESSED_SENTINEL" Bundle.listD A s s.heap → c.exceptionTable.toList = tableOf hh →
      (∀ (H : Heap) (locs : List Loc) (pc : Nat) (ls : Array Slot) (x : Int32) (cells slots : Nat), rv = x → va_P G vwCl wc' H → va_S A s.heap H locs → decode cc pc = .ok (.ireturn, 1) → cells ≤ 1 → slots ≤ 6 → W p l e rm s m args below meth c H locs cells slots Q (F0 m pc ls [.int x])) →
      W p l e rm s m args below meth c H locs 0 0 Q (F0 m 0 ls [])) : tw_Mh l y ws rm G tys wc av sz rv wc' := by
  subst how
  refine vx_ofWH (cc := cc) (maxL := maxL) (ret := (some .int)) hy hw ?_
  intro p e s m args below meth c s₁ B hml hv
  obtain ⟨rfl, hsz, hP, ⟨hK, hN⟩, hD0, hNX, hU, hZ, hNC⟩ := hv
  have hD := hD0.self (sz := sz)
  have hl := lv_entry av (n := maxL) hmx
  have htab := vx_table (x := y) B (atoms_spec (ws := ws) B.pre _ (by rw [hw]; exact List.mem_cons_self))
  rw [lg_entry_eq]
  refine body p e s m av.toArray below meth c _ (va_A wc sz) _ _ _ ⟨B.exec, B.bytes, hml, findClass_of_methodNamed B.named, atoms_spec (ws := ws) B.pre⟩ hN hK hP hD va_S.rf (fun q h => Or.inr (hsz ▸ h)) hl hNX hNC hU hZ htab (fun H locs pc ls x cells slots hr9 hP9 hS9 hd hc9 hs9 => ?_)
  refine vx_ret ?_
  refine W.widen (k := 1) (n := 6) hc9 hs9 ?_
  exact W.iret B.exec B.bytes B.returns (fun t ht hW => ⟨⟨x, (), rfl, hr9, by dsimp only; rw [ht]; exact hP9⟩, hS9.F ht⟩) hS9.2.2 hd B.notSynchronized
section TWH
variable {p : Program} {l : Launch} {e : Env} {R : Room} {s : State} {m : MethodId} {args : Array Value} {below : List Frame} {meth : Method} {c : Code} {H : Heap} {locs : List Loc} {cells slots : Nat} {Q : State → Prop}
variable {cc bytes : ByteArray} {nL maxL n index : Nat} {Ts wsY : List Cond} {own C : String} {y : MethodName} {ret : Option FieldType} {rm : Room} {b : Addr} {As rest st : List Value} {pc : Nat} {ls : Array Slot} {G : va_G} {tys tysY : List (ClassId × FieldType)} {wc wc' : va_W} {el : Nat × va_E} {A0 : Nat → Prop} {H0 : Heap}
/-- a call of the wall's that throws: only what is behind the throw is owed -/
theorem tw_callX {E : String} (F : CallFix p m c cc nL s args Ts own) (hN : tw_N s) (hK : va_K G vwCl tys s) (hP : va_P G vwCl (wc ++ [el]) H) (hD : va_D A0 (wc ++ [el])) (hS : va_S A0 s.heap H locs) (hA : ∀ q : Nat, s.heap.size ≤ q → A0 q) (hNX : tw_NX s) (hU : vx_Zq Bundle.tN "UNASSIGNED_STACK" Bundle.steD A0 s s.heap) (hZ : vx_Zq Bundle.tN "SUPPRESSED_SENTINEL" Bundle.listD A0 s s.heap)
    (hM : tw_Mx l y wsY rm G tysY wc (.ref b :: As) H.size E wc' (va_Qi (fun _ (_ : Unit) => False) (fun _ _ => True) (va_A wc H.size))) (cw : CallW R s args own C index y bytes maxL ret wsY rm 1 6 n)
    (ks : List Nat) (hks : ks.filterMap (fun i => tys[i]?) = tysY) (ha : wc'.map Prod.fst = wc.map Prod.fst)
    {r0 ci : Nat} {q : vw_C} {fs : List Value} (hcl : vwCl[ci]? = some q) (hqC : q.1 = C) (hr0 : wc[r0]? = some (b, .inr (ci, fs)))
    (hn : As.length = n) (hl : ls.size = nL) (hst : st = As.reverse ++ .ref b :: rest) (hcat : (rest.map fun v => v.category).sum ≤ 8) (hdg : decode cc pc = .ok (.invokevirtual index, 3)) (hcs : cells + 1 ≤ R.cells ∧ slots + 6 ≤ R.slots)
    (kx : ∀ (ce : Cell) (q9 : Addr) (H1 : Heap) (locs1 : List Loc), va_P G vwCl (wc' ++ [el]) H1 → va_S A0 s.heap H1 locs1 → H1[q9]? = some ce → ce.vm = .none → s.vm.findClass E = some ce.cls → vx_W p l e R s m args below meth c H1 locs1 (cells + 1) (slots + 6) Q (F0 m pc ls rest) q9) :
    W p l e R s m args below meth c H locs cells slots Q (F0 m pc ls st) := by
  subst hqC
  have hC : (List.range wc.length).map (fun i => (wc ++ [el])[i]?) = wc.map some := tw_cR
  have hPc : va_P G vwCl wc H := fun k q hq => by obtain ⟨i, -, h⟩ := tw_is_get hC hq; exact hP i q h
  have hDc := hD.sub (List.range wc.length) (tw_ndR _) hC
  have hKc := hK.sub ks hks
  have hFc := va_free hD hS hA (List.range wc.length) hC
  have hU1 : vx_Zq Bundle.tN "UNASSIGNED_STACK" Bundle.steD (va_A wc H.size) s H := (hU.kept hS.2.1).narrow hFc
  have hZ1 : vx_Zq Bundle.tN "SUPPRESSED_SENTINEL" Bundle.listD (va_A wc H.size) s H := (hZ.kept hS.2.1).narrow hFc
  refine vx_calli (vx_runV (As := As) (rest := rest) F hM cw ⟨tw_Px_blind, va_recv hKc hPc hcl hr0, fun U hU hW => ⟨rfl, by rw [hU], by rw [hU]; exact hPc, ⟨va_K.moved hW.alike hKc, tw_N.warm hW hN⟩, hDc.weaken (fun _ _ _ _ => trivial), tw_NX.warm hW hNX, by rw [hU]; exact vx_Zq.moved hW.alike hU1, by rw [hU]; exact vx_Zq.moved hW.alike hZ1⟩⟩ rfl hn hl hst (lv_room hcat) hdg hcs) hS (fun q _ h => hFc q h) hFc (fun q _ h => hFc q h) (fun E9 ce q9 u t H1 locs1 ht hvm hpx hBX hz1 hk1 hS1 hce hcv hcl9 => ?_) (fun r u t H1 locs1 ht hvm hw hB hz1 hk1 hS1 => hw.elim)
  obtain ⟨rfl, hP1⟩ := hBX
  rw [ht] at hP1
  obtain ⟨hP2, hD2⟩ := tw_back hP hD (List.range wc.length) hC ha hk1 hP1
  have hlen : wc'.length = wc.length := by have := congrArg List.length ha; simpa using this
  rw [tw_mix_hit [el] rfl hlen] at hP2
  exact kx ce q9 H1 locs1 hP2 hS1 hce hcv hcl9
/-- an element of a row of longs is written -/
theorem tw_last {ws ws' : va_W} {a : Addr} (hexec : p.tables.exec = Jvm.exec) (hb : c.code = cc) (hK : va_K G vwCl tys s) (hP : va_P G vwCl ws H) (hD : va_D A0 ws) (hS : va_S A0 H0 H locs) (q0 t0 : Nat) {cA : ClassId} {n : Nat} {f : Nat → Int64} (ha : ws[q0]? = some (a, .inl (cA, n, .inr (.inl f)))) (ht : tys[t0]? = some (cA, .long)) {i : Int32} {x : Int64} (hin : vp_in i n) (hdg : decode cc pc = .ok (.lastore, 1)) (hws : ws.set q0 (a, .inl (cA, n, .inr (.inl (vp_updL f i.toNatClampNeg x)))) = ws')
    (kk : ∀ (H1 : Heap) (locs1 : List Loc), va_P G vwCl ws' H1 → va_D A0 ws' → va_S A0 H0 H1 locs1 → W p l e R s m args below meth c H1 locs1 cells slots Q (F0 m (pc + 1) ls rest)) : W p l e R s m args below meth c H locs cells slots Q (F0 m pc ls (.long x :: .int i :: .ref a :: rest)) := by
  subst hws
  exact va_last hexec hb hK hP hD hS q0 t0 ha ht hin hdg kk
end TWH
theorem tw_get_l {w : va_W} {e : Nat × va_E} : (w ++ [e])[w.length]? = some e := by rw [List.getElem?_append_right (Nat.le_refl _), Nat.sub_self]; rfl
theorem tw_set_l {w : va_W} {e e' : Nat × va_E} : (w ++ [e]).set w.length e' = w ++ [e'] := by rw [List.set_append_right _ _ (Nat.le_refl _), Nat.sub_self]; rfl
