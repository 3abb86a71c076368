/-! constructors: rows, contracts -/
section TWN
variable {p : Program} {l : Launch} {e : Env} {R : Room} {s : State} {m : MethodId} {args : Array Value} {below : List Frame} {meth : Method} {c : Code} {H : Heap} {locs : List Loc} {cells slots : Nat} {Q : State → Prop}
variable {cc bytes : ByteArray} {nL maxL n index mc ms : Nat} {Ts wsY : List Cond} {own C host : String} {y : MethodName} {ret : Option FieldType} {rm : Room} {b : Addr} {rest st : List Value} {pc : Nat} {ls : Array Slot} {G : va_G} {tys tysY : List (ClassId × FieldType)} {wr : va_W} {A0 : Nat → Prop} {H0 : Heap}
/-- a new array of ints, of the class that is known -/
theorem tw_newi {ws : va_W} (hexec : p.tables.exec = Jvm.exec) (hb : c.code = cc) (harr : (Cond.arrayClass .int).before args s = true) (hK : va_K G vwCl tys s) (hP : va_P G vwCl ws H) (hD : va_D A0 ws) (hS : va_S A0 H0 H locs) (hA : ∀ q, H0.size ≤ q → A0 q) (t0 : Nat) {cI : ClassId} (ht : tys[t0]? = some (cI, .int))
    {k : Int32} {N' : Nat} (hn : ¬ k < 0) (hN : k.toNatClampNeg = N') (hbytes : N' * componentBytes .int ≤ 536870912) (hcells : cells + 1 ≤ R.cells) (hslots : slots + N' ≤ R.slots) (hdg : decode cc pc = .ok (.newarray .int, 2))
    (kk : ∀ (q : Nat) (H1 : Heap), va_P G vwCl (ws ++ [(q, .inl (cI, N', .inl (fun _ => 0)))]) H1 → va_D A0 (ws ++ [(q, .inl (cI, N', .inl (fun _ => 0)))]) → va_S A0 H0 H1 locs →
      W p l e R s m args below meth c H1 locs (cells + 1) (slots + N') Q (F0 m (pc + 2) ls (.ref q :: rest))) : W p l e R s m args below meth c H locs cells slots Q (F0 m pc ls (.int k :: rest)) := by
  refine va_newa hexec hb (atype := .int) harr (ty := .int) rfl hK hP hD hS hA (a0 := (N', .inl (fun _ => 0))) (fun _ => rfl) hn hN hbytes hcells hslots hdg (fun q cA H1 hK1 hP1 hD1 hS1 => ?_)
  have hlt : t0 < tys.length := (List.getElem?_eq_some_iff.mp ht).1
  have h1 := (hK1.2 t0 (cI, .int) (by rw [List.getElem?_append_left hlt]; exact ht)).2
  have h2 := (hK1.2 tys.length (cA, .int) (by rw [List.getElem?_append_right (Nat.le_refl _), Nat.sub_self]; rfl)).2
  have h3 : cA = cI := Option.some.inj (h2.symm.trans h1)
  subst h3
  exact kk q H1 hP1 hD1 hS1
/-- a new array of longs -/
theorem tw_newl {ws : va_W} (hexec : p.tables.exec = Jvm.exec) (hb : c.code = cc) (harr : (Cond.arrayClass .long).before args s = true) (hK : va_K G vwCl tys s) (hP : va_P G vwCl ws H) (hD : va_D A0 ws) (hS : va_S A0 H0 H locs) (hA : ∀ q, H0.size ≤ q → A0 q)
    {k : Int32} {N' : Nat} (hn : ¬ k < 0) (hN : k.toNatClampNeg = N') (hbytes : N' * componentBytes .long ≤ 536870912) (hcells : cells + 1 ≤ R.cells) (hslots : slots + N' ≤ R.slots) (hdg : decode cc pc = .ok (.newarray .long, 2))
    (kk : ∀ (q : Nat) (cA : ClassId) (H1 : Heap), va_K G vwCl (tys ++ [(cA, .long)]) s → va_P G vwCl (ws ++ [(q, .inl (cA, N', .inr (.inl (fun _ => 0))))]) H1 → va_D A0 (ws ++ [(q, .inl (cA, N', .inr (.inl (fun _ => 0))))]) → va_S A0 H0 H1 locs →
      W p l e R s m args below meth c H1 locs (cells + 1) (slots + N') Q (F0 m (pc + 2) ls (.ref q :: rest))) : W p l e R s m args below meth c H locs cells slots Q (F0 m pc ls (.int k :: rest)) :=
  va_newa hexec hb (atype := .long) harr (ty := .long) rfl hK hP hD hS hA (a0 := (N', .inr (.inl (fun _ => 0)))) (fun _ => rfl) hn hN hbytes hcells hslots hdg kk
/-- a final field of an object, in its constructor -/
theorem tw_putF {ref : String} {T : u_T} {N ci : Nat} {ws ws' : va_W} {a : Addr} (hexec : p.tables.exec = Jvm.exec) (hb : c.code = cc) (hts : ∀ w ∈ Ts, w.before args s = true) (hin : ∀ w ∈ u_ws C T N, w ∈ Ts) (ty0 : Nat → FieldType) (hty : ∀ k, k < N → parseFieldDescriptor (T k).2.2.1 = some (ty0 k)) (hnm : ∀ a, a < N → ∀ b, b < N → a ≠ b → (T a).2.1 ≠ (T b).2.1) (hown : s.vm.findClass own = some m.cls) (hK : va_K G vwCl tys s) (hP : va_P G vwCl ws H) (hD : va_D A0 ws) (hS0 : va_S A0 H0 H locs) (q0 : Nat) {fs : List Value} (he : ws[q0]? = some (a, .inr (ci, fs))) (hc : vwCl[ci]? = some (C, T, N)) (k : Nat) (hk : k < N) (hlink : (Cond.fieldLink own index ref (T k).2.1 (T k).2.2.1).before args s = true) (hsame : ∀ x, s.fieldFound? (T k).1 (T k).2.1 (T k).2.2.1 = some x → s.fieldFound? ref (T k).2.1 (T k).2.2.1 = some x) (hfin : (T k).2.2.2 = true) (hin2 : meth.name = "<init>") (hdecl : (T k).1 = own) {ty : FieldType} {v : Value} (hd : parseFieldDescriptor (T k).2.2.1 = some ty) (hn : narrow ty v = v) (hfit : fits ty v = true) (hl : k < fs.length)
    (hdg : decode cc pc = .ok (.putfield index, 3)) (hws : ws.set q0 (a, .inr (ci, fs.set k v)) = ws')
    (kk : ∀ (H1 : Heap) (locs1 : List Loc), va_P G vwCl ws' H1 → va_D A0 ws' → va_S A0 H0 H1 locs1 → W p l e R s m args below meth c H1 locs1 cells slots Q (F0 m (pc + 3) ls rest)) : W p l e R s m args below meth c H locs cells slots Q (F0 m pc ls (v :: .ref a :: rest)) := by
  subst hws
  exact va_putF hexec hb hts hin ty0 hty hnm hown hK hP hD hS0 q0 he hc k hk hlink hsame hfin hin2 hdecl hd hn hfit hl hdg kk
/-- a constructor's contract: what it leaves is told by B -/
def tw_Mn {S : Type} (l : Launch) (y : MethodName) (wsY : List Cond) (rm : Room) (G : va_G) (tys : List (ClassId × FieldType)) (wc : va_W) (av : List Value) (sz mc ms : Nat) (B : S → State → Prop) : Prop := Met l y wsY rm (tw_Pc G tys wc sz av) (va_Qv (fun (_ : S) => True) B (va_A wc sz)) mc ms (va_A wc sz)
theorem tw_ofn {S : Type} {ws ws1 : List Cond} {wc : va_W} {av : List Value} {sz : Nat} {B : S → State → Prop} (hy : plainName y.cls = true) (how : y.cls = own) (hw : ws = Cond.code y cc maxL none :: ws1) (hmx : (lg_sl av).length ≤ maxL) (hini : y.name = "<init>")
    (body : ∀ (p : Program) (e : Env) (s : State) (m : MethodId) (args : Array Value) (below : List Frame) (meth : Method) (c : Code) (Q : State → Prop) (A : Nat → Prop) (ls : Array Slot) (H : Heap) (locs : List Loc), meth.name = "<init>" → CallFix p m c cc maxL s args ws own → tw_N s → va_K G vwCl tys s → va_P G vwCl wc H → va_D A wc → va_S A s.heap H locs → (∀ q : Nat, s.heap.size ≤ q → A q) → A = va_A wc sz → lv_has ls maxL (lv_args 0 av) →
      (∀ (u : S) (H : Heap) (locs : List Loc) (pc : Nat) (ls : Array Slot) (cells slots : Nat), (∀ t : State, t.heap = H → s.vm.Alike t.vm → B u t) → va_S A s.heap H locs → decode cc pc = .ok (.return_, 1) → cells ≤ mc → slots ≤ ms → W p l e rm s m args below meth c H locs cells slots Q (F0 m pc ls [])) →
      W p l e rm s m args below meth c H locs 0 0 Q (F0 m 0 ls [])) : tw_Mn l y ws rm G tys wc av sz mc ms B := by
  subst how
  refine Met.ofW (cc := cc) (maxL := maxL) (ret := none) hy hw ?_
  intro p e s m args below meth c s₁ B hml hv
  obtain ⟨rfl, hsz, hP, ⟨hK, hN⟩, hD0⟩ := hv
  have hD := hD0.self (sz := sz)
  have hl := lv_entry av (n := maxL) hmx
  rw [lg_entry_eq]
  refine body p e s m av.toArray below meth c _ (va_A wc sz) _ _ _ ((name_of_methodNamed B.named B.method).1.trans hini) ⟨B.exec, B.bytes, hml, findClass_of_methodNamed B.named, atoms_spec (ws := ws) B.pre⟩ hN hK hP hD va_S.rf (fun q h => Or.inr (hsz ▸ h)) rfl hl (fun u H locs pc ls cells slots hB hS9 hd hc9 hs9 => ?_)
  refine W.widen (k := mc) (n := ms) hc9 hs9 ?_
  exact W.vret B.exec B.bytes B.returns (fun t ht hW => ⟨⟨u, rfl, trivial, hB t ht hW.alike⟩, hS9.F ht⟩) hS9.2.2 hd B.notSynchronized
theorem tw_cC {e : Nat × va_E} : ([wr.length] : List Nat).map (fun i => (wr ++ [e])[i]?) = ([e] : va_W).map some := by
  show [(wr ++ [e])[wr.length]?] = [some e]
  rw [List.getElem?_append_right (Nat.le_refl _), Nat.sub_self]
  rfl
theorem tw_cR {e : Nat × va_E} : (List.range wr.length).map (fun i => (wr ++ [e])[i]?) = wr.map some := by
  apply List.ext_getElem?
  intro k
  rw [List.getElem?_map, List.getElem?_map]
  by_cases h : k < wr.length
  · rw [List.getElem?_range h]
    show some ((wr ++ [e])[k]?) = _
    rw [List.getElem?_append_left h, List.getElem?_eq_getElem h]
    rfl
  · rw [List.getElem?_eq_none (by rw [List.length_range]; omega), List.getElem?_eq_none (by omega)]
    rfl
theorem tw_ndR : ∀ n, va_nd (List.range n) = true := fun n => by
  have key : ∀ (l : List Nat), l.Nodup → va_nd l = true := by
    intro l hl
    induction l with
    | nil => rfl
    | cons a l ih =>
      have h1 := List.nodup_cons.mp hl
      simp [va_nd, h1.1, ih h1.2]
  exact key _ List.nodup_range
/-- a constructor is called on the last cell -/
theorem tw_callI {S : Type} {B : S → State → Prop} {el : va_E} (F : CallFix p m c cc nL s args Ts own) (hN : tw_N s) (hK : va_K G vwCl tys s) (hP : va_P G vwCl (wr ++ [(b, el)]) H) (hD : va_D A0 (wr ++ [(b, el)])) (hS : va_S A0 H0 H locs) (hA : ∀ q : Nat, H0.size ≤ q → A0 q)
    (hM : tw_Mn (S := S) l y wsY rm G tysY [(b, el)] [.ref b] H.size mc ms B) (cw : CallB R s args own index y bytes maxL none wsY rm mc ms 0 ∧ y.name = "<init>" ∧ (Cond.instanceMethod y).before args s = true)
    (ks : List Nat) (hks : ks.filterMap (fun i => tys[i]?) = tysY) (w1 : S → va_W) (hB : ∀ u t, B u t → va_P G vwCl (w1 u) t.heap ∧ va_D (va_A [(b, el)] H.size) (w1 u))
    (hl : ls.size = nL) (hcat : (rest.map fun v => v.category).sum ≤ 8) (hdg : decode cc pc = .ok (.invokespecial index, 3)) (hcs : cells + mc ≤ R.cells ∧ slots + ms ≤ R.slots)
    (kk : ∀ (u : S) (t : State) (H1 : Heap) (locs1 : List Loc), B u t → t.heap = H1 → va_P G vwCl (wr ++ w1 u) H1 → va_D A0 (wr ++ w1 u) → va_S A0 H0 H1 locs1 → W p l e R s m args below meth c H1 locs1 (cells + mc) (slots + ms) Q (F0 m (pc + 3) ls rest)) :
    W p l e R s m args below meth c H locs cells slots Q (F0 m pc ls (.ref b :: rest)) := by
  have hC := tw_cC (wr := wr) (e := (b, el))
  have hPc : va_P G vwCl [(b, el)] H := fun k q hq => by obtain ⟨i, -, h⟩ := tw_is_get hC hq; exact hP i q h
  have hDc := hD.sub [wr.length] rfl hC
  have hKc := hK.sub ks hks
  have hFc := va_free hD hS hA [wr.length] hC
  refine va_callv (va_runI (As := []) (rest := rest) F hM cw ⟨tw_Pc_blind, fun U hU hW => ⟨rfl, by rw [hU], by rw [hU]; exact hPc, ⟨va_K.moved hW.alike hKc, tw_N.warm hW hN⟩, hDc.weaken (fun _ _ _ _ => trivial)⟩⟩ rfl rfl hl rfl (lv_room hcat) hdg hcs) hS (fun q _ h => hFc q h) hFc (fun u t H1 locs1 ht hvm hw hBt hz1 hk1 hS1 => ?_)
  obtain ⟨hP1, hD1⟩ := hB u t hBt
  rw [ht] at hP1
  obtain ⟨hP2, hD2⟩ := va_join (wr := wr) hP hD [wr.length] (List.range wr.length) hC tw_cR (tw_ndR _) (fun i hi h => absurd (List.mem_range.mp hi) (by rw [List.mem_singleton.mp h]; exact Nat.lt_irrefl _)) hk1 hFc hP1 hD1
  exact kk u t H1 locs1 hBt ht hP2 hD2 hS1
/-- .. of a nest mate -/
theorem tw_callIN {S : Type} {B : S → State → Prop} {el : va_E} (F : CallFix p m c cc nL s args Ts own) (hN : tw_N s) (hK : va_K G vwCl tys s) (hP : va_P G vwCl (wr ++ [(b, el)]) H) (hD : va_D A0 (wr ++ [(b, el)])) (hS : va_S A0 H0 H locs) (hA : ∀ q : Nat, H0.size ≤ q → A0 q)
    (hM : tw_Mn (S := S) l y wsY rm G tysY [(b, el)] [.ref b] H.size mc ms B) (cw : va_CN R s args own index y host bytes maxL none wsY rm mc ms 0 ∧ y.name = "<init>" ∧ (Cond.instanceMethod y).before args s = true)
    (ks : List Nat) (hks : ks.filterMap (fun i => tys[i]?) = tysY) (w1 : S → va_W) (hB : ∀ u t, B u t → va_P G vwCl (w1 u) t.heap ∧ va_D (va_A [(b, el)] H.size) (w1 u))
    (hl : ls.size = nL) (hcat : (rest.map fun v => v.category).sum ≤ 8) (hdg : decode cc pc = .ok (.invokespecial index, 3)) (hcs : cells + mc ≤ R.cells ∧ slots + ms ≤ R.slots)
    (kk : ∀ (u : S) (t : State) (H1 : Heap) (locs1 : List Loc), B u t → t.heap = H1 → va_P G vwCl (wr ++ w1 u) H1 → va_D A0 (wr ++ w1 u) → va_S A0 H0 H1 locs1 → W p l e R s m args below meth c H1 locs1 (cells + mc) (slots + ms) Q (F0 m (pc + 3) ls rest)) :
    W p l e R s m args below meth c H locs cells slots Q (F0 m pc ls (.ref b :: rest)) := by
  have hC := tw_cC (wr := wr) (e := (b, el))
  have hPc : va_P G vwCl [(b, el)] H := fun k q hq => by obtain ⟨i, -, h⟩ := tw_is_get hC hq; exact hP i q h
  have hDc := hD.sub [wr.length] rfl hC
  have hKc := hK.sub ks hks
  have hFc := va_free hD hS hA [wr.length] hC
  refine va_callv (va_runIN (As := []) (rest := rest) F hM cw ⟨tw_Pc_blind, fun U hU hW => ⟨rfl, by rw [hU], by rw [hU]; exact hPc, ⟨va_K.moved hW.alike hKc, tw_N.warm hW hN⟩, hDc.weaken (fun _ _ _ _ => trivial)⟩⟩ rfl rfl hl rfl (lv_room hcat) hdg hcs) hS (fun q _ h => hFc q h) hFc (fun u t H1 locs1 ht hvm hw hBt hz1 hk1 hS1 => ?_)
  obtain ⟨hP1, hD1⟩ := hB u t hBt
  rw [ht] at hP1
  obtain ⟨hP2, hD2⟩ := va_join (wr := wr) hP hD [wr.length] (List.range wr.length) hC tw_cR (tw_ndR _) (fun i hi h => absurd (List.mem_range.mp hi) (by rw [List.mem_singleton.mp h]; exact Nat.lt_irrefl _)) hk1 hFc hP1 hD1
  exact kk u t H1 locs1 hBt ht hP2 hD2 hS1
end TWN
/-! what the constructors leave -/
def tw_S0 : tw_St := (fun _ => 0, fun _ => 0, fun _ => 0, fun _ => 0, fun _ => 0, fun _ => 0, upd (upd (upd (upd (fun _ => 0) 0 99) 1 99) 2 99) 3 99, 0, 0)
def tw_P0 : tw_Pl := (fun _ => 0, fun _ => 0, 0, 0, 0)
def tw_T0 : tw_Tx := (fun _ => 0, 0)
def tw_W0 : tw_Wl := (tw_S0, tw_P0, tw_S0, tw_P0, tw_T0, fun _ => 0, 0, fun _ => tw_S0, fun i => i)
/-- one cell told in another way -/
theorem tw_told {G : va_G} {cl : List vw_C} {w1 w2 : va_W} {a : Nat} {cA : ClassId} {x y : vp_A} {H : Heap} (h : va_P G cl (w1 ++ (a, .inl (cA, x)) :: w2) H) (hxy : vp_cell cA x = vp_cell cA y) : va_P G cl (w1 ++ (a, .inl (cA, y)) :: w2) H := by
  intro k q hq
  by_cases hk : k = w1.length
  · subst hk
    rw [List.getElem?_append_right (Nat.le_refl _), Nat.sub_self] at hq
    cases hq
    have := h w1.length (a, .inl (cA, x)) (by rw [List.getElem?_append_right (Nat.le_refl _), Nat.sub_self]; rfl)
    show H[a]? = some (vp_cell cA y)
    rw [← hxy]
    exact this
  · refine h k q ?_
    rw [← hq]
    by_cases hlt : k < w1.length
    · rw [List.getElem?_append_left hlt, List.getElem?_append_left hlt]
    · rw [List.getElem?_append_right (by omega), List.getElem?_append_right (by omega)]
      obtain ⟨j, hj⟩ : ∃ j, k - w1.length = j + 1 := ⟨k - w1.length - 1, by omega⟩
      rw [hj]
      rfl
theorem tw_told_D {A : Nat → Prop} {w1 w2 : va_W} {a : Nat} {e e' : va_E} (h : va_D A (w1 ++ (a, e) :: w2)) : va_D A (w1 ++ (a, e') :: w2) := tw_D_fst (by rw [List.map_append, List.map_append]; rfl) h
theorem tw_cellq {cA : ClassId} {n : Nat} {f g : Nat → Option Nat} (h : ∀ j, j < n → f j = g j) : vp_cell cA (n, .inr (.inr (.inr (.inr f)))) = vp_cell cA (n, .inr (.inr (.inr (.inr g)))) := by
  rw [vp_cell_q, vp_cell_q]
  unfold arrV
  have : (Array.ofFn (n := n) fun j => va_rf (f j.val)) = Array.ofFn (n := n) fun j => va_rf (g j.val) := congrArg Array.ofFn (funext fun j => by rw [h j.val j.isLt])
  rw [this]
