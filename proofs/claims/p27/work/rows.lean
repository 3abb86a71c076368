section
-- ===== PART A: goes FIRST, ahead of the names: the tables' words, and 'selects' of the private methods out of them =====
/-- a private method of a class that the tables say can be made, by its rows of tables_1 -/
def lw_okq (q : MethodName × Nat) : Prop := (q.1.cls ≠ "java/lang/invoke/MethodHandle" ∧ q.1.cls ≠ "java/lang/invoke/VarHandle") ∧ Cond.instantiable q.1.cls q.2 ∈ tables_1 ∧ Cond.privateMethod q.1 ∈ tables_1 ∧ Cond.instanceMethod q.1 ∈ tables_1
theorem lw_p0 : lw_okq (⟨"java/lang/Throwable", "fillInStackTrace", "(I)Ljava/lang/Throwable;"⟩, 6) := ⟨⟨by decide +kernel, by decide +kernel⟩, List.mem_of_getElem? (i := 178) (by decide +kernel), List.mem_of_getElem? (i := 176) (by decide +kernel), List.mem_of_getElem? (i := 177) (by decide +kernel)⟩
theorem lw_p1 : lw_okq (⟨"TheatreWall", "criticalTasks", "()I"⟩, 8) := ⟨⟨by decide +kernel, by decide +kernel⟩, List.mem_of_getElem? (i := 13) (by decide +kernel), List.mem_of_getElem? (i := 207) (by decide +kernel), List.mem_of_getElem? (i := 208) (by decide +kernel)⟩
theorem lw_p2 : lw_okq (⟨"TheatreWall", "slackOf", "(I)I"⟩, 8) := ⟨⟨by decide +kernel, by decide +kernel⟩, List.mem_of_getElem? (i := 13) (by decide +kernel), List.mem_of_getElem? (i := 211) (by decide +kernel), List.mem_of_getElem? (i := 212) (by decide +kernel)⟩
theorem lw_p3 : lw_okq (⟨"TheatreWall$Plan", "firstByRule", "(LTheatreWall$State;I)I"⟩, 5) := ⟨⟨by decide +kernel, by decide +kernel⟩, List.mem_of_getElem? (i := 72) (by decide +kernel), List.mem_of_getElem? (i := 235) (by decide +kernel), List.mem_of_getElem? (i := 236) (by decide +kernel)⟩
theorem lw_p4 : lw_okq (⟨"TheatreWall$Plan", "firstDay", "(LTheatreWall$State;I)I"⟩, 5) := ⟨⟨by decide +kernel, by decide +kernel⟩, List.mem_of_getElem? (i := 72) (by decide +kernel), List.mem_of_getElem? (i := 239) (by decide +kernel), List.mem_of_getElem? (i := 240) (by decide +kernel)⟩
theorem lw_p5 : lw_okq (⟨"TheatreWall$Plan", "startOf", "(LTheatreWall$State;I)I"⟩, 5) := ⟨⟨by decide +kernel, by decide +kernel⟩, List.mem_of_getElem? (i := 72) (by decide +kernel), List.mem_of_getElem? (i := 243) (by decide +kernel), List.mem_of_getElem? (i := 244) (by decide +kernel)⟩
theorem lw_p6 : lw_okq (⟨"TheatreWall$Plan", "behindClash", "(LTheatreWall$State;II)I"⟩, 5) := ⟨⟨by decide +kernel, by decide +kernel⟩, List.mem_of_getElem? (i := 72) (by decide +kernel), List.mem_of_getElem? (i := 251) (by decide +kernel), List.mem_of_getElem? (i := 252) (by decide +kernel)⟩
theorem lw_p7 : lw_okq (⟨"TheatreWall", "longestRow", "()I"⟩, 8) := ⟨⟨by decide +kernel, by decide +kernel⟩, List.mem_of_getElem? (i := 13) (by decide +kernel), List.mem_of_getElem? (i := 267) (by decide +kernel), List.mem_of_getElem? (i := 268) (by decide +kernel)⟩
theorem lw_p8 : lw_okq (⟨"TheatreWall", "isTask", "(I)Z"⟩, 8) := ⟨⟨by decide +kernel, by decide +kernel⟩, List.mem_of_getElem? (i := 13) (by decide +kernel), List.mem_of_getElem? (i := 280) (by decide +kernel), List.mem_of_getElem? (i := 281) (by decide +kernel)⟩
theorem lw_p9 : lw_okq (⟨"TheatreWall", "tryRule", "(I)V"⟩, 8) := ⟨⟨by decide +kernel, by decide +kernel⟩, List.mem_of_getElem? (i := 13) (by decide +kernel), List.mem_of_getElem? (i := 352) (by decide +kernel), List.mem_of_getElem? (i := 353) (by decide +kernel)⟩
theorem lw_p10 : lw_okq (⟨"TheatreWall", "couldSlip", "(II)Z"⟩, 8) := ⟨⟨by decide +kernel, by decide +kernel⟩, List.mem_of_getElem? (i := 13) (by decide +kernel), List.mem_of_getElem? (i := 363) (by decide +kernel), List.mem_of_getElem? (i := 364) (by decide +kernel)⟩
theorem lw_p11 : lw_okq (⟨"TheatreWall", "saveState", "()V"⟩, 8) := ⟨⟨by decide +kernel, by decide +kernel⟩, List.mem_of_getElem? (i := 13) (by decide +kernel), List.mem_of_getElem? (i := 418) (by decide +kernel), List.mem_of_getElem? (i := 419) (by decide +kernel)⟩
theorem lw_p12 : lw_okq (⟨"TheatreWall", "dropOldest", "()V"⟩, 8) := ⟨⟨by decide +kernel, by decide +kernel⟩, List.mem_of_getElem? (i := 13) (by decide +kernel), List.mem_of_getElem? (i := 422) (by decide +kernel), List.mem_of_getElem? (i := 423) (by decide +kernel)⟩
def lw_privs_1 : List (MethodName × Nat) := [(⟨"java/lang/Throwable", "fillInStackTrace", "(I)Ljava/lang/Throwable;"⟩, 6), (⟨"TheatreWall", "criticalTasks", "()I"⟩, 8), (⟨"TheatreWall", "slackOf", "(I)I"⟩, 8), (⟨"TheatreWall$Plan", "firstByRule", "(LTheatreWall$State;I)I"⟩, 5), (⟨"TheatreWall$Plan", "firstDay", "(LTheatreWall$State;I)I"⟩, 5), (⟨"TheatreWall$Plan", "startOf", "(LTheatreWall$State;I)I"⟩, 5), (⟨"TheatreWall$Plan", "behindClash", "(LTheatreWall$State;II)I"⟩, 5), (⟨"TheatreWall", "longestRow", "()I"⟩, 8), (⟨"TheatreWall", "isTask", "(I)Z"⟩, 8), (⟨"TheatreWall", "tryRule", "(I)V"⟩, 8), (⟨"TheatreWall", "couldSlip", "(II)Z"⟩, 8), (⟨"TheatreWall", "saveState", "()V"⟩, 8), (⟨"TheatreWall", "dropOldest", "()V"⟩, 8)]
theorem lw_r1 : ∀ q ∈ lw_privs_1, lw_okq q := List.forall_mem_cons.mpr ⟨lw_p0, List.forall_mem_cons.mpr ⟨lw_p1, List.forall_mem_cons.mpr ⟨lw_p2, List.forall_mem_cons.mpr ⟨lw_p3, List.forall_mem_cons.mpr ⟨lw_p4, List.forall_mem_cons.mpr ⟨lw_p5, List.forall_mem_cons.mpr ⟨lw_p6, List.forall_mem_cons.mpr ⟨lw_p7, List.forall_mem_cons.mpr ⟨lw_p8, List.forall_mem_cons.mpr ⟨lw_p9, List.forall_mem_cons.mpr ⟨lw_p10, List.forall_mem_cons.mpr ⟨lw_p11, List.forall_mem_cons.mpr ⟨lw_p12, fun _ h => absurd h List.not_mem_nil⟩⟩⟩⟩⟩⟩⟩⟩⟩⟩⟩⟩⟩
def lw_privs : List (MethodName × Nat) := lw_privs_1
def lw_tbl : List Cond := k2_sels lw_privs ++ tables_1
theorem lw_privs_ok : ∀ q ∈ lw_privs, lw_okq q := lw_r1
/-- the streams that the claim lets the run draw from -/
abbrev lw_cs : List Choice := [Jvm.Choice.named "NaN.bits"]
theorem lw_bits : nanBits ∈ lw_cs := by first | decide | exact List.mem_cons_self | simp [lw_cs, nanBits]
-- ===== end of PART A; then your names; then what follows =====
/-! ===== BEGIN words of one list among another's, by their places ===== -/
theorem goodIn_r {big : List Cond} (ws : List Cond) (ps : List Nat) (hp : ws = ps.filterMap (fun i => big[i]?)) (h : ws.all goodWord = true) : GoodIn big ws := by
  intro w hw
  have h1 := List.all_eq_true.mp h w hw
  rw [hp] at hw
  obtain ⟨i, -, hi⟩ := List.mem_filterMap.mp hw
  have hm : w ∈ big := by first | exact List.mem_of_getElem? hi | exact List.getElem?_mem hi
  exact ⟨hm, good_of_word h1⟩
theorem goodIn_app {big a b : List Cond} (ha : GoodIn big a) (hb : GoodIn big b) : GoodIn big (a ++ b) := fun w h => (List.mem_append.mp h).elim (ha w) (hb w)
theorem goodIn_ca {big a b : List Cond} {c : Cond} (ha : GoodIn big (c :: a)) (hb : GoodIn big b) : GoodIn big (c :: (a ++ b)) := fun w h => (List.mem_cons.mp h).elim (fun e => ha w (List.mem_cons.mpr (Or.inl e))) (fun h => (List.mem_append.mp h).elim (fun h => ha w (List.mem_cons.mpr (Or.inr h))) (hb w))
theorem goodIn_sub {big ws : List Cond} (hm : ∀ w ∈ ws, w ∈ big) (h : ws.all goodWord = true) : GoodIn big ws := fun w hw => ⟨hm w hw, good_of_word (List.all_eq_true.mp h w hw)⟩
/-! ===== END ===== -/

/-! ===== BEGIN exceptions that leave a method, and their catching by the caller (launches without stack traces) ===== -/
section VXA
/-! The laws vx_back, vx_callV, vx_callS, vx_callSW, vx_throw0, vx_throwS follow proofs of the library, with one case more: JvmDerived/Free/Laws.lean (Back.of_free), Shelf42/LK1.lean (callV, callS), Shelf/KitTraced.lean (throwNew0V, throwNewS). -/
/-- where a method has thrown q: the class by its name, the cell, what was written, the world -/
def vx_T (XC : String → State → State → Prop) (st : State) (q : Addr) (t : State) (mc ms : Nat) (free : Addr → Prop) : Prop :=
  ∃ (E : String) (ce : Cell) (L : List Loc), XC E st t ∧ t.heap[q]? = some ce ∧ ce.vm = .none ∧ st.vm.findClass E = some ce.cls ∧ st.WarmedH t.vm ∧ st.sameButNew ({ t with vm := st.vm } : State) L mc ms ∧ ∀ z ∈ L, free z.base
def vx_Q (Qc : Array Value → State → Outcome → State → Prop) (XC : String → State → State → Prop) (mc ms : Nat) (free : Addr → Prop) : Array Value → State → Outcome → State → Prop := fun a st o t =>
  (Qc a st o t ∧ ∃ L, FrameEnd st o t L mc ms ∧ ∀ q ∈ L, free q.base) ∨ ∃ q, o = .threw q ∧ vx_T XC st q t mc ms free
/-- a callee that returns or throws -/
def vx_Met (l : Launch) (y : MethodName) (ws : List Cond) (rm : Room) (Pc : Array Value → State → Prop) (Qc : Array Value → State → Outcome → State → Prop) (XC : String → State → State → Prop) (mc ms : Nat) (free : Addr → Prop) : Prop :=
  MetFree l y (headSpec ws rm) Pc (fun _ _ _ _ _ => True) (vx_Q Qc XC mc ms free)
def vx_Post (XC : String → State → State → Prop) (mc ms : Nat) (free : Addr → Prop) : Pt → Array Value → Addr → Pt → Prop := fun A a q B =>
  ∃ (g : JFrame) (mk : MethodId) (t : State) (L : List Loc) (E : String) (ce : Cell), B.U.heap = t.heap ∧ B.U.vm = t.vm ∧ XC E (A.U.calling g mk a) t ∧ t.heap[q]? = some ce ∧ ce.vm = .none ∧ A.U.vm.findClass E = some ce.cls ∧ B.locs = A.locs ++ L ∧ (∀ z ∈ L, free z.base) ∧ B.cells = A.cells + mc ∧ B.slots = A.slots + ms
def vx_Back (l : Launch) (R : Room) (p : Program) (e : Env) (below : List Frame) (s : State) (sargs : Array Value) (y : MethodName) (len W9 : Nat)
    (Pre : Pt → Array Value → Prop) (Post : Pt → Array Value → Option Value → Pt → Prop) (PostX : Pt → Array Value → Addr → Pt → Prop) : Prop :=
  ∀ (m : MethodId) (meth : Method) (c : Code) (A : Pt) (g : JFrame) (ig : Instr) (mk : MethodId) (a : Array Value),
    Stand p l e R s m sargs below meth c A.U A.locs A.cells A.slots → g.method = m → g.locals.size = c.maxLocals → decode c.code g.pc = .ok (ig, len) →
    2 * g.monitorRoom + (g.stack.map fun v => v.category).sum ≤ W9 → A.U.methodNamed? y = some mk → Pre A a →
    (∃ (v : Option Value) (B : Pt), Stand p l e R s m sargs below meth c B.U B.locs B.cells B.slots ∧ Post A a v B ∧
      Steps p.tables e below (doInvoke e (A.U.setTop g) [] mk a).1 (B.U.setTop { g with pc := g.pc + len, stack := v.toList ++ g.stack })) ∨
    (∃ (q : Addr) (B : Pt), Stand p l e R s m sargs below meth c B.U B.locs B.cells B.slots ∧ PostX A a q B ∧
      Steps p.tables e below (doInvoke e (A.U.setTop g) [] mk a).1 ((B.U.setTop g).pushFrame (.throwing q)))
section Payer
variable {l : Launch} {R : Room} {p : Program} {e : Env} {below : List Frame} {s : State} {sargs : Array Value} {y : MethodName} {len W9 : Nat}
theorem vx_back {ws : List Cond} {rm : Room} {Pc : Array Value → State → Prop} {Qc : Array Value → State → Outcome → State → Prop} {XC : String → State → State → Prop} {mc ms : Nat} {free : Addr → Prop} {bytes : ByteArray} {maxL : Nat} {ret : Option FieldType}
    (hM : vx_Met l y ws rm Pc Qc XC mc ms free) (hblind : FrameBlind Pc) (hrc : rm.cells = mc) (hrs : rm.slots = ms)
    (hframes : rm.frames + 1 ≤ R.frames) (hlocals : W9 + (maxL + 11) + rm.locals ≤ R.locals)
    (hws : ∀ w ∈ ws, ∀ a' U, s.WarmedH U.vm → w.before a' U = true) (hcode : Cond.code y bytes maxL ret ∈ ws) (hinit : ∀ a' U, s.WarmedH U.vm → (Cond.initialized y.cls).before a' U = true) :
    vx_Back l R p e below s sargs y len W9 (PreOf R mc ms Pc) (PostOf Qc mc ms free) (vx_Post XC mc ms free) := by
  intro m meth c A g ig mk a X hg hsize hdg hW hn hp
  have h1 : (headSpec ws rm).pre.before a A.U = true := atoms_intro fun w hw => hws w hw _ _ X.warmed
  have h2 : (Cond.code y bytes maxL ret).before a A.U = true := hws _ hcode _ _ X.warmed
  have h3 : (Cond.initialized y.cls).before a A.U = true := hinit _ _ X.warmed
  have h4 : A.cells + (headSpec ws rm).room.cells ≤ R.cells := by rw [show (headSpec ws rm).room.cells = mc from hrc]; exact hp.1
  have h5 : A.slots + (headSpec ws rm).room.slots ≤ R.slots := by rw [show (headSpec ws rm).room.slots = ms from hrs]; exact hp.2.1
  have hPc : Pc a (A.U.calling g mk a) := hblind _ _ _ _ hp.2.2
  obtain ⟨U, Ls, c0, s0⟩ := A
  dsimp only [Pt.U, Pt.locs, Pt.cells, Pt.slots] at h1 h2 h3 h4 h5 X hn hPc ⊢
  obtain ⟨methY, cY, hmY, hcY, -, hlY, -, -, -, -⟩ := Cond.code_spec hn h2
  obtain ⟨kY, hkY, -⟩ := className_of_methodNamed hn
  have hinitY : kY.init = .initialized := Cond.initialized_spec (findClass_of_methodNamed hn) hkY h3
  have h : At U g.method c below := by rw [hg]; exact X.here
  have hlocals9 : W9 + (maxL + 11) + (headSpec ws rm).room.locals ≤ R.locals := hlocals
  have happ : (headSpec ws rm).appliesLoose y e.platform (U.calling g mk a) = true :=
    Spec.appliesLoose_calling (g := g) h hdg hn hkY hinitY
      (X.room_calling (g := g) (R' := (headSpec ws rm).room) hsize hmY hcY hframes (by rw [hlY]; omega) h4 h5) h1
  obtain ⟨mid, hmid⟩ := h.above
  have hfr : (U.setTop g).frames = (.java g :: mid) ++ below := by rw [State.frames_setTop' g h.top, hmid]; rfl
  obtain ⟨o, s₂, hsteps, -, hend, hq⟩ := Steps.callFree hM p X.admits X.cas X.clock (acts := []) hfr happ hPc trivial
  have hq' : vx_Q Qc XC mc ms free a (U.calling g mk a) o s₂ := hq
  rw [State.frames_setTop' g h.top] at hend
  obtain ⟨g₀, hg0⟩ := Option.isSome_iff_exists.mp h.top
  obtain ⟨r, hr⟩ := State.topJava?_eq_some.mp hg0
  have hr' : (({ U with heap := s₂.heap, slotsUsed := s₂.slotsUsed } : State).setVm s₂.vm).frames = .java g₀ :: r := hr
  rcases hq' with ⟨hqc, L, hfe, hL⟩ | ⟨q, rfl, E, ce, L, hx, hce, hcv, hcl, hW₂, hsm, hL⟩
  · obtain ⟨⟨v, rfl⟩, hW₂, e2, q2, q3, q4, q5, q6⟩ := id hfe
    have e3 : s₂ = ({ (U.calling g mk a).setFrames s₂.frames with heap := s₂.heap, slotsUsed := s₂.slotsUsed } : State).setVm s₂.vm := by
      have : s₂ = ({ s₂ with vm := (U.calling g mk a).vm } : State).setVm s₂.vm := rfl
      rw [e2] at this
      exact this
    obtain ⟨c₂, i₂, len₂, hc₂, hd₂, hf₂⟩ := hend
    have hW' : U.WarmedH s₂.vm := hW₂
    have hcc : c₂ = c := by
      have h1 : s₂.code? g.method = U.code? g.method := by
        rw [State.code?_eq, State.code?_eq, hW'.alike.method?]
      exact Option.some.inj (hc₂.symm.trans (h1.trans h.code))
    subst hcc
    have hlen : len₂ = len := by rw [hdg] at hd₂; cases hd₂; rfl
    subst hlen
    have hs₂ : s₂ = (({ U with heap := s₂.heap, slotsUsed := s₂.slotsUsed } : State).setVm s₂.vm).setTop { g with pc := g.pc + len₂, stack := v.toList ++ g.stack } := by
      refine e3.trans ?_
      rw [hf₂, State.calling_eq h.top, State.setFrames_setFrames, State.setTop_of_frames _ hr', hr]
      rfl
    have hsame : U.sameButNew ({ U with heap := s₂.heap, slotsUsed := s₂.slotsUsed } : State) L mc ms := by
      refine ⟨?_, q2, q3, q4, q5, q6⟩
      obtain ⟨t, ht, -⟩ := State.frames_cons hr
      show ({ U with heap := s₂.heap, slotsUsed := s₂.slotsUsed } : State) = { U.setFrames U.frames with heap := s₂.heap, slotsUsed := s₂.slotsUsed }
      rw [State.setFrames_self ht]
    subst hg
    refine Or.inl ⟨v, ⟨(({ U with heap := s₂.heap, slotsUsed := s₂.slotsUsed } : State).setVm s₂.vm), Ls ++ L, c0 + mc, s0 + ms⟩,
      ⟨X.admits, X.cas, X.clock, X.frames, X.room, X.hears, X.method, X.code, (X.here.setHeapUsed s₂.heap s₂.slotsUsed).setVm hW'.alike, X.tail, State.WarmedH.trans X.warmed hW', X.limits, X.bytes, X.same.trans (hsame.setVm s.vm)⟩,
      ⟨g, mk, s₂, L, rfl, rfl, hqc, rfl, hL, rfl, rfl⟩, ?_⟩
    show Steps p.tables e below _ ((({ U with heap := s₂.heap, slotsUsed := s₂.slotsUsed } : State).setVm s₂.vm).setTop { g with pc := g.pc + len₂, stack := v.toList ++ g.stack })
    rw [← hs₂]
    exact hsteps
  · obtain ⟨e2, q2, q3, q4, q5, q6⟩ := id hsm
    have e3 : s₂ = ({ (U.calling g mk a).setFrames s₂.frames with heap := s₂.heap, slotsUsed := s₂.slotsUsed } : State).setVm s₂.vm := by
      have : s₂ = ({ s₂ with vm := (U.calling g mk a).vm } : State).setVm s₂.vm := rfl
      rw [e2] at this
      exact this
    have hf₂ : s₂.frames = .throwing q :: .java g :: U.frames.tail := hend
    have hW' : U.WarmedH s₂.vm := hW₂
    have hs₂ : s₂ = ((({ U with heap := s₂.heap, slotsUsed := s₂.slotsUsed } : State).setVm s₂.vm).setTop g).pushFrame (.throwing q) := by
      refine e3.trans ?_
      rw [hf₂, State.calling_eq h.top, State.setFrames_setFrames, State.pushFrame, State.frames_setTop _ hr', State.setTop_of_frames _ hr', State.setFrames_setFrames, hr]
      rfl
    have hsame : U.sameButNew ({ U with heap := s₂.heap, slotsUsed := s₂.slotsUsed } : State) L mc ms := by
      refine ⟨?_, q2, q3, q4, q5, q6⟩
      obtain ⟨t, ht, -⟩ := State.frames_cons hr
      show ({ U with heap := s₂.heap, slotsUsed := s₂.slotsUsed } : State) = { U.setFrames U.frames with heap := s₂.heap, slotsUsed := s₂.slotsUsed }
      rw [State.setFrames_self ht]
    subst hg
    refine Or.inr ⟨q, ⟨(({ U with heap := s₂.heap, slotsUsed := s₂.slotsUsed } : State).setVm s₂.vm), Ls ++ L, c0 + mc, s0 + ms⟩,
      ⟨X.admits, X.cas, X.clock, X.frames, X.room, X.hears, X.method, X.code, (X.here.setHeapUsed s₂.heap s₂.slotsUsed).setVm hW'.alike, X.tail, State.WarmedH.trans X.warmed hW', X.limits, X.bytes, X.same.trans (hsame.setVm s.vm)⟩,
      ⟨g, mk, s₂, L, E, ce, rfl, rfl, hx, hce, hcv, hcl, rfl, hL, rfl, rfl⟩, ?_⟩
    show Steps p.tables e below _ (((({ U with heap := s₂.heap, slotsUsed := s₂.slotsUsed } : State).setVm s₂.vm).setTop g).pushFrame (.throwing q))
    rw [← hs₂]
    exact hsteps
end Payer
section Calls
variable {p : Program} {l : Launch} {e : Env} {R : Room} {s : State} {m : MethodId} {args : Array Value} {below : List Frame} {meth : Method} {c : Code} {T : State} {locs : List Loc} {cells slots : Nat}
theorem vx_callV (X : Stand p l e R s m args below meth c T locs cells slots) (hexec : p.tables.exec = Jvm.exec) {own C : String} {index : Nat} {y : MethodName} {bytes : ByteArray} {maxL : Nat} {ret : Option FieldType}
    (hown : s.vm.findClass own = some m.cls) (hlink : (Cond.methodLink own index y).before args s = true) (hinst : (Cond.instanceMethod y).before args s = true) (hsel : (Cond.selects C y y).before args s = true)
    (hcode : (Cond.code y bytes maxL ret).before args s = true) (hy : y.cls ≠ "java/lang/invoke/MethodHandle" ∧ y.cls ≠ "java/lang/invoke/VarHandle")
    {W9 : Nat} {Pre : Pt → Array Value → Prop} {Post : Pt → Array Value → Option Value → Pt → Prop} {PostX : Pt → Array Value → Addr → Pt → Prop} (hK : vx_Back l R p e below s args y 3 W9 Pre Post PostX)
    {b : Addr} {cellB : Cell} (hcell : T.heap[b]? = some cellB) (hobj : cellB.vm.isStatics = false) (hcls : s.vm.findClass C = some cellB.cls)
    {g : JFrame} (hg : g.method = m) (hsize : g.locals.size = c.maxLocals) {argsL rest : List Value} (hlen : ∀ sig, parseMethodDescriptor y.desc = some sig → argsL.length = sig.parameters.length)
    (hstack : g.stack = argsL.reverse ++ .ref b :: rest) (hW : 2 * g.monitorRoom + (rest.map fun v => v.category).sum ≤ W9) (hdg : decode c.code g.pc = .ok (.invokevirtual index, 3))
    (hpre : ∀ vm₁, s.WarmedH vm₁ → Pre ⟨T.setVm vm₁, locs, cells, slots⟩ (Value.ref b :: argsL).toArray) :
    (∃ (v : Option Value) (vm₁ : Vm) (B : Pt), s.WarmedH vm₁ ∧ Stand p l e R s m args below meth c B.U B.locs B.cells B.slots ∧ Post ⟨T.setVm vm₁, locs, cells, slots⟩ (Value.ref b :: argsL).toArray v B ∧
      ∀ target, Steps p.tables e below (B.U.setTop { g with pc := g.pc + 3, stack := v.toList ++ rest }) target → Steps p.tables e below (T.setTop g) target) ∨
    (∃ (q : Addr) (vm₁ : Vm) (B : Pt), s.WarmedH vm₁ ∧ Stand p l e R s m args below meth c B.U B.locs B.cells B.slots ∧ PostX ⟨T.setVm vm₁, locs, cells, slots⟩ (Value.ref b :: argsL).toArray q B ∧
      Steps p.tables e below (T.setTop g) ((B.U.setTop { g with stack := rest }).pushFrame (.throwing q))) := by
  obtain ⟨mk, methM, hnamed, hmethM, hstM, habM⟩ := Cond.instanceMethod_spec hinst
  obtain ⟨methM', cM, hmethM', -, -, -, -, -, -, hsigM⟩ := Cond.code_spec hnamed hcode
  cases hmethM.symm.trans hmethM'
  obtain ⟨c2, r2, m2, q1, q2, q3, q4, kP, hkP, hkPi⟩ := Cond.selects_spec hsel
  cases hcls.symm.trans q1
  cases (State.methodFound?_of_named hnamed hy).symm.trans q2
  cases hnamed.symm.trans q3
  have hselP : selectMethod e.platform s.vm cellB.cls mk = .method mk := by rw [Launch.admits_selectMethod X.admits]; exact q4
  obtain ⟨vm₁, X₁, hstep₁⟩ := X.invokevirtual hexec hown hlink hnamed hmethM hstM hkP hkPi hy (a := b) (cell := cellB) hcell
    (fun z h => by rw [h] at hobj; cases hobj) hselP hmethM habM hkP hkPi (g := g) hg (argsL := argsL) (rest := rest) (hlen _ hsigM) hstack hdg
  rcases hK m meth c ⟨T.setVm vm₁, locs, cells, slots⟩ { g with stack := rest } (.invokevirtual index) mk (Value.ref b :: argsL).toArray X₁ hg hsize hdg hW (X₁.named hnamed) (hpre vm₁ X₁.warmed) with ⟨v, B, X', hpost, hsteps⟩ | ⟨q, B, X', hpost, hsteps⟩
  · exact Or.inl ⟨v, vm₁, B, X₁.warmed, X', hpost, fun target h => hstep₁ _ fun acts => by rw [doInvoke_state]; exact hsteps.trans h⟩
  · exact Or.inr ⟨q, vm₁, B, X₁.warmed, X', hpost, hstep₁ _ fun acts => by rw [doInvoke_state]; exact hsteps⟩
theorem vx_callS (X : Stand p l e R s m args below meth c T locs cells slots) (hexec : p.tables.exec = Jvm.exec) {own : String} {index : Nat} {y : MethodName} {bytes : ByteArray} {maxL : Nat} {ret : Option FieldType}
    (hown : s.vm.findClass own = some m.cls) (hlink : (Cond.methodLink own index y).before args s = true) (hstat : (Cond.static y).before args s = true) (hinit : (Cond.initialized y.cls).before args s = true)
    (hcode : (Cond.code y bytes maxL ret).before args s = true) (hy : y.cls ≠ "java/lang/invoke/MethodHandle" ∧ y.cls ≠ "java/lang/invoke/VarHandle")
    {W9 : Nat} {Pre : Pt → Array Value → Prop} {Post : Pt → Array Value → Option Value → Pt → Prop} {PostX : Pt → Array Value → Addr → Pt → Prop} (hK : vx_Back l R p e below s args y 3 W9 Pre Post PostX)
    {g : JFrame} (hg : g.method = m) (hsize : g.locals.size = c.maxLocals) {argsL rest : List Value} (hlen : ∀ sig, parseMethodDescriptor y.desc = some sig → argsL.length = sig.parameters.length)
    (hstack : g.stack = argsL.reverse ++ rest) (hW : 2 * g.monitorRoom + (rest.map fun v => v.category).sum ≤ W9) (hdg : decode c.code g.pc = .ok (.invokestatic index, 3))
    (hpre : ∀ vm₁, s.WarmedH vm₁ → Pre ⟨T.setVm vm₁, locs, cells, slots⟩ argsL.toArray) :
    (∃ (v : Option Value) (vm₁ : Vm) (B : Pt), s.WarmedH vm₁ ∧ Stand p l e R s m args below meth c B.U B.locs B.cells B.slots ∧ Post ⟨T.setVm vm₁, locs, cells, slots⟩ argsL.toArray v B ∧
      ∀ target, Steps p.tables e below (B.U.setTop { g with pc := g.pc + 3, stack := v.toList ++ rest }) target → Steps p.tables e below (T.setTop g) target) ∨
    (∃ (q : Addr) (vm₁ : Vm) (B : Pt), s.WarmedH vm₁ ∧ Stand p l e R s m args below meth c B.U B.locs B.cells B.slots ∧ PostX ⟨T.setVm vm₁, locs, cells, slots⟩ argsL.toArray q B ∧
      Steps p.tables e below (T.setTop g) ((B.U.setTop { g with stack := rest }).pushFrame (.throwing q))) := by
  obtain ⟨mk, hnamed⟩ := Cond.code_named hcode
  obtain ⟨methM, cM, hmethM, -, -, -, -, -, -, hsigM⟩ := Cond.code_spec hnamed hcode
  have hstatic : methM.isStatic = true := Cond.static_spec hnamed hmethM hstat
  obtain ⟨kP, hkP, -⟩ := className_of_methodNamed hnamed
  have hinitP : kP.init = .initialized := Cond.initialized_spec (findClass_of_methodNamed hnamed) hkP hinit
  obtain ⟨vm₁, X₁, hstep₁⟩ := X.invokestatic hexec hown hlink hnamed hmethM hstatic hkP hinitP hy (g := g) hg (argsL := argsL) (rest := rest) (hlen _ hsigM) hstack hdg
  rcases hK m meth c ⟨T.setVm vm₁, locs, cells, slots⟩ { g with stack := rest } (.invokestatic index) mk argsL.toArray X₁ hg hsize hdg hW (X₁.named hnamed) (hpre vm₁ X₁.warmed) with ⟨v, B, X', hpost, hsteps⟩ | ⟨q, B, X', hpost, hsteps⟩
  · exact Or.inl ⟨v, vm₁, B, X₁.warmed, X', hpost, fun target h => hstep₁ _ fun acts => by rw [doInvoke_state]; exact hsteps.trans h⟩
  · exact Or.inr ⟨q, vm₁, B, X₁.warmed, X', hpost, hstep₁ _ fun acts => by rw [doInvoke_state]; exact hsteps⟩
end Calls
theorem vx_cls {s : State} {T : State} {vm₁ : Vm} {E : String} {k : ClassId} (hW : s.WarmedH vm₁) (h : (T.setVm vm₁).vm.findClass E = some k) : s.vm.findClass E = some k := by
  have h1 : vm₁.findClass E = some k := h
  rw [hW.alike.findClass] at h1
  exact h1
/-- the method's frame g, with q thrown over it -/
def vx_W (p : Program) (l : Launch) (e : Env) (R : Room) (s : State) (m : MethodId) (args : Array Value) (below : List Frame) (meth : Method) (c : Code) (H : Heap) (locs : List Loc) (cells slots : Nat) (Q : State → Prop) (g : JFrame) (q : Addr) : Prop :=
  ∀ T : State, T.heap = H → Stand p l e R s m args below meth c T locs cells slots → ∃ t, Steps p.tables e below ((T.setTop g).pushFrame (.throwing q)) t ∧ Q t
def vx_Run (p : Program) (l : Launch) (e : Env) (R : Room) (s : State) (m : MethodId) (args : Array Value) (below : List Frame) (meth : Method) (c : Code) (H : Heap) (locs : List Loc) (cells slots mc ms : Nat) (g : JFrame) (rest : List Value) (Qa : State → Outcome → State → Prop) (XC : String → State → State → Prop) (free : Addr → Prop) : Prop :=
  ∀ T : State, T.heap = H → Stand p l e R s m args below meth c T locs cells slots →
    (∃ (v : Option Value) (st₀ t T' : State) (L : List Loc), st₀.heap = H ∧ Stand p l e R s m args below meth c T' (locs ++ L) (cells + mc) (slots + ms) ∧ (∀ q ∈ L, free q.base) ∧ T'.heap = t.heap ∧ T'.vm = t.vm ∧ Qa st₀ (.returned v) t ∧
      Goes p e below T g T' { g with pc := g.pc + 3, stack := v.toList ++ rest }) ∨
    (∃ (q : Addr) (st₀ t T' : State) (L : List Loc) (E : String) (ce : Cell), st₀.heap = H ∧ Stand p l e R s m args below meth c T' (locs ++ L) (cells + mc) (slots + ms) ∧ (∀ z ∈ L, free z.base) ∧ T'.heap = t.heap ∧ T'.vm = t.vm ∧ XC E st₀ t ∧ t.heap[q]? = some ce ∧ ce.vm = .none ∧ s.vm.findClass E = some ce.cls ∧
      Steps p.tables e below (T.setTop g) ((T'.setTop { g with stack := rest }).pushFrame (.throwing q)))
def vx_X {S : Type} (px : S → Prop) (B : String → S → State → Prop) (A : Nat → Prop) : String → State → State → Prop := fun E st t => ∃ u : S, px u ∧ B E u t ∧ va_F A st t
section Runs
variable {p : Program} {l : Launch} {e : Env} {R : Room} {s : State} {m : MethodId} {args : Array Value} {below : List Frame} {meth : Method} {c : Code} {H : Heap} {locs : List Loc} {cells slots : Nat}
variable {y : MethodName} {bytes cc : ByteArray} {maxL nL mc ms n index : Nat} {ret : Option FieldType} {ws : List Cond} {rm : Room} {Pc : Array Value → State → Prop} {Qc : Array Value → State → Outcome → State → Prop} {XC : String → State → State → Prop} {free : Addr → Prop} {Ts : List Cond} {own C : String} {b : Addr} {As rest : List Value} {g : JFrame}
theorem vx_callBack (cb : CallB R s args own index y bytes maxL ret ws rm mc ms n) (hM : vx_Met l y ws rm Pc Qc XC mc ms free) (hbl : FrameBlind Pc) : vx_Back l R p e below s args y 3 8 (PreOf R mc ms Pc) (PostOf Qc mc ms free) (vx_Post XC mc ms free) := by
  obtain ⟨hrc, hrs, hfr, hlo, hws, hcw, -, hini, -⟩ := cb
  exact vx_back (bytes := bytes) (maxL := maxL) (ret := ret) hM hbl hrc hrs hfr hlo hws hcw (fun a' U hW => word_at hW (Or.inl (by first | rfl | simp [Cond.onTables, Cond.keeps, Cond.steady])) hini)
theorem vx_runV (S : CallFix p m c cc nL s args Ts own) (hM : vx_Met l y ws rm Pc Qc XC mc ms free) (cw : CallW R s args own C index y bytes maxL ret ws rm mc ms n) (hp : PreV s H C b Pc As)
    (hg : g.method = m) (hn : As.length = n) (hsize : g.locals.size = nL) (hstack : g.stack = As.reverse ++ .ref b :: rest) (hW : 2 * g.monitorRoom + (rest.map fun v => v.category).sum ≤ 8) (hdg : decode cc g.pc = .ok (.invokevirtual index, 3)) (hf : cells + mc ≤ R.cells ∧ slots + ms ≤ R.slots) :
    vx_Run p l e R s m args below meth c H locs cells slots mc ms g rest (Qc (Value.ref b :: As).toArray) XC free := by
  have hK : vx_Back l R p e below s args y 3 8 (PreOf R mc ms Pc) (PostOf Qc mc ms free) (vx_Post XC mc ms free) := vx_callBack cw.1 hM hp.1
  obtain ⟨⟨-, -, -, -, -, -, hcode, -, hy, hlen, hl⟩, hin, hse⟩ := cw
  obtain ⟨hx, hb, hml, ho, -⟩ := S
  obtain ⟨-, ⟨cellB, hcB, hoB, hclB⟩, hPc⟩ := hp
  intro T hT X
  rcases vx_callV X hx (C := C) (bytes := bytes) (maxL := maxL) (ret := ret) ho hl hin hse hcode hy hK (by rw [hT]; exact hcB) hoB hclB hg (hsize.trans hml.symm) (argsL := As) (rest := rest) (fun sig h => hn.trans (hlen sig h)) hstack hW (by rw [hb]; exact hdg)
    (fun vm₁ hW₁ => ⟨hf.1, hf.2, hPc (T.setVm vm₁) hT hW₁⟩) with ⟨v, vm₁, ⟨U', l2, c2, s2⟩, hW₁, X', ⟨g', mk, t, L, e1, e2, hq, h1, hL, h2, h3⟩, st⟩ | ⟨q, vm₁, ⟨U', l2, c2, s2⟩, hW₁, X', ⟨g', mk, t, L, E, ce, e1, e2, hq, hce, hcv, hcl, h1, hL, h2, h3⟩, st⟩
  · dsimp only [Pt.U, Pt.locs, Pt.cells, Pt.slots] at X' e1 e2 h1 h2 h3 st
    subst h1; subst h2; subst h3
    exact Or.inl ⟨v, (T.setVm vm₁).calling g' mk (Value.ref b :: As).toArray, t, U', L, hT, X', hL, e1, e2, hq, st⟩
  · dsimp only [Pt.U, Pt.locs, Pt.cells, Pt.slots] at X' e1 e2 h1 h2 h3 st hcl
    subst h1; subst h2; subst h3
    exact Or.inr ⟨q, (T.setVm vm₁).calling g' mk (Value.ref b :: As).toArray, t, U', L, E, ce, hT, X', hL, e1, e2, hq, hce, hcv, vx_cls hW₁ hcl, st⟩
theorem vx_runS (S : CallFix p m c cc nL s args Ts own) (hM : vx_Met l y ws rm Pc Qc XC mc ms free) (cw : CallB R s args own index y bytes maxL ret ws rm mc ms n ∧ (Cond.static y).before args s = true) (hp : PreS s H Pc As)
    (hg : g.method = m) (hn : As.length = n) (hsize : g.locals.size = nL) (hstack : g.stack = As.reverse ++ rest) (hW : 2 * g.monitorRoom + (rest.map fun v => v.category).sum ≤ 8) (hdg : decode cc g.pc = .ok (.invokestatic index, 3)) (hf : cells + mc ≤ R.cells ∧ slots + ms ≤ R.slots) :
    vx_Run p l e R s m args below meth c H locs cells slots mc ms g rest (Qc As.toArray) XC free := by
  have hK : vx_Back l R p e below s args y 3 8 (PreOf R mc ms Pc) (PostOf Qc mc ms free) (vx_Post XC mc ms free) := vx_callBack cw.1 hM hp.1
  obtain ⟨⟨-, -, -, -, -, -, hcode, hini, hy, hlen, hl⟩, hstt⟩ := cw
  obtain ⟨hx, hb, hml, ho, -⟩ := S
  intro T hT X
  rcases vx_callS X hx (bytes := bytes) (maxL := maxL) (ret := ret) ho hl hstt hini hcode hy hK hg (hsize.trans hml.symm) (argsL := As) (rest := rest) (fun sig h => hn.trans (hlen sig h)) hstack hW (by rw [hb]; exact hdg)
    (fun vm₁ hW₁ => ⟨hf.1, hf.2, hp.2 (T.setVm vm₁) hT hW₁⟩) with ⟨v, vm₁, ⟨U', l2, c2, s2⟩, hW₁, X', ⟨g', mk, t, L, e1, e2, hq, h1, hL, h2, h3⟩, st⟩ | ⟨q, vm₁, ⟨U', l2, c2, s2⟩, hW₁, X', ⟨g', mk, t, L, E, ce, e1, e2, hq, hce, hcv, hcl, h1, hL, h2, h3⟩, st⟩
  · dsimp only [Pt.U, Pt.locs, Pt.cells, Pt.slots] at X' e1 e2 h1 h2 h3 st
    subst h1; subst h2; subst h3
    exact Or.inl ⟨v, (T.setVm vm₁).calling g' mk As.toArray, t, U', L, hT, X', hL, e1, e2, hq, st⟩
  · dsimp only [Pt.U, Pt.locs, Pt.cells, Pt.slots] at X' e1 e2 h1 h2 h3 st hcl
    subst h1; subst h2; subst h3
    exact Or.inr ⟨q, (T.setVm vm₁).calling g' mk As.toArray, t, U', L, E, ce, hT, X', hL, e1, e2, hq, hce, hcv, vx_cls hW₁ hcl, st⟩
end Runs
section Rows
variable {p : Program} {l : Launch} {e : Env} {R : Room} {s : State} {m : MethodId} {args : Array Value} {below : List Frame} {meth : Method} {c : Code} {H : Heap} {locs : List Loc} {cells slots : Nat} {Q : State → Prop}
variable {mc ms : Nat} {free : Addr → Prop} {A0 A1 : Nat → Prop} {H0 : Heap} {a : Array Value} {pc : Nat} {ls : Array Slot} {st0 rest : List Value}
theorem vx_keep {st₀ t T' : State} {L : List Loc} (h0 : st₀.heap = H) (e1 : T'.heap = t.heap) (hS : va_S A0 H0 H locs) (hA : ∀ q, q < H.size → A1 q → A0 q) (hf : ∀ q, free q → A0 q) (hL : ∀ q ∈ L, free q.base) (hF : va_F A1 st₀ t) :
    H.size ≤ T'.heap.size ∧ (∀ q : Nat, q < H.size → ¬ A1 q → T'.heap[q]? = H[q]?) ∧ va_S A0 H0 T'.heap (locs ++ L) := by
  obtain ⟨hz, hk⟩ := hF
  rw [h0] at hz hk
  exact ⟨by rw [e1]; exact hz, fun q h1 h2 => by rw [e1]; exact hk q h1 h2,
    ⟨Nat.le_trans hS.1 (by rw [e1]; exact hz), fun q h1 h2 => by rw [e1, hk q (Nat.lt_of_lt_of_le h1 hS.1) (fun z => h2 (hA q (Nat.lt_of_lt_of_le h1 hS.1) z))]; exact hS.2.1 q h1 h2, fun q hq => by
      rcases List.mem_append.mp hq with h | h
      · exact hS.2.2 q h
      · exact hf _ (hL q h)⟩⟩
theorem vx_calli {S SX : Type} {post : Int32 → S → Prop} {px : SX → Prop} {B : S → State → Prop} {BX : String → SX → State → Prop} {AX : Nat → Prop} (hr : vx_Run p l e R s m args below meth c H locs cells slots mc ms (F0 m pc ls st0) rest (va_Qi post B A1 a) (vx_X px BX AX) free) (hS : va_S A0 H0 H locs) (hA : ∀ q, q < H.size → A1 q → A0 q) (hf : ∀ q, free q → A0 q) (hAX : ∀ q, q < H.size → AX q → A0 q)
    (kx : ∀ (E : String) (ce : Cell) (q9 : Addr) (u : SX) (t : State) (H1 : Heap) (locs1 : List Loc), t.heap = H1 → s.vm.Alike t.vm → px u → BX E u t → H.size ≤ H1.size → (∀ q : Nat, q < H.size → ¬ AX q → H1[q]? = H[q]?) → va_S A0 H0 H1 locs1 → H1[q9]? = some ce → ce.vm = .none → s.vm.findClass E = some ce.cls → vx_W p l e R s m args below meth c H1 locs1 (cells + mc) (slots + ms) Q (F0 m pc ls rest) q9)
    (kk : ∀ (r : Int32) (u : S) (t : State) (H1 : Heap) (locs1 : List Loc), t.heap = H1 → s.vm.Alike t.vm → post r u → B u t → H.size ≤ H1.size → (∀ q : Nat, q < H.size → ¬ A1 q → H1[q]? = H[q]?) → va_S A0 H0 H1 locs1 → W p l e R s m args below meth c H1 locs1 (cells + mc) (slots + ms) Q (F0 m (pc + 3) ls (.int r :: rest))) : W p l e R s m args below meth c H locs cells slots Q (F0 m pc ls st0) := by
  intro T hT X
  rcases hr T hT X with ⟨v, st₀, t, T', L, h0, X', hL, e1, e2, ⟨⟨r, u, hv, hp, hb⟩, hF⟩, st⟩ | ⟨q, st₀, t, T', L, E, ce, h0, X', hL, e1, e2, ⟨u, hp, hb, hF⟩, hce, hcv, hcl, st⟩
  · cases hv
    obtain ⟨k1, k2, k3⟩ := vx_keep h0 e1 hS hA hf hL hF
    obtain ⟨t2, a1, b1⟩ := kk r u t T'.heap (locs ++ L) e1.symm (by rw [← e2]; exact X'.warmed.alike) hp hb k1 k2 k3 T' rfl X'
    exact ⟨t2, st t2 a1, b1⟩
  · obtain ⟨k1, k2, k3⟩ := vx_keep h0 e1 hS hAX hf hL hF
    obtain ⟨t2, a1, b1⟩ := kx E ce q u t T'.heap (locs ++ L) e1.symm (by rw [← e2]; exact X'.warmed.alike) hp hb k1 k2 k3 (by rw [e1]; exact hce) hcv hcl T' rfl X'
    exact ⟨t2, st.trans a1, b1⟩
theorem vx_calll {S SX : Type} {post : Int64 → S → Prop} {px : SX → Prop} {B : S → State → Prop} {BX : String → SX → State → Prop} {AX : Nat → Prop} (hr : vx_Run p l e R s m args below meth c H locs cells slots mc ms (F0 m pc ls st0) rest (va_Ql post B A1 a) (vx_X px BX AX) free) (hS : va_S A0 H0 H locs) (hA : ∀ q, q < H.size → A1 q → A0 q) (hf : ∀ q, free q → A0 q) (hAX : ∀ q, q < H.size → AX q → A0 q)
    (kx : ∀ (E : String) (ce : Cell) (q9 : Addr) (u : SX) (t : State) (H1 : Heap) (locs1 : List Loc), t.heap = H1 → s.vm.Alike t.vm → px u → BX E u t → H.size ≤ H1.size → (∀ q : Nat, q < H.size → ¬ AX q → H1[q]? = H[q]?) → va_S A0 H0 H1 locs1 → H1[q9]? = some ce → ce.vm = .none → s.vm.findClass E = some ce.cls → vx_W p l e R s m args below meth c H1 locs1 (cells + mc) (slots + ms) Q (F0 m pc ls rest) q9)
    (kk : ∀ (r : Int64) (u : S) (t : State) (H1 : Heap) (locs1 : List Loc), t.heap = H1 → s.vm.Alike t.vm → post r u → B u t → H.size ≤ H1.size → (∀ q : Nat, q < H.size → ¬ A1 q → H1[q]? = H[q]?) → va_S A0 H0 H1 locs1 → W p l e R s m args below meth c H1 locs1 (cells + mc) (slots + ms) Q (F0 m (pc + 3) ls (.long r :: rest))) : W p l e R s m args below meth c H locs cells slots Q (F0 m pc ls st0) := by
  intro T hT X
  rcases hr T hT X with ⟨v, st₀, t, T', L, h0, X', hL, e1, e2, ⟨⟨r, u, hv, hp, hb⟩, hF⟩, st⟩ | ⟨q, st₀, t, T', L, E, ce, h0, X', hL, e1, e2, ⟨u, hp, hb, hF⟩, hce, hcv, hcl, st⟩
  · cases hv
    obtain ⟨k1, k2, k3⟩ := vx_keep h0 e1 hS hA hf hL hF
    obtain ⟨t2, a1, b1⟩ := kk r u t T'.heap (locs ++ L) e1.symm (by rw [← e2]; exact X'.warmed.alike) hp hb k1 k2 k3 T' rfl X'
    exact ⟨t2, st t2 a1, b1⟩
  · obtain ⟨k1, k2, k3⟩ := vx_keep h0 e1 hS hAX hf hL hF
    obtain ⟨t2, a1, b1⟩ := kx E ce q u t T'.heap (locs ++ L) e1.symm (by rw [← e2]; exact X'.warmed.alike) hp hb k1 k2 k3 (by rw [e1]; exact hce) hcv hcl T' rfl X'
    exact ⟨t2, st.trans a1, b1⟩
theorem vx_callf {S SX : Type} {post : UInt32 → S → Prop} {px : SX → Prop} {B : S → State → Prop} {BX : String → SX → State → Prop} {AX : Nat → Prop} (hr : vx_Run p l e R s m args below meth c H locs cells slots mc ms (F0 m pc ls st0) rest (va_Qf post B A1 a) (vx_X px BX AX) free) (hS : va_S A0 H0 H locs) (hA : ∀ q, q < H.size → A1 q → A0 q) (hf : ∀ q, free q → A0 q) (hAX : ∀ q, q < H.size → AX q → A0 q)
    (kx : ∀ (E : String) (ce : Cell) (q9 : Addr) (u : SX) (t : State) (H1 : Heap) (locs1 : List Loc), t.heap = H1 → s.vm.Alike t.vm → px u → BX E u t → H.size ≤ H1.size → (∀ q : Nat, q < H.size → ¬ AX q → H1[q]? = H[q]?) → va_S A0 H0 H1 locs1 → H1[q9]? = some ce → ce.vm = .none → s.vm.findClass E = some ce.cls → vx_W p l e R s m args below meth c H1 locs1 (cells + mc) (slots + ms) Q (F0 m pc ls rest) q9)
    (kk : ∀ (r : UInt32) (u : S) (t : State) (H1 : Heap) (locs1 : List Loc), t.heap = H1 → s.vm.Alike t.vm → post r u → B u t → H.size ≤ H1.size → (∀ q : Nat, q < H.size → ¬ A1 q → H1[q]? = H[q]?) → va_S A0 H0 H1 locs1 → W p l e R s m args below meth c H1 locs1 (cells + mc) (slots + ms) Q (F0 m (pc + 3) ls (.float r :: rest))) : W p l e R s m args below meth c H locs cells slots Q (F0 m pc ls st0) := by
  intro T hT X
  rcases hr T hT X with ⟨v, st₀, t, T', L, h0, X', hL, e1, e2, ⟨⟨r, u, hv, hp, hb⟩, hF⟩, st⟩ | ⟨q, st₀, t, T', L, E, ce, h0, X', hL, e1, e2, ⟨u, hp, hb, hF⟩, hce, hcv, hcl, st⟩
  · cases hv
    obtain ⟨k1, k2, k3⟩ := vx_keep h0 e1 hS hA hf hL hF
    obtain ⟨t2, a1, b1⟩ := kk r u t T'.heap (locs ++ L) e1.symm (by rw [← e2]; exact X'.warmed.alike) hp hb k1 k2 k3 T' rfl X'
    exact ⟨t2, st t2 a1, b1⟩
  · obtain ⟨k1, k2, k3⟩ := vx_keep h0 e1 hS hAX hf hL hF
    obtain ⟨t2, a1, b1⟩ := kx E ce q u t T'.heap (locs ++ L) e1.symm (by rw [← e2]; exact X'.warmed.alike) hp hb k1 k2 k3 (by rw [e1]; exact hce) hcv hcl T' rfl X'
    exact ⟨t2, st.trans a1, b1⟩
theorem vx_calld {S SX : Type} {post : UInt64 → S → Prop} {px : SX → Prop} {B : S → State → Prop} {BX : String → SX → State → Prop} {AX : Nat → Prop} (hr : vx_Run p l e R s m args below meth c H locs cells slots mc ms (F0 m pc ls st0) rest (va_Qd post B A1 a) (vx_X px BX AX) free) (hS : va_S A0 H0 H locs) (hA : ∀ q, q < H.size → A1 q → A0 q) (hf : ∀ q, free q → A0 q) (hAX : ∀ q, q < H.size → AX q → A0 q)
    (kx : ∀ (E : String) (ce : Cell) (q9 : Addr) (u : SX) (t : State) (H1 : Heap) (locs1 : List Loc), t.heap = H1 → s.vm.Alike t.vm → px u → BX E u t → H.size ≤ H1.size → (∀ q : Nat, q < H.size → ¬ AX q → H1[q]? = H[q]?) → va_S A0 H0 H1 locs1 → H1[q9]? = some ce → ce.vm = .none → s.vm.findClass E = some ce.cls → vx_W p l e R s m args below meth c H1 locs1 (cells + mc) (slots + ms) Q (F0 m pc ls rest) q9)
    (kk : ∀ (r : UInt64) (u : S) (t : State) (H1 : Heap) (locs1 : List Loc), t.heap = H1 → s.vm.Alike t.vm → post r u → B u t → H.size ≤ H1.size → (∀ q : Nat, q < H.size → ¬ A1 q → H1[q]? = H[q]?) → va_S A0 H0 H1 locs1 → W p l e R s m args below meth c H1 locs1 (cells + mc) (slots + ms) Q (F0 m (pc + 3) ls (.double r :: rest))) : W p l e R s m args below meth c H locs cells slots Q (F0 m pc ls st0) := by
  intro T hT X
  rcases hr T hT X with ⟨v, st₀, t, T', L, h0, X', hL, e1, e2, ⟨⟨r, u, hv, hp, hb⟩, hF⟩, st⟩ | ⟨q, st₀, t, T', L, E, ce, h0, X', hL, e1, e2, ⟨u, hp, hb, hF⟩, hce, hcv, hcl, st⟩
  · cases hv
    obtain ⟨k1, k2, k3⟩ := vx_keep h0 e1 hS hA hf hL hF
    obtain ⟨t2, a1, b1⟩ := kk r u t T'.heap (locs ++ L) e1.symm (by rw [← e2]; exact X'.warmed.alike) hp hb k1 k2 k3 T' rfl X'
    exact ⟨t2, st t2 a1, b1⟩
  · obtain ⟨k1, k2, k3⟩ := vx_keep h0 e1 hS hAX hf hL hF
    obtain ⟨t2, a1, b1⟩ := kx E ce q u t T'.heap (locs ++ L) e1.symm (by rw [← e2]; exact X'.warmed.alike) hp hb k1 k2 k3 (by rw [e1]; exact hce) hcv hcl T' rfl X'
    exact ⟨t2, st.trans a1, b1⟩
theorem vx_callv {S SX : Type} {post : S → Prop} {px : SX → Prop} {B : S → State → Prop} {BX : String → SX → State → Prop} {AX : Nat → Prop} (hr : vx_Run p l e R s m args below meth c H locs cells slots mc ms (F0 m pc ls st0) rest (va_Qv post B A1 a) (vx_X px BX AX) free) (hS : va_S A0 H0 H locs) (hA : ∀ q, q < H.size → A1 q → A0 q) (hf : ∀ q, free q → A0 q) (hAX : ∀ q, q < H.size → AX q → A0 q)
    (kx : ∀ (E : String) (ce : Cell) (q9 : Addr) (u : SX) (t : State) (H1 : Heap) (locs1 : List Loc), t.heap = H1 → s.vm.Alike t.vm → px u → BX E u t → H.size ≤ H1.size → (∀ q : Nat, q < H.size → ¬ AX q → H1[q]? = H[q]?) → va_S A0 H0 H1 locs1 → H1[q9]? = some ce → ce.vm = .none → s.vm.findClass E = some ce.cls → vx_W p l e R s m args below meth c H1 locs1 (cells + mc) (slots + ms) Q (F0 m pc ls rest) q9)
    (kk : ∀ (u : S) (t : State) (H1 : Heap) (locs1 : List Loc), t.heap = H1 → s.vm.Alike t.vm → post u → B u t → H.size ≤ H1.size → (∀ q : Nat, q < H.size → ¬ A1 q → H1[q]? = H[q]?) → va_S A0 H0 H1 locs1 → W p l e R s m args below meth c H1 locs1 (cells + mc) (slots + ms) Q (F0 m (pc + 3) ls (rest))) : W p l e R s m args below meth c H locs cells slots Q (F0 m pc ls st0) := by
  intro T hT X
  rcases hr T hT X with ⟨v, st₀, t, T', L, h0, X', hL, e1, e2, ⟨⟨u, hv, hp, hb⟩, hF⟩, st⟩ | ⟨q, st₀, t, T', L, E, ce, h0, X', hL, e1, e2, ⟨u, hp, hb, hF⟩, hce, hcv, hcl, st⟩
  · cases hv
    obtain ⟨k1, k2, k3⟩ := vx_keep h0 e1 hS hA hf hL hF
    obtain ⟨t2, a1, b1⟩ := kk u t T'.heap (locs ++ L) e1.symm (by rw [← e2]; exact X'.warmed.alike) hp hb k1 k2 k3 T' rfl X'
    exact ⟨t2, st t2 a1, b1⟩
  · obtain ⟨k1, k2, k3⟩ := vx_keep h0 e1 hS hAX hf hL hF
    obtain ⟨t2, a1, b1⟩ := kx E ce q u t T'.heap (locs ++ L) e1.symm (by rw [← e2]; exact X'.warmed.alike) hp hb k1 k2 k3 (by rw [e1]; exact hce) hcv hcl T' rfl X'
    exact ⟨t2, st.trans a1, b1⟩
/-- caught by the row x of this method's table; the rows ahead don't take it -/
theorem vx_catch {own name : String} {E : String} {ce : Cell} {q : Addr} (hown : s.vm.findClass own = some m.cls) (pre : List ExceptionTableEntry) (x : ExceptionTableEntry) (suf : List ExceptionTableEntry) (hsplit : c.exceptionTable.toList = pre ++ x :: suf)
    (hpass : ∀ z ∈ pre, covers z pc = false ∨ (z.catchType ≠ 0 ∧ ∃ nm : String, (Cond.classLink own z.catchType nm).before args s = true ∧ va_Nc E nm s)) (hx : covers x pc = true) (h0 : x.catchType ≠ 0)
    (hlink : (Cond.classLink own x.catchType name).before args s = true) (hcast : (Cond.castable E name).before args s = true) (hcell : H[q]? = some ce) (hv : ce.vm = .none) (hcl : s.vm.findClass E = some ce.cls)
    (kk : W p l e R s m args below meth c H locs cells slots Q (F0 m x.handlerPc ls [.ref q])) : vx_W p l e R s m args below meth c H locs cells slots Q (F0 m pc ls rest) q := by
  intro T hT X
  have hpl : e.platform.magicAccessors = ({} : Platform).magicAccessors := by rw [X.admits.platform]
  obtain ⟨c3, c4, hc3, hc4, hasg⟩ := Cond.castable_spec hcast
  cases Option.some.inj (hc3.symm.trans hcl)
  obtain ⟨c5, hc5, hcl5⟩ := Cond.classLink_spec hown hlink e.platform hpl
  cases Option.some.inj (hc4.symm.trans hc5)
  obtain ⟨vm', X', st⟩ := X.thenCaughtThrough q (g := F0 m pc ls rest) rfl (Steps.refl _) (by rw [hT]; exact hcell) (by rw [hv]; rfl) (by obtain ⟨k9, h9, -⟩ := Vm.findClass_spec hcl; exact ⟨k9, h9⟩) pre x suf hsplit
    (fun z hz => by
      rcases hpass z hz with h | ⟨hz0, nm, hl1, hn1⟩
      · exact Or.inl h
      · obtain ⟨c6, hc6, hcl6⟩ := Cond.classLink_spec hown hl1 e.platform hpl
        obtain ⟨a8, b8, h1, h2, h3⟩ := hn1
        cases Option.some.inj (h1.symm.trans hcl)
        cases Option.some.inj (h2.symm.trans hc6)
        exact Or.inr ⟨hz0, _, hcl6, h3⟩) hx (Or.inr ⟨h0, c4, hcl5, hasg⟩)
  obtain ⟨t, a1, b1⟩ := kk (T.setVm vm') hT X'
  exact ⟨t, st.trans a1, b1⟩
end Rows
section Ends
variable {p : Program} {l : Launch} {e : Env} {R : Room} {s : State} {m : MethodId} {args : Array Value} {below : List Frame} {meth : Method} {c : Code} {H : Heap} {locs : List Loc} {cells slots : Nat} {Q : State → Prop}
variable {mc ms : Nat} {free : Addr → Prop} {A0 A1 : Nat → Prop} {H0 : Heap} {a : Array Value} {ls : Array Slot} {st0 rest : List Value}
variable {Qc : Array Value → State → Outcome → State → Prop} {XC : String → State → State → Prop}
/-- what a body that may throw owes at its end -/
def vx_MQ (below : List Frame) (Qc : Array Value → State → Outcome → State → Prop) (XC : String → State → State → Prop) (a : Array Value) (s : State) (mc ms : Nat) (free : Addr → Prop) : State → Prop := fun t =>
  ∃ o, t.status = .running ∧ Ended t below o ∧ vx_Q Qc XC mc ms free a s o t
theorem vx_ret {g : JFrame} {mc ms : Nat} (k : W p l e R s m args below meth c H locs cells slots (MQ below Qc args s mc ms free) g) : W p l e R s m args below meth c H locs cells slots (vx_MQ below Qc XC args s mc ms free) g := by
  intro T hT X
  obtain ⟨t, a1, o, b1, b2, b3, b4⟩ := k T hT X
  exact ⟨t, a1, o, b1, b2, Or.inl ⟨b3, b4⟩⟩
/-- not caught here: it goes on to the caller -/
theorem vx_widen {g : JFrame} {q : Addr} {k n : Nat} (h1 : cells ≤ k) (h2 : slots ≤ n) (kk : vx_W p l e R s m args below meth c H locs k n Q g q) : vx_W p l e R s m args below meth c H locs cells slots Q g q := fun T hT X => kk T hT (stand_widen X h1 h2)
theorem vx_out {pc : Nat} {E : String} {ce : Cell} {q : Addr} {mc ms : Nat} (hout : ∀ x ∈ c.exceptionTable.toList, covers x pc = false) (hlocks : meth.locks = false) (hcell : H[q]? = some ce) (hv : ce.vm = .none) (hcl : s.vm.findClass E = some ce.cls)
    (hx : ∀ t : State, t.heap = H → s.vm.Alike t.vm → XC E s t) (hf : ∀ z ∈ locs, free z.base) (hc : cells ≤ mc) (hs : slots ≤ ms) :
    vx_W p l e R s m args below meth c H locs cells slots (vx_MQ below Qc XC args s mc ms free) (F0 m pc ls rest) q := by
  intro T hT X
  obtain ⟨st1, hrun, hend, hW, hsm⟩ := X.leaveThrown q (g := F0 m pc ls rest) rfl rfl rfl hout hlocks
  have hcell9 : (T.setFrames (.throwing q :: below)).heap[q]? = some ce := by
    show T.heap[q]? = some ce
    rw [hT]; exact hcell
  exact ⟨_, st1, .threw q, hrun, hend, Or.inr ⟨q, rfl, E, ce, locs, hx _ hT hW.alike, hcell9, hv, hcl, hW, hsm.mono hc hs, hf⟩⟩
theorem vx_frame {U : State} {k n : Nat} (h : s.sameButNew ({ U with vm := s.vm } : State) locs k n) : s.heap.size ≤ U.heap.size ∧ ∀ q : Nat, q < s.heap.size → (∀ z ∈ locs, z.base ≠ q) → U.heap[q]? = s.heap[q]? := by
  obtain ⟨-, h2, -, -, -, h6⟩ := h
  refine ⟨h2, fun q hq hz => ?_⟩
  obtain ⟨c9, e1, e2, e3, e4⟩ := h6 q _ (Array.getElem?_eq_getElem hq)
  have hs : c9.slots = (s.heap[q]).slots := Array.ext_getElem? fun i => e4 i fun hm => hz _ hm rfl
  have h9 : c9 = s.heap[q] := by
    rw [hs] at e2
    exact e2
  have e5 : U.heap[q]? = some c9 := e1
  rw [e5, h9, Array.getElem?_eq_getElem hq]
/-- the words of a throw but the four that speak of the heap -/
def vx_no (w : Cond) : Bool := decide (w ≠ .isRef (.static Bundle.tN "UNASSIGNED_STACK" Bundle.steD)) && decide (w ≠ .isRef (.static Bundle.tN "SUPPRESSED_SENTINEL" Bundle.listD)) && decide (w ≠ .laysStatic Bundle.tN "UNASSIGNED_STACK" Bundle.steD) && decide (w ≠ .laysStatic Bundle.tN "SUPPRESSED_SENTINEL" Bundle.listD)
def vx_at0 (own : String) (ic : Nat) (X : String) (names : List String) : List Cond := (Bundle.ownAtoms0 own ic X names).filter vx_no
def vx_atS (own : String) (ic : Nat) (X : String) (names : List String) : List Cond := (Bundle.ownAtoms own ic X names).filter vx_no
/-- a word that the tables alone decide, or a good one -/
def vx_ot (w : Cond) : Bool := w.onTables || goodWord w
theorem vx_ot_at {args a' : Array Value} {s U : State} {w : Cond} (hW : s.WarmedH U.vm) (hvm : s.vm = U.vm) (hg : vx_ot w = true) (h : w.before args s = true) : w.before a' U = true := by
  simp only [vx_ot, Bool.or_eq_true] at hg
  rcases hg with hg | hg
  · exact va_tabs hg hvm h
  · exact word_at hW (good_of_word hg) h
/-- a list's words: the good ones out of the method's own list, the others by premises of their own -/
theorem vx_hat {args : Array Value} {s : State} {L B : List Cond} (h1 : ∀ w ∈ L.filter goodWord, w.before args s = true) (h2 : ∀ w ∈ L.filter (fun w => !goodWord w), w ∈ B) (h3 : ∀ w ∈ B, w.before args s = true) : ∀ w ∈ L, w.before args s = true := by
  intro w hw
  by_cases g : goodWord w = true
  · exact h1 w (List.mem_filter.mpr ⟨hw, g⟩)
  · refine h3 w (h2 w (List.mem_filter.mpr ⟨hw, ?_⟩))
    show (!goodWord w) = true
    cases hgw : goodWord w
    · rfl
    · exact absurd hgw g
theorem vx_c {args : Array Value} {s : State} {w : Cond} {B : List Cond} (h : w.before args s = true) (t : ∀ w ∈ B, w.before args s = true) : ∀ w' ∈ w :: B, w'.before args s = true := fun w' h' => (List.mem_cons.mp h').elim (fun e => by rw [e]; exact h) (t w')
theorem vx_n {args : Array Value} {s : State} : ∀ w ∈ ([] : List Cond), w.before args s = true := fun _ h => nomatch h
theorem vx_own {args : Array Value} {s : State} {L : List Cond} (h1 : ∀ w ∈ L.filter vx_no, w.before args s = true)
    (hU : (Cond.isRef (.static Bundle.tN "UNASSIGNED_STACK" Bundle.steD)).before args s = true) (hN : (Cond.isRef (.static Bundle.tN "SUPPRESSED_SENTINEL" Bundle.listD)).before args s = true)
    (lU : (Cond.laysStatic Bundle.tN "UNASSIGNED_STACK" Bundle.steD).before args s = true) (lN : (Cond.laysStatic Bundle.tN "SUPPRESSED_SENTINEL" Bundle.listD).before args s = true) : ∀ w ∈ L, w.before args s = true := by
  intro w hw
  by_cases e1 : w = .isRef (.static Bundle.tN "UNASSIGNED_STACK" Bundle.steD)
  · rw [e1]; exact hU
  · by_cases e2 : w = .isRef (.static Bundle.tN "SUPPRESSED_SENTINEL" Bundle.listD)
    · rw [e2]; exact hN
    · by_cases e3 : w = .laysStatic Bundle.tN "UNASSIGNED_STACK" Bundle.steD
      · rw [e3]; exact lU
      · by_cases e4 : w = .laysStatic Bundle.tN "SUPPRESSED_SENTINEL" Bundle.listD
        · rw [e4]; exact lN
        · exact h1 w (List.mem_filter.mpr ⟨hw, by unfold vx_no; rw [decide_eq_true e1, decide_eq_true e2, decide_eq_true e3, decide_eq_true e4]; rfl⟩)
/-- where a static field lies, its class's statics cell in H -/
def vx_L (C n d : String) (A : Nat → Prop) (U : State) (H : Heap) : Prop := ∃ (c : ClassId) (k : Class) (i : Nat) (f : Field) (a : Nat) (cell : Cell), U.vm.findClass C = some c ∧ U.fieldFound? C n d = some (c, k, i, f) ∧ f.isStatic = true ∧ k.statics = some a ∧ H[a]? = some cell ∧ cell.vm.isStatics = true ∧ cell.cls = c ∧ f.slot < cell.slots.size ∧ k.staticTypes[f.slot]? = some f.type ∧ ¬ A a
theorem vx_L.moved {C n d : String} {A : Nat → Prop} {u U : State} {H : Heap} (hvm : u.vm.Alike U.vm) (h : vx_L C n d A u H) : vx_L C n d A U H := by
  obtain ⟨c, k, i, f, a, cell, h1, h2, h3, h4, h5, h6, h7, h8, h9, h10⟩ := h
  obtain ⟨k', hi', he⟩ := State.fieldFound?_setVm hvm h2
  exact ⟨c, k', i, f, a, cell, by rw [hvm.findClass]; exact h1, hi', h3, by rw [he]; exact h4, h5, h6, h7, h8, by rw [he]; exact h9, h10⟩
theorem vx_L.kept {C n d : String} {A : Nat → Prop} {U : State} {H H1 : Heap} (h : vx_L C n d A U H) (hq : ∀ a : Nat, a < H.size → ¬ A a → H1[a]? = H[a]?) : vx_L C n d A U H1 := by
  obtain ⟨c, k, i, f, a, cell, h1, h2, h3, h4, h5, h6, h7, h8, h9, h10⟩ := h
  exact ⟨c, k, i, f, a, cell, h1, h2, h3, h4, by rw [hq a (Array.getElem?_eq_some_iff.mp h5).1 h10]; exact h5, h6, h7, h8, h9, h10⟩
theorem vx_L.narrow {C n d : String} {A B : Nat → Prop} {U : State} {H : Heap} (h : vx_L C n d A U H) (hAB : ∀ q, B q → A q) : vx_L C n d B U H := by
  obtain ⟨c, k, i, f, a, cell, h1, h2, h3, h4, h5, h6, h7, h8, h9, h10⟩ := h
  exact ⟨c, k, i, f, a, cell, h1, h2, h3, h4, h5, h6, h7, h8, h9, fun z => h10 (hAB _ z)⟩
theorem vx_L.word {C n d : String} {A : Nat → Prop} {s : State} {args : Array Value} (h : vx_L C n d A s s.heap) : (Cond.laysStatic C n d).before args s = true := by
  obtain ⟨c, k, i, f, a, cell, h1, h2, h3, h4, h5, h6, h7, h8, h9, -⟩ := h
  show (Cond.laysStatic C n d).holds args s none s [] = true
  exact Cond.laysStatic_of h1 h2 h3 h4 h5 h6 h7 h8 h9
/-- .. and what it holds: null or some reference -/
def vx_Zq (C n d : String) (A : Nat → Prop) (U : State) (H : Heap) : Prop := va_Zq C n d A U H ∧ vx_L C n d A U H
theorem vx_Zq.moved {C n d : String} {A : Nat → Prop} {u U : State} {H : Heap} (hvm : u.vm.Alike U.vm) (h : vx_Zq C n d A u H) : vx_Zq C n d A U H := ⟨va_Zq.moved hvm h.1, vx_L.moved hvm h.2⟩
theorem vx_Zq.kept {C n d : String} {A : Nat → Prop} {U : State} {H H1 : Heap} (h : vx_Zq C n d A U H) (hq : ∀ a : Nat, a < H.size → ¬ A a → H1[a]? = H[a]?) : vx_Zq C n d A U H1 := ⟨va_Zq.kept h.1 hq, vx_L.kept h.2 hq⟩
theorem vx_Zq.narrow {C n d : String} {A B : Nat → Prop} {U : State} {H : Heap} (h : vx_Zq C n d A U H) (hAB : ∀ q, B q → A q) : vx_Zq C n d B U H := ⟨va_Zq.narrow h.1 hAB, vx_L.narrow h.2 hAB⟩
theorem vx_Zqof {args : Array Value} {s : State} {C n d : String} {A : Nat → Prop} (hl : (Cond.laysStatic C n d).before args s = true) (hini : (Cond.initialized C).before args s = true) (h : (Cond.isRef (.static C n d)).before args s = true) (hA : ∀ a : Nat, a < s.heap.size → ¬ A a) : vx_Zq C n d A s s.heap := by
  refine ⟨va_Zqof hl hini h hA, ?_⟩
  obtain ⟨c, k, i, f, a, cell, h1, h2, h3, h4, h5, h6, h7, h8, h9⟩ := Cond.laysStatic_spec hl
  exact ⟨c, k, i, f, a, cell, h1, h2, h3, h4, h5, h6, h7, h8, h9, hA a (Array.getElem?_eq_some_iff.mp h5).1⟩
theorem vx_isRef {C n d : String} {v : Value} {A : Nat → Prop} {s : State} {args : Array Value} (h : va_Z C n d v A s s.heap) (hv : v.isRef = true) : (Cond.isRef (.static C n d)).before args s = true := by
  obtain ⟨cf, kf, fi, f, a, cell, h1, h2, h3, h4, h5, h6, h7, -⟩ := h
  have he : (Term.static C n d).eval args s none [] s = some v := by
    simp [Term.eval, State.fieldNamed?, h1, h2, h4, h5, h6, h7]
  simp only [Cond.before, Cond.holds, Cond.value, he]
  cases v <;> simp_all [Value.isRef]
theorem vx_isRefq {C n d : String} {A : Nat → Prop} {s : State} {args : Array Value} (h : va_Zq C n d A s s.heap) : (Cond.isRef (.static C n d)).before args s = true := by
  rcases h with h | ⟨t, h⟩
  · exact vx_isRef h rfl
  · exact vx_isRef h rfl
/-- the same frame, seen from here: as if the method were called anew in this heap -/
theorem vx_rebase {T : State} (X : Stand p l e R s m args below meth c T locs cells slots) {R' : Room} (hf : R'.frames ≤ R.frames) (hl : R'.locals ≤ R.locals) (hc : cells + R'.cells ≤ R.cells) (hs : slots + R'.slots ≤ R.slots) :
    Stand p l e R' ((T.setVm s.vm).setFrames (.invoking m args :: below)) m args below meth c T [] 0 0 := by
  have htop : (T.setVm s.vm).topJava?.isSome := X.here.top
  have hF : ((T.setVm s.vm).setFrames (.invoking m args :: below)).frames = .invoking m args :: below := State.frames_setFrames _ (State.cur_lt_of_top htop)
  obtain ⟨g₀, hg0⟩ := Option.isSome_iff_exists.mp htop
  obtain ⟨r, hr⟩ := State.topJava?_eq_some.mp hg0
  have hl9 : e.platform.stackLimits (T.setVm s.vm).me = e.platform.stackLimits s.me := X.limits
  have hb9 : (T.setVm s.vm).me.stackBytes = s.me.stackBytes := X.bytes
  refine ⟨X.admits, X.cas, X.clock, hF, ?_, X.hears, X.method, X.code, X.here, X.tail, X.warmed, ?_, ?_, ?_⟩
  · have h := X.room
    have hU : ((T.setVm s.vm).setFrames (.invoking m args :: below)).localsInUse = s.localsInUse := by
      rw [State.localsInUse_invoking hF (meth := meth) (c := c) X.method X.code, State.localsInUse_invoking X.frames X.method X.code]
    simp only [State.hasRoom, Bool.and_eq_true, decide_eq_true_eq] at h ⊢
    obtain ⟨⟨⟨⟨h1, h2, h3, h4, h5, h6⟩, h7⟩, h8⟩, h9⟩ := h
    rw [X.frames, List.length_cons] at h2 h3
    have q1 := X.heapSize
    have q2 := X.used
    simp only [hF, hU, List.length_cons, State.stackLimits_setFrames, State.stackBytes_setFrames, hl9, hb9]
    refine ⟨⟨⟨⟨by omega, by omega, by omega, by omega, by omega, h6⟩, ?_⟩, ?_⟩, X.book⟩
    · show T.heap.size + R'.cells ≤ e.platform.maxCells
      omega
    · show T.slotsUsed + R'.slots ≤ e.platform.maxSlots
      omega
  · rw [State.stackLimits_setFrames]; rfl
  · rw [State.stackBytes_setFrames]; rfl
  · refine ⟨?_, Nat.le_refl _, Nat.le_refl _, ?_, ?_, fun a c9 h9 => ⟨c9, h9, rfl, rfl, fun _ _ => rfl⟩⟩
    · obtain ⟨t, ht, -⟩ := State.frames_cons hr
      show T.setVm s.vm = { ((T.setVm s.vm).setFrames (.invoking m args :: below)).setFrames (T.setVm s.vm).frames with heap := T.heap, slotsUsed := T.slotsUsed }
      rw [State.setFrames_setFrames, State.setFrames_self ht]
      rfl
    · show T.slotsUsed = T.slotsUsed + ((T.heap.toList.drop T.heap.size).map (·.slots.size)).sum
      rw [List.drop_eq_nil_of_le (Nat.le_of_eq Array.length_toList)]
      rfl
    · show ((T.heap.toList.drop T.heap.size).map (·.slots.size)).sum ≤ 0
      rw [List.drop_eq_nil_of_le (Nat.le_of_eq Array.length_toList)]
      exact Nat.le_refl _
/-- 'throw new E()': new; dup; invokespecial; athrow -/
theorem vx_throw0 {cc : ByteArray} {pc : Nat} (hexec : p.tables.exec = Jvm.exec) (hb : c.code = cc) (hl : l.stackTraces = false) {own cls : String} {names : List String} {ik ic mc ms : Nat} {A : Nat → Prop}
    (hown : s.vm.findClass own = some m.cls) (hcls : Bundle.fit cls = true) (hnames : ∀ n ∈ names, Bundle.fit n = true)
    (hk : (Cond.classLink own ik cls).before args s = true) (hini : (Cond.initialized cls).before args s = true) (hat : ∀ w ∈ vx_at0 own ic cls names, w.before args s = true)
    (hgood : ∀ w ∈ Cond.classLink own ik cls :: Cond.initialized cls :: vx_at0 own ic cls names, vx_ot w = true)
    (hU : vx_Zq Bundle.tN "UNASSIGNED_STACK" Bundle.steD A s s.heap) (hN : vx_Zq Bundle.tN "SUPPRESSED_SENTINEL" Bundle.listD A s s.heap) (hS : va_S A s.heap H locs) (hsize : ls.size = c.maxLocals)
    (d0 : decode cc pc = .ok (.new ik, 3)) (d3 : decode cc (pc + 3) = .ok (.dup, 1)) (d4 : decode cc (pc + 4) = .ok (.invokespecial ic, 3)) (d7 : decode cc (pc + 7) = .ok (.athrow, 1))
    (hout : ∀ x ∈ c.exceptionTable.toList, covers x (pc + 7) = false)
    (hRframes : names.length + 3 < R.frames) (hRlocals : (rest.map fun v => v.category).sum + (13 * (names.length + 1) + 42) ≤ R.locals) (hRcells : cells + 1 ≤ R.cells) (hRslots : slots + 6 ≤ R.slots) (hlocks : meth.locks = false)
    (hx : ∀ t : State, s.vm.Alike t.vm → H.size ≤ t.heap.size → (∀ q : Nat, q < H.size → t.heap[q]? = H[q]?) → XC cls s t)
    (hf : ∀ z ∈ locs, free z.base) (hc : cells + 1 ≤ mc) (hs : slots + 6 ≤ ms) :
    W p l e R s m args below meth c H locs cells slots (vx_MQ below Qc XC args s mc ms free) (F0 m pc ls rest) := by
  intro T hT X
  have htr : e.platform.stackTraces = false := (show e.platform.stackTraces = l.stackTraces by rw [X.admits.platform]).trans hl
  have Y := vx_rebase X (R' := { frames := R.frames, locals := R.locals, cells := 1, slots := 6 }) (Nat.le_refl _) (Nat.le_refl _) hRcells hRslots
  obtain ⟨s', hA⟩ : ∃ z, z = (T.setVm s.vm).setFrames (.invoking m args :: below) := ⟨_, rfl⟩
  rw [← hA] at Y
  have hvm : s'.vm = s.vm := by rw [hA]; rfl
  have hhp : s'.heap = H := by rw [hA]; exact hT
  have hW0 : s.WarmedH s'.vm := by rw [hvm]; exact State.WarmedH.refl s
  have hat' : ∀ w ∈ vx_at0 own ic cls names, w.before args s' = true := fun w hw => vx_ot_at hW0 hvm.symm (hgood w (List.mem_cons_of_mem _ (List.mem_cons_of_mem _ hw))) (hat w hw)
  have hk' : (Cond.classLink own ik cls).before args s' = true := vx_ot_at hW0 hvm.symm (hgood _ List.mem_cons_self) hk
  have hini' : (Cond.initialized cls).before args s' = true := vx_ot_at hW0 hvm.symm (hgood _ (List.mem_cons_of_mem _ List.mem_cons_self)) hini
  have hU' : vx_Zq Bundle.tN "UNASSIGNED_STACK" Bundle.steD A s' s'.heap := by rw [hhp]; exact vx_Zq.moved hW0.alike (hU.kept hS.2.1)
  have hN' : vx_Zq Bundle.tN "SUPPRESSED_SENTINEL" Bundle.listD A s' s'.heap := by rw [hhp]; exact vx_Zq.moved hW0.alike (hN.kept hS.2.1)
  have h : ∀ w ∈ Bundle.ownAtoms0 own ic cls names, w.before args s' = true := vx_own hat' (vx_isRefq hU'.1) (vx_isRefq hN'.1) hU'.2.word hN'.2.word
  have hown' : s'.vm.findClass own = some m.cls := by rw [hvm]; exact hown
  have hins : (Cond.instantiable cls 6).before args s' = true := h _ (by simp [Bundle.ownAtoms0])
  obtain ⟨vm₁, cX, kX, hfX, hkX, -, -, X₁, st1⟩ := Y.newCold hexec (own := own) (C := cls) (index := ik) (n := 6) hown' hk' hins hini'
    (g := F0 m pc ls rest) rfl (by rw [hb]; exact d0) (Nat.le_refl _) (Nat.le_refl _)
  generalize hT1 : (T.setVm vm₁).pushCell { cls := cX, slots := kX.instanceTypes.map defaultValue, vm := .none } = T1 at X₁ st1
  have hcat : (Value.ref T.heap.size).category = 1 := rfl
  have hcellA : T1.heap[T.heap.size]? = some (freshCell cX kX) := by rw [← hT1]; exact State.heap_pushCell_size _ _
  have d3' : decode c.code (pc + 3) = .ok (.dup, 1) := by rw [hb]; exact d3
  obtain ⟨U, hsteps, hrun, hend, hW, hsame, ce, hce, hO⟩ := X₁.ctorThrow0 hexec htr (own := own) (cls := cls) (names := names) (ic := ic) hown' hcls hnames h (fun x hx => nomatch hx) hfX hkX hcellA (by rw [hhp, hT]; exact Nat.le_refl _)
    (g := { method := m, pc := pc + 4, locals := ls, stack := .ref T.heap.size :: .ref T.heap.size :: rest, locked := none }) rfl hsize rfl rfl (rest := rest) rfl
    (by rw [hb]; exact d4) (by rw [hb]; exact d7) hout hRframes (by simp only [List.map_cons, List.sum_cons, hcat]; omega) hlocks
  obtain ⟨f1, f2⟩ := vx_frame hsame
  rw [hhp] at f1 f2
  have hWs : s.WarmedH U.vm := State.WarmedH.trans hW0 hW
  have hcl : s.vm.findClass cls = some ce.cls := by
    have h9 := hO.cls
    rw [hvm] at h9
    exact h9
  have hall : s.sameButNew ({ U with vm := s.vm } : State) locs mc ms := by
    subst hA
    obtain ⟨e1, e2⟩ := hsame
    rw [State.setFrames_setFrames] at e1
    have h2 : (T.setVm s.vm).sameButNew ({ U with vm := s.vm } : State) [] (0 + 1) (0 + 6) := ⟨e1, e2⟩
    have h3 := X.same.trans h2
    rw [List.append_nil] at h3
    exact h3.mono hc hs
  refine ⟨U, ?_, .threw T.heap.size, hrun, hend, Or.inr ⟨T.heap.size, rfl, cls, ce, locs, hx U hWs.alike f1 (fun q hq => f2 q hq (fun z hz => nomatch hz)), hce, hO.vm, hcl, hWs, hall, hf⟩⟩
  refine st1 _ ?_
  show Steps p.tables e below (T1.setTop { method := m, pc := pc + 3, locals := ls, stack := .ref T.heap.size :: rest, locked := none }) _
  jvm_step X₁.here [X₁.here.top, hexec, d3', Value.category]
  exact hsteps
/-- 'throw new E("text")': new; dup; ldc; invokespecial; athrow -/
theorem vx_throwS {cc : ByteArray} {pc : Nat} (hexec : p.tables.exec = Jvm.exec) (hb : c.code = cc) (hl : l.stackTraces = false) {own cls text : String} {names : List String} {ik is ic mc ms sa : Nat} {A : Nat → Prop}
    (hown : s.vm.findClass own = some m.cls) (hcls : Bundle.fit cls = true) (hnames : ∀ n ∈ names, Bundle.fit n = true)
    (hk : (Cond.classLink own ik cls).before args s = true) (hini : (Cond.initialized cls).before args s = true) (hstr : vk_R own is text sa s) (hat : ∀ w ∈ vx_atS own ic cls names, w.before args s = true)
    (hgood : ∀ w ∈ Cond.classLink own ik cls :: Cond.initialized cls :: vx_atS own ic cls names, vx_ot w = true)
    (hU : vx_Zq Bundle.tN "UNASSIGNED_STACK" Bundle.steD A s s.heap) (hN : vx_Zq Bundle.tN "SUPPRESSED_SENTINEL" Bundle.listD A s s.heap) (hS : va_S A s.heap H locs) (hsize : ls.size = c.maxLocals)
    (d0 : decode cc pc = .ok (.new ik, 3)) (d3 : decode cc (pc + 3) = .ok (.dup, 1)) (d4 : decode cc (pc + 4) = .ok (.ldc is, 2)) (d6 : decode cc (pc + 6) = .ok (.invokespecial ic, 3)) (d9 : decode cc (pc + 9) = .ok (.athrow, 1))
    (hout : ∀ x ∈ c.exceptionTable.toList, covers x (pc + 9) = false)
    (hRframes : names.length + 3 < R.frames) (hRlocals : (rest.map fun v => v.category).sum + (13 * (names.length + 1) + 43) ≤ R.locals) (hRcells : cells + 1 ≤ R.cells) (hRslots : slots + 6 ≤ R.slots) (hlocks : meth.locks = false)
    (hx : ∀ t : State, s.vm.Alike t.vm → H.size ≤ t.heap.size → (∀ q : Nat, q < H.size → t.heap[q]? = H[q]?) → XC cls s t)
    (hf : ∀ z ∈ locs, free z.base) (hc : cells + 1 ≤ mc) (hs : slots + 6 ≤ ms) :
    W p l e R s m args below meth c H locs cells slots (vx_MQ below Qc XC args s mc ms free) (F0 m pc ls rest) := by
  intro T hT X
  have htr : e.platform.stackTraces = false := (show e.platform.stackTraces = l.stackTraces by rw [X.admits.platform]).trans hl
  have Y := vx_rebase X (R' := { frames := R.frames, locals := R.locals, cells := 1, slots := 6 }) (Nat.le_refl _) (Nat.le_refl _) hRcells hRslots
  obtain ⟨s', hA⟩ : ∃ z, z = (T.setVm s.vm).setFrames (.invoking m args :: below) := ⟨_, rfl⟩
  rw [← hA] at Y
  have hvm : s'.vm = s.vm := by rw [hA]; rfl
  have hhp : s'.heap = H := by rw [hA]; exact hT
  have hW0 : s.WarmedH s'.vm := by rw [hvm]; exact State.WarmedH.refl s
  have hat' : ∀ w ∈ vx_atS own ic cls names, w.before args s' = true := fun w hw => vx_ot_at hW0 hvm.symm (hgood w (List.mem_cons_of_mem _ (List.mem_cons_of_mem _ hw))) (hat w hw)
  have hk' : (Cond.classLink own ik cls).before args s' = true := vx_ot_at hW0 hvm.symm (hgood _ List.mem_cons_self) hk
  have hini' : (Cond.initialized cls).before args s' = true := vx_ot_at hW0 hvm.symm (hgood _ (List.mem_cons_of_mem _ List.mem_cons_self)) hini
  have hU' : vx_Zq Bundle.tN "UNASSIGNED_STACK" Bundle.steD A s' s'.heap := by rw [hhp]; exact vx_Zq.moved hW0.alike (hU.kept hS.2.1)
  have hN' : vx_Zq Bundle.tN "SUPPRESSED_SENTINEL" Bundle.listD A s' s'.heap := by rw [hhp]; exact vx_Zq.moved hW0.alike (hN.kept hS.2.1)
  have h : ∀ w ∈ Bundle.ownAtoms own ic cls names, w.before args s' = true := vx_own hat' (vx_isRefq hU'.1) (vx_isRefq hN'.1) hU'.2.word hN'.2.word
  have hown' : s'.vm.findClass own = some m.cls := by rw [hvm]; exact hown
  have hins : (Cond.instantiable cls 6).before args s' = true := h _ (by simp [Bundle.ownAtoms])
  obtain ⟨vm₁, cX, kX, hfX, hkX, -, -, X₁, st1⟩ := Y.newCold hexec (own := own) (C := cls) (index := ik) (n := 6) hown' hk' hins hini'
    (g := F0 m pc ls rest) rfl (by rw [hb]; exact d0) (Nat.le_refl _) (Nat.le_refl _)
  generalize hT1 : (T.setVm vm₁).pushCell { cls := cX, slots := kX.instanceTypes.map defaultValue, vm := .none } = T1 at X₁ st1
  have hcat : (Value.ref T.heap.size).category = 1 := rfl
  have hcellA : T1.heap[T.heap.size]? = some (freshCell cX kX) := by rw [← hT1]; exact State.heap_pushCell_size _ _
  have d3' : decode c.code (pc + 3) = .ok (.dup, 1) := by rw [hb]; exact d3
  have d4' : decode c.code (pc + 4) = .ok (.ldc is, 2) := by rw [hb]; exact d4
  have hstr' : vk_R own is text sa s' := vk_R.warm hW0 hstr
  obtain ⟨U, hsteps, hrun, hend, hW, hsame, ce, hce, hO⟩ := X₁.ctorThrowS hexec htr (own := own) (cls := cls) (names := names) (ic := ic) hown' hcls hnames h (fun x hx => nomatch hx) hfX hkX hcellA (by rw [hhp, hT]; exact Nat.le_refl _) (msg := .ref sa) rfl
    (g := { method := m, pc := pc + 6, locals := ls, stack := .ref sa :: .ref T.heap.size :: .ref T.heap.size :: rest, locked := none }) rfl hsize rfl rfl (rest := rest) rfl
    (by rw [hb]; exact d6) (by rw [hb]; exact d9) hout hRframes (by simp only [List.map_cons, List.sum_cons, hcat]; omega) hlocks
  obtain ⟨f1, f2⟩ := vx_frame hsame
  rw [hhp] at f1 f2
  have hWs : s.WarmedH U.vm := State.WarmedH.trans hW0 hW
  have hcl : s.vm.findClass cls = some ce.cls := by
    have h9 := hO.cls
    rw [hvm] at h9
    exact h9
  have hall : s.sameButNew ({ U with vm := s.vm } : State) locs mc ms := by
    subst hA
    obtain ⟨e1, e2⟩ := hsame
    rw [State.setFrames_setFrames] at e1
    have h2 : (T.setVm s.vm).sameButNew ({ U with vm := s.vm } : State) [] (0 + 1) (0 + 6) := ⟨e1, e2⟩
    have h3 := X.same.trans h2
    rw [List.append_nil] at h3
    exact h3.mono hc hs
  refine ⟨U, ?_, .threw T.heap.size, hrun, hend, Or.inr ⟨T.heap.size, rfl, cls, ce, locs, hx U hWs.alike f1 (fun q hq => f2 q hq (fun z hz => nomatch hz)), hce, hO.vm, hcl, hWs, hall, hf⟩⟩
  refine st1 _ ?_
  show Steps p.tables e below (T1.setTop { method := m, pc := pc + 3, locals := ls, stack := .ref T.heap.size :: rest, locked := none }) _
  jvm_step X₁.here [X₁.here.top, hexec, d3', Value.category]
  exact X₁.ldcString hexec (own := own) (text := text) (index := is) (a := sa) hown' hstr'.1 hstr'.2
    (g := { method := m, pc := pc + 4, locals := ls, stack := .ref T.heap.size :: .ref T.heap.size :: rest, locked := none }) rfl d4' _ hsteps
/-- 'throw new E("text")', the text by a wide index -/
theorem vx_throwSW {cc : ByteArray} {pc : Nat} (hexec : p.tables.exec = Jvm.exec) (hb : c.code = cc) (hl : l.stackTraces = false) {own cls text : String} {names : List String} {ik is ic mc ms sa : Nat} {A : Nat → Prop}
    (hown : s.vm.findClass own = some m.cls) (hcls : Bundle.fit cls = true) (hnames : ∀ n ∈ names, Bundle.fit n = true)
    (hk : (Cond.classLink own ik cls).before args s = true) (hini : (Cond.initialized cls).before args s = true) (hstr : vk_R own is text sa s) (hat : ∀ w ∈ vx_atS own ic cls names, w.before args s = true)
    (hgood : ∀ w ∈ Cond.classLink own ik cls :: Cond.initialized cls :: vx_atS own ic cls names, vx_ot w = true)
    (hU : vx_Zq Bundle.tN "UNASSIGNED_STACK" Bundle.steD A s s.heap) (hN : vx_Zq Bundle.tN "SUPPRESSED_SENTINEL" Bundle.listD A s s.heap) (hS : va_S A s.heap H locs) (hsize : ls.size = c.maxLocals)
    (d0 : decode cc pc = .ok (.new ik, 3)) (d3 : decode cc (pc + 3) = .ok (.dup, 1)) (d4 : decode cc (pc + 4) = .ok (.ldc_w is, 3)) (d7 : decode cc (pc + 7) = .ok (.invokespecial ic, 3)) (d10 : decode cc (pc + 10) = .ok (.athrow, 1))
    (hout : ∀ x ∈ c.exceptionTable.toList, covers x (pc + 10) = false)
    (hRframes : names.length + 3 < R.frames) (hRlocals : (rest.map fun v => v.category).sum + (13 * (names.length + 1) + 43) ≤ R.locals) (hRcells : cells + 1 ≤ R.cells) (hRslots : slots + 6 ≤ R.slots) (hlocks : meth.locks = false)
    (hx : ∀ t : State, s.vm.Alike t.vm → H.size ≤ t.heap.size → (∀ q : Nat, q < H.size → t.heap[q]? = H[q]?) → XC cls s t)
    (hf : ∀ z ∈ locs, free z.base) (hc : cells + 1 ≤ mc) (hs : slots + 6 ≤ ms) :
    W p l e R s m args below meth c H locs cells slots (vx_MQ below Qc XC args s mc ms free) (F0 m pc ls rest) := by
  intro T hT X
  have htr : e.platform.stackTraces = false := (show e.platform.stackTraces = l.stackTraces by rw [X.admits.platform]).trans hl
  have Y := vx_rebase X (R' := { frames := R.frames, locals := R.locals, cells := 1, slots := 6 }) (Nat.le_refl _) (Nat.le_refl _) hRcells hRslots
  obtain ⟨s', hA⟩ : ∃ z, z = (T.setVm s.vm).setFrames (.invoking m args :: below) := ⟨_, rfl⟩
  rw [← hA] at Y
  have hvm : s'.vm = s.vm := by rw [hA]; rfl
  have hhp : s'.heap = H := by rw [hA]; exact hT
  have hW0 : s.WarmedH s'.vm := by rw [hvm]; exact State.WarmedH.refl s
  have hat' : ∀ w ∈ vx_atS own ic cls names, w.before args s' = true := fun w hw => vx_ot_at hW0 hvm.symm (hgood w (List.mem_cons_of_mem _ (List.mem_cons_of_mem _ hw))) (hat w hw)
  have hk' : (Cond.classLink own ik cls).before args s' = true := vx_ot_at hW0 hvm.symm (hgood _ List.mem_cons_self) hk
  have hini' : (Cond.initialized cls).before args s' = true := vx_ot_at hW0 hvm.symm (hgood _ (List.mem_cons_of_mem _ List.mem_cons_self)) hini
  have hU' : vx_Zq Bundle.tN "UNASSIGNED_STACK" Bundle.steD A s' s'.heap := by rw [hhp]; exact vx_Zq.moved hW0.alike (hU.kept hS.2.1)
  have hN' : vx_Zq Bundle.tN "SUPPRESSED_SENTINEL" Bundle.listD A s' s'.heap := by rw [hhp]; exact vx_Zq.moved hW0.alike (hN.kept hS.2.1)
  have h : ∀ w ∈ Bundle.ownAtoms own ic cls names, w.before args s' = true := vx_own hat' (vx_isRefq hU'.1) (vx_isRefq hN'.1) hU'.2.word hN'.2.word
  have hown' : s'.vm.findClass own = some m.cls := by rw [hvm]; exact hown
  have hins : (Cond.instantiable cls 6).before args s' = true := h _ (by simp [Bundle.ownAtoms])
  obtain ⟨vm₁, cX, kX, hfX, hkX, -, -, X₁, st1⟩ := Y.newCold hexec (own := own) (C := cls) (index := ik) (n := 6) hown' hk' hins hini'
    (g := F0 m pc ls rest) rfl (by rw [hb]; exact d0) (Nat.le_refl _) (Nat.le_refl _)
  generalize hT1 : (T.setVm vm₁).pushCell { cls := cX, slots := kX.instanceTypes.map defaultValue, vm := .none } = T1 at X₁ st1
  have hcat : (Value.ref T.heap.size).category = 1 := rfl
  have hcellA : T1.heap[T.heap.size]? = some (freshCell cX kX) := by rw [← hT1]; exact State.heap_pushCell_size _ _
  have d3' : decode c.code (pc + 3) = .ok (.dup, 1) := by rw [hb]; exact d3
  have d4' : decode c.code (pc + 4) = .ok (.ldc_w is, 3) := by rw [hb]; exact d4
  have hstr' : vk_R own is text sa s' := vk_R.warm hW0 hstr
  obtain ⟨U, hsteps, hrun, hend, hW, hsame, ce, hce, hO⟩ := X₁.ctorThrowS hexec htr (own := own) (cls := cls) (names := names) (ic := ic) hown' hcls hnames h (fun x hx => nomatch hx) hfX hkX hcellA (by rw [hhp, hT]; exact Nat.le_refl _) (msg := .ref sa) rfl
    (g := { method := m, pc := pc + 7, locals := ls, stack := .ref sa :: .ref T.heap.size :: .ref T.heap.size :: rest, locked := none }) rfl hsize rfl rfl (rest := rest) rfl
    (by rw [hb]; exact d7) (by rw [hb]; exact d10) hout hRframes (by simp only [List.map_cons, List.sum_cons, hcat]; omega) hlocks
  obtain ⟨f1, f2⟩ := vx_frame hsame
  rw [hhp] at f1 f2
  have hWs : s.WarmedH U.vm := State.WarmedH.trans hW0 hW
  have hcl : s.vm.findClass cls = some ce.cls := by
    have h9 := hO.cls
    rw [hvm] at h9
    exact h9
  have hall : s.sameButNew ({ U with vm := s.vm } : State) locs mc ms := by
    subst hA
    obtain ⟨e1, e2⟩ := hsame
    rw [State.setFrames_setFrames] at e1
    have h2 : (T.setVm s.vm).sameButNew ({ U with vm := s.vm } : State) [] (0 + 1) (0 + 6) := ⟨e1, e2⟩
    have h3 := X.same.trans h2
    rw [List.append_nil] at h3
    exact h3.mono hc hs
  refine ⟨U, ?_, .threw T.heap.size, hrun, hend, Or.inr ⟨T.heap.size, rfl, cls, ce, locs, hx U hWs.alike f1 (fun q hq => f2 q hq (fun z hz => nomatch hz)), hce, hO.vm, hcl, hWs, hall, hf⟩⟩
  refine st1 _ ?_
  show Steps p.tables e below (T1.setTop { method := m, pc := pc + 3, locals := ls, stack := .ref T.heap.size :: rest, locked := none }) _
  jvm_step X₁.here [X₁.here.top, hexec, d3', Value.category]
  exact X₁.ldcStringW hexec (own := own) (text := text) (index := is) (a := sa) hown' hstr'.1 hstr'.2
    (g := { method := m, pc := pc + 4, locals := ls, stack := .ref T.heap.size :: .ref T.heap.size :: rest, locked := none }) rfl d4' _ hsteps
end Ends
section Bodies
variable {l : Launch}
theorem vx_ofW {y : MethodName} {ws ws' : List Cond} {rm : Room} {Pc : Array Value → State → Prop} {Qc : Array Value → State → Outcome → State → Prop} {XC : String → State → State → Prop} {mc ms : Nat} {free : Addr → Prop} {cc : ByteArray} {maxL : Nat} {ret : Option FieldType}
    (hy : plainName y.cls = true) (hw : ws = Cond.code y cc maxL ret :: ws')
    (body : ∀ p e s m args below meth c s₁, BodyLoose p l y (headSpec ws rm) cc maxL ret e s m args below meth c s₁ → c.maxLocals = maxL → (∀ x ∈ c.exceptionTable.toList, False) → Pc args s →
      W p l e (headSpec ws rm).room s m args below meth c s.heap [] 0 0 (vx_MQ below Qc XC args s mc ms free) (entryFrame m args maxL)) : vx_Met l y ws rm Pc Qc XC mc ms free := by
  refine MetFree.of_bodyS (code := cc) (maxLocals := maxL) (ret := ret) hy ?_ ?_
  · intro args s m h hn
    obtain ⟨meth, c, h1, h2, h3, h4, h5, h6, -, -⟩ := Cond.code_spec hn (atoms_spec (ws := ws) h _ (by rw [hw]; exact List.mem_cons_self))
    exact ⟨meth, c, h1, h2, h3, h4, h5, h6⟩
  · intro p e s m args below meth c s₁ B hml hP _
    have hh0 : s₁.heap = s.heap := by rw [B.state]; rfl
    have ht : ∀ x ∈ c.exceptionTable.toList, False := by
      obtain ⟨meth9, c9, h1, h2, -, -, -, -, h7, -⟩ := Cond.code_spec B.named (atoms_spec (ws := ws) B.pre _ (by rw [hw]; exact List.mem_cons_self))
      cases Option.some.inj (h1.symm.trans B.method)
      cases Option.some.inj (h2.symm.trans (Stand.of_body B).code)
      intro x hx
      rw [Array.isEmpty_iff.mp h7] at hx
      cases hx
    obtain ⟨t, a1, o, b1, b2, b3⟩ := body p e s m args below meth c s₁ B hml ht hP s₁ hh0 (Stand.of_body B)
    exact ⟨t, o, a1, b1, b2, b3⟩
/-- the table of a body with handlers -/
theorem vx_table {p : Program} {x y : MethodName} {S : Spec} {cc bytes : ByteArray} {maxL maxL' : Nat} {ret ret' : Option FieldType} {e : Env} {s s₁ : State} {m : MethodId} {args : Array Value} {below : List Frame} {meth : Method} {c : Code} {hh : List (Nat × Nat × Nat × Nat)}
    (B : BodyLoose p l y S cc maxL ret e s m args below meth c s₁) (h : (Cond.codeWith y bytes maxL' ret' hh).before args s = true) : c.exceptionTable.toList = tableOf hh := by
  obtain ⟨m9, meth9, c9, hn9, h1, h2, -, -, h6, -⟩ := Cond.codeWith_spec h
  cases Option.some.inj (hn9.symm.trans B.named)
  cases Option.some.inj (h1.symm.trans B.method)
  cases Option.some.inj (h2.symm.trans (Stand.of_body B).code)
  rw [← h6, table_eq]
end Bodies
end VXA
/-! ===== END ===== -/
/-! ===== BEGIN a static call of a method with an exception table ===== -/
section VXS
variable {p : Program} {l : Launch} {e : Env} {R : Room} {s : State} {m : MethodId} {args : Array Value} {below : List Frame} {meth : Method} {c : Code} {T : State} {H : Heap} {locs : List Loc} {cells slots : Nat}
abbrev vx_CSW (R : Room) (s : State) (args : Array Value) (own : String) (index : Nat) (y : MethodName) (bytes : ByteArray) (maxL : Nat) (ret : Option FieldType) (hh : List (Nat × Nat × Nat × Nat)) (ws : List Cond) (rm : Room) (mc ms n : Nat) : Prop :=
  (rm.cells = mc ∧ rm.slots = ms ∧ rm.frames + 1 ≤ R.frames ∧ 8 + (maxL + 11) + rm.locals ≤ R.locals ∧ (∀ w ∈ ws, ∀ (a' : Array Value) (U : State), s.WarmedH U.vm → w.before a' U = true) ∧ Cond.codeWith y bytes maxL ret hh ∈ ws) ∧
  (Cond.codeWith y bytes maxL ret hh).before args s = true ∧ (Cond.initialized y.cls).before args s = true ∧ (y.cls ≠ "java/lang/invoke/MethodHandle" ∧ y.cls ≠ "java/lang/invoke/VarHandle") ∧
  (∀ sig, parseMethodDescriptor y.desc = some sig → n = sig.parameters.length) ∧ (Cond.methodLink own index y).before args s = true ∧ (Cond.static y).before args s = true
theorem vx_cwSW {own : String} {index maxL mc ms : Nat} {y : MethodName} {bytes : ByteArray} {ret : Option FieldType} {hh : List (Nat × Nat × Nat × Nat)} {Ts ws ws' : List Cond} {rm : Room} (n : Nat) (ht : ∀ w ∈ Ts, w.before args s = true) (hT : GoodIn Ts (va_wsS own index y ws)) (hw : ws = Cond.codeWith y bytes maxL ret hh :: ws') (hrc : rm.cells = mc) (hrs : rm.slots = ms)
    (hd : y.cls ≠ "java/lang/invoke/MethodHandle" ∧ y.cls ≠ "java/lang/invoke/VarHandle" ∧ (parseMethodDescriptor y.desc).map (fun d => d.parameters.length) = some n) (hR : rm.frames + 1 ≤ R.frames ∧ 8 + (maxL + 11) + rm.locals ≤ R.locals) :
    vx_CSW R s args own index y bytes maxL ret hh ws rm mc ms n := by
  have ok : ∀ w ∈ va_wsS own index y ws, w.before args s = true := fun w h => ht w (hT w h).1
  have hG : GoodIn Ts ws := fun w h => hT w (by unfold va_wsS; exact List.mem_append_right _ h)
  have hc : Cond.codeWith y bytes maxL ret hh ∈ ws := by rw [hw]; exact List.mem_cons_self
  refine ⟨⟨hrc, hrs, hR.1, hR.2, pay_in ht hG, hc⟩, ht _ (hG _ hc).1, ok _ (by simp [va_wsS]), ⟨hd.1, hd.2.1⟩, fun sig h => ?_, ok _ (by simp [va_wsS]), ok _ (by simp [va_wsS])⟩
  have h2 := hd.2.2
  rw [h] at h2
  exact (Option.some.inj h2).symm
theorem vx_callSW (X : Stand p l e R s m args below meth c T locs cells slots) (hexec : p.tables.exec = Jvm.exec) {own : String} {index : Nat} {y : MethodName} {bytes : ByteArray} {maxL : Nat} {ret : Option FieldType} {hh : List (Nat × Nat × Nat × Nat)}
    (hown : s.vm.findClass own = some m.cls) (hlink : (Cond.methodLink own index y).before args s = true) (hstat : (Cond.static y).before args s = true) (hinit : (Cond.initialized y.cls).before args s = true)
    (hcode : (Cond.codeWith y bytes maxL ret hh).before args s = true) (hy : y.cls ≠ "java/lang/invoke/MethodHandle" ∧ y.cls ≠ "java/lang/invoke/VarHandle")
    {W9 : Nat} {Pre : Pt → Array Value → Prop} {Post : Pt → Array Value → Option Value → Pt → Prop} (hK : Back l R p e below s args y 3 W9 Pre Post)
    {g : JFrame} (hg : g.method = m) (hsize : g.locals.size = c.maxLocals) {argsL rest : List Value} (hlen : ∀ sig, parseMethodDescriptor y.desc = some sig → argsL.length = sig.parameters.length)
    (hstack : g.stack = argsL.reverse ++ rest) (hW : 2 * g.monitorRoom + (rest.map fun v => v.category).sum ≤ W9) (hdg : decode c.code g.pc = .ok (.invokestatic index, 3))
    (hpre : ∀ vm₁, s.WarmedH vm₁ → Pre ⟨T.setVm vm₁, locs, cells, slots⟩ argsL.toArray) :
    ∃ (v : Option Value) (vm₁ : Vm) (B : Pt), s.WarmedH vm₁ ∧ Stand p l e R s m args below meth c B.U B.locs B.cells B.slots ∧ Post ⟨T.setVm vm₁, locs, cells, slots⟩ argsL.toArray v B ∧
      ∀ target, Steps p.tables e below (B.U.setTop { g with pc := g.pc + 3, stack := v.toList ++ rest }) target → Steps p.tables e below (T.setTop g) target := by
  obtain ⟨mk, methM, cM, hnamed, hmethM, -, -, -, -, -, -, hsigM⟩ := Cond.codeWith_spec hcode
  have hstatic : methM.isStatic = true := Cond.static_spec hnamed hmethM hstat
  obtain ⟨kP, hkP, -⟩ := className_of_methodNamed hnamed
  have hinitP : kP.init = .initialized := Cond.initialized_spec (findClass_of_methodNamed hnamed) hkP hinit
  obtain ⟨vm₁, X₁, hstep₁⟩ := X.invokestatic hexec hown hlink hnamed hmethM hstatic hkP hinitP hy (g := g) hg (argsL := argsL) (rest := rest) (hlen _ hsigM) hstack hdg
  obtain ⟨v, B, X', hpost, hsteps⟩ := hK m meth c ⟨T.setVm vm₁, locs, cells, slots⟩ { g with stack := rest } (.invokestatic index) mk argsL.toArray X₁ hg hsize hdg hW (X₁.named hnamed) (hpre vm₁ X₁.warmed)
  exact ⟨v, vm₁, B, X₁.warmed, X', hpost, fun target h => hstep₁ _ fun acts => by rw [doInvoke_state]; exact hsteps.trans h⟩
theorem vx_runSW {y : MethodName} {bytes cc : ByteArray} {maxL nL mc ms n index : Nat} {ret : Option FieldType} {hh : List (Nat × Nat × Nat × Nat)} {ws : List Cond} {rm : Room} {Pc : Array Value → State → Prop} {Qc : Array Value → State → Outcome → State → Prop} {free : Addr → Prop} {Ts : List Cond} {own : String} {As rest : List Value} {g : JFrame}
    (S : CallFix p m c cc nL s args Ts own) (hM : Met l y ws rm Pc Qc mc ms free) (cw : vx_CSW R s args own index y bytes maxL ret hh ws rm mc ms n) (hp : PreS s H Pc As)
    (hg : g.method = m) (hn : As.length = n) (hsize : g.locals.size = nL) (hstack : g.stack = As.reverse ++ rest) (hW : 2 * g.monitorRoom + (rest.map fun v => v.category).sum ≤ 8) (hdg : decode cc g.pc = .ok (.invokestatic index, 3)) (hf : cells + mc ≤ R.cells ∧ slots + ms ≤ R.slots) :
    va_Run p l e R s m args below meth c H locs cells slots mc ms g rest (Qc As.toArray) (free) := by
  obtain ⟨⟨hrc, hrs, hfr, hlo, hws, hcw⟩, hcode, hini, hy, hlen, hl, hstt⟩ := cw
  have hK : Back l R p e below s args y 3 8 (PreOf R mc ms Pc) (PostOf Qc mc ms free) := va_backW (hh := hh) (bytes := bytes) (maxL := maxL) (ret := ret) hM hp.1 hrc hrs hfr hlo hws hcw (fun a' U hW => word_at hW (Or.inl (by first | rfl | simp [Cond.onTables, Cond.keeps, Cond.steady])) hini)
  obtain ⟨hx, hb, hml, ho, -⟩ := S
  intro T hT X
  obtain ⟨v, vm₁, ⟨U', l2, c2, s2⟩, hW₁, X', ⟨g', mk, t, L, e1, e2, hq, h1, hL, h2, h3⟩, st⟩ := vx_callSW X hx (hh := hh) (bytes := bytes) (maxL := maxL) (ret := ret) ho hl hstt hini hcode hy hK hg (hsize.trans hml.symm) (argsL := As) (rest := rest) (fun sig h => hn.trans (hlen sig h)) hstack hW (by rw [hb]; exact hdg)
    (fun vm₁ hW₁ => ⟨hf.1, hf.2, hp.2 (T.setVm vm₁) hT hW₁⟩)
  dsimp only [Pt.U, Pt.locs, Pt.cells, Pt.slots] at X' e1 e2 h1 h2 h3 st
  subst h1; subst h2; subst h3
  exact ⟨v, (T.setVm vm₁).calling g' mk As.toArray, t, U', L, hT, X', hL, e1, e2, hq, st⟩
/-- not caught here, past rows that name other classes: it goes on to the caller -/
theorem vx_outP {p : Program} {l : Launch} {e : Env} {R : Room} {s : State} {m : MethodId} {args : Array Value} {below : List Frame} {meth : Method} {c : Code} {H : Heap} {locs : List Loc} {cells slots : Nat} {free : Addr → Prop} {ls : Array Slot} {rest : List Value} {Qc : Array Value → State → Outcome → State → Prop} {XC : String → State → State → Prop}
    {pc : Nat} {own E : String} {ce : Cell} {q : Addr} {mc ms : Nat} (hown : s.vm.findClass own = some m.cls) (hlocks : meth.locks = false)
    (hpass : ∀ z ∈ c.exceptionTable.toList, covers z pc = false ∨ (z.catchType ≠ 0 ∧ ∃ nm : String, (Cond.classLink own z.catchType nm).before args s = true ∧ va_Nc E nm s)) (hcell : H[q]? = some ce) (hv : ce.vm = .none) (hcl : s.vm.findClass E = some ce.cls)
    (hx : ∀ t : State, t.heap = H → s.vm.Alike t.vm → XC E s t) (hf : ∀ z ∈ locs, free z.base) (hc : cells ≤ mc) (hs : slots ≤ ms) :
    vx_W p l e R s m args below meth c H locs cells slots (vx_MQ below Qc XC args s mc ms free) (F0 m pc ls rest) q := by
  intro T hT X
  have hpl : e.platform.magicAccessors = ({} : Platform).magicAccessors := by rw [X.admits.platform]
  obtain ⟨vm', hW', X', st⟩ := X.outThrough hlocks q (g := F0 m pc ls rest) rfl rfl rfl (cell := ce) (by rw [hT]; exact hcell) (by rw [hv]; rfl)
    (by obtain ⟨k9, h9, -⟩ := Vm.findClass_spec hcl; exact ⟨k9, h9⟩) (fun z hz => by
      rcases hpass z hz with h | ⟨hz0, nm, hl1, hn1⟩
      · exact Or.inl h
      · obtain ⟨c6, hc6, hcl6⟩ := Cond.classLink_spec hown hl1 e.platform hpl
        obtain ⟨a8, b8, h1, h2, h3⟩ := hn1
        cases Option.some.inj (h1.symm.trans hcl)
        cases Option.some.inj (h2.symm.trans hc6)
        exact Or.inr ⟨hz0, _, hcl6, h3⟩)
  obtain ⟨g₀, hfr⟩ := X'.frames_eq
  have hcell9 : ((T.setVm vm').setFrames (.throwing q :: below)).heap[q]? = some ce := by
    show T.heap[q]? = some ce
    rw [hT]; exact hcell
  have hend : Ended ((T.setVm vm').setFrames (.throwing q :: below)) below (.threw q) := State.frames_setFrames _ (State.cur_lt_of_frames hfr)
  refine ⟨(T.setVm vm').setFrames (.throwing q :: below), ?_, .threw q, X'.here.running, hend, Or.inr ⟨q, rfl, E, ce, locs, hx _ hT (X'.ends _).1.alike, hcell9, hv, hcl, (X'.ends _).1, (X'.ends _).2.mono hc hs, hf⟩⟩
  rw [X.pushThrowing_eq]
  exact st
/-- a thing of a world lies in the heap -/
theorem vx_lt {D : va_G} {cl : List vw_C} {ws : va_W} {H1 : Heap} (h : va_P D cl ws H1) {k : Nat} {q : Nat × va_E} (hk : ws[k]? = some q) : q.1 < H1.size := (h k q hk).lt
end VXS
/-! ===== END ===== -/
/-! ===== BEGIN methods with a table of their own: called by a name, returning or throwing ===== -/
section VXH
/-! vx_backW, vx_callVX, vx_callSX, vx_callVW, vx_runVW, vx_runVX, vx_runSX, vx_ofWH follow the same proofs as their sisters above (Free/Laws.lean, Shelf42/LK1.lean); vx_outP calls Shelf42/NT130.lean (outThrough). -/
section
variable {l : Launch} {R : Room} {p : Program} {e : Env} {below : List Frame} {s : State} {sargs : Array Value} {y : MethodName} {len W9 : Nat}
theorem vx_backW {ws : List Cond} {rm : Room} {Pc : Array Value → State → Prop} {Qc : Array Value → State → Outcome → State → Prop} {XC : String → State → State → Prop} {mc ms : Nat} {free : Addr → Prop} {bytes : ByteArray} {maxL : Nat} {ret : Option FieldType} {hh : List (Nat × Nat × Nat × Nat)}
    (hM : vx_Met l y ws rm Pc Qc XC mc ms free) (hblind : FrameBlind Pc) (hrc : rm.cells = mc) (hrs : rm.slots = ms)
    (hframes : rm.frames + 1 ≤ R.frames) (hlocals : W9 + (maxL + 11) + rm.locals ≤ R.locals)
    (hws : ∀ w ∈ ws, ∀ a' U, s.WarmedH U.vm → w.before a' U = true) (hcode : Cond.codeWith y bytes maxL ret hh ∈ ws) (hinit : ∀ a' U, s.WarmedH U.vm → (Cond.initialized y.cls).before a' U = true) :
    vx_Back l R p e below s sargs y len W9 (PreOf R mc ms Pc) (PostOf Qc mc ms free) (vx_Post XC mc ms free) := by
  intro m meth c A g ig mk a X hg hsize hdg hW hn hp
  have h1 : (headSpec ws rm).pre.before a A.U = true := atoms_intro fun w hw => hws w hw _ _ X.warmed
  have h2 : (Cond.codeWith y bytes maxL ret hh).before a A.U = true := hws _ hcode _ _ X.warmed
  have h3 : (Cond.initialized y.cls).before a A.U = true := hinit _ _ X.warmed
  have h4 : A.cells + (headSpec ws rm).room.cells ≤ R.cells := by rw [show (headSpec ws rm).room.cells = mc from hrc]; exact hp.1
  have h5 : A.slots + (headSpec ws rm).room.slots ≤ R.slots := by rw [show (headSpec ws rm).room.slots = ms from hrs]; exact hp.2.1
  have hPc : Pc a (A.U.calling g mk a) := hblind _ _ _ _ hp.2.2
  obtain ⟨U, Ls, c0, s0⟩ := A
  dsimp only [Pt.U, Pt.locs, Pt.cells, Pt.slots] at h1 h2 h3 h4 h5 X hn hPc ⊢
  obtain ⟨m9, methY, cY, hn9, hmY, hcY, -, hlY, -⟩ := Cond.codeWith_spec h2
  cases Option.some.inj (hn9.symm.trans hn)
  obtain ⟨kY, hkY, -⟩ := className_of_methodNamed hn
  have hinitY : kY.init = .initialized := Cond.initialized_spec (findClass_of_methodNamed hn) hkY h3
  have h : At U g.method c below := by rw [hg]; exact X.here
  have hlocals9 : W9 + (maxL + 11) + (headSpec ws rm).room.locals ≤ R.locals := hlocals
  have happ : (headSpec ws rm).appliesLoose y e.platform (U.calling g mk a) = true :=
    Spec.appliesLoose_calling (g := g) h hdg hn hkY hinitY
      (X.room_calling (g := g) (R' := (headSpec ws rm).room) hsize hmY hcY hframes (by rw [hlY]; omega) h4 h5) h1
  obtain ⟨mid, hmid⟩ := h.above
  have hfr : (U.setTop g).frames = (.java g :: mid) ++ below := by rw [State.frames_setTop' g h.top, hmid]; rfl
  obtain ⟨o, s₂, hsteps, -, hend, hq⟩ := Steps.callFree hM p X.admits X.cas X.clock (acts := []) hfr happ hPc trivial
  have hq' : vx_Q Qc XC mc ms free a (U.calling g mk a) o s₂ := hq
  rw [State.frames_setTop' g h.top] at hend
  obtain ⟨g₀, hg0⟩ := Option.isSome_iff_exists.mp h.top
  obtain ⟨r, hr⟩ := State.topJava?_eq_some.mp hg0
  have hr' : (({ U with heap := s₂.heap, slotsUsed := s₂.slotsUsed } : State).setVm s₂.vm).frames = .java g₀ :: r := hr
  rcases hq' with ⟨hqc, L, hfe, hL⟩ | ⟨q, rfl, E, ce, L, hx, hce, hcv, hcl, hW₂, hsm, hL⟩
  · obtain ⟨⟨v, rfl⟩, hW₂, e2, q2, q3, q4, q5, q6⟩ := id hfe
    have e3 : s₂ = ({ (U.calling g mk a).setFrames s₂.frames with heap := s₂.heap, slotsUsed := s₂.slotsUsed } : State).setVm s₂.vm := by
      have : s₂ = ({ s₂ with vm := (U.calling g mk a).vm } : State).setVm s₂.vm := rfl
      rw [e2] at this
      exact this
    obtain ⟨c₂, i₂, len₂, hc₂, hd₂, hf₂⟩ := hend
    have hW' : U.WarmedH s₂.vm := hW₂
    have hcc : c₂ = c := by
      have h1 : s₂.code? g.method = U.code? g.method := by
        rw [State.code?_eq, State.code?_eq, hW'.alike.method?]
      exact Option.some.inj (hc₂.symm.trans (h1.trans h.code))
    subst hcc
    have hlen : len₂ = len := by rw [hdg] at hd₂; cases hd₂; rfl
    subst hlen
    have hs₂ : s₂ = (({ U with heap := s₂.heap, slotsUsed := s₂.slotsUsed } : State).setVm s₂.vm).setTop { g with pc := g.pc + len₂, stack := v.toList ++ g.stack } := by
      refine e3.trans ?_
      rw [hf₂, State.calling_eq h.top, State.setFrames_setFrames, State.setTop_of_frames _ hr', hr]
      rfl
    have hsame : U.sameButNew ({ U with heap := s₂.heap, slotsUsed := s₂.slotsUsed } : State) L mc ms := by
      refine ⟨?_, q2, q3, q4, q5, q6⟩
      obtain ⟨t, ht, -⟩ := State.frames_cons hr
      show ({ U with heap := s₂.heap, slotsUsed := s₂.slotsUsed } : State) = { U.setFrames U.frames with heap := s₂.heap, slotsUsed := s₂.slotsUsed }
      rw [State.setFrames_self ht]
    subst hg
    refine Or.inl ⟨v, ⟨(({ U with heap := s₂.heap, slotsUsed := s₂.slotsUsed } : State).setVm s₂.vm), Ls ++ L, c0 + mc, s0 + ms⟩,
      ⟨X.admits, X.cas, X.clock, X.frames, X.room, X.hears, X.method, X.code, (X.here.setHeapUsed s₂.heap s₂.slotsUsed).setVm hW'.alike, X.tail, State.WarmedH.trans X.warmed hW', X.limits, X.bytes, X.same.trans (hsame.setVm s.vm)⟩,
      ⟨g, mk, s₂, L, rfl, rfl, hqc, rfl, hL, rfl, rfl⟩, ?_⟩
    show Steps p.tables e below _ ((({ U with heap := s₂.heap, slotsUsed := s₂.slotsUsed } : State).setVm s₂.vm).setTop { g with pc := g.pc + len₂, stack := v.toList ++ g.stack })
    rw [← hs₂]
    exact hsteps
  · obtain ⟨e2, q2, q3, q4, q5, q6⟩ := id hsm
    have e3 : s₂ = ({ (U.calling g mk a).setFrames s₂.frames with heap := s₂.heap, slotsUsed := s₂.slotsUsed } : State).setVm s₂.vm := by
      have : s₂ = ({ s₂ with vm := (U.calling g mk a).vm } : State).setVm s₂.vm := rfl
      rw [e2] at this
      exact this
    have hf₂ : s₂.frames = .throwing q :: .java g :: U.frames.tail := hend
    have hW' : U.WarmedH s₂.vm := hW₂
    have hs₂ : s₂ = ((({ U with heap := s₂.heap, slotsUsed := s₂.slotsUsed } : State).setVm s₂.vm).setTop g).pushFrame (.throwing q) := by
      refine e3.trans ?_
      rw [hf₂, State.calling_eq h.top, State.setFrames_setFrames, State.pushFrame, State.frames_setTop _ hr', State.setTop_of_frames _ hr', State.setFrames_setFrames, hr]
      rfl
    have hsame : U.sameButNew ({ U with heap := s₂.heap, slotsUsed := s₂.slotsUsed } : State) L mc ms := by
      refine ⟨?_, q2, q3, q4, q5, q6⟩
      obtain ⟨t, ht, -⟩ := State.frames_cons hr
      show ({ U with heap := s₂.heap, slotsUsed := s₂.slotsUsed } : State) = { U.setFrames U.frames with heap := s₂.heap, slotsUsed := s₂.slotsUsed }
      rw [State.setFrames_self ht]
    subst hg
    refine Or.inr ⟨q, ⟨(({ U with heap := s₂.heap, slotsUsed := s₂.slotsUsed } : State).setVm s₂.vm), Ls ++ L, c0 + mc, s0 + ms⟩,
      ⟨X.admits, X.cas, X.clock, X.frames, X.room, X.hears, X.method, X.code, (X.here.setHeapUsed s₂.heap s₂.slotsUsed).setVm hW'.alike, X.tail, State.WarmedH.trans X.warmed hW', X.limits, X.bytes, X.same.trans (hsame.setVm s.vm)⟩,
      ⟨g, mk, s₂, L, E, ce, rfl, rfl, hx, hce, hcv, hcl, rfl, hL, rfl, rfl⟩, ?_⟩
    show Steps p.tables e below _ (((({ U with heap := s₂.heap, slotsUsed := s₂.slotsUsed } : State).setVm s₂.vm).setTop g).pushFrame (.throwing q))
    rw [← hs₂]
    exact hsteps
end
variable {p : Program} {l : Launch} {e : Env} {R : Room} {s : State} {m : MethodId} {args : Array Value} {below : List Frame} {meth : Method} {c : Code} {T : State} {H : Heap} {locs : List Loc} {cells slots : Nat}
theorem vx_callVX (X : Stand p l e R s m args below meth c T locs cells slots) (hexec : p.tables.exec = Jvm.exec) {own C : String} {index : Nat} {y : MethodName} {bytes : ByteArray} {maxL : Nat} {ret : Option FieldType} {hh : List (Nat × Nat × Nat × Nat)}
    (hown : s.vm.findClass own = some m.cls) (hlink : (Cond.methodLink own index y).before args s = true) (hinst : (Cond.instanceMethod y).before args s = true) (hsel : (Cond.selects C y y).before args s = true)
    (hcode : (Cond.codeWith y bytes maxL ret hh).before args s = true) (hy : y.cls ≠ "java/lang/invoke/MethodHandle" ∧ y.cls ≠ "java/lang/invoke/VarHandle")
    {W9 : Nat} {Pre : Pt → Array Value → Prop} {Post : Pt → Array Value → Option Value → Pt → Prop} {PostX : Pt → Array Value → Addr → Pt → Prop} (hK : vx_Back l R p e below s args y 3 W9 Pre Post PostX)
    {b : Addr} {cellB : Cell} (hcell : T.heap[b]? = some cellB) (hobj : cellB.vm.isStatics = false) (hcls : s.vm.findClass C = some cellB.cls)
    {g : JFrame} (hg : g.method = m) (hsize : g.locals.size = c.maxLocals) {argsL rest : List Value} (hlen : ∀ sig, parseMethodDescriptor y.desc = some sig → argsL.length = sig.parameters.length)
    (hstack : g.stack = argsL.reverse ++ .ref b :: rest) (hW : 2 * g.monitorRoom + (rest.map fun v => v.category).sum ≤ W9) (hdg : decode c.code g.pc = .ok (.invokevirtual index, 3))
    (hpre : ∀ vm₁, s.WarmedH vm₁ → Pre ⟨T.setVm vm₁, locs, cells, slots⟩ (Value.ref b :: argsL).toArray) :
    (∃ (v : Option Value) (vm₁ : Vm) (B : Pt), s.WarmedH vm₁ ∧ Stand p l e R s m args below meth c B.U B.locs B.cells B.slots ∧ Post ⟨T.setVm vm₁, locs, cells, slots⟩ (Value.ref b :: argsL).toArray v B ∧
      ∀ target, Steps p.tables e below (B.U.setTop { g with pc := g.pc + 3, stack := v.toList ++ rest }) target → Steps p.tables e below (T.setTop g) target) ∨
    (∃ (q : Addr) (vm₁ : Vm) (B : Pt), s.WarmedH vm₁ ∧ Stand p l e R s m args below meth c B.U B.locs B.cells B.slots ∧ PostX ⟨T.setVm vm₁, locs, cells, slots⟩ (Value.ref b :: argsL).toArray q B ∧
      Steps p.tables e below (T.setTop g) ((B.U.setTop { g with stack := rest }).pushFrame (.throwing q))) := by
  obtain ⟨mk, methM, hnamed, hmethM, hstM, habM⟩ := Cond.instanceMethod_spec hinst
  obtain ⟨m8, methM', cM, hn8, hmethM', -, -, -, -, -, -, hsigM⟩ := Cond.codeWith_spec hcode
  cases Option.some.inj (hn8.symm.trans hnamed)
  cases hmethM.symm.trans hmethM'
  obtain ⟨c2, r2, m2, q1, q2, q3, q4, kP, hkP, hkPi⟩ := Cond.selects_spec hsel
  cases hcls.symm.trans q1
  cases (State.methodFound?_of_named hnamed hy).symm.trans q2
  cases hnamed.symm.trans q3
  have hselP : selectMethod e.platform s.vm cellB.cls mk = .method mk := by rw [Launch.admits_selectMethod X.admits]; exact q4
  obtain ⟨vm₁, X₁, hstep₁⟩ := X.invokevirtual hexec hown hlink hnamed hmethM hstM hkP hkPi hy (a := b) (cell := cellB) hcell
    (fun z h => by rw [h] at hobj; cases hobj) hselP hmethM habM hkP hkPi (g := g) hg (argsL := argsL) (rest := rest) (hlen _ hsigM) hstack hdg
  rcases hK m meth c ⟨T.setVm vm₁, locs, cells, slots⟩ { g with stack := rest } (.invokevirtual index) mk (Value.ref b :: argsL).toArray X₁ hg hsize hdg hW (X₁.named hnamed) (hpre vm₁ X₁.warmed) with ⟨v, B, X', hpost, hsteps⟩ | ⟨q, B, X', hpost, hsteps⟩
  · exact Or.inl ⟨v, vm₁, B, X₁.warmed, X', hpost, fun target h => hstep₁ _ fun acts => by rw [doInvoke_state]; exact hsteps.trans h⟩
  · exact Or.inr ⟨q, vm₁, B, X₁.warmed, X', hpost, hstep₁ _ fun acts => by rw [doInvoke_state]; exact hsteps⟩
theorem vx_callSX (X : Stand p l e R s m args below meth c T locs cells slots) (hexec : p.tables.exec = Jvm.exec) {own : String} {index : Nat} {y : MethodName} {bytes : ByteArray} {maxL : Nat} {ret : Option FieldType} {hh : List (Nat × Nat × Nat × Nat)}
    (hown : s.vm.findClass own = some m.cls) (hlink : (Cond.methodLink own index y).before args s = true) (hstat : (Cond.static y).before args s = true) (hinit : (Cond.initialized y.cls).before args s = true)
    (hcode : (Cond.codeWith y bytes maxL ret hh).before args s = true) (hy : y.cls ≠ "java/lang/invoke/MethodHandle" ∧ y.cls ≠ "java/lang/invoke/VarHandle")
    {W9 : Nat} {Pre : Pt → Array Value → Prop} {Post : Pt → Array Value → Option Value → Pt → Prop} {PostX : Pt → Array Value → Addr → Pt → Prop} (hK : vx_Back l R p e below s args y 3 W9 Pre Post PostX)
    {g : JFrame} (hg : g.method = m) (hsize : g.locals.size = c.maxLocals) {argsL rest : List Value} (hlen : ∀ sig, parseMethodDescriptor y.desc = some sig → argsL.length = sig.parameters.length)
    (hstack : g.stack = argsL.reverse ++ rest) (hW : 2 * g.monitorRoom + (rest.map fun v => v.category).sum ≤ W9) (hdg : decode c.code g.pc = .ok (.invokestatic index, 3))
    (hpre : ∀ vm₁, s.WarmedH vm₁ → Pre ⟨T.setVm vm₁, locs, cells, slots⟩ argsL.toArray) :
    (∃ (v : Option Value) (vm₁ : Vm) (B : Pt), s.WarmedH vm₁ ∧ Stand p l e R s m args below meth c B.U B.locs B.cells B.slots ∧ Post ⟨T.setVm vm₁, locs, cells, slots⟩ argsL.toArray v B ∧
      ∀ target, Steps p.tables e below (B.U.setTop { g with pc := g.pc + 3, stack := v.toList ++ rest }) target → Steps p.tables e below (T.setTop g) target) ∨
    (∃ (q : Addr) (vm₁ : Vm) (B : Pt), s.WarmedH vm₁ ∧ Stand p l e R s m args below meth c B.U B.locs B.cells B.slots ∧ PostX ⟨T.setVm vm₁, locs, cells, slots⟩ argsL.toArray q B ∧
      Steps p.tables e below (T.setTop g) ((B.U.setTop { g with stack := rest }).pushFrame (.throwing q))) := by
  obtain ⟨mk, methM, cM, hnamed, hmethM, -, -, -, -, -, -, hsigM⟩ := Cond.codeWith_spec hcode
  have hstatic : methM.isStatic = true := Cond.static_spec hnamed hmethM hstat
  obtain ⟨kP, hkP, -⟩ := className_of_methodNamed hnamed
  have hinitP : kP.init = .initialized := Cond.initialized_spec (findClass_of_methodNamed hnamed) hkP hinit
  obtain ⟨vm₁, X₁, hstep₁⟩ := X.invokestatic hexec hown hlink hnamed hmethM hstatic hkP hinitP hy (g := g) hg (argsL := argsL) (rest := rest) (hlen _ hsigM) hstack hdg
  rcases hK m meth c ⟨T.setVm vm₁, locs, cells, slots⟩ { g with stack := rest } (.invokestatic index) mk argsL.toArray X₁ hg hsize hdg hW (X₁.named hnamed) (hpre vm₁ X₁.warmed) with ⟨v, B, X', hpost, hsteps⟩ | ⟨q, B, X', hpost, hsteps⟩
  · exact Or.inl ⟨v, vm₁, B, X₁.warmed, X', hpost, fun target h => hstep₁ _ fun acts => by rw [doInvoke_state]; exact hsteps.trans h⟩
  · exact Or.inr ⟨q, vm₁, B, X₁.warmed, X', hpost, hstep₁ _ fun acts => by rw [doInvoke_state]; exact hsteps⟩
theorem vx_callVW (X : Stand p l e R s m args below meth c T locs cells slots) (hexec : p.tables.exec = Jvm.exec) {own C : String} {index : Nat} {y : MethodName} {bytes : ByteArray} {maxL : Nat} {ret : Option FieldType} {hh : List (Nat × Nat × Nat × Nat)}
    (hown : s.vm.findClass own = some m.cls) (hlink : (Cond.methodLink own index y).before args s = true) (hinst : (Cond.instanceMethod y).before args s = true) (hsel : (Cond.selects C y y).before args s = true)
    (hcode : (Cond.codeWith y bytes maxL ret hh).before args s = true) (hy : y.cls ≠ "java/lang/invoke/MethodHandle" ∧ y.cls ≠ "java/lang/invoke/VarHandle")
    {W9 : Nat} {Pre : Pt → Array Value → Prop} {Post : Pt → Array Value → Option Value → Pt → Prop} (hK : Back l R p e below s args y 3 W9 Pre Post)
    {b : Addr} {cellB : Cell} (hcell : T.heap[b]? = some cellB) (hobj : cellB.vm.isStatics = false) (hcls : s.vm.findClass C = some cellB.cls)
    {g : JFrame} (hg : g.method = m) (hsize : g.locals.size = c.maxLocals) {argsL rest : List Value} (hlen : ∀ sig, parseMethodDescriptor y.desc = some sig → argsL.length = sig.parameters.length)
    (hstack : g.stack = argsL.reverse ++ .ref b :: rest) (hW : 2 * g.monitorRoom + (rest.map fun v => v.category).sum ≤ W9) (hdg : decode c.code g.pc = .ok (.invokevirtual index, 3))
    (hpre : ∀ vm₁, s.WarmedH vm₁ → Pre ⟨T.setVm vm₁, locs, cells, slots⟩ (Value.ref b :: argsL).toArray) :
    ∃ (v : Option Value) (vm₁ : Vm) (B : Pt), s.WarmedH vm₁ ∧ Stand p l e R s m args below meth c B.U B.locs B.cells B.slots ∧ Post ⟨T.setVm vm₁, locs, cells, slots⟩ (Value.ref b :: argsL).toArray v B ∧
      ∀ target, Steps p.tables e below (B.U.setTop { g with pc := g.pc + 3, stack := v.toList ++ rest }) target → Steps p.tables e below (T.setTop g) target := by
  obtain ⟨mk, methM, hnamed, hmethM, hstM, habM⟩ := Cond.instanceMethod_spec hinst
  obtain ⟨m8, methM', cM, hn8, hmethM', -, -, -, -, -, -, hsigM⟩ := Cond.codeWith_spec hcode
  cases Option.some.inj (hn8.symm.trans hnamed)
  cases hmethM.symm.trans hmethM'
  obtain ⟨c2, r2, m2, q1, q2, q3, q4, kP, hkP, hkPi⟩ := Cond.selects_spec hsel
  cases hcls.symm.trans q1
  cases (State.methodFound?_of_named hnamed hy).symm.trans q2
  cases hnamed.symm.trans q3
  have hselP : selectMethod e.platform s.vm cellB.cls mk = .method mk := by rw [Launch.admits_selectMethod X.admits]; exact q4
  obtain ⟨vm₁, X₁, hstep₁⟩ := X.invokevirtual hexec hown hlink hnamed hmethM hstM hkP hkPi hy (a := b) (cell := cellB) hcell
    (fun z h => by rw [h] at hobj; cases hobj) hselP hmethM habM hkP hkPi (g := g) hg (argsL := argsL) (rest := rest) (hlen _ hsigM) hstack hdg
  obtain ⟨v, B, X', hpost, hsteps⟩ := hK m meth c ⟨T.setVm vm₁, locs, cells, slots⟩ { g with stack := rest } (.invokevirtual index) mk (Value.ref b :: argsL).toArray X₁ hg hsize hdg hW (X₁.named hnamed) (hpre vm₁ X₁.warmed)
  exact ⟨v, vm₁, B, X₁.warmed, X', hpost, fun target h => hstep₁ _ fun acts => by rw [doInvoke_state]; exact hsteps.trans h⟩
abbrev vx_CVW (R : Room) (s : State) (args : Array Value) (own C : String) (index : Nat) (y : MethodName) (bytes : ByteArray) (maxL : Nat) (ret : Option FieldType) (hh : List (Nat × Nat × Nat × Nat)) (ws : List Cond) (rm : Room) (mc ms n : Nat) : Prop :=
  (rm.cells = mc ∧ rm.slots = ms ∧ rm.frames + 1 ≤ R.frames ∧ 8 + (maxL + 11) + rm.locals ≤ R.locals ∧ (∀ w ∈ ws, ∀ (a' : Array Value) (U : State), s.WarmedH U.vm → w.before a' U = true) ∧ Cond.codeWith y bytes maxL ret hh ∈ ws) ∧
  (Cond.codeWith y bytes maxL ret hh).before args s = true ∧ (Cond.initialized y.cls).before args s = true ∧ (y.cls ≠ "java/lang/invoke/MethodHandle" ∧ y.cls ≠ "java/lang/invoke/VarHandle") ∧
  (∀ sig, parseMethodDescriptor y.desc = some sig → n = sig.parameters.length) ∧ (Cond.methodLink own index y).before args s = true ∧ (Cond.instanceMethod y).before args s = true ∧ (Cond.selects C y y).before args s = true
theorem vx_cwVW {own C : String} {index maxL mc ms : Nat} {y : MethodName} {bytes : ByteArray} {ret : Option FieldType} {hh : List (Nat × Nat × Nat × Nat)} {Ts ws ws' : List Cond} {rm : Room} (n : Nat) (ht : ∀ w ∈ Ts, w.before args s = true) (hT : GoodIn Ts (wsV own index C y ws)) (hw : ws = Cond.codeWith y bytes maxL ret hh :: ws') (hrc : rm.cells = mc) (hrs : rm.slots = ms)
    (hd : y.cls = C ∧ y.cls ≠ "java/lang/invoke/MethodHandle" ∧ y.cls ≠ "java/lang/invoke/VarHandle" ∧ (parseMethodDescriptor y.desc).map (fun d => d.parameters.length) = some n) (hR : rm.frames + 1 ≤ R.frames ∧ 8 + (maxL + 11) + rm.locals ≤ R.locals) :
    vx_CVW R s args own C index y bytes maxL ret hh ws rm mc ms n := by
  obtain ⟨hC, hd⟩ := hd
  subst hC
  have ok : ∀ w ∈ wsV own index y.cls y ws, w.before args s = true := fun w h => ht w (hT w h).1
  have hG : GoodIn Ts ws := fun w h => hT w (by unfold wsV; exact List.mem_append_right _ h)
  have hc : Cond.codeWith y bytes maxL ret hh ∈ ws := by rw [hw]; exact List.mem_cons_self
  refine ⟨⟨hrc, hrs, hR.1, hR.2, pay_in ht hG, hc⟩, ht _ (hG _ hc).1, ok _ (by simp [wsV]), ⟨hd.1, hd.2.1⟩, fun sig h => ?_, ok _ (by simp [wsV]), ok _ (by simp [wsV]), ok _ (by simp [wsV])⟩
  have h2 := hd.2.2
  rw [h] at h2
  exact (Option.some.inj h2).symm
theorem vx_runVW {y : MethodName} {bytes cc : ByteArray} {maxL nL mc ms n index : Nat} {ret : Option FieldType} {hh : List (Nat × Nat × Nat × Nat)} {ws : List Cond} {rm : Room} {Pc : Array Value → State → Prop} {Qc : Array Value → State → Outcome → State → Prop} {free : Addr → Prop} {Ts : List Cond} {own C : String} {b : Addr} {As rest : List Value} {g : JFrame}
    (S : CallFix p m c cc nL s args Ts own) (hM : Met l y ws rm Pc Qc mc ms free) (cw : vx_CVW R s args own C index y bytes maxL ret hh ws rm mc ms n) (hp : PreV s H C b Pc As)
    (hg : g.method = m) (hn : As.length = n) (hsize : g.locals.size = nL) (hstack : g.stack = As.reverse ++ .ref b :: rest) (hW : 2 * g.monitorRoom + (rest.map fun v => v.category).sum ≤ 8) (hdg : decode cc g.pc = .ok (.invokevirtual index, 3)) (hf : cells + mc ≤ R.cells ∧ slots + ms ≤ R.slots) :
    va_Run p l e R s m args below meth c H locs cells slots mc ms g rest (Qc (Value.ref b :: As).toArray) free := by
  obtain ⟨⟨hrc, hrs, hfr, hlo, hws, hcw⟩, hcode, hini, hy, hlen, hl, hin, hse⟩ := cw
  have hK : Back l R p e below s args y 3 8 (PreOf R mc ms Pc) (PostOf Qc mc ms free) := va_backW (hh := hh) (bytes := bytes) (maxL := maxL) (ret := ret) hM hp.1 hrc hrs hfr hlo hws hcw (fun a' U hW => word_at hW (Or.inl (by first | rfl | simp [Cond.onTables, Cond.keeps, Cond.steady])) hini)
  obtain ⟨hx, hb, hml, ho, -⟩ := S
  obtain ⟨-, ⟨cellB, hcB, hoB, hclB⟩, hPc⟩ := hp
  intro T hT X
  obtain ⟨v, vm₁, ⟨U', l2, c2, s2⟩, hW₁, X', ⟨g', mk, t, L, e1, e2, hq, h1, hL, h2, h3⟩, st⟩ := vx_callVW X hx (C := C) (hh := hh) (bytes := bytes) (maxL := maxL) (ret := ret) ho hl hin hse hcode hy hK (by rw [hT]; exact hcB) hoB hclB hg (hsize.trans hml.symm) (argsL := As) (rest := rest) (fun sig h => hn.trans (hlen sig h)) hstack hW (by rw [hb]; exact hdg)
    (fun vm₁ hW₁ => ⟨hf.1, hf.2, hPc (T.setVm vm₁) hT hW₁⟩)
  dsimp only [Pt.U, Pt.locs, Pt.cells, Pt.slots] at X' e1 e2 h1 h2 h3 st
  subst h1; subst h2; subst h3
  exact ⟨v, (T.setVm vm₁).calling g' mk (Value.ref b :: As).toArray, t, U', L, hT, X', hL, e1, e2, hq, st⟩
section
variable {y : MethodName} {bytes cc : ByteArray} {maxL nL mc ms n index : Nat} {ret : Option FieldType} {ws : List Cond} {rm : Room} {Pc : Array Value → State → Prop} {Qc : Array Value → State → Outcome → State → Prop} {XC : String → State → State → Prop} {free : Addr → Prop} {Ts : List Cond} {own C : String} {b : Addr} {As rest : List Value} {g : JFrame}
theorem vx_runVX {hh : List (Nat × Nat × Nat × Nat)} (S : CallFix p m c cc nL s args Ts own) (hM : vx_Met l y ws rm Pc Qc XC mc ms free) (cw : vx_CVW R s args own C index y bytes maxL ret hh ws rm mc ms n) (hp : PreV s H C b Pc As)
    (hg : g.method = m) (hn : As.length = n) (hsize : g.locals.size = nL) (hstack : g.stack = As.reverse ++ .ref b :: rest) (hW : 2 * g.monitorRoom + (rest.map fun v => v.category).sum ≤ 8) (hdg : decode cc g.pc = .ok (.invokevirtual index, 3)) (hf : cells + mc ≤ R.cells ∧ slots + ms ≤ R.slots) :
    vx_Run p l e R s m args below meth c H locs cells slots mc ms g rest (Qc (Value.ref b :: As).toArray) XC free := by
  obtain ⟨⟨hrc, hrs, hfr, hlo, hws, hcw⟩, hcode, hini, hy, hlen, hl, hin, hse⟩ := cw
  have hK : vx_Back l R p e below s args y 3 8 (PreOf R mc ms Pc) (PostOf Qc mc ms free) (vx_Post XC mc ms free) := vx_backW (hh := hh) (bytes := bytes) (maxL := maxL) (ret := ret) hM hp.1 hrc hrs hfr hlo hws hcw (fun a' U hW => word_at hW (Or.inl (by first | rfl | simp [Cond.onTables, Cond.keeps, Cond.steady])) hini)
  obtain ⟨hx, hb, hml, ho, -⟩ := S
  obtain ⟨-, ⟨cellB, hcB, hoB, hclB⟩, hPc⟩ := hp
  intro T hT X
  rcases vx_callVX X hx (C := C) (hh := hh) (bytes := bytes) (maxL := maxL) (ret := ret) ho hl hin hse hcode hy hK (by rw [hT]; exact hcB) hoB hclB hg (hsize.trans hml.symm) (argsL := As) (rest := rest) (fun sig h => hn.trans (hlen sig h)) hstack hW (by rw [hb]; exact hdg)
    (fun vm₁ hW₁ => ⟨hf.1, hf.2, hPc (T.setVm vm₁) hT hW₁⟩) with ⟨v, vm₁, ⟨U', l2, c2, s2⟩, hW₁, X', ⟨g', mk, t, L, e1, e2, hq, h1, hL, h2, h3⟩, st⟩ | ⟨q, vm₁, ⟨U', l2, c2, s2⟩, hW₁, X', ⟨g', mk, t, L, E, ce, e1, e2, hq, hce, hcv, hcl, h1, hL, h2, h3⟩, st⟩
  · dsimp only [Pt.U, Pt.locs, Pt.cells, Pt.slots] at X' e1 e2 h1 h2 h3 st
    subst h1; subst h2; subst h3
    exact Or.inl ⟨v, (T.setVm vm₁).calling g' mk (Value.ref b :: As).toArray, t, U', L, hT, X', hL, e1, e2, hq, st⟩
  · dsimp only [Pt.U, Pt.locs, Pt.cells, Pt.slots] at X' e1 e2 h1 h2 h3 st hcl
    subst h1; subst h2; subst h3
    exact Or.inr ⟨q, (T.setVm vm₁).calling g' mk (Value.ref b :: As).toArray, t, U', L, E, ce, hT, X', hL, e1, e2, hq, hce, hcv, vx_cls hW₁ hcl, st⟩
theorem vx_runSX {hh : List (Nat × Nat × Nat × Nat)} (S : CallFix p m c cc nL s args Ts own) (hM : vx_Met l y ws rm Pc Qc XC mc ms free) (cw : vx_CSW R s args own index y bytes maxL ret hh ws rm mc ms n) (hp : PreS s H Pc As)
    (hg : g.method = m) (hn : As.length = n) (hsize : g.locals.size = nL) (hstack : g.stack = As.reverse ++ rest) (hW : 2 * g.monitorRoom + (rest.map fun v => v.category).sum ≤ 8) (hdg : decode cc g.pc = .ok (.invokestatic index, 3)) (hf : cells + mc ≤ R.cells ∧ slots + ms ≤ R.slots) :
    vx_Run p l e R s m args below meth c H locs cells slots mc ms g rest (Qc As.toArray) XC free := by
  obtain ⟨⟨hrc, hrs, hfr, hlo, hws, hcw⟩, hcode, hini, hy, hlen, hl, hstt⟩ := cw
  have hK : vx_Back l R p e below s args y 3 8 (PreOf R mc ms Pc) (PostOf Qc mc ms free) (vx_Post XC mc ms free) := vx_backW (hh := hh) (bytes := bytes) (maxL := maxL) (ret := ret) hM hp.1 hrc hrs hfr hlo hws hcw (fun a' U hW => word_at hW (Or.inl (by first | rfl | simp [Cond.onTables, Cond.keeps, Cond.steady])) hini)
  obtain ⟨hx, hb, hml, ho, -⟩ := S
  intro T hT X
  rcases vx_callSX X hx (hh := hh) (bytes := bytes) (maxL := maxL) (ret := ret) ho hl hstt hini hcode hy hK hg (hsize.trans hml.symm) (argsL := As) (rest := rest) (fun sig h => hn.trans (hlen sig h)) hstack hW (by rw [hb]; exact hdg)
    (fun vm₁ hW₁ => ⟨hf.1, hf.2, hp.2 (T.setVm vm₁) hT hW₁⟩) with ⟨v, vm₁, ⟨U', l2, c2, s2⟩, hW₁, X', ⟨g', mk, t, L, e1, e2, hq, h1, hL, h2, h3⟩, st⟩ | ⟨q, vm₁, ⟨U', l2, c2, s2⟩, hW₁, X', ⟨g', mk, t, L, E, ce, e1, e2, hq, hce, hcv, hcl, h1, hL, h2, h3⟩, st⟩
  · dsimp only [Pt.U, Pt.locs, Pt.cells, Pt.slots] at X' e1 e2 h1 h2 h3 st
    subst h1; subst h2; subst h3
    exact Or.inl ⟨v, (T.setVm vm₁).calling g' mk As.toArray, t, U', L, hT, X', hL, e1, e2, hq, st⟩
  · dsimp only [Pt.U, Pt.locs, Pt.cells, Pt.slots] at X' e1 e2 h1 h2 h3 st hcl
    subst h1; subst h2; subst h3
    exact Or.inr ⟨q, (T.setVm vm₁).calling g' mk As.toArray, t, U', L, E, ce, hT, X', hL, e1, e2, hq, hce, hcv, vx_cls hW₁ hcl, st⟩
end
end VXH
theorem vx_ofWH {l : Launch} {y : MethodName} {ws ws' : List Cond} {rm : Room} {Pc : Array Value → State → Prop} {Qc : Array Value → State → Outcome → State → Prop} {XC : String → State → State → Prop} {mc ms : Nat} {free : Addr → Prop} {cc : ByteArray} {maxL : Nat} {ret : Option FieldType} {hh : List (Nat × Nat × Nat × Nat)}
    (hy : plainName y.cls = true) (hw : ws = Cond.codeWith y cc maxL ret hh :: ws')
    (body : ∀ p e s m args below meth c s₁, BodyLoose p l y (headSpec ws rm) cc maxL ret e s m args below meth c s₁ → c.maxLocals = maxL → Pc args s →
      W p l e (headSpec ws rm).room s m args below meth c s.heap [] 0 0 (vx_MQ below Qc XC args s mc ms free) (entryFrame m args maxL)) : vx_Met l y ws rm Pc Qc XC mc ms free := by
  refine MetFree.of_bodyS (code := cc) (maxLocals := maxL) (ret := ret) hy ?_ ?_
  · intro args s m h hn
    obtain ⟨m9, meth, c, hn9, h1, h2, h3, h4, -, h5, h6, -⟩ := Cond.codeWith_spec (atoms_spec (ws := ws) h _ (by rw [hw]; exact List.mem_cons_self))
    cases hn.symm.trans hn9
    exact ⟨meth, c, h1, h2, h3, h4, h5, h6⟩
  · intro p e s m args below meth c s₁ B hml hP _
    have hh0 : s₁.heap = s.heap := by rw [B.state]; rfl
    obtain ⟨t, a1, o, b1, b2, b3⟩ := body p e s m args below meth c s₁ B hml hP s₁ hh0 (Stand.of_body B)
    exact ⟨t, o, a1, b1, b2, b3⟩
/-! ===== END ===== -/
end
section
/-! ===== BEGIN printed: names, fields, word lists, decode rows ===== -/
def RX0 : String := "TheatreWall$Plan"
def TX0 : u_T := fun k => match k with
  | 0 => ("TheatreWall$Plan", "begins", "[I", true)
  | 1 => ("TheatreWall$Plan", "keys", "[I", true)
  | 2 => ("TheatreWall$Plan", "laidMask", "I", false)
  | 3 => ("TheatreWall$Plan", "laidCount", "I", false)
  | _ => ("TheatreWall$Plan", "end", "I", false)
def tyX0 : Nat → FieldType := fun k => match k with
  | 0 => .array .int
  | 1 => .array .int
  | 2 => .int
  | 3 => .int
  | _ => .int
abbrev wsX00 : List Cond := u_ws RX0 TX0 5
theorem nmX0 : ∀ a, a < 5 → ∀ b, b < 5 → a ≠ b → (TX0 a).2.1 ≠ (TX0 b).2.1 := by decide +kernel
theorem tyX0_ok : ∀ k, k < 5 → parseFieldDescriptor (TX0 k).2.2.1 = some (tyX0 k) := by decide +kernel
abbrev cX0_init : ByteArray := prog_2_method_1_code
def yX0_init : MethodName := ⟨RX0, "<init>", "()V"⟩
abbrev cX0_lay : ByteArray := prog_2_method_2_code
def yX0_lay : MethodName := ⟨RX0, "lay", "(LTheatreWall$State;)V"⟩
abbrev cX0_firstByRule : ByteArray := prog_2_method_3_code
def yX0_firstByRule : MethodName := ⟨RX0, "firstByRule", "(LTheatreWall$State;I)I"⟩
abbrev cX0_firstDay : ByteArray := prog_2_method_4_code
def yX0_firstDay : MethodName := ⟨RX0, "firstDay", "(LTheatreWall$State;I)I"⟩
abbrev cX0_behindClash : ByteArray := prog_2_method_5_code
def yX0_behindClash : MethodName := ⟨RX0, "behindClash", "(LTheatreWall$State;II)I"⟩
abbrev cX0_startOf : ByteArray := prog_2_method_6_code
def yX0_startOf : MethodName := ⟨RX0, "startOf", "(LTheatreWall$State;I)I"⟩
abbrev cX0_waitOf : ByteArray := prog_2_method_7_code
def yX0_waitOf : MethodName := ⟨RX0, "waitOf", "(LTheatreWall$State;I)I"⟩
abbrev cX0_waitOfAll : ByteArray := prog_2_method_8_code
def yX0_waitOfAll : MethodName := ⟨RX0, "waitOfAll", "(LTheatreWall$State;)I"⟩
abbrev cX0_lengthOfLaid : ByteArray := prog_2_method_9_code
def yX0_lengthOfLaid : MethodName := ⟨RX0, "lengthOfLaid", "(LTheatreWall$State;)I"⟩
abbrev cX0_taskOn : ByteArray := prog_2_method_10_code
def yX0_taskOn : MethodName := ⟨RX0, "taskOn", "(LTheatreWall$State;[III)I"⟩
abbrev cX0_daysIn : ByteArray := prog_2_method_11_code
def yX0_daysIn : MethodName := ⟨RX0, "daysIn", "(LTheatreWall$State;I)I"⟩
abbrev cX0_tasksIn : ByteArray := prog_2_method_12_code
def yX0_tasksIn : MethodName := ⟨RX0, "tasksIn", "(LTheatreWall$State;I)I"⟩
def RX1 : String := "TheatreWall$State"
def TX1 : u_T := fun k => match k with
  | 0 => ("TheatreWall$State", "lengths", "[I", true)
  | 1 => ("TheatreWall$State", "persons", "[I", true)
  | 2 => ("TheatreWall$State", "halls", "[I", true)
  | 3 => ("TheatreWall$State", "earliest", "[I", true)
  | 4 => ("TheatreWall$State", "needs", "[I", true)
  | 5 => ("TheatreWall$State", "firstDays", "[I", true)
  | 6 => ("TheatreWall$State", "lastDays", "[I", true)
  | 7 => ("TheatreWall$State", "size", "I", false)
  | _ => ("TheatreWall$State", "order", "I", false)
def tyX1 : Nat → FieldType := fun k => match k with
  | 0 => .array .int
  | 1 => .array .int
  | 2 => .array .int
  | 3 => .array .int
  | 4 => .array .int
  | 5 => .array .int
  | 6 => .array .int
  | 7 => .int
  | _ => .int
abbrev wsX10 : List Cond := u_ws RX1 TX1 9
theorem nmX1 : ∀ a, a < 9 → ∀ b, b < 9 → a ≠ b → (TX1 a).2.1 ≠ (TX1 b).2.1 := by decide +kernel
theorem tyX1_ok : ∀ k, k < 9 → parseFieldDescriptor (TX1 k).2.2.1 = some (tyX1 k) := by decide +kernel
abbrev cX1_init : ByteArray := prog_3_method_1_code
def yX1_init : MethodName := ⟨RX1, "<init>", "()V"⟩
abbrev cX1_copyFrom : ByteArray := prog_3_method_2_code
def yX1_copyFrom : MethodName := ⟨RX1, "copyFrom", "(LTheatreWall$State;)V"⟩
abbrev cX1_property : ByteArray := prog_3_method_3_code
def yX1_property : MethodName := ⟨RX1, "property", "(I)[I"⟩
abbrev cX1_appendTask : ByteArray := prog_3_method_4_code
def yX1_appendTask : MethodName := ⟨RX1, "appendTask", "(III)V"⟩
abbrev cX1_dropTask : ByteArray := prog_3_method_5_code
def yX1_dropTask : MethodName := ⟨RX1, "dropTask", "(I)V"⟩
abbrev cX1_withoutBit : ByteArray := prog_3_method_6_code
def yX1_withoutBit : MethodName := ⟨RX1, "withoutBit", "(II)I"⟩
abbrev cX1_isNeeded : ByteArray := prog_3_method_7_code
def yX1_isNeeded : MethodName := ⟨RX1, "isNeeded", "(II)Z"⟩
abbrev cX1_followers : ByteArray := prog_3_method_8_code
def yX1_followers : MethodName := ⟨RX1, "followers", "(I)I"⟩
abbrev cX1_lengthOfAll : ByteArray := prog_3_method_9_code
def yX1_lengthOfAll : MethodName := ⟨RX1, "lengthOfAll", "()I"⟩
abbrev cX1_keyOf : ByteArray := prog_3_method_10_code
def yX1_keyOf : MethodName := ⟨RX1, "keyOf", "(I)I"⟩
abbrev cX1_share : ByteArray := prog_3_method_11_code
def yX1_share : MethodName := ⟨RX1, "share", "(II)Z"⟩
def RX2 : String := "TheatreWall$Text"
def TX2 : u_T := fun k => match k with
  | 0 => ("TheatreWall$Text", "codes", "[I", true)
  | _ => ("TheatreWall$Text", "size", "I", false)
def tyX2 : Nat → FieldType := fun k => match k with
  | 0 => .array .int
  | _ => .int
abbrev wsX20 : List Cond := u_ws RX2 TX2 2
theorem nmX2 : ∀ a, a < 2 → ∀ b, b < 2 → a ≠ b → (TX2 a).2.1 ≠ (TX2 b).2.1 := by decide +kernel
theorem tyX2_ok : ∀ k, k < 2 → parseFieldDescriptor (TX2 k).2.2.1 = some (tyX2 k) := by decide +kernel
abbrev cX2_init : ByteArray := prog_4_method_1_code
def yX2_init : MethodName := ⟨RX2, "<init>", "()V"⟩
def RX3 : String := "TheatreWall"
def TX3 : u_T := fun k => match k with
  | 0 => ("TheatreWall", "now", "LTheatreWall$State;", true)
  | 1 => ("TheatreWall", "plan", "LTheatreWall$Plan;", true)
  | 2 => ("TheatreWall", "trial", "LTheatreWall$State;", true)
  | 3 => ("TheatreWall", "trialPlan", "LTheatreWall$Plan;", true)
  | 4 => ("TheatreWall", "saved", "[LTheatreWall$State;", true)
  | 5 => ("TheatreWall", "text", "LTheatreWall$Text;", true)
  | 6 => ("TheatreWall", "rowSums", "[I", true)
  | _ => ("TheatreWall", "savedCount", "I", false)
def tyX3 : Nat → FieldType := fun k => match k with
  | 0 => .object "TheatreWall$State"
  | 1 => .object "TheatreWall$Plan"
  | 2 => .object "TheatreWall$State"
  | 3 => .object "TheatreWall$Plan"
  | 4 => .array (.object "TheatreWall$State")
  | 5 => .object "TheatreWall$Text"
  | 6 => .array .int
  | _ => .int
abbrev wsX30 : List Cond := u_ws RX3 TX3 8
theorem nmX3 : ∀ a, a < 8 → ∀ b, b < 8 → a ≠ b → (TX3 a).2.1 ≠ (TX3 b).2.1 := by decide +kernel
theorem tyX3_ok : ∀ k, k < 8 → parseFieldDescriptor (TX3 k).2.2.1 = some (tyX3 k) := by decide +kernel
abbrev cX3_init : ByteArray := prog_1_method_1_code
def yX3_init : MethodName := ⟨RX3, "<init>", "()V"⟩
abbrev cX3_add : ByteArray := prog_1_method_2_code
def yX3_add : MethodName := ⟨RX3, "add", "(III)I"⟩
abbrev cX3_remove : ByteArray := prog_1_method_3_code
def yX3_remove : MethodName := ⟨RX3, "remove", "(I)I"⟩
abbrev cX3_need : ByteArray := prog_1_method_4_code
def yX3_need : MethodName := ⟨RX3, "need", "(IIZ)I"⟩
abbrev cX3_change : ByteArray := prog_1_method_5_code
def yX3_change : MethodName := ⟨RX3, "change", "(III)I"⟩
abbrev cX3_slip : ByteArray := prog_1_method_6_code
def yX3_slip : MethodName := ⟨RX3, "slip", "(II)I"⟩
abbrev cX3_borrow : ByteArray := prog_1_method_7_code
def yX3_borrow : MethodName := ⟨RX3, "borrow", "(III)I"⟩
abbrev cX3_rule : ByteArray := prog_1_method_8_code
def yX3_rule : MethodName := ⟨RX3, "rule", "(I)I"⟩
abbrev cX3_undo : ByteArray := prog_1_method_13_code
def yX3_undo : MethodName := ⟨RX3, "undo", "()I"⟩
abbrev cX3_task : ByteArray := prog_1_method_14_code
def yX3_task : MethodName := ⟨RX3, "task", "(II)I"⟩
abbrev cX3_personOn : ByteArray := prog_1_method_15_code
def yX3_personOn : MethodName := ⟨RX3, "personOn", "(II)I"⟩
abbrev cX3_hallOn : ByteArray := prog_1_method_16_code
def yX3_hallOn : MethodName := ⟨RX3, "hallOn", "(II)I"⟩
abbrev cX3_hall : ByteArray := prog_1_method_17_code
def yX3_hall : MethodName := ⟨RX3, "hall", "(II)I"⟩
abbrev cX3_count : ByteArray := prog_1_method_18_code
def yX3_count : MethodName := ⟨RX3, "count", "(I)I"⟩
abbrev cX3_setting : ByteArray := prog_1_method_19_code
def yX3_setting : MethodName := ⟨RX3, "setting", "()I"⟩
abbrev cX3_ifRule : ByteArray := prog_1_method_20_code
def yX3_ifRule : MethodName := ⟨RX3, "ifRule", "(II)I"⟩
abbrev cX3_worstSlip : ByteArray := prog_1_method_23_code
def yX3_worstSlip : MethodName := ⟨RX3, "worstSlip", "(I)I"⟩
abbrev cX3_busyness : ByteArray := prog_1_method_24_code
def yX3_busyness : MethodName := ⟨RX3, "busyness", "()D"⟩
abbrev cX3_isTask : ByteArray := prog_1_method_32_code
def yX3_isTask : MethodName := ⟨RX3, "isTask", "(I)Z"⟩
abbrev cX3_isLength : ByteArray := prog_1_method_33_code
def yX3_isLength : MethodName := ⟨RX3, "isLength", "(I)Z"⟩
abbrev cX3_isPerson : ByteArray := prog_1_method_34_code
def yX3_isPerson : MethodName := ⟨RX3, "isPerson", "(I)Z"⟩
abbrev cX3_isPersonOrNone : ByteArray := prog_1_method_35_code
def yX3_isPersonOrNone : MethodName := ⟨RX3, "isPersonOrNone", "(I)Z"⟩
abbrev cX3_isHall : ByteArray := prog_1_method_36_code
def yX3_isHall : MethodName := ⟨RX3, "isHall", "(I)Z"⟩
abbrev cX3_isHallOrNone : ByteArray := prog_1_method_37_code
def yX3_isHallOrNone : MethodName := ⟨RX3, "isHallOrNone", "(I)Z"⟩
abbrev cX3_isDay : ByteArray := prog_1_method_38_code
def yX3_isDay : MethodName := ⟨RX3, "isDay", "(I)Z"⟩
abbrev cX3_isRule : ByteArray := prog_1_method_39_code
def yX3_isRule : MethodName := ⟨RX3, "isRule", "(I)Z"⟩
abbrev cX3_isSlip : ByteArray := prog_1_method_40_code
def yX3_isSlip : MethodName := ⟨RX3, "isSlip", "(I)Z"⟩
abbrev cX3_isValue : ByteArray := prog_1_method_41_code
def yX3_isValue : MethodName := ⟨RX3, "isValue", "(II)Z"⟩
abbrev cX3_saveState : ByteArray := prog_1_method_42_code
def yX3_saveState : MethodName := ⟨RX3, "saveState", "()V"⟩
abbrev cX3_dropOldest : ByteArray := prog_1_method_43_code
def yX3_dropOldest : MethodName := ⟨RX3, "dropOldest", "()V"⟩
abbrev cX3_couldSlip : ByteArray := prog_1_method_44_code
def yX3_couldSlip : MethodName := ⟨RX3, "couldSlip", "(II)Z"⟩
abbrev cX3_tryRule : ByteArray := prog_1_method_45_code
def yX3_tryRule : MethodName := ⟨RX3, "tryRule", "(I)V"⟩
abbrev cX3_slackOf : ByteArray := prog_1_method_46_code
def yX3_slackOf : MethodName := ⟨RX3, "slackOf", "(I)I"⟩
abbrev cX3_criticalTasks : ByteArray := prog_1_method_47_code
def yX3_criticalTasks : MethodName := ⟨RX3, "criticalTasks", "()I"⟩
abbrev cX3_longestRow : ByteArray := prog_1_method_48_code
def yX3_longestRow : MethodName := ⟨RX3, "longestRow", "()I"⟩
def RX4 : String := "TheatreWallModel"
def TX4 : u_T := fun k => match k with
  | _ => ("", "", "", false)
def tyX4 : Nat → FieldType := fun k => match k with
  | _ => .int
abbrev wsX40 : List Cond := u_ws RX4 TX4 0
theorem nmX4 : ∀ a, a < 0 → ∀ b, b < 0 → a ≠ b → (TX4 a).2.1 ≠ (TX4 b).2.1 := by decide +kernel
theorem tyX4_ok : ∀ k, k < 0 → parseFieldDescriptor (TX4 k).2.2.1 = some (tyX4 k) := by decide +kernel
def RJ9 : String := "java/lang/Math"
def TJ9 : u_T := fun k => match k with
  | _ => ("", "", "", false)
def tyJ9 : Nat → FieldType := fun k => match k with
  | _ => .int
abbrev wsJ90 : List Cond := u_ws RJ9 TJ9 0
theorem nmJ9 : ∀ a, a < 0 → ∀ b, b < 0 → a ≠ b → (TJ9 a).2.1 ≠ (TJ9 b).2.1 := by decide +kernel
theorem tyJ9_ok : ∀ k, k < 0 → parseFieldDescriptor (TJ9 k).2.2.1 = some (tyJ9 k) := by decide +kernel
abbrev cJ9_max_7cf53 : ByteArray := prog_11_method_65_code
def yJ9_max_7cf53 : MethodName := ⟨RJ9, "max", "(II)I"⟩
def RL : String := "TheatreWallLaw"
abbrev cL_low : ByteArray := method_2_code
def yL_low : MethodName := ⟨RL, "low", "(II)I"⟩
abbrev cL_cell : ByteArray := method_3_code
def yL_cell : MethodName := ⟨RL, "cell", "([II)I"⟩
abbrev cL_undo : ByteArray := method_4_code
def yL_undo : MethodName := ⟨RL, "undo", "(LTheatreWall;)I"⟩
abbrev cL_add : ByteArray := method_5_code
def yL_add : MethodName := ⟨RL, "add", "(LTheatreWall;III)I"⟩
abbrev cL_slip : ByteArray := method_6_code
def yL_slip : MethodName := ⟨RL, "slip", "(LTheatreWall;II)I"⟩
abbrev cL_plan : ByteArray := method_7_code
def yL_plan : MethodName := ⟨RL, "plan", "(LTheatreWall;)Z"⟩
abbrev cL_looks : ByteArray := method_8_code
def yL_looks : MethodName := ⟨RL, "looks", "(LTheatreWall;)Z"⟩
abbrev cL_act : ByteArray := method_9_code
def yL_act : MethodName := ⟨RL, "act", "(LTheatreWall;[II)I"⟩
abbrev cL_law : ByteArray := code
def yL_law : MethodName := ⟨RL, "law", "([I)Z"⟩
def wsX0_init : List Cond := .code yX0_init cX0_init 1 none :: ([.methodLink RX0 3 objectInit, .instanceMethod objectInit, .code objectInit ⟨#[0xb1]⟩ 1 none, .arrayClass .int, .fieldLink RX0 9 "TheatreWall$Plan" "begins" "[I", .fieldLink RX0 15 "TheatreWall$Plan" "keys" "[I", .fieldLink RX0 18 "TheatreWall$Plan" "laidMask" "I", .fieldLink RX0 22 "TheatreWall$Plan" "laidCount" "I", .fieldLink RX0 25 "TheatreWall$Plan" "end" "I"] ++ wsX00)
def wsX1_isNeeded : List Cond := .code yX1_isNeeded cX1_isNeeded 3 (some .boolean) :: ([.fieldLink RX1 24 "TheatreWall$State" "needs" "[I"] ++ wsX10)
def wsX1_followers : List Cond := .code yX1_followers cX1_followers 4 (some .int) :: ([.fieldLink RX1 33 "TheatreWall$State" "size" "I", .methodLink RX1 44 yX1_isNeeded, .instanceMethod yX1_isNeeded, .selects RX1 yX1_isNeeded yX1_isNeeded, .initialized RX1, .code yX1_isNeeded cX1_isNeeded 3 (some .boolean), .fieldLink RX1 24 "TheatreWall$State" "needs" "[I"] ++ wsX10)
def wsX1_keyOf : List Cond := .code yX1_keyOf cX1_keyOf 2 (some .int) :: ([.fieldLink RX1 37 "TheatreWall$State" "order" "I", .fieldLink RX1 9 "TheatreWall$State" "lengths" "[I", .fieldLink RX1 21 "TheatreWall$State" "earliest" "[I", .methodLink RX1 48 yX1_followers, .instanceMethod yX1_followers, .selects RX1 yX1_followers yX1_followers, .initialized RX1, .code yX1_followers cX1_followers 4 (some .int), .fieldLink RX1 33 "TheatreWall$State" "size" "I", .methodLink RX1 44 yX1_isNeeded, .instanceMethod yX1_isNeeded, .selects RX1 yX1_isNeeded yX1_isNeeded, .code yX1_isNeeded cX1_isNeeded 3 (some .boolean), .fieldLink RX1 24 "TheatreWall$State" "needs" "[I"] ++ wsX10)
def wsX0_firstByRule : List Cond := .code yX0_firstByRule cX0_firstByRule 8 (some .int) :: ([.fieldLink RX0 28 "TheatreWall$State" "size" "I", .fieldLink RX0 53 "TheatreWall$State" "needs" "[I", .fieldLink RX0 18 "TheatreWall$Plan" "laidMask" "I", .fieldLink RX0 15 "TheatreWall$Plan" "keys" "[I"] ++ wsX10 ++ wsX00)
def wsX0_startOf : List Cond := .code yX0_startOf cX0_startOf 5 (some .int) :: ([.fieldLink RX0 76 "TheatreWall$State" "earliest" "[I", .fieldLink RX0 9 "TheatreWall$Plan" "begins" "[I", .fieldLink RX0 44 "TheatreWall$State" "lengths" "[I", .methodLink RX0 47 Lib.Math.max.name, .static Lib.Math.max.name, .initialized "java/lang/Math", .code Lib.Math.max.name Lib.Math.max.code 2 (some .int), .methodLink RX0 79 yX1_isNeeded, .instanceMethod yX1_isNeeded, .selects RX1 yX1_isNeeded yX1_isNeeded, .initialized RX1, .code yX1_isNeeded cX1_isNeeded 3 (some .boolean), .fieldLink RX1 24 "TheatreWall$State" "needs" "[I"] ++ wsX10 ++ wsX00)
def wsX1_share : List Cond := .code yX1_share cX1_share 5 (some .boolean) :: ([.fieldLink RX1 15 "TheatreWall$State" "persons" "[I", .fieldLink RX1 18 "TheatreWall$State" "halls" "[I"] ++ wsX10)
def wsX0_behindClash : List Cond := .code yX0_behindClash cX0_behindClash 8 (some .int) :: ([.fieldLink RX0 44 "TheatreWall$State" "lengths" "[I", .fieldLink RX0 28 "TheatreWall$State" "size" "I", .fieldLink RX0 9 "TheatreWall$Plan" "begins" "[I", .methodLink RX0 72 yX1_share, .instanceMethod yX1_share, .selects RX1 yX1_share yX1_share, .initialized RX1, .code yX1_share cX1_share 5 (some .boolean), .fieldLink RX1 15 "TheatreWall$State" "persons" "[I", .fieldLink RX1 18 "TheatreWall$State" "halls" "[I"] ++ wsX10 ++ wsX00)
def wsX0_firstDay_r1 : List Cond := [Cond.fieldLink RX0 59 "TheatreWall$State" "halls" "[I", Cond.fieldLink RX0 62 "TheatreWall$State" "firstDays" "[I", Cond.methodLink RX0 47 Lib.Math.max.name, Cond.static Lib.Math.max.name, Cond.initialized "java/lang/Math", Cond.code Lib.Math.max.name Lib.Math.max.code 2 (some .int), Cond.fieldLink RX0 65 "TheatreWall$State" "lastDays" "[I", Cond.fieldLink RX0 44 "TheatreWall$State" "lengths" "[I", Cond.methodLink RX0 56 yX0_startOf, Cond.instanceMethod yX0_startOf, Cond.selects RX0 yX0_startOf yX0_startOf, Cond.initialized RX0, Cond.code yX0_startOf cX0_startOf 5 (some .int), Cond.fieldLink RX0 76 "TheatreWall$State" "earliest" "[I", Cond.fieldLink RX0 9 "TheatreWall$Plan" "begins" "[I", Cond.methodLink RX0 79 yX1_isNeeded, Cond.instanceMethod yX1_isNeeded, Cond.selects RX1 yX1_isNeeded yX1_isNeeded, Cond.initialized RX1, Cond.code yX1_isNeeded cX1_isNeeded 3 (some .boolean), Cond.fieldLink RX1 24 "TheatreWall$State" "needs" "[I", Cond.methodLink RX0 68 yX0_behindClash, Cond.instanceMethod yX0_behindClash, Cond.selects RX0 yX0_behindClash yX0_behindClash]
def wsX0_firstDay_r2 : List Cond := [Cond.code yX0_behindClash cX0_behindClash 8 (some .int), Cond.fieldLink RX0 28 "TheatreWall$State" "size" "I", Cond.methodLink RX0 72 yX1_share, Cond.instanceMethod yX1_share, Cond.selects RX1 yX1_share yX1_share, Cond.code yX1_share cX1_share 5 (some .boolean), Cond.fieldLink RX1 15 "TheatreWall$State" "persons" "[I", Cond.fieldLink RX1 18 "TheatreWall$State" "halls" "[I"]
def wsX0_firstDay : List Cond := .code yX0_firstDay cX0_firstDay 8 (some .int) :: ((wsX0_firstDay_r1 ++ wsX0_firstDay_r2) ++ wsX10 ++ wsX00)
def wsX0_lay_r1 : List Cond := [Cond.fieldLink RX0 18 "TheatreWall$Plan" "laidMask" "I", Cond.fieldLink RX0 22 "TheatreWall$Plan" "laidCount" "I", Cond.fieldLink RX0 25 "TheatreWall$Plan" "end" "I", Cond.fieldLink RX0 28 "TheatreWall$State" "size" "I", Cond.fieldLink RX0 9 "TheatreWall$Plan" "begins" "[I", Cond.fieldLink RX0 15 "TheatreWall$Plan" "keys" "[I", Cond.fieldLink RX0 44 "TheatreWall$State" "lengths" "[I", Cond.methodLink RX0 47 Lib.Math.max.name, Cond.static Lib.Math.max.name, Cond.initialized "java/lang/Math", Cond.code Lib.Math.max.name Lib.Math.max.code 2 (some .int), Cond.methodLink RX0 33 yX1_keyOf, Cond.instanceMethod yX1_keyOf, Cond.selects RX1 yX1_keyOf yX1_keyOf, Cond.initialized RX1, Cond.code yX1_keyOf cX1_keyOf 2 (some .int), Cond.fieldLink RX1 37 "TheatreWall$State" "order" "I", Cond.fieldLink RX1 9 "TheatreWall$State" "lengths" "[I", Cond.fieldLink RX1 21 "TheatreWall$State" "earliest" "[I", Cond.methodLink RX1 48 yX1_followers, Cond.instanceMethod yX1_followers, Cond.selects RX1 yX1_followers yX1_followers, Cond.code yX1_followers cX1_followers 4 (some .int), Cond.fieldLink RX1 33 "TheatreWall$State" "size" "I"]
def wsX0_lay_r2 : List Cond := [Cond.methodLink RX1 44 yX1_isNeeded, Cond.instanceMethod yX1_isNeeded, Cond.selects RX1 yX1_isNeeded yX1_isNeeded, Cond.code yX1_isNeeded cX1_isNeeded 3 (some .boolean), Cond.fieldLink RX1 24 "TheatreWall$State" "needs" "[I", Cond.methodLink RX0 37 yX0_firstByRule, Cond.instanceMethod yX0_firstByRule, Cond.selects RX0 yX0_firstByRule yX0_firstByRule, Cond.initialized RX0, Cond.code yX0_firstByRule cX0_firstByRule 8 (some .int), Cond.fieldLink RX0 53 "TheatreWall$State" "needs" "[I", Cond.methodLink RX0 41 yX0_firstDay, Cond.instanceMethod yX0_firstDay, Cond.selects RX0 yX0_firstDay yX0_firstDay, Cond.code yX0_firstDay cX0_firstDay 8 (some .int), Cond.fieldLink RX0 59 "TheatreWall$State" "halls" "[I", Cond.fieldLink RX0 62 "TheatreWall$State" "firstDays" "[I", Cond.fieldLink RX0 65 "TheatreWall$State" "lastDays" "[I", Cond.methodLink RX0 56 yX0_startOf, Cond.instanceMethod yX0_startOf, Cond.selects RX0 yX0_startOf yX0_startOf, Cond.code yX0_startOf cX0_startOf 5 (some .int), Cond.fieldLink RX0 76 "TheatreWall$State" "earliest" "[I", Cond.methodLink RX0 79 yX1_isNeeded]
def wsX0_lay_r3 : List Cond := [Cond.methodLink RX0 68 yX0_behindClash, Cond.instanceMethod yX0_behindClash, Cond.selects RX0 yX0_behindClash yX0_behindClash, Cond.code yX0_behindClash cX0_behindClash 8 (some .int), Cond.methodLink RX0 72 yX1_share, Cond.instanceMethod yX1_share, Cond.selects RX1 yX1_share yX1_share, Cond.code yX1_share cX1_share 5 (some .boolean), Cond.fieldLink RX1 15 "TheatreWall$State" "persons" "[I", Cond.fieldLink RX1 18 "TheatreWall$State" "halls" "[I"]
def wsX0_lay : List Cond := .code yX0_lay cX0_lay 6 none :: ((wsX0_lay_r1 ++ (wsX0_lay_r2 ++ wsX0_lay_r3)) ++ wsX00 ++ wsX10)
def wsX0_waitOf : List Cond := .code yX0_waitOf cX0_waitOf 3 (some .int) :: ([.fieldLink RX0 9 "TheatreWall$Plan" "begins" "[I", .methodLink RX0 56 yX0_startOf, .instanceMethod yX0_startOf, .selects RX0 yX0_startOf yX0_startOf, .initialized RX0, .code yX0_startOf cX0_startOf 5 (some .int), .fieldLink RX0 76 "TheatreWall$State" "earliest" "[I", .fieldLink RX0 44 "TheatreWall$State" "lengths" "[I", .methodLink RX0 47 Lib.Math.max.name, .static Lib.Math.max.name, .initialized "java/lang/Math", .code Lib.Math.max.name Lib.Math.max.code 2 (some .int), .methodLink RX0 79 yX1_isNeeded, .instanceMethod yX1_isNeeded, .selects RX1 yX1_isNeeded yX1_isNeeded, .initialized RX1, .code yX1_isNeeded cX1_isNeeded 3 (some .boolean), .fieldLink RX1 24 "TheatreWall$State" "needs" "[I"] ++ wsX00 ++ wsX10)
def wsX0_waitOfAll : List Cond := .code yX0_waitOfAll cX0_waitOfAll 4 (some .int) :: ([.fieldLink RX0 28 "TheatreWall$State" "size" "I", .methodLink RX0 82 yX0_waitOf, .instanceMethod yX0_waitOf, .selects RX0 yX0_waitOf yX0_waitOf, .initialized RX0, .code yX0_waitOf cX0_waitOf 3 (some .int), .fieldLink RX0 9 "TheatreWall$Plan" "begins" "[I", .methodLink RX0 56 yX0_startOf, .instanceMethod yX0_startOf, .selects RX0 yX0_startOf yX0_startOf, .code yX0_startOf cX0_startOf 5 (some .int), .fieldLink RX0 76 "TheatreWall$State" "earliest" "[I", .fieldLink RX0 44 "TheatreWall$State" "lengths" "[I", .methodLink RX0 47 Lib.Math.max.name, .static Lib.Math.max.name, .initialized "java/lang/Math", .code Lib.Math.max.name Lib.Math.max.code 2 (some .int), .methodLink RX0 79 yX1_isNeeded, .instanceMethod yX1_isNeeded, .selects RX1 yX1_isNeeded yX1_isNeeded, .initialized RX1, .code yX1_isNeeded cX1_isNeeded 3 (some .boolean), .fieldLink RX1 24 "TheatreWall$State" "needs" "[I"] ++ wsX10 ++ wsX00)
def wsX0_lengthOfLaid : List Cond := .code yX0_lengthOfLaid cX0_lengthOfLaid 4 (some .int) :: ([.fieldLink RX0 28 "TheatreWall$State" "size" "I", .fieldLink RX0 9 "TheatreWall$Plan" "begins" "[I", .fieldLink RX0 44 "TheatreWall$State" "lengths" "[I"] ++ wsX10 ++ wsX00)
def wsX0_taskOn : List Cond := .code yX0_taskOn cX0_taskOn 7 (some .int) :: ([.fieldLink RX0 28 "TheatreWall$State" "size" "I", .fieldLink RX0 9 "TheatreWall$Plan" "begins" "[I", .fieldLink RX0 44 "TheatreWall$State" "lengths" "[I"] ++ wsX10 ++ wsX00)
def wsX0_daysIn : List Cond := .code yX0_daysIn cX0_daysIn 5 (some .int) :: ([.fieldLink RX0 28 "TheatreWall$State" "size" "I", .fieldLink RX0 9 "TheatreWall$Plan" "begins" "[I", .fieldLink RX0 59 "TheatreWall$State" "halls" "[I", .fieldLink RX0 44 "TheatreWall$State" "lengths" "[I"] ++ wsX10 ++ wsX00)
def wsX0_tasksIn : List Cond := .code yX0_tasksIn cX0_tasksIn 5 (some .int) :: ([.fieldLink RX0 28 "TheatreWall$State" "size" "I", .fieldLink RX0 9 "TheatreWall$Plan" "begins" "[I", .fieldLink RX0 59 "TheatreWall$State" "halls" "[I"] ++ wsX10 ++ wsX00)
def wsX1_init : List Cond := .code yX1_init cX1_init 2 none :: ([.methodLink RX1 3 objectInit, .instanceMethod objectInit, .code objectInit ⟨#[0xb1]⟩ 1 none, .arrayClass .int, .fieldLink RX1 9 "TheatreWall$State" "lengths" "[I", .fieldLink RX1 15 "TheatreWall$State" "persons" "[I", .fieldLink RX1 18 "TheatreWall$State" "halls" "[I", .fieldLink RX1 21 "TheatreWall$State" "earliest" "[I", .fieldLink RX1 24 "TheatreWall$State" "needs" "[I", .fieldLink RX1 27 "TheatreWall$State" "firstDays" "[I", .fieldLink RX1 30 "TheatreWall$State" "lastDays" "[I", .fieldLink RX1 33 "TheatreWall$State" "size" "I", .fieldLink RX1 37 "TheatreWall$State" "order" "I"] ++ wsX10)
def wsX1_copyFrom : List Cond := .code yX1_copyFrom cX1_copyFrom 3 none :: ([.fieldLink RX1 33 "TheatreWall$State" "size" "I", .fieldLink RX1 37 "TheatreWall$State" "order" "I", .fieldLink RX1 9 "TheatreWall$State" "lengths" "[I", .fieldLink RX1 15 "TheatreWall$State" "persons" "[I", .fieldLink RX1 18 "TheatreWall$State" "halls" "[I", .fieldLink RX1 21 "TheatreWall$State" "earliest" "[I", .fieldLink RX1 24 "TheatreWall$State" "needs" "[I", .fieldLink RX1 27 "TheatreWall$State" "firstDays" "[I", .fieldLink RX1 30 "TheatreWall$State" "lastDays" "[I"] ++ wsX10)
def wsX1_property : List Cond := .code yX1_property cX1_property 2 (some (.array .int)) :: ([.fieldLink RX1 9 "TheatreWall$State" "lengths" "[I", .fieldLink RX1 15 "TheatreWall$State" "persons" "[I", .fieldLink RX1 18 "TheatreWall$State" "halls" "[I", .fieldLink RX1 21 "TheatreWall$State" "earliest" "[I", .fieldLink RX1 24 "TheatreWall$State" "needs" "[I"] ++ wsX10)
def wsX1_appendTask : List Cond := .code yX1_appendTask cX1_appendTask 4 none :: ([.fieldLink RX1 9 "TheatreWall$State" "lengths" "[I", .fieldLink RX1 33 "TheatreWall$State" "size" "I", .fieldLink RX1 15 "TheatreWall$State" "persons" "[I", .fieldLink RX1 18 "TheatreWall$State" "halls" "[I", .fieldLink RX1 21 "TheatreWall$State" "earliest" "[I", .fieldLink RX1 24 "TheatreWall$State" "needs" "[I"] ++ wsX10)
def wsX1_withoutBit : List Cond := .code yX1_withoutBit cX1_withoutBit 4 (some .int) :: ([])
def wsX1_dropTask : List Cond := .code yX1_dropTask cX1_dropTask 3 none :: ([.fieldLink RX1 33 "TheatreWall$State" "size" "I", .fieldLink RX1 9 "TheatreWall$State" "lengths" "[I", .fieldLink RX1 15 "TheatreWall$State" "persons" "[I", .fieldLink RX1 18 "TheatreWall$State" "halls" "[I", .fieldLink RX1 21 "TheatreWall$State" "earliest" "[I", .fieldLink RX1 24 "TheatreWall$State" "needs" "[I", .methodLink RX1 40 yX1_withoutBit, .static yX1_withoutBit, .initialized RX1, .code yX1_withoutBit cX1_withoutBit 4 (some .int)] ++ wsX10)
def wsX1_lengthOfAll : List Cond := .code yX1_lengthOfAll cX1_lengthOfAll 3 (some .int) :: ([.fieldLink RX1 33 "TheatreWall$State" "size" "I", .fieldLink RX1 9 "TheatreWall$State" "lengths" "[I"] ++ wsX10)
def wsX2_init : List Cond := .code yX2_init cX2_init 1 none :: ([.methodLink RX2 3 objectInit, .instanceMethod objectInit, .code objectInit ⟨#[0xb1]⟩ 1 none, .arrayClass .int, .fieldLink RX2 9 "TheatreWall$Text" "codes" "[I", .fieldLink RX2 15 "TheatreWall$Text" "size" "I"] ++ wsX20)
def wsX3_init_r1 : List Cond := [Cond.methodLink RX3 1 objectInit, Cond.instanceMethod objectInit, Cond.code objectInit ⟨#[0xb1]⟩ 1 none, Cond.classLink RX3 7 RX1, Cond.instantiable RX1 9, Cond.initialized RX1, Cond.fieldLink RX3 10 "TheatreWall" "now" "LTheatreWall$State;", Cond.classLink RX3 16 RX0, Cond.instantiable RX0 5, Cond.initialized RX0, Cond.fieldLink RX3 19 "TheatreWall" "plan" "LTheatreWall$Plan;", Cond.fieldLink RX3 23 "TheatreWall" "trial" "LTheatreWall$State;", Cond.fieldLink RX3 26 "TheatreWall" "trialPlan" "LTheatreWall$Plan;", Cond.fieldLink RX3 29 "TheatreWall" "saved" "[LTheatreWall$State;", Cond.classLink RX3 33 RX2, Cond.instantiable RX2 2, Cond.initialized RX2, Cond.fieldLink RX3 36 "TheatreWall" "text" "LTheatreWall$Text;", Cond.arrayClass .int, Cond.fieldLink RX3 40 "TheatreWall" "rowSums" "[I", Cond.fieldLink RX3 44 "TheatreWall" "savedCount" "I", Cond.methodLink RX3 9 yX1_init, Cond.instanceMethod yX1_init, Cond.code yX1_init cX1_init 2 none]
def wsX3_init_r2 : List Cond := [Cond.methodLink RX1 3 objectInit, Cond.fieldLink RX1 9 "TheatreWall$State" "lengths" "[I", Cond.fieldLink RX1 15 "TheatreWall$State" "persons" "[I", Cond.fieldLink RX1 18 "TheatreWall$State" "halls" "[I", Cond.fieldLink RX1 21 "TheatreWall$State" "earliest" "[I", Cond.fieldLink RX1 24 "TheatreWall$State" "needs" "[I", Cond.fieldLink RX1 27 "TheatreWall$State" "firstDays" "[I", Cond.fieldLink RX1 30 "TheatreWall$State" "lastDays" "[I", Cond.fieldLink RX1 33 "TheatreWall$State" "size" "I", Cond.fieldLink RX1 37 "TheatreWall$State" "order" "I", Cond.instanceMethod yX0_init, Cond.code yX0_init cX0_init 1 none, Cond.methodLink RX0 3 objectInit, Cond.fieldLink RX0 9 "TheatreWall$Plan" "begins" "[I", Cond.fieldLink RX0 15 "TheatreWall$Plan" "keys" "[I", Cond.fieldLink RX0 18 "TheatreWall$Plan" "laidMask" "I", Cond.fieldLink RX0 22 "TheatreWall$Plan" "laidCount" "I", Cond.fieldLink RX0 25 "TheatreWall$Plan" "end" "I", Cond.instanceMethod yX2_init, Cond.code yX2_init cX2_init 1 none, Cond.methodLink RX2 3 objectInit, Cond.fieldLink RX2 9 "TheatreWall$Text" "codes" "[I", Cond.fieldLink RX2 15 "TheatreWall$Text" "size" "I"]
def wsX3_init : List Cond := .code yX3_init cX3_init 2 none :: ((wsX3_init_r1 ++ wsX3_init_r2) ++ wsX10 ++ wsX30 ++ wsX00 ++ wsX20)
def wsX3_isLength : List Cond := .code yX3_isLength cX3_isLength 1 (some .boolean) :: ([])
def wsX3_isPerson : List Cond := .code yX3_isPerson cX3_isPerson 1 (some .boolean) :: ([])
def wsX3_isPersonOrNone : List Cond := .code yX3_isPersonOrNone cX3_isPersonOrNone 1 (some .boolean) :: ([.methodLink RX3 168 yX3_isPerson, .static yX3_isPerson, .initialized RX3, .code yX3_isPerson cX3_isPerson 1 (some .boolean)])
def wsX3_isHall : List Cond := .code yX3_isHall cX3_isHall 1 (some .boolean) :: ([])
def wsX3_isHallOrNone : List Cond := .code yX3_isHallOrNone cX3_isHallOrNone 1 (some .boolean) :: ([.methodLink RX3 121 yX3_isHall, .static yX3_isHall, .initialized RX3, .code yX3_isHall cX3_isHall 1 (some .boolean)])
def wsX3_dropOldest : List Cond := .code yX3_dropOldest cX3_dropOldest 3 none :: ([.fieldLink RX3 29 "TheatreWall" "saved" "[LTheatreWall$State;", .fieldLink RX3 44 "TheatreWall" "savedCount" "I"] ++ wsX30)
def wsX3_saveState : List Cond := .code yX3_saveState cX3_saveState 1 none :: ([.fieldLink RX3 44 "TheatreWall" "savedCount" "I", .fieldLink RX3 29 "TheatreWall" "saved" "[LTheatreWall$State;", .fieldLink RX3 10 "TheatreWall" "now" "LTheatreWall$State;", .methodLink RX3 263 yX3_dropOldest, .instanceMethod yX3_dropOldest, .selects RX3 yX3_dropOldest yX3_dropOldest, .initialized RX3, .code yX3_dropOldest cX3_dropOldest 3 none, .methodLink RX3 154 yX1_copyFrom, .instanceMethod yX1_copyFrom, .selects RX1 yX1_copyFrom yX1_copyFrom, .initialized RX1, .code yX1_copyFrom cX1_copyFrom 3 none, .fieldLink RX1 33 "TheatreWall$State" "size" "I", .fieldLink RX1 37 "TheatreWall$State" "order" "I", .fieldLink RX1 9 "TheatreWall$State" "lengths" "[I", .fieldLink RX1 15 "TheatreWall$State" "persons" "[I", .fieldLink RX1 18 "TheatreWall$State" "halls" "[I", .fieldLink RX1 21 "TheatreWall$State" "earliest" "[I", .fieldLink RX1 24 "TheatreWall$State" "needs" "[I", .fieldLink RX1 27 "TheatreWall$State" "firstDays" "[I", .fieldLink RX1 30 "TheatreWall$State" "lastDays" "[I"] ++ wsX30 ++ wsX10)
def wsX3_add_r1 : List Cond := [Cond.classLink RX3 58 "java/lang/IllegalArgumentException", Cond.initialized "java/lang/IllegalArgumentException", Cond.classLink RX3 64 "java/lang/IllegalStateException", Cond.initialized "java/lang/IllegalStateException", Cond.fieldLink RX3 10 "TheatreWall" "now" "LTheatreWall$State;", Cond.fieldLink RX3 61 "TheatreWall$State" "size" "I", Cond.fieldLink RX3 19 "TheatreWall" "plan" "LTheatreWall$Plan;", Cond.methodLink RX3 48 yX3_isLength, Cond.static yX3_isLength, Cond.initialized RX3, Cond.code yX3_isLength cX3_isLength 1 (some .boolean), Cond.methodLink RX3 52 yX3_isPersonOrNone, Cond.static yX3_isPersonOrNone, Cond.code yX3_isPersonOrNone cX3_isPersonOrNone 1 (some .boolean), Cond.methodLink RX3 168 yX3_isPerson, Cond.static yX3_isPerson, Cond.code yX3_isPerson cX3_isPerson 1 (some .boolean), Cond.methodLink RX3 55 yX3_isHallOrNone, Cond.static yX3_isHallOrNone, Cond.code yX3_isHallOrNone cX3_isHallOrNone 1 (some .boolean), Cond.methodLink RX3 121 yX3_isHall, Cond.static yX3_isHall, Cond.code yX3_isHall cX3_isHall 1 (some .boolean), Cond.methodLink RX3 67 yX3_saveState]
def wsX3_add_r2 : List Cond := [Cond.instanceMethod yX3_saveState, Cond.selects RX3 yX3_saveState yX3_saveState, Cond.code yX3_saveState cX3_saveState 1 none, Cond.fieldLink RX3 44 "TheatreWall" "savedCount" "I", Cond.fieldLink RX3 29 "TheatreWall" "saved" "[LTheatreWall$State;", Cond.methodLink RX3 263 yX3_dropOldest, Cond.instanceMethod yX3_dropOldest, Cond.selects RX3 yX3_dropOldest yX3_dropOldest, Cond.code yX3_dropOldest cX3_dropOldest 3 none, Cond.methodLink RX3 154 yX1_copyFrom, Cond.instanceMethod yX1_copyFrom, Cond.selects RX1 yX1_copyFrom yX1_copyFrom, Cond.initialized RX1, Cond.code yX1_copyFrom cX1_copyFrom 3 none, Cond.fieldLink RX1 33 "TheatreWall$State" "size" "I", Cond.fieldLink RX1 37 "TheatreWall$State" "order" "I", Cond.fieldLink RX1 9 "TheatreWall$State" "lengths" "[I", Cond.fieldLink RX1 15 "TheatreWall$State" "persons" "[I", Cond.fieldLink RX1 18 "TheatreWall$State" "halls" "[I", Cond.fieldLink RX1 21 "TheatreWall$State" "earliest" "[I", Cond.fieldLink RX1 24 "TheatreWall$State" "needs" "[I", Cond.fieldLink RX1 27 "TheatreWall$State" "firstDays" "[I", Cond.fieldLink RX1 30 "TheatreWall$State" "lastDays" "[I", Cond.methodLink RX3 70 yX1_appendTask]
def wsX3_add_r3 : List Cond := [Cond.instanceMethod yX1_appendTask, Cond.selects RX1 yX1_appendTask yX1_appendTask, Cond.code yX1_appendTask cX1_appendTask 4 none, Cond.methodLink RX3 74 yX0_lay, Cond.instanceMethod yX0_lay, Cond.selects RX0 yX0_lay yX0_lay, Cond.initialized RX0, Cond.code yX0_lay cX0_lay 6 none, Cond.fieldLink RX0 18 "TheatreWall$Plan" "laidMask" "I", Cond.fieldLink RX0 22 "TheatreWall$Plan" "laidCount" "I", Cond.fieldLink RX0 25 "TheatreWall$Plan" "end" "I", Cond.fieldLink RX0 28 "TheatreWall$State" "size" "I", Cond.fieldLink RX0 9 "TheatreWall$Plan" "begins" "[I", Cond.fieldLink RX0 15 "TheatreWall$Plan" "keys" "[I", Cond.fieldLink RX0 44 "TheatreWall$State" "lengths" "[I", Cond.methodLink RX0 47 Lib.Math.max.name, Cond.static Lib.Math.max.name, Cond.initialized "java/lang/Math", Cond.code Lib.Math.max.name Lib.Math.max.code 2 (some .int), Cond.methodLink RX0 33 yX1_keyOf, Cond.instanceMethod yX1_keyOf, Cond.selects RX1 yX1_keyOf yX1_keyOf, Cond.code yX1_keyOf cX1_keyOf 2 (some .int), Cond.methodLink RX1 48 yX1_followers]
def wsX3_add_r4 : List Cond := [Cond.instanceMethod yX1_followers, Cond.selects RX1 yX1_followers yX1_followers, Cond.code yX1_followers cX1_followers 4 (some .int), Cond.methodLink RX1 44 yX1_isNeeded, Cond.instanceMethod yX1_isNeeded, Cond.selects RX1 yX1_isNeeded yX1_isNeeded, Cond.code yX1_isNeeded cX1_isNeeded 3 (some .boolean), Cond.methodLink RX0 37 yX0_firstByRule, Cond.instanceMethod yX0_firstByRule, Cond.selects RX0 yX0_firstByRule yX0_firstByRule, Cond.code yX0_firstByRule cX0_firstByRule 8 (some .int), Cond.fieldLink RX0 53 "TheatreWall$State" "needs" "[I", Cond.methodLink RX0 41 yX0_firstDay, Cond.instanceMethod yX0_firstDay, Cond.selects RX0 yX0_firstDay yX0_firstDay, Cond.code yX0_firstDay cX0_firstDay 8 (some .int), Cond.fieldLink RX0 59 "TheatreWall$State" "halls" "[I", Cond.fieldLink RX0 62 "TheatreWall$State" "firstDays" "[I", Cond.fieldLink RX0 65 "TheatreWall$State" "lastDays" "[I", Cond.methodLink RX0 56 yX0_startOf, Cond.instanceMethod yX0_startOf, Cond.selects RX0 yX0_startOf yX0_startOf, Cond.code yX0_startOf cX0_startOf 5 (some .int), Cond.fieldLink RX0 76 "TheatreWall$State" "earliest" "[I"]
def wsX3_add_r5 : List Cond := [Cond.methodLink RX0 79 yX1_isNeeded, Cond.methodLink RX0 68 yX0_behindClash, Cond.instanceMethod yX0_behindClash, Cond.selects RX0 yX0_behindClash yX0_behindClash, Cond.code yX0_behindClash cX0_behindClash 8 (some .int), Cond.methodLink RX0 72 yX1_share, Cond.instanceMethod yX1_share, Cond.selects RX1 yX1_share yX1_share, Cond.code yX1_share cX1_share 5 (some .boolean)]
def wsX3_add : List Cond := .code yX3_add cX3_add 4 (some .int) :: ((wsX3_add_r1 ++ (wsX3_add_r2 ++ (wsX3_add_r3 ++ (wsX3_add_r4 ++ wsX3_add_r5)))) ++ wsX30 ++ wsX10 ++ wsX00 ++ (vx_at0 RX3 60 "java/lang/IllegalArgumentException" ["java/lang/RuntimeException", "java/lang/Exception"]).filter goodWord ++ (vx_at0 RX3 66 "java/lang/IllegalStateException" ["java/lang/RuntimeException", "java/lang/Exception"]).filter goodWord)
def wsX3_isTask : List Cond := .code yX3_isTask cX3_isTask 2 (some .boolean) :: ([.fieldLink RX3 10 "TheatreWall" "now" "LTheatreWall$State;", .fieldLink RX3 61 "TheatreWall$State" "size" "I"] ++ wsX30 ++ wsX10)
def wsX3_remove_r1 : List Cond := [Cond.classLink RX3 81 "java/lang/IndexOutOfBoundsException", Cond.initialized "java/lang/IndexOutOfBoundsException", Cond.fieldLink RX3 10 "TheatreWall" "now" "LTheatreWall$State;", Cond.fieldLink RX3 19 "TheatreWall" "plan" "LTheatreWall$Plan;", Cond.methodLink RX3 78 yX3_isTask, Cond.instanceMethod yX3_isTask, Cond.selects RX3 yX3_isTask yX3_isTask, Cond.initialized RX3, Cond.code yX3_isTask cX3_isTask 2 (some .boolean), Cond.fieldLink RX3 61 "TheatreWall$State" "size" "I", Cond.methodLink RX3 84 yX1_followers, Cond.instanceMethod yX1_followers, Cond.selects RX1 yX1_followers yX1_followers, Cond.initialized RX1, Cond.code yX1_followers cX1_followers 4 (some .int), Cond.fieldLink RX1 33 "TheatreWall$State" "size" "I", Cond.methodLink RX1 44 yX1_isNeeded, Cond.instanceMethod yX1_isNeeded, Cond.selects RX1 yX1_isNeeded yX1_isNeeded, Cond.code yX1_isNeeded cX1_isNeeded 3 (some .boolean), Cond.fieldLink RX1 24 "TheatreWall$State" "needs" "[I", Cond.methodLink RX3 67 yX3_saveState, Cond.instanceMethod yX3_saveState, Cond.selects RX3 yX3_saveState yX3_saveState]
def wsX3_remove_r2 : List Cond := [Cond.code yX3_saveState cX3_saveState 1 none, Cond.fieldLink RX3 44 "TheatreWall" "savedCount" "I", Cond.fieldLink RX3 29 "TheatreWall" "saved" "[LTheatreWall$State;", Cond.methodLink RX3 263 yX3_dropOldest, Cond.instanceMethod yX3_dropOldest, Cond.selects RX3 yX3_dropOldest yX3_dropOldest, Cond.code yX3_dropOldest cX3_dropOldest 3 none, Cond.methodLink RX3 154 yX1_copyFrom, Cond.instanceMethod yX1_copyFrom, Cond.selects RX1 yX1_copyFrom yX1_copyFrom, Cond.code yX1_copyFrom cX1_copyFrom 3 none, Cond.fieldLink RX1 37 "TheatreWall$State" "order" "I", Cond.fieldLink RX1 9 "TheatreWall$State" "lengths" "[I", Cond.fieldLink RX1 15 "TheatreWall$State" "persons" "[I", Cond.fieldLink RX1 18 "TheatreWall$State" "halls" "[I", Cond.fieldLink RX1 21 "TheatreWall$State" "earliest" "[I", Cond.fieldLink RX1 27 "TheatreWall$State" "firstDays" "[I", Cond.fieldLink RX1 30 "TheatreWall$State" "lastDays" "[I", Cond.methodLink RX3 88 yX1_dropTask, Cond.instanceMethod yX1_dropTask, Cond.selects RX1 yX1_dropTask yX1_dropTask, Cond.code yX1_dropTask cX1_dropTask 3 none, Cond.methodLink RX1 40 yX1_withoutBit, Cond.static yX1_withoutBit]
def wsX3_remove_r3 : List Cond := [Cond.code yX1_withoutBit cX1_withoutBit 4 (some .int), Cond.methodLink RX3 74 yX0_lay, Cond.instanceMethod yX0_lay, Cond.selects RX0 yX0_lay yX0_lay, Cond.initialized RX0, Cond.code yX0_lay cX0_lay 6 none, Cond.fieldLink RX0 18 "TheatreWall$Plan" "laidMask" "I", Cond.fieldLink RX0 22 "TheatreWall$Plan" "laidCount" "I", Cond.fieldLink RX0 25 "TheatreWall$Plan" "end" "I", Cond.fieldLink RX0 28 "TheatreWall$State" "size" "I", Cond.fieldLink RX0 9 "TheatreWall$Plan" "begins" "[I", Cond.fieldLink RX0 15 "TheatreWall$Plan" "keys" "[I", Cond.fieldLink RX0 44 "TheatreWall$State" "lengths" "[I", Cond.methodLink RX0 47 Lib.Math.max.name, Cond.static Lib.Math.max.name, Cond.initialized "java/lang/Math", Cond.code Lib.Math.max.name Lib.Math.max.code 2 (some .int), Cond.methodLink RX0 33 yX1_keyOf, Cond.instanceMethod yX1_keyOf, Cond.selects RX1 yX1_keyOf yX1_keyOf, Cond.code yX1_keyOf cX1_keyOf 2 (some .int), Cond.methodLink RX1 48 yX1_followers, Cond.methodLink RX0 37 yX0_firstByRule, Cond.instanceMethod yX0_firstByRule]
def wsX3_remove_r4 : List Cond := [Cond.selects RX0 yX0_firstByRule yX0_firstByRule, Cond.code yX0_firstByRule cX0_firstByRule 8 (some .int), Cond.fieldLink RX0 53 "TheatreWall$State" "needs" "[I", Cond.methodLink RX0 41 yX0_firstDay, Cond.instanceMethod yX0_firstDay, Cond.selects RX0 yX0_firstDay yX0_firstDay, Cond.code yX0_firstDay cX0_firstDay 8 (some .int), Cond.fieldLink RX0 59 "TheatreWall$State" "halls" "[I", Cond.fieldLink RX0 62 "TheatreWall$State" "firstDays" "[I", Cond.fieldLink RX0 65 "TheatreWall$State" "lastDays" "[I", Cond.methodLink RX0 56 yX0_startOf, Cond.instanceMethod yX0_startOf, Cond.selects RX0 yX0_startOf yX0_startOf, Cond.code yX0_startOf cX0_startOf 5 (some .int), Cond.fieldLink RX0 76 "TheatreWall$State" "earliest" "[I", Cond.methodLink RX0 79 yX1_isNeeded, Cond.methodLink RX0 68 yX0_behindClash, Cond.instanceMethod yX0_behindClash, Cond.selects RX0 yX0_behindClash yX0_behindClash, Cond.code yX0_behindClash cX0_behindClash 8 (some .int), Cond.methodLink RX0 72 yX1_share, Cond.instanceMethod yX1_share, Cond.selects RX1 yX1_share yX1_share, Cond.code yX1_share cX1_share 5 (some .boolean)]
def wsX3_remove : List Cond := .code yX3_remove cX3_remove 3 (some .int) :: ((wsX3_remove_r1 ++ (wsX3_remove_r2 ++ (wsX3_remove_r3 ++ wsX3_remove_r4))) ++ wsX30 ++ wsX10 ++ wsX00 ++ (vx_at0 RX3 83 "java/lang/IndexOutOfBoundsException" ["java/lang/RuntimeException", "java/lang/Exception"]).filter goodWord)
def wsX3_need_r1 : List Cond := [Cond.classLink RX3 81 "java/lang/IndexOutOfBoundsException", Cond.initialized "java/lang/IndexOutOfBoundsException", Cond.classLink RX3 58 "java/lang/IllegalArgumentException", Cond.initialized "java/lang/IllegalArgumentException", Cond.fieldLink RX3 10 "TheatreWall" "now" "LTheatreWall$State;", Cond.fieldLink RX3 96 "TheatreWall$State" "needs" "[I", Cond.fieldLink RX3 19 "TheatreWall" "plan" "LTheatreWall$Plan;", Cond.methodLink RX3 78 yX3_isTask, Cond.instanceMethod yX3_isTask, Cond.selects RX3 yX3_isTask yX3_isTask, Cond.initialized RX3, Cond.code yX3_isTask cX3_isTask 2 (some .boolean), Cond.fieldLink RX3 61 "TheatreWall$State" "size" "I", Cond.methodLink RX3 92 yX1_isNeeded, Cond.instanceMethod yX1_isNeeded, Cond.selects RX1 yX1_isNeeded yX1_isNeeded, Cond.initialized RX1, Cond.code yX1_isNeeded cX1_isNeeded 3 (some .boolean), Cond.fieldLink RX1 24 "TheatreWall$State" "needs" "[I", Cond.methodLink RX3 67 yX3_saveState, Cond.instanceMethod yX3_saveState, Cond.selects RX3 yX3_saveState yX3_saveState, Cond.code yX3_saveState cX3_saveState 1 none, Cond.fieldLink RX3 44 "TheatreWall" "savedCount" "I"]
def wsX3_need_r2 : List Cond := [Cond.fieldLink RX3 29 "TheatreWall" "saved" "[LTheatreWall$State;", Cond.methodLink RX3 263 yX3_dropOldest, Cond.instanceMethod yX3_dropOldest, Cond.selects RX3 yX3_dropOldest yX3_dropOldest, Cond.code yX3_dropOldest cX3_dropOldest 3 none, Cond.methodLink RX3 154 yX1_copyFrom, Cond.instanceMethod yX1_copyFrom, Cond.selects RX1 yX1_copyFrom yX1_copyFrom, Cond.code yX1_copyFrom cX1_copyFrom 3 none, Cond.fieldLink RX1 33 "TheatreWall$State" "size" "I", Cond.fieldLink RX1 37 "TheatreWall$State" "order" "I", Cond.fieldLink RX1 9 "TheatreWall$State" "lengths" "[I", Cond.fieldLink RX1 15 "TheatreWall$State" "persons" "[I", Cond.fieldLink RX1 18 "TheatreWall$State" "halls" "[I", Cond.fieldLink RX1 21 "TheatreWall$State" "earliest" "[I", Cond.fieldLink RX1 27 "TheatreWall$State" "firstDays" "[I", Cond.fieldLink RX1 30 "TheatreWall$State" "lastDays" "[I", Cond.methodLink RX3 74 yX0_lay, Cond.instanceMethod yX0_lay, Cond.selects RX0 yX0_lay yX0_lay, Cond.initialized RX0, Cond.code yX0_lay cX0_lay 6 none, Cond.fieldLink RX0 18 "TheatreWall$Plan" "laidMask" "I", Cond.fieldLink RX0 22 "TheatreWall$Plan" "laidCount" "I"]
def wsX3_need_r3 : List Cond := [Cond.fieldLink RX0 25 "TheatreWall$Plan" "end" "I", Cond.fieldLink RX0 28 "TheatreWall$State" "size" "I", Cond.fieldLink RX0 9 "TheatreWall$Plan" "begins" "[I", Cond.fieldLink RX0 15 "TheatreWall$Plan" "keys" "[I", Cond.fieldLink RX0 44 "TheatreWall$State" "lengths" "[I", Cond.methodLink RX0 47 Lib.Math.max.name, Cond.static Lib.Math.max.name, Cond.initialized "java/lang/Math", Cond.code Lib.Math.max.name Lib.Math.max.code 2 (some .int), Cond.methodLink RX0 33 yX1_keyOf, Cond.instanceMethod yX1_keyOf, Cond.selects RX1 yX1_keyOf yX1_keyOf, Cond.code yX1_keyOf cX1_keyOf 2 (some .int), Cond.methodLink RX1 48 yX1_followers, Cond.instanceMethod yX1_followers, Cond.selects RX1 yX1_followers yX1_followers, Cond.code yX1_followers cX1_followers 4 (some .int), Cond.methodLink RX1 44 yX1_isNeeded, Cond.methodLink RX0 37 yX0_firstByRule, Cond.instanceMethod yX0_firstByRule, Cond.selects RX0 yX0_firstByRule yX0_firstByRule, Cond.code yX0_firstByRule cX0_firstByRule 8 (some .int), Cond.fieldLink RX0 53 "TheatreWall$State" "needs" "[I", Cond.methodLink RX0 41 yX0_firstDay]
def wsX3_need_r4 : List Cond := [Cond.instanceMethod yX0_firstDay, Cond.selects RX0 yX0_firstDay yX0_firstDay, Cond.code yX0_firstDay cX0_firstDay 8 (some .int), Cond.fieldLink RX0 59 "TheatreWall$State" "halls" "[I", Cond.fieldLink RX0 62 "TheatreWall$State" "firstDays" "[I", Cond.fieldLink RX0 65 "TheatreWall$State" "lastDays" "[I", Cond.methodLink RX0 56 yX0_startOf, Cond.instanceMethod yX0_startOf, Cond.selects RX0 yX0_startOf yX0_startOf, Cond.code yX0_startOf cX0_startOf 5 (some .int), Cond.fieldLink RX0 76 "TheatreWall$State" "earliest" "[I", Cond.methodLink RX0 79 yX1_isNeeded, Cond.methodLink RX0 68 yX0_behindClash, Cond.instanceMethod yX0_behindClash, Cond.selects RX0 yX0_behindClash yX0_behindClash, Cond.code yX0_behindClash cX0_behindClash 8 (some .int), Cond.methodLink RX0 72 yX1_share, Cond.instanceMethod yX1_share, Cond.selects RX1 yX1_share yX1_share, Cond.code yX1_share cX1_share 5 (some .boolean)]
def wsX3_need : List Cond := .code yX3_need cX3_need 5 (some .int) :: ((wsX3_need_r1 ++ (wsX3_need_r2 ++ (wsX3_need_r3 ++ wsX3_need_r4))) ++ wsX30 ++ wsX10 ++ wsX00 ++ (vx_at0 RX3 83 "java/lang/IndexOutOfBoundsException" ["java/lang/RuntimeException", "java/lang/Exception"]).filter goodWord ++ (vx_at0 RX3 60 "java/lang/IllegalArgumentException" ["java/lang/RuntimeException", "java/lang/Exception"]).filter goodWord)
def wsX3_isValue : List Cond := .code yX3_isValue cX3_isValue 2 (some .boolean) :: ([.methodLink RX3 48 yX3_isLength, .static yX3_isLength, .initialized RX3, .code yX3_isLength cX3_isLength 1 (some .boolean), .methodLink RX3 52 yX3_isPersonOrNone, .static yX3_isPersonOrNone, .code yX3_isPersonOrNone cX3_isPersonOrNone 1 (some .boolean), .methodLink RX3 168 yX3_isPerson, .static yX3_isPerson, .code yX3_isPerson cX3_isPerson 1 (some .boolean), .methodLink RX3 55 yX3_isHallOrNone, .static yX3_isHallOrNone, .code yX3_isHallOrNone cX3_isHallOrNone 1 (some .boolean), .methodLink RX3 121 yX3_isHall, .static yX3_isHall, .code yX3_isHall cX3_isHall 1 (some .boolean)])
def wsX3_change_r1 : List Cond := [Cond.classLink RX3 81 "java/lang/IndexOutOfBoundsException", Cond.initialized "java/lang/IndexOutOfBoundsException", Cond.classLink RX3 58 "java/lang/IllegalArgumentException", Cond.initialized "java/lang/IllegalArgumentException", Cond.fieldLink RX3 10 "TheatreWall" "now" "LTheatreWall$State;", Cond.fieldLink RX3 19 "TheatreWall" "plan" "LTheatreWall$Plan;", Cond.methodLink RX3 78 yX3_isTask, Cond.instanceMethod yX3_isTask, Cond.selects RX3 yX3_isTask yX3_isTask, Cond.initialized RX3, Cond.code yX3_isTask cX3_isTask 2 (some .boolean), Cond.fieldLink RX3 61 "TheatreWall$State" "size" "I", Cond.methodLink RX3 99 yX3_isValue, Cond.static yX3_isValue, Cond.code yX3_isValue cX3_isValue 2 (some .boolean), Cond.methodLink RX3 48 yX3_isLength, Cond.static yX3_isLength, Cond.code yX3_isLength cX3_isLength 1 (some .boolean), Cond.methodLink RX3 52 yX3_isPersonOrNone, Cond.static yX3_isPersonOrNone, Cond.code yX3_isPersonOrNone cX3_isPersonOrNone 1 (some .boolean), Cond.methodLink RX3 168 yX3_isPerson, Cond.static yX3_isPerson, Cond.code yX3_isPerson cX3_isPerson 1 (some .boolean)]
def wsX3_change_r2 : List Cond := [Cond.methodLink RX3 55 yX3_isHallOrNone, Cond.static yX3_isHallOrNone, Cond.code yX3_isHallOrNone cX3_isHallOrNone 1 (some .boolean), Cond.methodLink RX3 121 yX3_isHall, Cond.static yX3_isHall, Cond.code yX3_isHall cX3_isHall 1 (some .boolean), Cond.methodLink RX3 67 yX3_saveState, Cond.instanceMethod yX3_saveState, Cond.selects RX3 yX3_saveState yX3_saveState, Cond.code yX3_saveState cX3_saveState 1 none, Cond.fieldLink RX3 44 "TheatreWall" "savedCount" "I", Cond.fieldLink RX3 29 "TheatreWall" "saved" "[LTheatreWall$State;", Cond.methodLink RX3 263 yX3_dropOldest, Cond.instanceMethod yX3_dropOldest, Cond.selects RX3 yX3_dropOldest yX3_dropOldest, Cond.code yX3_dropOldest cX3_dropOldest 3 none, Cond.methodLink RX3 154 yX1_copyFrom, Cond.instanceMethod yX1_copyFrom, Cond.selects RX1 yX1_copyFrom yX1_copyFrom, Cond.initialized RX1, Cond.code yX1_copyFrom cX1_copyFrom 3 none, Cond.fieldLink RX1 33 "TheatreWall$State" "size" "I", Cond.fieldLink RX1 37 "TheatreWall$State" "order" "I", Cond.fieldLink RX1 9 "TheatreWall$State" "lengths" "[I"]
def wsX3_change_r3 : List Cond := [Cond.fieldLink RX1 15 "TheatreWall$State" "persons" "[I", Cond.fieldLink RX1 18 "TheatreWall$State" "halls" "[I", Cond.fieldLink RX1 21 "TheatreWall$State" "earliest" "[I", Cond.fieldLink RX1 24 "TheatreWall$State" "needs" "[I", Cond.fieldLink RX1 27 "TheatreWall$State" "firstDays" "[I", Cond.fieldLink RX1 30 "TheatreWall$State" "lastDays" "[I", Cond.methodLink RX3 102 yX1_property, Cond.instanceMethod yX1_property, Cond.selects RX1 yX1_property yX1_property, Cond.code yX1_property cX1_property 2 (some (.array .int)), Cond.methodLink RX3 74 yX0_lay, Cond.instanceMethod yX0_lay, Cond.selects RX0 yX0_lay yX0_lay, Cond.initialized RX0, Cond.code yX0_lay cX0_lay 6 none, Cond.fieldLink RX0 18 "TheatreWall$Plan" "laidMask" "I", Cond.fieldLink RX0 22 "TheatreWall$Plan" "laidCount" "I", Cond.fieldLink RX0 25 "TheatreWall$Plan" "end" "I", Cond.fieldLink RX0 28 "TheatreWall$State" "size" "I", Cond.fieldLink RX0 9 "TheatreWall$Plan" "begins" "[I", Cond.fieldLink RX0 15 "TheatreWall$Plan" "keys" "[I", Cond.fieldLink RX0 44 "TheatreWall$State" "lengths" "[I", Cond.methodLink RX0 47 Lib.Math.max.name, Cond.static Lib.Math.max.name]
def wsX3_change_r4 : List Cond := [Cond.initialized "java/lang/Math", Cond.code Lib.Math.max.name Lib.Math.max.code 2 (some .int), Cond.methodLink RX0 33 yX1_keyOf, Cond.instanceMethod yX1_keyOf, Cond.selects RX1 yX1_keyOf yX1_keyOf, Cond.code yX1_keyOf cX1_keyOf 2 (some .int), Cond.methodLink RX1 48 yX1_followers, Cond.instanceMethod yX1_followers, Cond.selects RX1 yX1_followers yX1_followers, Cond.code yX1_followers cX1_followers 4 (some .int), Cond.methodLink RX1 44 yX1_isNeeded, Cond.instanceMethod yX1_isNeeded, Cond.selects RX1 yX1_isNeeded yX1_isNeeded, Cond.code yX1_isNeeded cX1_isNeeded 3 (some .boolean), Cond.methodLink RX0 37 yX0_firstByRule, Cond.instanceMethod yX0_firstByRule, Cond.selects RX0 yX0_firstByRule yX0_firstByRule, Cond.code yX0_firstByRule cX0_firstByRule 8 (some .int), Cond.fieldLink RX0 53 "TheatreWall$State" "needs" "[I", Cond.methodLink RX0 41 yX0_firstDay, Cond.instanceMethod yX0_firstDay, Cond.selects RX0 yX0_firstDay yX0_firstDay, Cond.code yX0_firstDay cX0_firstDay 8 (some .int), Cond.fieldLink RX0 59 "TheatreWall$State" "halls" "[I"]
def wsX3_change_r5 : List Cond := [Cond.fieldLink RX0 62 "TheatreWall$State" "firstDays" "[I", Cond.fieldLink RX0 65 "TheatreWall$State" "lastDays" "[I", Cond.methodLink RX0 56 yX0_startOf, Cond.instanceMethod yX0_startOf, Cond.selects RX0 yX0_startOf yX0_startOf, Cond.code yX0_startOf cX0_startOf 5 (some .int), Cond.fieldLink RX0 76 "TheatreWall$State" "earliest" "[I", Cond.methodLink RX0 79 yX1_isNeeded, Cond.methodLink RX0 68 yX0_behindClash, Cond.instanceMethod yX0_behindClash, Cond.selects RX0 yX0_behindClash yX0_behindClash, Cond.code yX0_behindClash cX0_behindClash 8 (some .int), Cond.methodLink RX0 72 yX1_share, Cond.instanceMethod yX1_share, Cond.selects RX1 yX1_share yX1_share, Cond.code yX1_share cX1_share 5 (some .boolean)]
def wsX3_change : List Cond := .code yX3_change cX3_change 6 (some .int) :: ((wsX3_change_r1 ++ (wsX3_change_r2 ++ (wsX3_change_r3 ++ (wsX3_change_r4 ++ wsX3_change_r5)))) ++ wsX30 ++ wsX10 ++ wsX00 ++ (vx_at0 RX3 83 "java/lang/IndexOutOfBoundsException" ["java/lang/RuntimeException", "java/lang/Exception"]).filter goodWord ++ (vx_at0 RX3 60 "java/lang/IllegalArgumentException" ["java/lang/RuntimeException", "java/lang/Exception"]).filter goodWord)
def wsX3_isSlip : List Cond := .code yX3_isSlip cX3_isSlip 1 (some .boolean) :: ([])
def wsX3_couldSlip : List Cond := .code yX3_couldSlip cX3_couldSlip 4 (some .boolean) :: ([.fieldLink RX3 19 "TheatreWall" "plan" "LTheatreWall$Plan;", .fieldLink RX3 118 "TheatreWall$Plan" "begins" "[I"] ++ wsX30 ++ wsX00)
def wsX3_slip_r1 : List Cond := [Cond.classLink RX3 81 "java/lang/IndexOutOfBoundsException", Cond.initialized "java/lang/IndexOutOfBoundsException", Cond.classLink RX3 58 "java/lang/IllegalArgumentException", Cond.initialized "java/lang/IllegalArgumentException", Cond.classLink RX3 64 "java/lang/IllegalStateException", Cond.initialized "java/lang/IllegalStateException", Cond.fieldLink RX3 19 "TheatreWall" "plan" "LTheatreWall$Plan;", Cond.fieldLink RX3 112 "TheatreWall$Plan" "end" "I", Cond.fieldLink RX3 10 "TheatreWall" "now" "LTheatreWall$State;", Cond.fieldLink RX3 115 "TheatreWall$State" "earliest" "[I", Cond.fieldLink RX3 118 "TheatreWall$Plan" "begins" "[I", Cond.methodLink RX3 78 yX3_isTask, Cond.instanceMethod yX3_isTask, Cond.selects RX3 yX3_isTask yX3_isTask, Cond.initialized RX3, Cond.code yX3_isTask cX3_isTask 2 (some .boolean), Cond.fieldLink RX3 61 "TheatreWall$State" "size" "I", Cond.methodLink RX3 106 yX3_isSlip, Cond.static yX3_isSlip, Cond.code yX3_isSlip cX3_isSlip 1 (some .boolean), Cond.methodLink RX3 109 yX3_couldSlip, Cond.instanceMethod yX3_couldSlip, Cond.selects RX3 yX3_couldSlip yX3_couldSlip, Cond.code yX3_couldSlip cX3_couldSlip 4 (some .boolean)]
def wsX3_slip_r2 : List Cond := [Cond.methodLink RX3 67 yX3_saveState, Cond.instanceMethod yX3_saveState, Cond.selects RX3 yX3_saveState yX3_saveState, Cond.code yX3_saveState cX3_saveState 1 none, Cond.fieldLink RX3 44 "TheatreWall" "savedCount" "I", Cond.fieldLink RX3 29 "TheatreWall" "saved" "[LTheatreWall$State;", Cond.methodLink RX3 263 yX3_dropOldest, Cond.instanceMethod yX3_dropOldest, Cond.selects RX3 yX3_dropOldest yX3_dropOldest, Cond.code yX3_dropOldest cX3_dropOldest 3 none, Cond.methodLink RX3 154 yX1_copyFrom, Cond.instanceMethod yX1_copyFrom, Cond.selects RX1 yX1_copyFrom yX1_copyFrom, Cond.initialized RX1, Cond.code yX1_copyFrom cX1_copyFrom 3 none, Cond.fieldLink RX1 33 "TheatreWall$State" "size" "I", Cond.fieldLink RX1 37 "TheatreWall$State" "order" "I", Cond.fieldLink RX1 9 "TheatreWall$State" "lengths" "[I", Cond.fieldLink RX1 15 "TheatreWall$State" "persons" "[I", Cond.fieldLink RX1 18 "TheatreWall$State" "halls" "[I", Cond.fieldLink RX1 21 "TheatreWall$State" "earliest" "[I", Cond.fieldLink RX1 24 "TheatreWall$State" "needs" "[I", Cond.fieldLink RX1 27 "TheatreWall$State" "firstDays" "[I", Cond.fieldLink RX1 30 "TheatreWall$State" "lastDays" "[I"]
def wsX3_slip_r3 : List Cond := [Cond.methodLink RX3 74 yX0_lay, Cond.instanceMethod yX0_lay, Cond.selects RX0 yX0_lay yX0_lay, Cond.initialized RX0, Cond.code yX0_lay cX0_lay 6 none, Cond.fieldLink RX0 18 "TheatreWall$Plan" "laidMask" "I", Cond.fieldLink RX0 22 "TheatreWall$Plan" "laidCount" "I", Cond.fieldLink RX0 25 "TheatreWall$Plan" "end" "I", Cond.fieldLink RX0 28 "TheatreWall$State" "size" "I", Cond.fieldLink RX0 9 "TheatreWall$Plan" "begins" "[I", Cond.fieldLink RX0 15 "TheatreWall$Plan" "keys" "[I", Cond.fieldLink RX0 44 "TheatreWall$State" "lengths" "[I", Cond.methodLink RX0 47 Lib.Math.max.name, Cond.static Lib.Math.max.name, Cond.initialized "java/lang/Math", Cond.code Lib.Math.max.name Lib.Math.max.code 2 (some .int), Cond.methodLink RX0 33 yX1_keyOf, Cond.instanceMethod yX1_keyOf, Cond.selects RX1 yX1_keyOf yX1_keyOf, Cond.code yX1_keyOf cX1_keyOf 2 (some .int), Cond.methodLink RX1 48 yX1_followers, Cond.instanceMethod yX1_followers, Cond.selects RX1 yX1_followers yX1_followers, Cond.code yX1_followers cX1_followers 4 (some .int)]
def wsX3_slip_r4 : List Cond := [Cond.methodLink RX1 44 yX1_isNeeded, Cond.instanceMethod yX1_isNeeded, Cond.selects RX1 yX1_isNeeded yX1_isNeeded, Cond.code yX1_isNeeded cX1_isNeeded 3 (some .boolean), Cond.methodLink RX0 37 yX0_firstByRule, Cond.instanceMethod yX0_firstByRule, Cond.selects RX0 yX0_firstByRule yX0_firstByRule, Cond.code yX0_firstByRule cX0_firstByRule 8 (some .int), Cond.fieldLink RX0 53 "TheatreWall$State" "needs" "[I", Cond.methodLink RX0 41 yX0_firstDay, Cond.instanceMethod yX0_firstDay, Cond.selects RX0 yX0_firstDay yX0_firstDay, Cond.code yX0_firstDay cX0_firstDay 8 (some .int), Cond.fieldLink RX0 59 "TheatreWall$State" "halls" "[I", Cond.fieldLink RX0 62 "TheatreWall$State" "firstDays" "[I", Cond.fieldLink RX0 65 "TheatreWall$State" "lastDays" "[I", Cond.methodLink RX0 56 yX0_startOf, Cond.instanceMethod yX0_startOf, Cond.selects RX0 yX0_startOf yX0_startOf, Cond.code yX0_startOf cX0_startOf 5 (some .int), Cond.fieldLink RX0 76 "TheatreWall$State" "earliest" "[I", Cond.methodLink RX0 79 yX1_isNeeded, Cond.methodLink RX0 68 yX0_behindClash, Cond.instanceMethod yX0_behindClash]
def wsX3_slip_r5 : List Cond := [Cond.selects RX0 yX0_behindClash yX0_behindClash, Cond.code yX0_behindClash cX0_behindClash 8 (some .int), Cond.methodLink RX0 72 yX1_share, Cond.instanceMethod yX1_share, Cond.selects RX1 yX1_share yX1_share, Cond.code yX1_share cX1_share 5 (some .boolean)]
def wsX3_slip : List Cond := .code yX3_slip cX3_slip 4 (some .int) :: ((wsX3_slip_r1 ++ (wsX3_slip_r2 ++ (wsX3_slip_r3 ++ (wsX3_slip_r4 ++ wsX3_slip_r5)))) ++ wsX30 ++ wsX00 ++ wsX10 ++ (vx_at0 RX3 83 "java/lang/IndexOutOfBoundsException" ["java/lang/RuntimeException", "java/lang/Exception"]).filter goodWord ++ (vx_at0 RX3 60 "java/lang/IllegalArgumentException" ["java/lang/RuntimeException", "java/lang/Exception"]).filter goodWord ++ (vx_at0 RX3 66 "java/lang/IllegalStateException" ["java/lang/RuntimeException", "java/lang/Exception"]).filter goodWord)
def wsX3_isDay : List Cond := .code yX3_isDay cX3_isDay 1 (some .boolean) :: ([])
def wsX3_borrow_r1 : List Cond := [Cond.classLink RX3 81 "java/lang/IndexOutOfBoundsException", Cond.initialized "java/lang/IndexOutOfBoundsException", Cond.classLink RX3 58 "java/lang/IllegalArgumentException", Cond.initialized "java/lang/IllegalArgumentException", Cond.fieldLink RX3 10 "TheatreWall" "now" "LTheatreWall$State;", Cond.fieldLink RX3 127 "TheatreWall$State" "firstDays" "[I", Cond.fieldLink RX3 130 "TheatreWall$State" "lastDays" "[I", Cond.fieldLink RX3 19 "TheatreWall" "plan" "LTheatreWall$Plan;", Cond.fieldLink RX3 133 "TheatreWall$Plan" "laidCount" "I", Cond.methodLink RX3 121 yX3_isHall, Cond.static yX3_isHall, Cond.initialized RX3, Cond.code yX3_isHall cX3_isHall 1 (some .boolean), Cond.methodLink RX3 124 yX3_isDay, Cond.static yX3_isDay, Cond.code yX3_isDay cX3_isDay 1 (some .boolean), Cond.methodLink RX3 67 yX3_saveState, Cond.instanceMethod yX3_saveState, Cond.selects RX3 yX3_saveState yX3_saveState, Cond.code yX3_saveState cX3_saveState 1 none, Cond.fieldLink RX3 44 "TheatreWall" "savedCount" "I", Cond.fieldLink RX3 29 "TheatreWall" "saved" "[LTheatreWall$State;", Cond.methodLink RX3 263 yX3_dropOldest, Cond.instanceMethod yX3_dropOldest]
def wsX3_borrow_r2 : List Cond := [Cond.selects RX3 yX3_dropOldest yX3_dropOldest, Cond.code yX3_dropOldest cX3_dropOldest 3 none, Cond.methodLink RX3 154 yX1_copyFrom, Cond.instanceMethod yX1_copyFrom, Cond.selects RX1 yX1_copyFrom yX1_copyFrom, Cond.initialized RX1, Cond.code yX1_copyFrom cX1_copyFrom 3 none, Cond.fieldLink RX1 33 "TheatreWall$State" "size" "I", Cond.fieldLink RX1 37 "TheatreWall$State" "order" "I", Cond.fieldLink RX1 9 "TheatreWall$State" "lengths" "[I", Cond.fieldLink RX1 15 "TheatreWall$State" "persons" "[I", Cond.fieldLink RX1 18 "TheatreWall$State" "halls" "[I", Cond.fieldLink RX1 21 "TheatreWall$State" "earliest" "[I", Cond.fieldLink RX1 24 "TheatreWall$State" "needs" "[I", Cond.fieldLink RX1 27 "TheatreWall$State" "firstDays" "[I", Cond.fieldLink RX1 30 "TheatreWall$State" "lastDays" "[I", Cond.methodLink RX3 74 yX0_lay, Cond.instanceMethod yX0_lay, Cond.selects RX0 yX0_lay yX0_lay, Cond.initialized RX0, Cond.code yX0_lay cX0_lay 6 none, Cond.fieldLink RX0 18 "TheatreWall$Plan" "laidMask" "I", Cond.fieldLink RX0 22 "TheatreWall$Plan" "laidCount" "I", Cond.fieldLink RX0 25 "TheatreWall$Plan" "end" "I"]
def wsX3_borrow_r3 : List Cond := [Cond.fieldLink RX0 28 "TheatreWall$State" "size" "I", Cond.fieldLink RX0 9 "TheatreWall$Plan" "begins" "[I", Cond.fieldLink RX0 15 "TheatreWall$Plan" "keys" "[I", Cond.fieldLink RX0 44 "TheatreWall$State" "lengths" "[I", Cond.methodLink RX0 47 Lib.Math.max.name, Cond.static Lib.Math.max.name, Cond.initialized "java/lang/Math", Cond.code Lib.Math.max.name Lib.Math.max.code 2 (some .int), Cond.methodLink RX0 33 yX1_keyOf, Cond.instanceMethod yX1_keyOf, Cond.selects RX1 yX1_keyOf yX1_keyOf, Cond.code yX1_keyOf cX1_keyOf 2 (some .int), Cond.methodLink RX1 48 yX1_followers, Cond.instanceMethod yX1_followers, Cond.selects RX1 yX1_followers yX1_followers, Cond.code yX1_followers cX1_followers 4 (some .int), Cond.methodLink RX1 44 yX1_isNeeded, Cond.instanceMethod yX1_isNeeded, Cond.selects RX1 yX1_isNeeded yX1_isNeeded, Cond.code yX1_isNeeded cX1_isNeeded 3 (some .boolean), Cond.methodLink RX0 37 yX0_firstByRule, Cond.instanceMethod yX0_firstByRule, Cond.selects RX0 yX0_firstByRule yX0_firstByRule, Cond.code yX0_firstByRule cX0_firstByRule 8 (some .int)]
def wsX3_borrow_r4 : List Cond := [Cond.fieldLink RX0 53 "TheatreWall$State" "needs" "[I", Cond.methodLink RX0 41 yX0_firstDay, Cond.instanceMethod yX0_firstDay, Cond.selects RX0 yX0_firstDay yX0_firstDay, Cond.code yX0_firstDay cX0_firstDay 8 (some .int), Cond.fieldLink RX0 59 "TheatreWall$State" "halls" "[I", Cond.fieldLink RX0 62 "TheatreWall$State" "firstDays" "[I", Cond.fieldLink RX0 65 "TheatreWall$State" "lastDays" "[I", Cond.methodLink RX0 56 yX0_startOf, Cond.instanceMethod yX0_startOf, Cond.selects RX0 yX0_startOf yX0_startOf, Cond.code yX0_startOf cX0_startOf 5 (some .int), Cond.fieldLink RX0 76 "TheatreWall$State" "earliest" "[I", Cond.methodLink RX0 79 yX1_isNeeded, Cond.methodLink RX0 68 yX0_behindClash, Cond.instanceMethod yX0_behindClash, Cond.selects RX0 yX0_behindClash yX0_behindClash, Cond.code yX0_behindClash cX0_behindClash 8 (some .int), Cond.methodLink RX0 72 yX1_share, Cond.instanceMethod yX1_share, Cond.selects RX1 yX1_share yX1_share, Cond.code yX1_share cX1_share 5 (some .boolean)]
def wsX3_borrow : List Cond := .code yX3_borrow cX3_borrow 4 (some .int) :: ((wsX3_borrow_r1 ++ (wsX3_borrow_r2 ++ (wsX3_borrow_r3 ++ wsX3_borrow_r4))) ++ wsX30 ++ wsX10 ++ wsX00 ++ (vx_at0 RX3 83 "java/lang/IndexOutOfBoundsException" ["java/lang/RuntimeException", "java/lang/Exception"]).filter goodWord ++ (vx_at0 RX3 60 "java/lang/IllegalArgumentException" ["java/lang/RuntimeException", "java/lang/Exception"]).filter goodWord)
def wsX3_isRule : List Cond := .code yX3_isRule cX3_isRule 1 (some .boolean) :: ([])
def wsX3_rule_r1 : List Cond := [Cond.classLink RX3 58 "java/lang/IllegalArgumentException", Cond.initialized "java/lang/IllegalArgumentException", Cond.fieldLink RX3 10 "TheatreWall" "now" "LTheatreWall$State;", Cond.fieldLink RX3 139 "TheatreWall$State" "order" "I", Cond.fieldLink RX3 19 "TheatreWall" "plan" "LTheatreWall$Plan;", Cond.methodLink RX3 136 yX3_isRule, Cond.static yX3_isRule, Cond.initialized RX3, Cond.code yX3_isRule cX3_isRule 1 (some .boolean), Cond.methodLink RX3 67 yX3_saveState, Cond.instanceMethod yX3_saveState, Cond.selects RX3 yX3_saveState yX3_saveState, Cond.code yX3_saveState cX3_saveState 1 none, Cond.fieldLink RX3 44 "TheatreWall" "savedCount" "I", Cond.fieldLink RX3 29 "TheatreWall" "saved" "[LTheatreWall$State;", Cond.methodLink RX3 263 yX3_dropOldest, Cond.instanceMethod yX3_dropOldest, Cond.selects RX3 yX3_dropOldest yX3_dropOldest, Cond.code yX3_dropOldest cX3_dropOldest 3 none, Cond.methodLink RX3 154 yX1_copyFrom, Cond.instanceMethod yX1_copyFrom, Cond.selects RX1 yX1_copyFrom yX1_copyFrom, Cond.initialized RX1, Cond.code yX1_copyFrom cX1_copyFrom 3 none]
def wsX3_rule_r2 : List Cond := [Cond.fieldLink RX1 33 "TheatreWall$State" "size" "I", Cond.fieldLink RX1 37 "TheatreWall$State" "order" "I", Cond.fieldLink RX1 9 "TheatreWall$State" "lengths" "[I", Cond.fieldLink RX1 15 "TheatreWall$State" "persons" "[I", Cond.fieldLink RX1 18 "TheatreWall$State" "halls" "[I", Cond.fieldLink RX1 21 "TheatreWall$State" "earliest" "[I", Cond.fieldLink RX1 24 "TheatreWall$State" "needs" "[I", Cond.fieldLink RX1 27 "TheatreWall$State" "firstDays" "[I", Cond.fieldLink RX1 30 "TheatreWall$State" "lastDays" "[I", Cond.methodLink RX3 74 yX0_lay, Cond.instanceMethod yX0_lay, Cond.selects RX0 yX0_lay yX0_lay, Cond.initialized RX0, Cond.code yX0_lay cX0_lay 6 none, Cond.fieldLink RX0 18 "TheatreWall$Plan" "laidMask" "I", Cond.fieldLink RX0 22 "TheatreWall$Plan" "laidCount" "I", Cond.fieldLink RX0 25 "TheatreWall$Plan" "end" "I", Cond.fieldLink RX0 28 "TheatreWall$State" "size" "I", Cond.fieldLink RX0 9 "TheatreWall$Plan" "begins" "[I", Cond.fieldLink RX0 15 "TheatreWall$Plan" "keys" "[I", Cond.fieldLink RX0 44 "TheatreWall$State" "lengths" "[I", Cond.methodLink RX0 47 Lib.Math.max.name, Cond.static Lib.Math.max.name, Cond.initialized "java/lang/Math"]
def wsX3_rule_r3 : List Cond := [Cond.code Lib.Math.max.name Lib.Math.max.code 2 (some .int), Cond.methodLink RX0 33 yX1_keyOf, Cond.instanceMethod yX1_keyOf, Cond.selects RX1 yX1_keyOf yX1_keyOf, Cond.code yX1_keyOf cX1_keyOf 2 (some .int), Cond.methodLink RX1 48 yX1_followers, Cond.instanceMethod yX1_followers, Cond.selects RX1 yX1_followers yX1_followers, Cond.code yX1_followers cX1_followers 4 (some .int), Cond.methodLink RX1 44 yX1_isNeeded, Cond.instanceMethod yX1_isNeeded, Cond.selects RX1 yX1_isNeeded yX1_isNeeded, Cond.code yX1_isNeeded cX1_isNeeded 3 (some .boolean), Cond.methodLink RX0 37 yX0_firstByRule, Cond.instanceMethod yX0_firstByRule, Cond.selects RX0 yX0_firstByRule yX0_firstByRule, Cond.code yX0_firstByRule cX0_firstByRule 8 (some .int), Cond.fieldLink RX0 53 "TheatreWall$State" "needs" "[I", Cond.methodLink RX0 41 yX0_firstDay, Cond.instanceMethod yX0_firstDay, Cond.selects RX0 yX0_firstDay yX0_firstDay, Cond.code yX0_firstDay cX0_firstDay 8 (some .int), Cond.fieldLink RX0 59 "TheatreWall$State" "halls" "[I", Cond.fieldLink RX0 62 "TheatreWall$State" "firstDays" "[I"]
def wsX3_rule_r4 : List Cond := [Cond.fieldLink RX0 65 "TheatreWall$State" "lastDays" "[I", Cond.methodLink RX0 56 yX0_startOf, Cond.instanceMethod yX0_startOf, Cond.selects RX0 yX0_startOf yX0_startOf, Cond.code yX0_startOf cX0_startOf 5 (some .int), Cond.fieldLink RX0 76 "TheatreWall$State" "earliest" "[I", Cond.methodLink RX0 79 yX1_isNeeded, Cond.methodLink RX0 68 yX0_behindClash, Cond.instanceMethod yX0_behindClash, Cond.selects RX0 yX0_behindClash yX0_behindClash, Cond.code yX0_behindClash cX0_behindClash 8 (some .int), Cond.methodLink RX0 72 yX1_share, Cond.instanceMethod yX1_share, Cond.selects RX1 yX1_share yX1_share, Cond.code yX1_share cX1_share 5 (some .boolean)]
def wsX3_rule : List Cond := .code yX3_rule cX3_rule 3 (some .int) :: ((wsX3_rule_r1 ++ (wsX3_rule_r2 ++ (wsX3_rule_r3 ++ wsX3_rule_r4))) ++ wsX30 ++ wsX10 ++ wsX00 ++ (vx_at0 RX3 60 "java/lang/IllegalArgumentException" ["java/lang/RuntimeException", "java/lang/Exception"]).filter goodWord)
def wsX3_undo_r1 : List Cond := [Cond.classLink RX3 64 "java/lang/IllegalStateException", Cond.initialized "java/lang/IllegalStateException", Cond.fieldLink RX3 44 "TheatreWall" "savedCount" "I", Cond.fieldLink RX3 10 "TheatreWall" "now" "LTheatreWall$State;", Cond.fieldLink RX3 29 "TheatreWall" "saved" "[LTheatreWall$State;", Cond.fieldLink RX3 19 "TheatreWall" "plan" "LTheatreWall$Plan;", Cond.methodLink RX3 154 yX1_copyFrom, Cond.instanceMethod yX1_copyFrom, Cond.selects RX1 yX1_copyFrom yX1_copyFrom, Cond.initialized RX1, Cond.code yX1_copyFrom cX1_copyFrom 3 none, Cond.fieldLink RX1 33 "TheatreWall$State" "size" "I", Cond.fieldLink RX1 37 "TheatreWall$State" "order" "I", Cond.fieldLink RX1 9 "TheatreWall$State" "lengths" "[I", Cond.fieldLink RX1 15 "TheatreWall$State" "persons" "[I", Cond.fieldLink RX1 18 "TheatreWall$State" "halls" "[I", Cond.fieldLink RX1 21 "TheatreWall$State" "earliest" "[I", Cond.fieldLink RX1 24 "TheatreWall$State" "needs" "[I", Cond.fieldLink RX1 27 "TheatreWall$State" "firstDays" "[I", Cond.fieldLink RX1 30 "TheatreWall$State" "lastDays" "[I", Cond.methodLink RX3 74 yX0_lay, Cond.instanceMethod yX0_lay, Cond.selects RX0 yX0_lay yX0_lay, Cond.initialized RX0]
def wsX3_undo_r2 : List Cond := [Cond.code yX0_lay cX0_lay 6 none, Cond.fieldLink RX0 18 "TheatreWall$Plan" "laidMask" "I", Cond.fieldLink RX0 22 "TheatreWall$Plan" "laidCount" "I", Cond.fieldLink RX0 25 "TheatreWall$Plan" "end" "I", Cond.fieldLink RX0 28 "TheatreWall$State" "size" "I", Cond.fieldLink RX0 9 "TheatreWall$Plan" "begins" "[I", Cond.fieldLink RX0 15 "TheatreWall$Plan" "keys" "[I", Cond.fieldLink RX0 44 "TheatreWall$State" "lengths" "[I", Cond.methodLink RX0 47 Lib.Math.max.name, Cond.static Lib.Math.max.name, Cond.initialized "java/lang/Math", Cond.code Lib.Math.max.name Lib.Math.max.code 2 (some .int), Cond.methodLink RX0 33 yX1_keyOf, Cond.instanceMethod yX1_keyOf, Cond.selects RX1 yX1_keyOf yX1_keyOf, Cond.code yX1_keyOf cX1_keyOf 2 (some .int), Cond.methodLink RX1 48 yX1_followers, Cond.instanceMethod yX1_followers, Cond.selects RX1 yX1_followers yX1_followers, Cond.code yX1_followers cX1_followers 4 (some .int), Cond.methodLink RX1 44 yX1_isNeeded, Cond.instanceMethod yX1_isNeeded, Cond.selects RX1 yX1_isNeeded yX1_isNeeded, Cond.code yX1_isNeeded cX1_isNeeded 3 (some .boolean)]
def wsX3_undo_r3 : List Cond := [Cond.methodLink RX0 37 yX0_firstByRule, Cond.instanceMethod yX0_firstByRule, Cond.selects RX0 yX0_firstByRule yX0_firstByRule, Cond.code yX0_firstByRule cX0_firstByRule 8 (some .int), Cond.fieldLink RX0 53 "TheatreWall$State" "needs" "[I", Cond.methodLink RX0 41 yX0_firstDay, Cond.instanceMethod yX0_firstDay, Cond.selects RX0 yX0_firstDay yX0_firstDay, Cond.code yX0_firstDay cX0_firstDay 8 (some .int), Cond.fieldLink RX0 59 "TheatreWall$State" "halls" "[I", Cond.fieldLink RX0 62 "TheatreWall$State" "firstDays" "[I", Cond.fieldLink RX0 65 "TheatreWall$State" "lastDays" "[I", Cond.methodLink RX0 56 yX0_startOf, Cond.instanceMethod yX0_startOf, Cond.selects RX0 yX0_startOf yX0_startOf, Cond.code yX0_startOf cX0_startOf 5 (some .int), Cond.fieldLink RX0 76 "TheatreWall$State" "earliest" "[I", Cond.methodLink RX0 79 yX1_isNeeded, Cond.methodLink RX0 68 yX0_behindClash, Cond.instanceMethod yX0_behindClash, Cond.selects RX0 yX0_behindClash yX0_behindClash, Cond.code yX0_behindClash cX0_behindClash 8 (some .int), Cond.methodLink RX0 72 yX1_share, Cond.instanceMethod yX1_share]
def wsX3_undo_r4 : List Cond := [Cond.selects RX1 yX1_share yX1_share, Cond.code yX1_share cX1_share 5 (some .boolean)]
def wsX3_undo : List Cond := .code yX3_undo cX3_undo 1 (some .int) :: ((wsX3_undo_r1 ++ (wsX3_undo_r2 ++ (wsX3_undo_r3 ++ wsX3_undo_r4))) ++ wsX30 ++ wsX10 ++ wsX00 ++ (vx_at0 RX3 66 "java/lang/IllegalStateException" ["java/lang/RuntimeException", "java/lang/Exception"]).filter goodWord)
def wsX3_slackOf_r1 : List Cond := [Cond.fieldLink RX3 19 "TheatreWall" "plan" "LTheatreWall$Plan;", Cond.fieldLink RX3 118 "TheatreWall$Plan" "begins" "[I", Cond.fieldLink RX3 23 "TheatreWall" "trial" "LTheatreWall$State;", Cond.fieldLink RX3 10 "TheatreWall" "now" "LTheatreWall$State;", Cond.fieldLink RX3 115 "TheatreWall$State" "earliest" "[I", Cond.fieldLink RX3 26 "TheatreWall" "trialPlan" "LTheatreWall$Plan;", Cond.fieldLink RX3 133 "TheatreWall$Plan" "laidCount" "I", Cond.fieldLink RX3 112 "TheatreWall$Plan" "end" "I", Cond.methodLink RX3 154 yX1_copyFrom, Cond.instanceMethod yX1_copyFrom, Cond.selects RX1 yX1_copyFrom yX1_copyFrom, Cond.initialized RX1, Cond.code yX1_copyFrom cX1_copyFrom 3 none, Cond.fieldLink RX1 33 "TheatreWall$State" "size" "I", Cond.fieldLink RX1 37 "TheatreWall$State" "order" "I", Cond.fieldLink RX1 9 "TheatreWall$State" "lengths" "[I", Cond.fieldLink RX1 15 "TheatreWall$State" "persons" "[I", Cond.fieldLink RX1 18 "TheatreWall$State" "halls" "[I", Cond.fieldLink RX1 21 "TheatreWall$State" "earliest" "[I", Cond.fieldLink RX1 24 "TheatreWall$State" "needs" "[I", Cond.fieldLink RX1 27 "TheatreWall$State" "firstDays" "[I", Cond.fieldLink RX1 30 "TheatreWall$State" "lastDays" "[I", Cond.methodLink RX3 74 yX0_lay, Cond.instanceMethod yX0_lay]
def wsX3_slackOf_r2 : List Cond := [Cond.selects RX0 yX0_lay yX0_lay, Cond.initialized RX0, Cond.code yX0_lay cX0_lay 6 none, Cond.fieldLink RX0 18 "TheatreWall$Plan" "laidMask" "I", Cond.fieldLink RX0 22 "TheatreWall$Plan" "laidCount" "I", Cond.fieldLink RX0 25 "TheatreWall$Plan" "end" "I", Cond.fieldLink RX0 28 "TheatreWall$State" "size" "I", Cond.fieldLink RX0 9 "TheatreWall$Plan" "begins" "[I", Cond.fieldLink RX0 15 "TheatreWall$Plan" "keys" "[I", Cond.fieldLink RX0 44 "TheatreWall$State" "lengths" "[I", Cond.methodLink RX0 47 Lib.Math.max.name, Cond.static Lib.Math.max.name, Cond.initialized "java/lang/Math", Cond.code Lib.Math.max.name Lib.Math.max.code 2 (some .int), Cond.methodLink RX0 33 yX1_keyOf, Cond.instanceMethod yX1_keyOf, Cond.selects RX1 yX1_keyOf yX1_keyOf, Cond.code yX1_keyOf cX1_keyOf 2 (some .int), Cond.methodLink RX1 48 yX1_followers, Cond.instanceMethod yX1_followers, Cond.selects RX1 yX1_followers yX1_followers, Cond.code yX1_followers cX1_followers 4 (some .int), Cond.methodLink RX1 44 yX1_isNeeded, Cond.instanceMethod yX1_isNeeded]
def wsX3_slackOf_r3 : List Cond := [Cond.selects RX1 yX1_isNeeded yX1_isNeeded, Cond.code yX1_isNeeded cX1_isNeeded 3 (some .boolean), Cond.methodLink RX0 37 yX0_firstByRule, Cond.instanceMethod yX0_firstByRule, Cond.selects RX0 yX0_firstByRule yX0_firstByRule, Cond.code yX0_firstByRule cX0_firstByRule 8 (some .int), Cond.fieldLink RX0 53 "TheatreWall$State" "needs" "[I", Cond.methodLink RX0 41 yX0_firstDay, Cond.instanceMethod yX0_firstDay, Cond.selects RX0 yX0_firstDay yX0_firstDay, Cond.code yX0_firstDay cX0_firstDay 8 (some .int), Cond.fieldLink RX0 59 "TheatreWall$State" "halls" "[I", Cond.fieldLink RX0 62 "TheatreWall$State" "firstDays" "[I", Cond.fieldLink RX0 65 "TheatreWall$State" "lastDays" "[I", Cond.methodLink RX0 56 yX0_startOf, Cond.instanceMethod yX0_startOf, Cond.selects RX0 yX0_startOf yX0_startOf, Cond.code yX0_startOf cX0_startOf 5 (some .int), Cond.fieldLink RX0 76 "TheatreWall$State" "earliest" "[I", Cond.methodLink RX0 79 yX1_isNeeded, Cond.methodLink RX0 68 yX0_behindClash, Cond.instanceMethod yX0_behindClash, Cond.selects RX0 yX0_behindClash yX0_behindClash, Cond.code yX0_behindClash cX0_behindClash 8 (some .int)]
def wsX3_slackOf_r4 : List Cond := [Cond.methodLink RX0 72 yX1_share, Cond.instanceMethod yX1_share, Cond.selects RX1 yX1_share yX1_share, Cond.code yX1_share cX1_share 5 (some .boolean)]
def wsX3_slackOf : List Cond := .code yX3_slackOf cX3_slackOf 4 (some .int) :: ((wsX3_slackOf_r1 ++ (wsX3_slackOf_r2 ++ (wsX3_slackOf_r3 ++ wsX3_slackOf_r4))) ++ wsX30 ++ wsX00 ++ wsX10)
def wsX3_task_r1 : List Cond := [Cond.classLink RX3 81 "java/lang/IndexOutOfBoundsException", Cond.initialized "java/lang/IndexOutOfBoundsException", Cond.classLink RX3 58 "java/lang/IllegalArgumentException", Cond.initialized "java/lang/IllegalArgumentException", Cond.fieldLink RX3 10 "TheatreWall" "now" "LTheatreWall$State;", Cond.fieldLink RX3 19 "TheatreWall" "plan" "LTheatreWall$Plan;", Cond.fieldLink RX3 118 "TheatreWall$Plan" "begins" "[I", Cond.methodLink RX3 78 yX3_isTask, Cond.instanceMethod yX3_isTask, Cond.selects RX3 yX3_isTask yX3_isTask, Cond.initialized RX3, Cond.code yX3_isTask cX3_isTask 2 (some .boolean), Cond.fieldLink RX3 61 "TheatreWall$State" "size" "I", Cond.methodLink RX3 84 yX1_followers, Cond.instanceMethod yX1_followers, Cond.selects RX1 yX1_followers yX1_followers, Cond.initialized RX1, Cond.code yX1_followers cX1_followers 4 (some .int), Cond.fieldLink RX1 33 "TheatreWall$State" "size" "I", Cond.methodLink RX1 44 yX1_isNeeded, Cond.instanceMethod yX1_isNeeded, Cond.selects RX1 yX1_isNeeded yX1_isNeeded, Cond.code yX1_isNeeded cX1_isNeeded 3 (some .boolean), Cond.fieldLink RX1 24 "TheatreWall$State" "needs" "[I"]
def wsX3_task_r2 : List Cond := [Cond.methodLink RX3 161 yX3_slackOf, Cond.instanceMethod yX3_slackOf, Cond.selects RX3 yX3_slackOf yX3_slackOf, Cond.code yX3_slackOf cX3_slackOf 4 (some .int), Cond.fieldLink RX3 23 "TheatreWall" "trial" "LTheatreWall$State;", Cond.fieldLink RX3 115 "TheatreWall$State" "earliest" "[I", Cond.fieldLink RX3 26 "TheatreWall" "trialPlan" "LTheatreWall$Plan;", Cond.fieldLink RX3 133 "TheatreWall$Plan" "laidCount" "I", Cond.fieldLink RX3 112 "TheatreWall$Plan" "end" "I", Cond.methodLink RX3 154 yX1_copyFrom, Cond.instanceMethod yX1_copyFrom, Cond.selects RX1 yX1_copyFrom yX1_copyFrom, Cond.code yX1_copyFrom cX1_copyFrom 3 none, Cond.fieldLink RX1 37 "TheatreWall$State" "order" "I", Cond.fieldLink RX1 9 "TheatreWall$State" "lengths" "[I", Cond.fieldLink RX1 15 "TheatreWall$State" "persons" "[I", Cond.fieldLink RX1 18 "TheatreWall$State" "halls" "[I", Cond.fieldLink RX1 21 "TheatreWall$State" "earliest" "[I", Cond.fieldLink RX1 27 "TheatreWall$State" "firstDays" "[I", Cond.fieldLink RX1 30 "TheatreWall$State" "lastDays" "[I", Cond.methodLink RX3 74 yX0_lay, Cond.instanceMethod yX0_lay, Cond.selects RX0 yX0_lay yX0_lay, Cond.initialized RX0]
def wsX3_task_r3 : List Cond := [Cond.code yX0_lay cX0_lay 6 none, Cond.fieldLink RX0 18 "TheatreWall$Plan" "laidMask" "I", Cond.fieldLink RX0 22 "TheatreWall$Plan" "laidCount" "I", Cond.fieldLink RX0 25 "TheatreWall$Plan" "end" "I", Cond.fieldLink RX0 28 "TheatreWall$State" "size" "I", Cond.fieldLink RX0 9 "TheatreWall$Plan" "begins" "[I", Cond.fieldLink RX0 15 "TheatreWall$Plan" "keys" "[I", Cond.fieldLink RX0 44 "TheatreWall$State" "lengths" "[I", Cond.methodLink RX0 47 Lib.Math.max.name, Cond.static Lib.Math.max.name, Cond.initialized "java/lang/Math", Cond.code Lib.Math.max.name Lib.Math.max.code 2 (some .int), Cond.methodLink RX0 33 yX1_keyOf, Cond.instanceMethod yX1_keyOf, Cond.selects RX1 yX1_keyOf yX1_keyOf, Cond.code yX1_keyOf cX1_keyOf 2 (some .int), Cond.methodLink RX1 48 yX1_followers, Cond.methodLink RX0 37 yX0_firstByRule, Cond.instanceMethod yX0_firstByRule, Cond.selects RX0 yX0_firstByRule yX0_firstByRule, Cond.code yX0_firstByRule cX0_firstByRule 8 (some .int), Cond.fieldLink RX0 53 "TheatreWall$State" "needs" "[I", Cond.methodLink RX0 41 yX0_firstDay, Cond.instanceMethod yX0_firstDay]
def wsX3_task_r4 : List Cond := [Cond.selects RX0 yX0_firstDay yX0_firstDay, Cond.code yX0_firstDay cX0_firstDay 8 (some .int), Cond.fieldLink RX0 59 "TheatreWall$State" "halls" "[I", Cond.fieldLink RX0 62 "TheatreWall$State" "firstDays" "[I", Cond.fieldLink RX0 65 "TheatreWall$State" "lastDays" "[I", Cond.methodLink RX0 56 yX0_startOf, Cond.instanceMethod yX0_startOf, Cond.selects RX0 yX0_startOf yX0_startOf, Cond.code yX0_startOf cX0_startOf 5 (some .int), Cond.fieldLink RX0 76 "TheatreWall$State" "earliest" "[I", Cond.methodLink RX0 79 yX1_isNeeded, Cond.methodLink RX0 68 yX0_behindClash, Cond.instanceMethod yX0_behindClash, Cond.selects RX0 yX0_behindClash yX0_behindClash, Cond.code yX0_behindClash cX0_behindClash 8 (some .int), Cond.methodLink RX0 72 yX1_share, Cond.instanceMethod yX1_share, Cond.selects RX1 yX1_share yX1_share, Cond.code yX1_share cX1_share 5 (some .boolean), Cond.methodLink RX3 164 yX0_waitOf, Cond.instanceMethod yX0_waitOf, Cond.selects RX0 yX0_waitOf yX0_waitOf, Cond.code yX0_waitOf cX0_waitOf 3 (some .int), Cond.methodLink RX3 102 yX1_property]
def wsX3_task_r5 : List Cond := [Cond.instanceMethod yX1_property, Cond.selects RX1 yX1_property yX1_property, Cond.code yX1_property cX1_property 2 (some (.array .int))]
def wsX3_task : List Cond := .code yX3_task cX3_task 3 (some .int) :: ((wsX3_task_r1 ++ (wsX3_task_r2 ++ (wsX3_task_r3 ++ (wsX3_task_r4 ++ wsX3_task_r5)))) ++ wsX30 ++ wsX00 ++ wsX10 ++ (vx_at0 RX3 83 "java/lang/IndexOutOfBoundsException" ["java/lang/RuntimeException", "java/lang/Exception"]).filter goodWord ++ (vx_at0 RX3 60 "java/lang/IllegalArgumentException" ["java/lang/RuntimeException", "java/lang/Exception"]).filter goodWord)
def wsX3_personOn : List Cond := .code yX3_personOn cX3_personOn 3 (some .int) :: ([.classLink RX3 81 "java/lang/IndexOutOfBoundsException", .initialized "java/lang/IndexOutOfBoundsException", .fieldLink RX3 19 "TheatreWall" "plan" "LTheatreWall$Plan;", .fieldLink RX3 10 "TheatreWall" "now" "LTheatreWall$State;", .fieldLink RX3 171 "TheatreWall$State" "persons" "[I", .methodLink RX3 168 yX3_isPerson, .static yX3_isPerson, .initialized RX3, .code yX3_isPerson cX3_isPerson 1 (some .boolean), .methodLink RX3 124 yX3_isDay, .static yX3_isDay, .code yX3_isDay cX3_isDay 1 (some .boolean), .methodLink RX3 174 yX0_taskOn, .instanceMethod yX0_taskOn, .selects RX0 yX0_taskOn yX0_taskOn, .initialized RX0, .code yX0_taskOn cX0_taskOn 7 (some .int), .fieldLink RX0 28 "TheatreWall$State" "size" "I", .fieldLink RX0 9 "TheatreWall$Plan" "begins" "[I", .fieldLink RX0 44 "TheatreWall$State" "lengths" "[I"] ++ wsX30 ++ wsX10 ++ wsX00 ++ (vx_at0 RX3 83 "java/lang/IndexOutOfBoundsException" ["java/lang/RuntimeException", "java/lang/Exception"]).filter goodWord)
def wsX3_hallOn : List Cond := .code yX3_hallOn cX3_hallOn 3 (some .int) :: ([.classLink RX3 81 "java/lang/IndexOutOfBoundsException", .initialized "java/lang/IndexOutOfBoundsException", .fieldLink RX3 19 "TheatreWall" "plan" "LTheatreWall$Plan;", .fieldLink RX3 10 "TheatreWall" "now" "LTheatreWall$State;", .fieldLink RX3 178 "TheatreWall$State" "halls" "[I", .methodLink RX3 121 yX3_isHall, .static yX3_isHall, .initialized RX3, .code yX3_isHall cX3_isHall 1 (some .boolean), .methodLink RX3 124 yX3_isDay, .static yX3_isDay, .code yX3_isDay cX3_isDay 1 (some .boolean), .methodLink RX3 174 yX0_taskOn, .instanceMethod yX0_taskOn, .selects RX0 yX0_taskOn yX0_taskOn, .initialized RX0, .code yX0_taskOn cX0_taskOn 7 (some .int), .fieldLink RX0 28 "TheatreWall$State" "size" "I", .fieldLink RX0 9 "TheatreWall$Plan" "begins" "[I", .fieldLink RX0 44 "TheatreWall$State" "lengths" "[I"] ++ wsX30 ++ wsX10 ++ wsX00 ++ (vx_at0 RX3 83 "java/lang/IndexOutOfBoundsException" ["java/lang/RuntimeException", "java/lang/Exception"]).filter goodWord)
def wsX3_hall_r1 : List Cond := [Cond.classLink RX3 81 "java/lang/IndexOutOfBoundsException", Cond.initialized "java/lang/IndexOutOfBoundsException", Cond.classLink RX3 58 "java/lang/IllegalArgumentException", Cond.initialized "java/lang/IllegalArgumentException", Cond.fieldLink RX3 10 "TheatreWall" "now" "LTheatreWall$State;", Cond.fieldLink RX3 127 "TheatreWall$State" "firstDays" "[I", Cond.fieldLink RX3 130 "TheatreWall$State" "lastDays" "[I", Cond.fieldLink RX3 19 "TheatreWall" "plan" "LTheatreWall$Plan;", Cond.methodLink RX3 121 yX3_isHall, Cond.static yX3_isHall, Cond.initialized RX3, Cond.code yX3_isHall cX3_isHall 1 (some .boolean), Cond.methodLink RX3 181 yX0_daysIn, Cond.instanceMethod yX0_daysIn, Cond.selects RX0 yX0_daysIn yX0_daysIn, Cond.initialized RX0, Cond.code yX0_daysIn cX0_daysIn 5 (some .int), Cond.fieldLink RX0 28 "TheatreWall$State" "size" "I", Cond.fieldLink RX0 9 "TheatreWall$Plan" "begins" "[I", Cond.fieldLink RX0 59 "TheatreWall$State" "halls" "[I", Cond.fieldLink RX0 44 "TheatreWall$State" "lengths" "[I", Cond.methodLink RX3 184 yX0_tasksIn, Cond.instanceMethod yX0_tasksIn, Cond.selects RX0 yX0_tasksIn yX0_tasksIn]
def wsX3_hall_r2 : List Cond := [Cond.code yX0_tasksIn cX0_tasksIn 5 (some .int)]
def wsX3_hall : List Cond := .code yX3_hall cX3_hall 3 (some .int) :: ((wsX3_hall_r1 ++ wsX3_hall_r2) ++ wsX30 ++ wsX10 ++ wsX00 ++ (vx_at0 RX3 83 "java/lang/IndexOutOfBoundsException" ["java/lang/RuntimeException", "java/lang/Exception"]).filter goodWord ++ (vx_at0 RX3 60 "java/lang/IllegalArgumentException" ["java/lang/RuntimeException", "java/lang/Exception"]).filter goodWord)
def wsX3_criticalTasks_r1 : List Cond := [Cond.fieldLink RX3 10 "TheatreWall" "now" "LTheatreWall$State;", Cond.fieldLink RX3 61 "TheatreWall$State" "size" "I", Cond.methodLink RX3 161 yX3_slackOf, Cond.instanceMethod yX3_slackOf, Cond.selects RX3 yX3_slackOf yX3_slackOf, Cond.initialized RX3, Cond.code yX3_slackOf cX3_slackOf 4 (some .int), Cond.fieldLink RX3 19 "TheatreWall" "plan" "LTheatreWall$Plan;", Cond.fieldLink RX3 118 "TheatreWall$Plan" "begins" "[I", Cond.fieldLink RX3 23 "TheatreWall" "trial" "LTheatreWall$State;", Cond.fieldLink RX3 115 "TheatreWall$State" "earliest" "[I", Cond.fieldLink RX3 26 "TheatreWall" "trialPlan" "LTheatreWall$Plan;", Cond.fieldLink RX3 133 "TheatreWall$Plan" "laidCount" "I", Cond.fieldLink RX3 112 "TheatreWall$Plan" "end" "I", Cond.methodLink RX3 154 yX1_copyFrom, Cond.instanceMethod yX1_copyFrom, Cond.selects RX1 yX1_copyFrom yX1_copyFrom, Cond.initialized RX1, Cond.code yX1_copyFrom cX1_copyFrom 3 none, Cond.fieldLink RX1 33 "TheatreWall$State" "size" "I", Cond.fieldLink RX1 37 "TheatreWall$State" "order" "I", Cond.fieldLink RX1 9 "TheatreWall$State" "lengths" "[I", Cond.fieldLink RX1 15 "TheatreWall$State" "persons" "[I", Cond.fieldLink RX1 18 "TheatreWall$State" "halls" "[I"]
def wsX3_criticalTasks_r2 : List Cond := [Cond.fieldLink RX1 21 "TheatreWall$State" "earliest" "[I", Cond.fieldLink RX1 24 "TheatreWall$State" "needs" "[I", Cond.fieldLink RX1 27 "TheatreWall$State" "firstDays" "[I", Cond.fieldLink RX1 30 "TheatreWall$State" "lastDays" "[I", Cond.methodLink RX3 74 yX0_lay, Cond.instanceMethod yX0_lay, Cond.selects RX0 yX0_lay yX0_lay, Cond.initialized RX0, Cond.code yX0_lay cX0_lay 6 none, Cond.fieldLink RX0 18 "TheatreWall$Plan" "laidMask" "I", Cond.fieldLink RX0 22 "TheatreWall$Plan" "laidCount" "I", Cond.fieldLink RX0 25 "TheatreWall$Plan" "end" "I", Cond.fieldLink RX0 28 "TheatreWall$State" "size" "I", Cond.fieldLink RX0 9 "TheatreWall$Plan" "begins" "[I", Cond.fieldLink RX0 15 "TheatreWall$Plan" "keys" "[I", Cond.fieldLink RX0 44 "TheatreWall$State" "lengths" "[I", Cond.methodLink RX0 47 Lib.Math.max.name, Cond.static Lib.Math.max.name, Cond.initialized "java/lang/Math", Cond.code Lib.Math.max.name Lib.Math.max.code 2 (some .int), Cond.methodLink RX0 33 yX1_keyOf, Cond.instanceMethod yX1_keyOf, Cond.selects RX1 yX1_keyOf yX1_keyOf, Cond.code yX1_keyOf cX1_keyOf 2 (some .int)]
def wsX3_criticalTasks_r3 : List Cond := [Cond.methodLink RX1 48 yX1_followers, Cond.instanceMethod yX1_followers, Cond.selects RX1 yX1_followers yX1_followers, Cond.code yX1_followers cX1_followers 4 (some .int), Cond.methodLink RX1 44 yX1_isNeeded, Cond.instanceMethod yX1_isNeeded, Cond.selects RX1 yX1_isNeeded yX1_isNeeded, Cond.code yX1_isNeeded cX1_isNeeded 3 (some .boolean), Cond.methodLink RX0 37 yX0_firstByRule, Cond.instanceMethod yX0_firstByRule, Cond.selects RX0 yX0_firstByRule yX0_firstByRule, Cond.code yX0_firstByRule cX0_firstByRule 8 (some .int), Cond.fieldLink RX0 53 "TheatreWall$State" "needs" "[I", Cond.methodLink RX0 41 yX0_firstDay, Cond.instanceMethod yX0_firstDay, Cond.selects RX0 yX0_firstDay yX0_firstDay, Cond.code yX0_firstDay cX0_firstDay 8 (some .int), Cond.fieldLink RX0 59 "TheatreWall$State" "halls" "[I", Cond.fieldLink RX0 62 "TheatreWall$State" "firstDays" "[I", Cond.fieldLink RX0 65 "TheatreWall$State" "lastDays" "[I", Cond.methodLink RX0 56 yX0_startOf, Cond.instanceMethod yX0_startOf, Cond.selects RX0 yX0_startOf yX0_startOf, Cond.code yX0_startOf cX0_startOf 5 (some .int)]
def wsX3_criticalTasks_r4 : List Cond := [Cond.fieldLink RX0 76 "TheatreWall$State" "earliest" "[I", Cond.methodLink RX0 79 yX1_isNeeded, Cond.methodLink RX0 68 yX0_behindClash, Cond.instanceMethod yX0_behindClash, Cond.selects RX0 yX0_behindClash yX0_behindClash, Cond.code yX0_behindClash cX0_behindClash 8 (some .int), Cond.methodLink RX0 72 yX1_share, Cond.instanceMethod yX1_share, Cond.selects RX1 yX1_share yX1_share, Cond.code yX1_share cX1_share 5 (some .boolean)]
def wsX3_criticalTasks : List Cond := .code yX3_criticalTasks cX3_criticalTasks 3 (some .int) :: ((wsX3_criticalTasks_r1 ++ (wsX3_criticalTasks_r2 ++ (wsX3_criticalTasks_r3 ++ wsX3_criticalTasks_r4))) ++ wsX30 ++ wsX10 ++ wsX00)
def wsX3_longestRow : List Cond := .code yX3_longestRow cX3_longestRow 5 (some .int) :: ([.fieldLink RX3 10 "TheatreWall" "now" "LTheatreWall$State;", .fieldLink RX3 61 "TheatreWall$State" "size" "I", .fieldLink RX3 40 "TheatreWall" "rowSums" "[I", .methodLink RX3 266 Lib.Math.max.name, .static Lib.Math.max.name, .initialized "java/lang/Math", .code Lib.Math.max.name Lib.Math.max.code 2 (some .int), .fieldLink RX3 271 "TheatreWall$State" "lengths" "[I", .methodLink RX3 92 yX1_isNeeded, .instanceMethod yX1_isNeeded, .selects RX1 yX1_isNeeded yX1_isNeeded, .initialized RX1, .code yX1_isNeeded cX1_isNeeded 3 (some .boolean), .fieldLink RX1 24 "TheatreWall$State" "needs" "[I"] ++ wsX30 ++ wsX10)
def wsX3_count_r1 : List Cond := [Cond.classLink RX3 58 "java/lang/IllegalArgumentException", Cond.initialized "java/lang/IllegalArgumentException", Cond.fieldLink RX3 10 "TheatreWall" "now" "LTheatreWall$State;", Cond.fieldLink RX3 61 "TheatreWall$State" "size" "I", Cond.fieldLink RX3 19 "TheatreWall" "plan" "LTheatreWall$Plan;", Cond.fieldLink RX3 133 "TheatreWall$Plan" "laidCount" "I", Cond.fieldLink RX3 112 "TheatreWall$Plan" "end" "I", Cond.fieldLink RX3 44 "TheatreWall" "savedCount" "I", Cond.methodLink RX3 187 yX1_lengthOfAll, Cond.instanceMethod yX1_lengthOfAll, Cond.selects RX1 yX1_lengthOfAll yX1_lengthOfAll, Cond.initialized RX1, Cond.code yX1_lengthOfAll cX1_lengthOfAll 3 (some .int), Cond.fieldLink RX1 33 "TheatreWall$State" "size" "I", Cond.fieldLink RX1 9 "TheatreWall$State" "lengths" "[I", Cond.methodLink RX3 190 yX3_criticalTasks, Cond.instanceMethod yX3_criticalTasks, Cond.selects RX3 yX3_criticalTasks yX3_criticalTasks, Cond.initialized RX3, Cond.code yX3_criticalTasks cX3_criticalTasks 3 (some .int), Cond.methodLink RX3 161 yX3_slackOf, Cond.instanceMethod yX3_slackOf, Cond.selects RX3 yX3_slackOf yX3_slackOf, Cond.code yX3_slackOf cX3_slackOf 4 (some .int)]
def wsX3_count_r2 : List Cond := [Cond.fieldLink RX3 118 "TheatreWall$Plan" "begins" "[I", Cond.fieldLink RX3 23 "TheatreWall" "trial" "LTheatreWall$State;", Cond.fieldLink RX3 115 "TheatreWall$State" "earliest" "[I", Cond.fieldLink RX3 26 "TheatreWall" "trialPlan" "LTheatreWall$Plan;", Cond.methodLink RX3 154 yX1_copyFrom, Cond.instanceMethod yX1_copyFrom, Cond.selects RX1 yX1_copyFrom yX1_copyFrom, Cond.code yX1_copyFrom cX1_copyFrom 3 none, Cond.fieldLink RX1 37 "TheatreWall$State" "order" "I", Cond.fieldLink RX1 15 "TheatreWall$State" "persons" "[I", Cond.fieldLink RX1 18 "TheatreWall$State" "halls" "[I", Cond.fieldLink RX1 21 "TheatreWall$State" "earliest" "[I", Cond.fieldLink RX1 24 "TheatreWall$State" "needs" "[I", Cond.fieldLink RX1 27 "TheatreWall$State" "firstDays" "[I", Cond.fieldLink RX1 30 "TheatreWall$State" "lastDays" "[I", Cond.methodLink RX3 74 yX0_lay, Cond.instanceMethod yX0_lay, Cond.selects RX0 yX0_lay yX0_lay, Cond.initialized RX0, Cond.code yX0_lay cX0_lay 6 none, Cond.fieldLink RX0 18 "TheatreWall$Plan" "laidMask" "I", Cond.fieldLink RX0 22 "TheatreWall$Plan" "laidCount" "I", Cond.fieldLink RX0 25 "TheatreWall$Plan" "end" "I", Cond.fieldLink RX0 28 "TheatreWall$State" "size" "I"]
def wsX3_count_r3 : List Cond := [Cond.fieldLink RX0 9 "TheatreWall$Plan" "begins" "[I", Cond.fieldLink RX0 15 "TheatreWall$Plan" "keys" "[I", Cond.fieldLink RX0 44 "TheatreWall$State" "lengths" "[I", Cond.methodLink RX0 47 Lib.Math.max.name, Cond.static Lib.Math.max.name, Cond.initialized "java/lang/Math", Cond.code Lib.Math.max.name Lib.Math.max.code 2 (some .int), Cond.methodLink RX0 33 yX1_keyOf, Cond.instanceMethod yX1_keyOf, Cond.selects RX1 yX1_keyOf yX1_keyOf, Cond.code yX1_keyOf cX1_keyOf 2 (some .int), Cond.methodLink RX1 48 yX1_followers, Cond.instanceMethod yX1_followers, Cond.selects RX1 yX1_followers yX1_followers, Cond.code yX1_followers cX1_followers 4 (some .int), Cond.methodLink RX1 44 yX1_isNeeded, Cond.instanceMethod yX1_isNeeded, Cond.selects RX1 yX1_isNeeded yX1_isNeeded, Cond.code yX1_isNeeded cX1_isNeeded 3 (some .boolean), Cond.methodLink RX0 37 yX0_firstByRule, Cond.instanceMethod yX0_firstByRule, Cond.selects RX0 yX0_firstByRule yX0_firstByRule, Cond.code yX0_firstByRule cX0_firstByRule 8 (some .int), Cond.fieldLink RX0 53 "TheatreWall$State" "needs" "[I"]
def wsX3_count_r4 : List Cond := [Cond.methodLink RX0 41 yX0_firstDay, Cond.instanceMethod yX0_firstDay, Cond.selects RX0 yX0_firstDay yX0_firstDay, Cond.code yX0_firstDay cX0_firstDay 8 (some .int), Cond.fieldLink RX0 59 "TheatreWall$State" "halls" "[I", Cond.fieldLink RX0 62 "TheatreWall$State" "firstDays" "[I", Cond.fieldLink RX0 65 "TheatreWall$State" "lastDays" "[I", Cond.methodLink RX0 56 yX0_startOf, Cond.instanceMethod yX0_startOf, Cond.selects RX0 yX0_startOf yX0_startOf, Cond.code yX0_startOf cX0_startOf 5 (some .int), Cond.fieldLink RX0 76 "TheatreWall$State" "earliest" "[I", Cond.methodLink RX0 79 yX1_isNeeded, Cond.methodLink RX0 68 yX0_behindClash, Cond.instanceMethod yX0_behindClash, Cond.selects RX0 yX0_behindClash yX0_behindClash, Cond.code yX0_behindClash cX0_behindClash 8 (some .int), Cond.methodLink RX0 72 yX1_share, Cond.instanceMethod yX1_share, Cond.selects RX1 yX1_share yX1_share, Cond.code yX1_share cX1_share 5 (some .boolean), Cond.methodLink RX3 193 yX0_waitOfAll, Cond.instanceMethod yX0_waitOfAll, Cond.selects RX0 yX0_waitOfAll yX0_waitOfAll]
def wsX3_count_r5 : List Cond := [Cond.code yX0_waitOfAll cX0_waitOfAll 4 (some .int), Cond.methodLink RX0 82 yX0_waitOf, Cond.instanceMethod yX0_waitOf, Cond.selects RX0 yX0_waitOf yX0_waitOf, Cond.code yX0_waitOf cX0_waitOf 3 (some .int), Cond.methodLink RX3 197 yX3_longestRow, Cond.instanceMethod yX3_longestRow, Cond.selects RX3 yX3_longestRow yX3_longestRow, Cond.code yX3_longestRow cX3_longestRow 5 (some .int), Cond.fieldLink RX3 40 "TheatreWall" "rowSums" "[I", Cond.methodLink RX3 266 Lib.Math.max.name, Cond.fieldLink RX3 271 "TheatreWall$State" "lengths" "[I", Cond.methodLink RX3 92 yX1_isNeeded]
def wsX3_count : List Cond := .code yX3_count cX3_count 2 (some .int) :: ((wsX3_count_r1 ++ (wsX3_count_r2 ++ (wsX3_count_r3 ++ (wsX3_count_r4 ++ wsX3_count_r5)))) ++ wsX30 ++ wsX10 ++ wsX00 ++ (vx_at0 RX3 60 "java/lang/IllegalArgumentException" ["java/lang/RuntimeException", "java/lang/Exception"]).filter goodWord)
def wsX3_setting : List Cond := .code yX3_setting cX3_setting 1 (some .int) :: ([.fieldLink RX3 10 "TheatreWall" "now" "LTheatreWall$State;", .fieldLink RX3 139 "TheatreWall$State" "order" "I"] ++ wsX30 ++ wsX10)
def wsX3_tryRule_r1 : List Cond := [Cond.fieldLink RX3 23 "TheatreWall" "trial" "LTheatreWall$State;", Cond.fieldLink RX3 10 "TheatreWall" "now" "LTheatreWall$State;", Cond.fieldLink RX3 139 "TheatreWall$State" "order" "I", Cond.fieldLink RX3 26 "TheatreWall" "trialPlan" "LTheatreWall$Plan;", Cond.methodLink RX3 154 yX1_copyFrom, Cond.instanceMethod yX1_copyFrom, Cond.selects RX1 yX1_copyFrom yX1_copyFrom, Cond.initialized RX1, Cond.code yX1_copyFrom cX1_copyFrom 3 none, Cond.fieldLink RX1 33 "TheatreWall$State" "size" "I", Cond.fieldLink RX1 37 "TheatreWall$State" "order" "I", Cond.fieldLink RX1 9 "TheatreWall$State" "lengths" "[I", Cond.fieldLink RX1 15 "TheatreWall$State" "persons" "[I", Cond.fieldLink RX1 18 "TheatreWall$State" "halls" "[I", Cond.fieldLink RX1 21 "TheatreWall$State" "earliest" "[I", Cond.fieldLink RX1 24 "TheatreWall$State" "needs" "[I", Cond.fieldLink RX1 27 "TheatreWall$State" "firstDays" "[I", Cond.fieldLink RX1 30 "TheatreWall$State" "lastDays" "[I", Cond.methodLink RX3 74 yX0_lay, Cond.instanceMethod yX0_lay, Cond.selects RX0 yX0_lay yX0_lay, Cond.initialized RX0, Cond.code yX0_lay cX0_lay 6 none, Cond.fieldLink RX0 18 "TheatreWall$Plan" "laidMask" "I"]
def wsX3_tryRule_r2 : List Cond := [Cond.fieldLink RX0 22 "TheatreWall$Plan" "laidCount" "I", Cond.fieldLink RX0 25 "TheatreWall$Plan" "end" "I", Cond.fieldLink RX0 28 "TheatreWall$State" "size" "I", Cond.fieldLink RX0 9 "TheatreWall$Plan" "begins" "[I", Cond.fieldLink RX0 15 "TheatreWall$Plan" "keys" "[I", Cond.fieldLink RX0 44 "TheatreWall$State" "lengths" "[I", Cond.methodLink RX0 47 Lib.Math.max.name, Cond.static Lib.Math.max.name, Cond.initialized "java/lang/Math", Cond.code Lib.Math.max.name Lib.Math.max.code 2 (some .int), Cond.methodLink RX0 33 yX1_keyOf, Cond.instanceMethod yX1_keyOf, Cond.selects RX1 yX1_keyOf yX1_keyOf, Cond.code yX1_keyOf cX1_keyOf 2 (some .int), Cond.methodLink RX1 48 yX1_followers, Cond.instanceMethod yX1_followers, Cond.selects RX1 yX1_followers yX1_followers, Cond.code yX1_followers cX1_followers 4 (some .int), Cond.methodLink RX1 44 yX1_isNeeded, Cond.instanceMethod yX1_isNeeded, Cond.selects RX1 yX1_isNeeded yX1_isNeeded, Cond.code yX1_isNeeded cX1_isNeeded 3 (some .boolean), Cond.methodLink RX0 37 yX0_firstByRule, Cond.instanceMethod yX0_firstByRule]
def wsX3_tryRule_r3 : List Cond := [Cond.selects RX0 yX0_firstByRule yX0_firstByRule, Cond.code yX0_firstByRule cX0_firstByRule 8 (some .int), Cond.fieldLink RX0 53 "TheatreWall$State" "needs" "[I", Cond.methodLink RX0 41 yX0_firstDay, Cond.instanceMethod yX0_firstDay, Cond.selects RX0 yX0_firstDay yX0_firstDay, Cond.code yX0_firstDay cX0_firstDay 8 (some .int), Cond.fieldLink RX0 59 "TheatreWall$State" "halls" "[I", Cond.fieldLink RX0 62 "TheatreWall$State" "firstDays" "[I", Cond.fieldLink RX0 65 "TheatreWall$State" "lastDays" "[I", Cond.methodLink RX0 56 yX0_startOf, Cond.instanceMethod yX0_startOf, Cond.selects RX0 yX0_startOf yX0_startOf, Cond.code yX0_startOf cX0_startOf 5 (some .int), Cond.fieldLink RX0 76 "TheatreWall$State" "earliest" "[I", Cond.methodLink RX0 79 yX1_isNeeded, Cond.methodLink RX0 68 yX0_behindClash, Cond.instanceMethod yX0_behindClash, Cond.selects RX0 yX0_behindClash yX0_behindClash, Cond.code yX0_behindClash cX0_behindClash 8 (some .int), Cond.methodLink RX0 72 yX1_share, Cond.instanceMethod yX1_share, Cond.selects RX1 yX1_share yX1_share, Cond.code yX1_share cX1_share 5 (some .boolean)]
def wsX3_tryRule : List Cond := .code yX3_tryRule cX3_tryRule 2 none :: ((wsX3_tryRule_r1 ++ (wsX3_tryRule_r2 ++ wsX3_tryRule_r3)) ++ wsX30 ++ wsX10 ++ wsX00)
def wsX3_ifRule_r1 : List Cond := [Cond.classLink RX3 58 "java/lang/IllegalArgumentException", Cond.initialized "java/lang/IllegalArgumentException", Cond.fieldLink RX3 26 "TheatreWall" "trialPlan" "LTheatreWall$Plan;", Cond.fieldLink RX3 112 "TheatreWall$Plan" "end" "I", Cond.fieldLink RX3 133 "TheatreWall$Plan" "laidCount" "I", Cond.fieldLink RX3 23 "TheatreWall" "trial" "LTheatreWall$State;", Cond.methodLink RX3 136 yX3_isRule, Cond.static yX3_isRule, Cond.initialized RX3, Cond.code yX3_isRule cX3_isRule 1 (some .boolean), Cond.methodLink RX3 200 yX3_tryRule, Cond.instanceMethod yX3_tryRule, Cond.selects RX3 yX3_tryRule yX3_tryRule, Cond.code yX3_tryRule cX3_tryRule 2 none, Cond.fieldLink RX3 10 "TheatreWall" "now" "LTheatreWall$State;", Cond.fieldLink RX3 139 "TheatreWall$State" "order" "I", Cond.methodLink RX3 154 yX1_copyFrom, Cond.instanceMethod yX1_copyFrom, Cond.selects RX1 yX1_copyFrom yX1_copyFrom, Cond.initialized RX1, Cond.code yX1_copyFrom cX1_copyFrom 3 none, Cond.fieldLink RX1 33 "TheatreWall$State" "size" "I", Cond.fieldLink RX1 37 "TheatreWall$State" "order" "I", Cond.fieldLink RX1 9 "TheatreWall$State" "lengths" "[I"]
def wsX3_ifRule_r2 : List Cond := [Cond.fieldLink RX1 15 "TheatreWall$State" "persons" "[I", Cond.fieldLink RX1 18 "TheatreWall$State" "halls" "[I", Cond.fieldLink RX1 21 "TheatreWall$State" "earliest" "[I", Cond.fieldLink RX1 24 "TheatreWall$State" "needs" "[I", Cond.fieldLink RX1 27 "TheatreWall$State" "firstDays" "[I", Cond.fieldLink RX1 30 "TheatreWall$State" "lastDays" "[I", Cond.methodLink RX3 74 yX0_lay, Cond.instanceMethod yX0_lay, Cond.selects RX0 yX0_lay yX0_lay, Cond.initialized RX0, Cond.code yX0_lay cX0_lay 6 none, Cond.fieldLink RX0 18 "TheatreWall$Plan" "laidMask" "I", Cond.fieldLink RX0 22 "TheatreWall$Plan" "laidCount" "I", Cond.fieldLink RX0 25 "TheatreWall$Plan" "end" "I", Cond.fieldLink RX0 28 "TheatreWall$State" "size" "I", Cond.fieldLink RX0 9 "TheatreWall$Plan" "begins" "[I", Cond.fieldLink RX0 15 "TheatreWall$Plan" "keys" "[I", Cond.fieldLink RX0 44 "TheatreWall$State" "lengths" "[I", Cond.methodLink RX0 47 Lib.Math.max.name, Cond.static Lib.Math.max.name, Cond.initialized "java/lang/Math", Cond.code Lib.Math.max.name Lib.Math.max.code 2 (some .int), Cond.methodLink RX0 33 yX1_keyOf, Cond.instanceMethod yX1_keyOf]
def wsX3_ifRule_r3 : List Cond := [Cond.selects RX1 yX1_keyOf yX1_keyOf, Cond.code yX1_keyOf cX1_keyOf 2 (some .int), Cond.methodLink RX1 48 yX1_followers, Cond.instanceMethod yX1_followers, Cond.selects RX1 yX1_followers yX1_followers, Cond.code yX1_followers cX1_followers 4 (some .int), Cond.methodLink RX1 44 yX1_isNeeded, Cond.instanceMethod yX1_isNeeded, Cond.selects RX1 yX1_isNeeded yX1_isNeeded, Cond.code yX1_isNeeded cX1_isNeeded 3 (some .boolean), Cond.methodLink RX0 37 yX0_firstByRule, Cond.instanceMethod yX0_firstByRule, Cond.selects RX0 yX0_firstByRule yX0_firstByRule, Cond.code yX0_firstByRule cX0_firstByRule 8 (some .int), Cond.fieldLink RX0 53 "TheatreWall$State" "needs" "[I", Cond.methodLink RX0 41 yX0_firstDay, Cond.instanceMethod yX0_firstDay, Cond.selects RX0 yX0_firstDay yX0_firstDay, Cond.code yX0_firstDay cX0_firstDay 8 (some .int), Cond.fieldLink RX0 59 "TheatreWall$State" "halls" "[I", Cond.fieldLink RX0 62 "TheatreWall$State" "firstDays" "[I", Cond.fieldLink RX0 65 "TheatreWall$State" "lastDays" "[I", Cond.methodLink RX0 56 yX0_startOf, Cond.instanceMethod yX0_startOf]
def wsX3_ifRule_r4 : List Cond := [Cond.selects RX0 yX0_startOf yX0_startOf, Cond.code yX0_startOf cX0_startOf 5 (some .int), Cond.fieldLink RX0 76 "TheatreWall$State" "earliest" "[I", Cond.methodLink RX0 79 yX1_isNeeded, Cond.methodLink RX0 68 yX0_behindClash, Cond.instanceMethod yX0_behindClash, Cond.selects RX0 yX0_behindClash yX0_behindClash, Cond.code yX0_behindClash cX0_behindClash 8 (some .int), Cond.methodLink RX0 72 yX1_share, Cond.instanceMethod yX1_share, Cond.selects RX1 yX1_share yX1_share, Cond.code yX1_share cX1_share 5 (some .boolean), Cond.methodLink RX3 193 yX0_waitOfAll, Cond.instanceMethod yX0_waitOfAll, Cond.selects RX0 yX0_waitOfAll yX0_waitOfAll, Cond.code yX0_waitOfAll cX0_waitOfAll 4 (some .int), Cond.methodLink RX0 82 yX0_waitOf, Cond.instanceMethod yX0_waitOf, Cond.selects RX0 yX0_waitOf yX0_waitOf, Cond.code yX0_waitOf cX0_waitOf 3 (some .int)]
def wsX3_ifRule : List Cond := .code yX3_ifRule cX3_ifRule 3 (some .int) :: ((wsX3_ifRule_r1 ++ (wsX3_ifRule_r2 ++ (wsX3_ifRule_r3 ++ wsX3_ifRule_r4))) ++ wsX30 ++ wsX00 ++ wsX10 ++ (vx_at0 RX3 60 "java/lang/IllegalArgumentException" ["java/lang/RuntimeException", "java/lang/Exception"]).filter goodWord)
def wsX3_worstSlip_r1 : List Cond := [Cond.classLink RX3 58 "java/lang/IllegalArgumentException", Cond.initialized "java/lang/IllegalArgumentException", Cond.fieldLink RX3 10 "TheatreWall" "now" "LTheatreWall$State;", Cond.fieldLink RX3 61 "TheatreWall$State" "size" "I", Cond.fieldLink RX3 23 "TheatreWall" "trial" "LTheatreWall$State;", Cond.fieldLink RX3 115 "TheatreWall$State" "earliest" "[I", Cond.fieldLink RX3 19 "TheatreWall" "plan" "LTheatreWall$Plan;", Cond.fieldLink RX3 118 "TheatreWall$Plan" "begins" "[I", Cond.fieldLink RX3 26 "TheatreWall" "trialPlan" "LTheatreWall$Plan;", Cond.fieldLink RX3 112 "TheatreWall$Plan" "end" "I", Cond.methodLink RX3 106 yX3_isSlip, Cond.static yX3_isSlip, Cond.initialized RX3, Cond.code yX3_isSlip cX3_isSlip 1 (some .boolean), Cond.methodLink RX3 109 yX3_couldSlip, Cond.instanceMethod yX3_couldSlip, Cond.selects RX3 yX3_couldSlip yX3_couldSlip, Cond.code yX3_couldSlip cX3_couldSlip 4 (some .boolean), Cond.methodLink RX3 154 yX1_copyFrom, Cond.instanceMethod yX1_copyFrom, Cond.selects RX1 yX1_copyFrom yX1_copyFrom, Cond.initialized RX1, Cond.code yX1_copyFrom cX1_copyFrom 3 none, Cond.fieldLink RX1 33 "TheatreWall$State" "size" "I"]
def wsX3_worstSlip_r2 : List Cond := [Cond.fieldLink RX1 37 "TheatreWall$State" "order" "I", Cond.fieldLink RX1 9 "TheatreWall$State" "lengths" "[I", Cond.fieldLink RX1 15 "TheatreWall$State" "persons" "[I", Cond.fieldLink RX1 18 "TheatreWall$State" "halls" "[I", Cond.fieldLink RX1 21 "TheatreWall$State" "earliest" "[I", Cond.fieldLink RX1 24 "TheatreWall$State" "needs" "[I", Cond.fieldLink RX1 27 "TheatreWall$State" "firstDays" "[I", Cond.fieldLink RX1 30 "TheatreWall$State" "lastDays" "[I", Cond.methodLink RX3 74 yX0_lay, Cond.instanceMethod yX0_lay, Cond.selects RX0 yX0_lay yX0_lay, Cond.initialized RX0, Cond.code yX0_lay cX0_lay 6 none, Cond.fieldLink RX0 18 "TheatreWall$Plan" "laidMask" "I", Cond.fieldLink RX0 22 "TheatreWall$Plan" "laidCount" "I", Cond.fieldLink RX0 25 "TheatreWall$Plan" "end" "I", Cond.fieldLink RX0 28 "TheatreWall$State" "size" "I", Cond.fieldLink RX0 9 "TheatreWall$Plan" "begins" "[I", Cond.fieldLink RX0 15 "TheatreWall$Plan" "keys" "[I", Cond.fieldLink RX0 44 "TheatreWall$State" "lengths" "[I", Cond.methodLink RX0 47 Lib.Math.max.name, Cond.static Lib.Math.max.name, Cond.initialized "java/lang/Math", Cond.code Lib.Math.max.name Lib.Math.max.code 2 (some .int)]
def wsX3_worstSlip_r3 : List Cond := [Cond.methodLink RX0 33 yX1_keyOf, Cond.instanceMethod yX1_keyOf, Cond.selects RX1 yX1_keyOf yX1_keyOf, Cond.code yX1_keyOf cX1_keyOf 2 (some .int), Cond.methodLink RX1 48 yX1_followers, Cond.instanceMethod yX1_followers, Cond.selects RX1 yX1_followers yX1_followers, Cond.code yX1_followers cX1_followers 4 (some .int), Cond.methodLink RX1 44 yX1_isNeeded, Cond.instanceMethod yX1_isNeeded, Cond.selects RX1 yX1_isNeeded yX1_isNeeded, Cond.code yX1_isNeeded cX1_isNeeded 3 (some .boolean), Cond.methodLink RX0 37 yX0_firstByRule, Cond.instanceMethod yX0_firstByRule, Cond.selects RX0 yX0_firstByRule yX0_firstByRule, Cond.code yX0_firstByRule cX0_firstByRule 8 (some .int), Cond.fieldLink RX0 53 "TheatreWall$State" "needs" "[I", Cond.methodLink RX0 41 yX0_firstDay, Cond.instanceMethod yX0_firstDay, Cond.selects RX0 yX0_firstDay yX0_firstDay, Cond.code yX0_firstDay cX0_firstDay 8 (some .int), Cond.fieldLink RX0 59 "TheatreWall$State" "halls" "[I", Cond.fieldLink RX0 62 "TheatreWall$State" "firstDays" "[I", Cond.fieldLink RX0 65 "TheatreWall$State" "lastDays" "[I"]
def wsX3_worstSlip_r4 : List Cond := [Cond.methodLink RX0 56 yX0_startOf, Cond.instanceMethod yX0_startOf, Cond.selects RX0 yX0_startOf yX0_startOf, Cond.code yX0_startOf cX0_startOf 5 (some .int), Cond.fieldLink RX0 76 "TheatreWall$State" "earliest" "[I", Cond.methodLink RX0 79 yX1_isNeeded, Cond.methodLink RX0 68 yX0_behindClash, Cond.instanceMethod yX0_behindClash, Cond.selects RX0 yX0_behindClash yX0_behindClash, Cond.code yX0_behindClash cX0_behindClash 8 (some .int), Cond.methodLink RX0 72 yX1_share, Cond.instanceMethod yX1_share, Cond.selects RX1 yX1_share yX1_share, Cond.code yX1_share cX1_share 5 (some .boolean)]
def wsX3_worstSlip : List Cond := .code yX3_worstSlip cX3_worstSlip 5 (some .int) :: ((wsX3_worstSlip_r1 ++ (wsX3_worstSlip_r2 ++ (wsX3_worstSlip_r3 ++ wsX3_worstSlip_r4))) ++ wsX30 ++ wsX10 ++ wsX00 ++ (vx_at0 RX3 60 "java/lang/IllegalArgumentException" ["java/lang/RuntimeException", "java/lang/Exception"]).filter goodWord)
def wsX3_busyness : List Cond := .code yX3_busyness cX3_busyness 2 (some .double) :: ([.fieldLink RX3 19 "TheatreWall" "plan" "LTheatreWall$Plan;", .fieldLink RX3 112 "TheatreWall$Plan" "end" "I", .fieldLink RX3 10 "TheatreWall" "now" "LTheatreWall$State;", .methodLink RX3 203 yX0_lengthOfLaid, .instanceMethod yX0_lengthOfLaid, .selects RX0 yX0_lengthOfLaid yX0_lengthOfLaid, .initialized RX0, .code yX0_lengthOfLaid cX0_lengthOfLaid 4 (some .int), .fieldLink RX0 28 "TheatreWall$State" "size" "I", .fieldLink RX0 9 "TheatreWall$Plan" "begins" "[I", .fieldLink RX0 44 "TheatreWall$State" "lengths" "[I"] ++ wsX30 ++ wsX00 ++ wsX10)
def wsJ9_max_7cf53 : List Cond := .code yJ9_max_7cf53 cJ9_max_7cf53 2 (some .int) :: ([])
def wsL_low : List Cond := .code yL_low cL_low 2 (some .int) :: ([.constant RL 7 (2147483647)])
def wsL_cell : List Cond := .code yL_cell cL_cell 2 (some .int) :: ([.constant RL 8 (40503)])
def wsL_undo_r1 : List Cond := [Cond.classLink RL 15 "java/lang/IllegalStateException", Cond.methodLink RL 9 yX3_undo, Cond.instanceMethod yX3_undo, Cond.selects RX3 yX3_undo yX3_undo, Cond.initialized RX3, Cond.code yX3_undo cX3_undo 1 (some .int), Cond.classLink RX3 64 "java/lang/IllegalStateException", Cond.initialized "java/lang/IllegalStateException", Cond.fieldLink RX3 44 "TheatreWall" "savedCount" "I", Cond.fieldLink RX3 10 "TheatreWall" "now" "LTheatreWall$State;", Cond.fieldLink RX3 29 "TheatreWall" "saved" "[LTheatreWall$State;", Cond.fieldLink RX3 19 "TheatreWall" "plan" "LTheatreWall$Plan;", Cond.methodLink RX3 154 yX1_copyFrom, Cond.instanceMethod yX1_copyFrom, Cond.selects RX1 yX1_copyFrom yX1_copyFrom, Cond.initialized RX1, Cond.code yX1_copyFrom cX1_copyFrom 3 none, Cond.fieldLink RX1 33 "TheatreWall$State" "size" "I", Cond.fieldLink RX1 37 "TheatreWall$State" "order" "I", Cond.fieldLink RX1 9 "TheatreWall$State" "lengths" "[I", Cond.fieldLink RX1 15 "TheatreWall$State" "persons" "[I", Cond.fieldLink RX1 18 "TheatreWall$State" "halls" "[I", Cond.fieldLink RX1 21 "TheatreWall$State" "earliest" "[I", Cond.fieldLink RX1 24 "TheatreWall$State" "needs" "[I"]
def wsL_undo_r2 : List Cond := [Cond.fieldLink RX1 27 "TheatreWall$State" "firstDays" "[I", Cond.fieldLink RX1 30 "TheatreWall$State" "lastDays" "[I", Cond.methodLink RX3 74 yX0_lay, Cond.instanceMethod yX0_lay, Cond.selects RX0 yX0_lay yX0_lay, Cond.initialized RX0, Cond.code yX0_lay cX0_lay 6 none, Cond.fieldLink RX0 18 "TheatreWall$Plan" "laidMask" "I", Cond.fieldLink RX0 22 "TheatreWall$Plan" "laidCount" "I", Cond.fieldLink RX0 25 "TheatreWall$Plan" "end" "I", Cond.fieldLink RX0 28 "TheatreWall$State" "size" "I", Cond.fieldLink RX0 9 "TheatreWall$Plan" "begins" "[I", Cond.fieldLink RX0 15 "TheatreWall$Plan" "keys" "[I", Cond.fieldLink RX0 44 "TheatreWall$State" "lengths" "[I", Cond.methodLink RX0 47 Lib.Math.max.name, Cond.static Lib.Math.max.name, Cond.initialized "java/lang/Math", Cond.code Lib.Math.max.name Lib.Math.max.code 2 (some .int), Cond.methodLink RX0 33 yX1_keyOf, Cond.instanceMethod yX1_keyOf, Cond.selects RX1 yX1_keyOf yX1_keyOf, Cond.code yX1_keyOf cX1_keyOf 2 (some .int), Cond.methodLink RX1 48 yX1_followers, Cond.instanceMethod yX1_followers]
def wsL_undo_r3 : List Cond := [Cond.selects RX1 yX1_followers yX1_followers, Cond.code yX1_followers cX1_followers 4 (some .int), Cond.methodLink RX1 44 yX1_isNeeded, Cond.instanceMethod yX1_isNeeded, Cond.selects RX1 yX1_isNeeded yX1_isNeeded, Cond.code yX1_isNeeded cX1_isNeeded 3 (some .boolean), Cond.methodLink RX0 37 yX0_firstByRule, Cond.instanceMethod yX0_firstByRule, Cond.selects RX0 yX0_firstByRule yX0_firstByRule, Cond.code yX0_firstByRule cX0_firstByRule 8 (some .int), Cond.fieldLink RX0 53 "TheatreWall$State" "needs" "[I", Cond.methodLink RX0 41 yX0_firstDay, Cond.instanceMethod yX0_firstDay, Cond.selects RX0 yX0_firstDay yX0_firstDay, Cond.code yX0_firstDay cX0_firstDay 8 (some .int), Cond.fieldLink RX0 59 "TheatreWall$State" "halls" "[I", Cond.fieldLink RX0 62 "TheatreWall$State" "firstDays" "[I", Cond.fieldLink RX0 65 "TheatreWall$State" "lastDays" "[I", Cond.methodLink RX0 56 yX0_startOf, Cond.instanceMethod yX0_startOf, Cond.selects RX0 yX0_startOf yX0_startOf, Cond.code yX0_startOf cX0_startOf 5 (some .int), Cond.fieldLink RX0 76 "TheatreWall$State" "earliest" "[I", Cond.methodLink RX0 79 yX1_isNeeded]
def wsL_undo_r4 : List Cond := [Cond.methodLink RX0 68 yX0_behindClash, Cond.instanceMethod yX0_behindClash, Cond.selects RX0 yX0_behindClash yX0_behindClash, Cond.code yX0_behindClash cX0_behindClash 8 (some .int), Cond.methodLink RX0 72 yX1_share, Cond.instanceMethod yX1_share, Cond.selects RX1 yX1_share yX1_share, Cond.code yX1_share cX1_share 5 (some .boolean)]
def wsL_undo : List Cond := .codeWith yL_undo cL_undo 2 (some .int) [(0, 4, 5, 15)] :: ((wsL_undo_r1 ++ (wsL_undo_r2 ++ (wsL_undo_r3 ++ wsL_undo_r4))) ++ wsX30 ++ wsX10 ++ wsX00 ++ (vx_at0 RX3 66 "java/lang/IllegalStateException" ["java/lang/RuntimeException", "java/lang/Exception"]).filter goodWord)
def wsL_add_r1 : List Cond := [Cond.classLink RL 15 "java/lang/IllegalStateException", Cond.methodLink RL 17 yX3_add, Cond.instanceMethod yX3_add, Cond.selects RX3 yX3_add yX3_add, Cond.initialized RX3, Cond.code yX3_add cX3_add 4 (some .int), Cond.classLink RX3 58 "java/lang/IllegalArgumentException", Cond.initialized "java/lang/IllegalArgumentException", Cond.classLink RX3 64 "java/lang/IllegalStateException", Cond.initialized "java/lang/IllegalStateException", Cond.fieldLink RX3 10 "TheatreWall" "now" "LTheatreWall$State;", Cond.fieldLink RX3 61 "TheatreWall$State" "size" "I", Cond.fieldLink RX3 19 "TheatreWall" "plan" "LTheatreWall$Plan;", Cond.methodLink RX3 48 yX3_isLength, Cond.static yX3_isLength, Cond.code yX3_isLength cX3_isLength 1 (some .boolean), Cond.methodLink RX3 52 yX3_isPersonOrNone, Cond.static yX3_isPersonOrNone, Cond.code yX3_isPersonOrNone cX3_isPersonOrNone 1 (some .boolean), Cond.methodLink RX3 168 yX3_isPerson, Cond.static yX3_isPerson, Cond.code yX3_isPerson cX3_isPerson 1 (some .boolean), Cond.methodLink RX3 55 yX3_isHallOrNone, Cond.static yX3_isHallOrNone]
def wsL_add_r2 : List Cond := [Cond.code yX3_isHallOrNone cX3_isHallOrNone 1 (some .boolean), Cond.methodLink RX3 121 yX3_isHall, Cond.static yX3_isHall, Cond.code yX3_isHall cX3_isHall 1 (some .boolean), Cond.methodLink RX3 67 yX3_saveState, Cond.instanceMethod yX3_saveState, Cond.selects RX3 yX3_saveState yX3_saveState, Cond.code yX3_saveState cX3_saveState 1 none, Cond.fieldLink RX3 44 "TheatreWall" "savedCount" "I", Cond.fieldLink RX3 29 "TheatreWall" "saved" "[LTheatreWall$State;", Cond.methodLink RX3 263 yX3_dropOldest, Cond.instanceMethod yX3_dropOldest, Cond.selects RX3 yX3_dropOldest yX3_dropOldest, Cond.code yX3_dropOldest cX3_dropOldest 3 none, Cond.methodLink RX3 154 yX1_copyFrom, Cond.instanceMethod yX1_copyFrom, Cond.selects RX1 yX1_copyFrom yX1_copyFrom, Cond.initialized RX1, Cond.code yX1_copyFrom cX1_copyFrom 3 none, Cond.fieldLink RX1 33 "TheatreWall$State" "size" "I", Cond.fieldLink RX1 37 "TheatreWall$State" "order" "I", Cond.fieldLink RX1 9 "TheatreWall$State" "lengths" "[I", Cond.fieldLink RX1 15 "TheatreWall$State" "persons" "[I", Cond.fieldLink RX1 18 "TheatreWall$State" "halls" "[I"]
def wsL_add_r3 : List Cond := [Cond.fieldLink RX1 21 "TheatreWall$State" "earliest" "[I", Cond.fieldLink RX1 24 "TheatreWall$State" "needs" "[I", Cond.fieldLink RX1 27 "TheatreWall$State" "firstDays" "[I", Cond.fieldLink RX1 30 "TheatreWall$State" "lastDays" "[I", Cond.methodLink RX3 70 yX1_appendTask, Cond.instanceMethod yX1_appendTask, Cond.selects RX1 yX1_appendTask yX1_appendTask, Cond.code yX1_appendTask cX1_appendTask 4 none, Cond.methodLink RX3 74 yX0_lay, Cond.instanceMethod yX0_lay, Cond.selects RX0 yX0_lay yX0_lay, Cond.initialized RX0, Cond.code yX0_lay cX0_lay 6 none, Cond.fieldLink RX0 18 "TheatreWall$Plan" "laidMask" "I", Cond.fieldLink RX0 22 "TheatreWall$Plan" "laidCount" "I", Cond.fieldLink RX0 25 "TheatreWall$Plan" "end" "I", Cond.fieldLink RX0 28 "TheatreWall$State" "size" "I", Cond.fieldLink RX0 9 "TheatreWall$Plan" "begins" "[I", Cond.fieldLink RX0 15 "TheatreWall$Plan" "keys" "[I", Cond.fieldLink RX0 44 "TheatreWall$State" "lengths" "[I", Cond.methodLink RX0 47 Lib.Math.max.name, Cond.static Lib.Math.max.name, Cond.initialized "java/lang/Math", Cond.code Lib.Math.max.name Lib.Math.max.code 2 (some .int)]
def wsL_add_r4 : List Cond := [Cond.methodLink RX0 33 yX1_keyOf, Cond.instanceMethod yX1_keyOf, Cond.selects RX1 yX1_keyOf yX1_keyOf, Cond.code yX1_keyOf cX1_keyOf 2 (some .int), Cond.methodLink RX1 48 yX1_followers, Cond.instanceMethod yX1_followers, Cond.selects RX1 yX1_followers yX1_followers, Cond.code yX1_followers cX1_followers 4 (some .int), Cond.methodLink RX1 44 yX1_isNeeded, Cond.instanceMethod yX1_isNeeded, Cond.selects RX1 yX1_isNeeded yX1_isNeeded, Cond.code yX1_isNeeded cX1_isNeeded 3 (some .boolean), Cond.methodLink RX0 37 yX0_firstByRule, Cond.instanceMethod yX0_firstByRule, Cond.selects RX0 yX0_firstByRule yX0_firstByRule, Cond.code yX0_firstByRule cX0_firstByRule 8 (some .int), Cond.fieldLink RX0 53 "TheatreWall$State" "needs" "[I", Cond.methodLink RX0 41 yX0_firstDay, Cond.instanceMethod yX0_firstDay, Cond.selects RX0 yX0_firstDay yX0_firstDay, Cond.code yX0_firstDay cX0_firstDay 8 (some .int), Cond.fieldLink RX0 59 "TheatreWall$State" "halls" "[I", Cond.fieldLink RX0 62 "TheatreWall$State" "firstDays" "[I", Cond.fieldLink RX0 65 "TheatreWall$State" "lastDays" "[I"]
def wsL_add_r5 : List Cond := [Cond.methodLink RX0 56 yX0_startOf, Cond.instanceMethod yX0_startOf, Cond.selects RX0 yX0_startOf yX0_startOf, Cond.code yX0_startOf cX0_startOf 5 (some .int), Cond.fieldLink RX0 76 "TheatreWall$State" "earliest" "[I", Cond.methodLink RX0 79 yX1_isNeeded, Cond.methodLink RX0 68 yX0_behindClash, Cond.instanceMethod yX0_behindClash, Cond.selects RX0 yX0_behindClash yX0_behindClash, Cond.code yX0_behindClash cX0_behindClash 8 (some .int), Cond.methodLink RX0 72 yX1_share, Cond.instanceMethod yX1_share, Cond.selects RX1 yX1_share yX1_share, Cond.code yX1_share cX1_share 5 (some .boolean)]
def wsL_add : List Cond := .codeWith yL_add cL_add 5 (some .int) [(0, 7, 8, 15)] :: ((wsL_add_r1 ++ (wsL_add_r2 ++ (wsL_add_r3 ++ (wsL_add_r4 ++ wsL_add_r5)))) ++ wsX30 ++ wsX10 ++ wsX00 ++ (vx_at0 RX3 60 "java/lang/IllegalArgumentException" ["java/lang/RuntimeException", "java/lang/Exception"]).filter goodWord ++ (vx_at0 RX3 66 "java/lang/IllegalStateException" ["java/lang/RuntimeException", "java/lang/Exception"]).filter goodWord)
def wsL_slip_r1 : List Cond := [Cond.classLink RL 15 "java/lang/IllegalStateException", Cond.methodLink RL 21 yX3_slip, Cond.instanceMethod yX3_slip, Cond.selects RX3 yX3_slip yX3_slip, Cond.initialized RX3, Cond.code yX3_slip cX3_slip 4 (some .int), Cond.classLink RX3 81 "java/lang/IndexOutOfBoundsException", Cond.initialized "java/lang/IndexOutOfBoundsException", Cond.classLink RX3 58 "java/lang/IllegalArgumentException", Cond.initialized "java/lang/IllegalArgumentException", Cond.classLink RX3 64 "java/lang/IllegalStateException", Cond.initialized "java/lang/IllegalStateException", Cond.fieldLink RX3 19 "TheatreWall" "plan" "LTheatreWall$Plan;", Cond.fieldLink RX3 112 "TheatreWall$Plan" "end" "I", Cond.fieldLink RX3 10 "TheatreWall" "now" "LTheatreWall$State;", Cond.fieldLink RX3 115 "TheatreWall$State" "earliest" "[I", Cond.fieldLink RX3 118 "TheatreWall$Plan" "begins" "[I", Cond.methodLink RX3 78 yX3_isTask, Cond.instanceMethod yX3_isTask, Cond.selects RX3 yX3_isTask yX3_isTask, Cond.code yX3_isTask cX3_isTask 2 (some .boolean), Cond.fieldLink RX3 61 "TheatreWall$State" "size" "I", Cond.methodLink RX3 106 yX3_isSlip, Cond.static yX3_isSlip]
def wsL_slip_r2 : List Cond := [Cond.code yX3_isSlip cX3_isSlip 1 (some .boolean), Cond.methodLink RX3 109 yX3_couldSlip, Cond.instanceMethod yX3_couldSlip, Cond.selects RX3 yX3_couldSlip yX3_couldSlip, Cond.code yX3_couldSlip cX3_couldSlip 4 (some .boolean), Cond.methodLink RX3 67 yX3_saveState, Cond.instanceMethod yX3_saveState, Cond.selects RX3 yX3_saveState yX3_saveState, Cond.code yX3_saveState cX3_saveState 1 none, Cond.fieldLink RX3 44 "TheatreWall" "savedCount" "I", Cond.fieldLink RX3 29 "TheatreWall" "saved" "[LTheatreWall$State;", Cond.methodLink RX3 263 yX3_dropOldest, Cond.instanceMethod yX3_dropOldest, Cond.selects RX3 yX3_dropOldest yX3_dropOldest, Cond.code yX3_dropOldest cX3_dropOldest 3 none, Cond.methodLink RX3 154 yX1_copyFrom, Cond.instanceMethod yX1_copyFrom, Cond.selects RX1 yX1_copyFrom yX1_copyFrom, Cond.initialized RX1, Cond.code yX1_copyFrom cX1_copyFrom 3 none, Cond.fieldLink RX1 33 "TheatreWall$State" "size" "I", Cond.fieldLink RX1 37 "TheatreWall$State" "order" "I", Cond.fieldLink RX1 9 "TheatreWall$State" "lengths" "[I", Cond.fieldLink RX1 15 "TheatreWall$State" "persons" "[I"]
def wsL_slip_r3 : List Cond := [Cond.fieldLink RX1 18 "TheatreWall$State" "halls" "[I", Cond.fieldLink RX1 21 "TheatreWall$State" "earliest" "[I", Cond.fieldLink RX1 24 "TheatreWall$State" "needs" "[I", Cond.fieldLink RX1 27 "TheatreWall$State" "firstDays" "[I", Cond.fieldLink RX1 30 "TheatreWall$State" "lastDays" "[I", Cond.methodLink RX3 74 yX0_lay, Cond.instanceMethod yX0_lay, Cond.selects RX0 yX0_lay yX0_lay, Cond.initialized RX0, Cond.code yX0_lay cX0_lay 6 none, Cond.fieldLink RX0 18 "TheatreWall$Plan" "laidMask" "I", Cond.fieldLink RX0 22 "TheatreWall$Plan" "laidCount" "I", Cond.fieldLink RX0 25 "TheatreWall$Plan" "end" "I", Cond.fieldLink RX0 28 "TheatreWall$State" "size" "I", Cond.fieldLink RX0 9 "TheatreWall$Plan" "begins" "[I", Cond.fieldLink RX0 15 "TheatreWall$Plan" "keys" "[I", Cond.fieldLink RX0 44 "TheatreWall$State" "lengths" "[I", Cond.methodLink RX0 47 Lib.Math.max.name, Cond.static Lib.Math.max.name, Cond.initialized "java/lang/Math", Cond.code Lib.Math.max.name Lib.Math.max.code 2 (some .int), Cond.methodLink RX0 33 yX1_keyOf, Cond.instanceMethod yX1_keyOf, Cond.selects RX1 yX1_keyOf yX1_keyOf]
def wsL_slip_r4 : List Cond := [Cond.code yX1_keyOf cX1_keyOf 2 (some .int), Cond.methodLink RX1 48 yX1_followers, Cond.instanceMethod yX1_followers, Cond.selects RX1 yX1_followers yX1_followers, Cond.code yX1_followers cX1_followers 4 (some .int), Cond.methodLink RX1 44 yX1_isNeeded, Cond.instanceMethod yX1_isNeeded, Cond.selects RX1 yX1_isNeeded yX1_isNeeded, Cond.code yX1_isNeeded cX1_isNeeded 3 (some .boolean), Cond.methodLink RX0 37 yX0_firstByRule, Cond.instanceMethod yX0_firstByRule, Cond.selects RX0 yX0_firstByRule yX0_firstByRule, Cond.code yX0_firstByRule cX0_firstByRule 8 (some .int), Cond.fieldLink RX0 53 "TheatreWall$State" "needs" "[I", Cond.methodLink RX0 41 yX0_firstDay, Cond.instanceMethod yX0_firstDay, Cond.selects RX0 yX0_firstDay yX0_firstDay, Cond.code yX0_firstDay cX0_firstDay 8 (some .int), Cond.fieldLink RX0 59 "TheatreWall$State" "halls" "[I", Cond.fieldLink RX0 62 "TheatreWall$State" "firstDays" "[I", Cond.fieldLink RX0 65 "TheatreWall$State" "lastDays" "[I", Cond.methodLink RX0 56 yX0_startOf, Cond.instanceMethod yX0_startOf, Cond.selects RX0 yX0_startOf yX0_startOf]
def wsL_slip_r5 : List Cond := [Cond.code yX0_startOf cX0_startOf 5 (some .int), Cond.fieldLink RX0 76 "TheatreWall$State" "earliest" "[I", Cond.methodLink RX0 79 yX1_isNeeded, Cond.methodLink RX0 68 yX0_behindClash, Cond.instanceMethod yX0_behindClash, Cond.selects RX0 yX0_behindClash yX0_behindClash, Cond.code yX0_behindClash cX0_behindClash 8 (some .int), Cond.methodLink RX0 72 yX1_share, Cond.instanceMethod yX1_share, Cond.selects RX1 yX1_share yX1_share, Cond.code yX1_share cX1_share 5 (some .boolean)]
def wsL_slip : List Cond := .codeWith yL_slip cL_slip 4 (some .int) [(0, 6, 7, 15)] :: ((wsL_slip_r1 ++ (wsL_slip_r2 ++ (wsL_slip_r3 ++ (wsL_slip_r4 ++ wsL_slip_r5)))) ++ wsX30 ++ wsX00 ++ wsX10 ++ (vx_at0 RX3 83 "java/lang/IndexOutOfBoundsException" ["java/lang/RuntimeException", "java/lang/Exception"]).filter goodWord ++ (vx_at0 RX3 60 "java/lang/IllegalArgumentException" ["java/lang/RuntimeException", "java/lang/Exception"]).filter goodWord ++ (vx_at0 RX3 66 "java/lang/IllegalStateException" ["java/lang/RuntimeException", "java/lang/Exception"]).filter goodWord)
def wsL_plan_r1 : List Cond := [Cond.methodLink RL 25 yX3_count, Cond.instanceMethod yX3_count, Cond.selects RX3 yX3_count yX3_count, Cond.initialized RX3, Cond.code yX3_count cX3_count 2 (some .int), Cond.classLink RX3 58 "java/lang/IllegalArgumentException", Cond.initialized "java/lang/IllegalArgumentException", Cond.fieldLink RX3 10 "TheatreWall" "now" "LTheatreWall$State;", Cond.fieldLink RX3 61 "TheatreWall$State" "size" "I", Cond.fieldLink RX3 19 "TheatreWall" "plan" "LTheatreWall$Plan;", Cond.fieldLink RX3 133 "TheatreWall$Plan" "laidCount" "I", Cond.fieldLink RX3 112 "TheatreWall$Plan" "end" "I", Cond.fieldLink RX3 44 "TheatreWall" "savedCount" "I", Cond.methodLink RX3 187 yX1_lengthOfAll, Cond.instanceMethod yX1_lengthOfAll, Cond.selects RX1 yX1_lengthOfAll yX1_lengthOfAll, Cond.initialized RX1, Cond.code yX1_lengthOfAll cX1_lengthOfAll 3 (some .int), Cond.fieldLink RX1 33 "TheatreWall$State" "size" "I", Cond.fieldLink RX1 9 "TheatreWall$State" "lengths" "[I", Cond.methodLink RX3 190 yX3_criticalTasks, Cond.instanceMethod yX3_criticalTasks, Cond.selects RX3 yX3_criticalTasks yX3_criticalTasks, Cond.code yX3_criticalTasks cX3_criticalTasks 3 (some .int)]
def wsL_plan_r2 : List Cond := [Cond.methodLink RX3 161 yX3_slackOf, Cond.instanceMethod yX3_slackOf, Cond.selects RX3 yX3_slackOf yX3_slackOf, Cond.code yX3_slackOf cX3_slackOf 4 (some .int), Cond.fieldLink RX3 118 "TheatreWall$Plan" "begins" "[I", Cond.fieldLink RX3 23 "TheatreWall" "trial" "LTheatreWall$State;", Cond.fieldLink RX3 115 "TheatreWall$State" "earliest" "[I", Cond.fieldLink RX3 26 "TheatreWall" "trialPlan" "LTheatreWall$Plan;", Cond.methodLink RX3 154 yX1_copyFrom, Cond.instanceMethod yX1_copyFrom, Cond.selects RX1 yX1_copyFrom yX1_copyFrom, Cond.code yX1_copyFrom cX1_copyFrom 3 none, Cond.fieldLink RX1 37 "TheatreWall$State" "order" "I", Cond.fieldLink RX1 15 "TheatreWall$State" "persons" "[I", Cond.fieldLink RX1 18 "TheatreWall$State" "halls" "[I", Cond.fieldLink RX1 21 "TheatreWall$State" "earliest" "[I", Cond.fieldLink RX1 24 "TheatreWall$State" "needs" "[I", Cond.fieldLink RX1 27 "TheatreWall$State" "firstDays" "[I", Cond.fieldLink RX1 30 "TheatreWall$State" "lastDays" "[I", Cond.methodLink RX3 74 yX0_lay, Cond.instanceMethod yX0_lay, Cond.selects RX0 yX0_lay yX0_lay, Cond.initialized RX0, Cond.code yX0_lay cX0_lay 6 none]
def wsL_plan_r3 : List Cond := [Cond.fieldLink RX0 18 "TheatreWall$Plan" "laidMask" "I", Cond.fieldLink RX0 22 "TheatreWall$Plan" "laidCount" "I", Cond.fieldLink RX0 25 "TheatreWall$Plan" "end" "I", Cond.fieldLink RX0 28 "TheatreWall$State" "size" "I", Cond.fieldLink RX0 9 "TheatreWall$Plan" "begins" "[I", Cond.fieldLink RX0 15 "TheatreWall$Plan" "keys" "[I", Cond.fieldLink RX0 44 "TheatreWall$State" "lengths" "[I", Cond.methodLink RX0 47 Lib.Math.max.name, Cond.static Lib.Math.max.name, Cond.initialized "java/lang/Math", Cond.code Lib.Math.max.name Lib.Math.max.code 2 (some .int), Cond.methodLink RX0 33 yX1_keyOf, Cond.instanceMethod yX1_keyOf, Cond.selects RX1 yX1_keyOf yX1_keyOf, Cond.code yX1_keyOf cX1_keyOf 2 (some .int), Cond.methodLink RX1 48 yX1_followers, Cond.instanceMethod yX1_followers, Cond.selects RX1 yX1_followers yX1_followers, Cond.code yX1_followers cX1_followers 4 (some .int), Cond.methodLink RX1 44 yX1_isNeeded, Cond.instanceMethod yX1_isNeeded, Cond.selects RX1 yX1_isNeeded yX1_isNeeded, Cond.code yX1_isNeeded cX1_isNeeded 3 (some .boolean), Cond.methodLink RX0 37 yX0_firstByRule]
def wsL_plan_r4 : List Cond := [Cond.instanceMethod yX0_firstByRule, Cond.selects RX0 yX0_firstByRule yX0_firstByRule, Cond.code yX0_firstByRule cX0_firstByRule 8 (some .int), Cond.fieldLink RX0 53 "TheatreWall$State" "needs" "[I", Cond.methodLink RX0 41 yX0_firstDay, Cond.instanceMethod yX0_firstDay, Cond.selects RX0 yX0_firstDay yX0_firstDay, Cond.code yX0_firstDay cX0_firstDay 8 (some .int), Cond.fieldLink RX0 59 "TheatreWall$State" "halls" "[I", Cond.fieldLink RX0 62 "TheatreWall$State" "firstDays" "[I", Cond.fieldLink RX0 65 "TheatreWall$State" "lastDays" "[I", Cond.methodLink RX0 56 yX0_startOf, Cond.instanceMethod yX0_startOf, Cond.selects RX0 yX0_startOf yX0_startOf, Cond.code yX0_startOf cX0_startOf 5 (some .int), Cond.fieldLink RX0 76 "TheatreWall$State" "earliest" "[I", Cond.methodLink RX0 79 yX1_isNeeded, Cond.methodLink RX0 68 yX0_behindClash, Cond.instanceMethod yX0_behindClash, Cond.selects RX0 yX0_behindClash yX0_behindClash, Cond.code yX0_behindClash cX0_behindClash 8 (some .int), Cond.methodLink RX0 72 yX1_share, Cond.instanceMethod yX1_share, Cond.selects RX1 yX1_share yX1_share]
def wsL_plan_r5 : List Cond := [Cond.code yX1_share cX1_share 5 (some .boolean), Cond.methodLink RX3 193 yX0_waitOfAll, Cond.instanceMethod yX0_waitOfAll, Cond.selects RX0 yX0_waitOfAll yX0_waitOfAll, Cond.code yX0_waitOfAll cX0_waitOfAll 4 (some .int), Cond.methodLink RX0 82 yX0_waitOf, Cond.instanceMethod yX0_waitOf, Cond.selects RX0 yX0_waitOf yX0_waitOf, Cond.code yX0_waitOf cX0_waitOf 3 (some .int), Cond.methodLink RX3 197 yX3_longestRow, Cond.instanceMethod yX3_longestRow, Cond.selects RX3 yX3_longestRow yX3_longestRow, Cond.code yX3_longestRow cX3_longestRow 5 (some .int), Cond.fieldLink RX3 40 "TheatreWall" "rowSums" "[I", Cond.methodLink RX3 266 Lib.Math.max.name, Cond.fieldLink RX3 271 "TheatreWall$State" "lengths" "[I", Cond.methodLink RX3 92 yX1_isNeeded, Cond.methodLink RL 29 yX3_task, Cond.instanceMethod yX3_task, Cond.selects RX3 yX3_task yX3_task, Cond.code yX3_task cX3_task 3 (some .int), Cond.classLink RX3 81 "java/lang/IndexOutOfBoundsException", Cond.initialized "java/lang/IndexOutOfBoundsException", Cond.methodLink RX3 78 yX3_isTask]
def wsL_plan_r6 : List Cond := [Cond.instanceMethod yX3_isTask, Cond.selects RX3 yX3_isTask yX3_isTask, Cond.code yX3_isTask cX3_isTask 2 (some .boolean), Cond.methodLink RX3 84 yX1_followers, Cond.methodLink RX3 164 yX0_waitOf, Cond.methodLink RX3 102 yX1_property, Cond.instanceMethod yX1_property, Cond.selects RX1 yX1_property yX1_property, Cond.code yX1_property cX1_property 2 (some (.array .int)), Cond.methodLink RL 32 yX3_personOn, Cond.instanceMethod yX3_personOn, Cond.selects RX3 yX3_personOn yX3_personOn, Cond.code yX3_personOn cX3_personOn 3 (some .int), Cond.fieldLink RX3 171 "TheatreWall$State" "persons" "[I", Cond.methodLink RX3 168 yX3_isPerson, Cond.static yX3_isPerson, Cond.code yX3_isPerson cX3_isPerson 1 (some .boolean), Cond.methodLink RX3 124 yX3_isDay, Cond.static yX3_isDay, Cond.code yX3_isDay cX3_isDay 1 (some .boolean), Cond.methodLink RX3 174 yX0_taskOn, Cond.instanceMethod yX0_taskOn, Cond.selects RX0 yX0_taskOn yX0_taskOn, Cond.code yX0_taskOn cX0_taskOn 7 (some .int)]
def wsL_plan_r7 : List Cond := [Cond.methodLink RL 35 yX3_hallOn, Cond.instanceMethod yX3_hallOn, Cond.selects RX3 yX3_hallOn yX3_hallOn, Cond.code yX3_hallOn cX3_hallOn 3 (some .int), Cond.fieldLink RX3 178 "TheatreWall$State" "halls" "[I", Cond.methodLink RX3 121 yX3_isHall, Cond.static yX3_isHall, Cond.code yX3_isHall cX3_isHall 1 (some .boolean), Cond.methodLink RL 38 yX3_hall, Cond.instanceMethod yX3_hall, Cond.selects RX3 yX3_hall yX3_hall, Cond.code yX3_hall cX3_hall 3 (some .int), Cond.fieldLink RX3 127 "TheatreWall$State" "firstDays" "[I", Cond.fieldLink RX3 130 "TheatreWall$State" "lastDays" "[I", Cond.methodLink RX3 181 yX0_daysIn, Cond.instanceMethod yX0_daysIn, Cond.selects RX0 yX0_daysIn yX0_daysIn, Cond.code yX0_daysIn cX0_daysIn 5 (some .int), Cond.methodLink RX3 184 yX0_tasksIn, Cond.instanceMethod yX0_tasksIn, Cond.selects RX0 yX0_tasksIn yX0_tasksIn, Cond.code yX0_tasksIn cX0_tasksIn 5 (some .int)]
def wsL_plan : List Cond := .code yL_plan cL_plan 14 (some .boolean) :: ((wsL_plan_r1 ++ (wsL_plan_r2 ++ (wsL_plan_r3 ++ (wsL_plan_r4 ++ (wsL_plan_r5 ++ (wsL_plan_r6 ++ wsL_plan_r7)))))) ++ wsX30 ++ wsX10 ++ wsX00 ++ (vx_at0 RX3 60 "java/lang/IllegalArgumentException" ["java/lang/RuntimeException", "java/lang/Exception"]).filter goodWord ++ (vx_at0 RX3 83 "java/lang/IndexOutOfBoundsException" ["java/lang/RuntimeException", "java/lang/Exception"]).filter goodWord)
def wsL_looks_r1 : List Cond := [Cond.methodLink RL 41 yX3_setting, Cond.instanceMethod yX3_setting, Cond.selects RX3 yX3_setting yX3_setting, Cond.initialized RX3, Cond.code yX3_setting cX3_setting 1 (some .int), Cond.fieldLink RX3 10 "TheatreWall" "now" "LTheatreWall$State;", Cond.fieldLink RX3 139 "TheatreWall$State" "order" "I", Cond.methodLink RL 44 yX3_ifRule, Cond.instanceMethod yX3_ifRule, Cond.selects RX3 yX3_ifRule yX3_ifRule, Cond.code yX3_ifRule cX3_ifRule 3 (some .int), Cond.classLink RX3 58 "java/lang/IllegalArgumentException", Cond.initialized "java/lang/IllegalArgumentException", Cond.fieldLink RX3 26 "TheatreWall" "trialPlan" "LTheatreWall$Plan;", Cond.fieldLink RX3 112 "TheatreWall$Plan" "end" "I", Cond.fieldLink RX3 133 "TheatreWall$Plan" "laidCount" "I", Cond.fieldLink RX3 23 "TheatreWall" "trial" "LTheatreWall$State;", Cond.methodLink RX3 136 yX3_isRule, Cond.static yX3_isRule, Cond.code yX3_isRule cX3_isRule 1 (some .boolean), Cond.methodLink RX3 200 yX3_tryRule, Cond.instanceMethod yX3_tryRule, Cond.selects RX3 yX3_tryRule yX3_tryRule, Cond.code yX3_tryRule cX3_tryRule 2 none]
def wsL_looks_r2 : List Cond := [Cond.methodLink RX3 154 yX1_copyFrom, Cond.instanceMethod yX1_copyFrom, Cond.selects RX1 yX1_copyFrom yX1_copyFrom, Cond.initialized RX1, Cond.code yX1_copyFrom cX1_copyFrom 3 none, Cond.fieldLink RX1 33 "TheatreWall$State" "size" "I", Cond.fieldLink RX1 37 "TheatreWall$State" "order" "I", Cond.fieldLink RX1 9 "TheatreWall$State" "lengths" "[I", Cond.fieldLink RX1 15 "TheatreWall$State" "persons" "[I", Cond.fieldLink RX1 18 "TheatreWall$State" "halls" "[I", Cond.fieldLink RX1 21 "TheatreWall$State" "earliest" "[I", Cond.fieldLink RX1 24 "TheatreWall$State" "needs" "[I", Cond.fieldLink RX1 27 "TheatreWall$State" "firstDays" "[I", Cond.fieldLink RX1 30 "TheatreWall$State" "lastDays" "[I", Cond.methodLink RX3 74 yX0_lay, Cond.instanceMethod yX0_lay, Cond.selects RX0 yX0_lay yX0_lay, Cond.initialized RX0, Cond.code yX0_lay cX0_lay 6 none, Cond.fieldLink RX0 18 "TheatreWall$Plan" "laidMask" "I", Cond.fieldLink RX0 22 "TheatreWall$Plan" "laidCount" "I", Cond.fieldLink RX0 25 "TheatreWall$Plan" "end" "I", Cond.fieldLink RX0 28 "TheatreWall$State" "size" "I", Cond.fieldLink RX0 9 "TheatreWall$Plan" "begins" "[I"]
def wsL_looks_r3 : List Cond := [Cond.fieldLink RX0 15 "TheatreWall$Plan" "keys" "[I", Cond.fieldLink RX0 44 "TheatreWall$State" "lengths" "[I", Cond.methodLink RX0 47 Lib.Math.max.name, Cond.static Lib.Math.max.name, Cond.initialized "java/lang/Math", Cond.code Lib.Math.max.name Lib.Math.max.code 2 (some .int), Cond.methodLink RX0 33 yX1_keyOf, Cond.instanceMethod yX1_keyOf, Cond.selects RX1 yX1_keyOf yX1_keyOf, Cond.code yX1_keyOf cX1_keyOf 2 (some .int), Cond.methodLink RX1 48 yX1_followers, Cond.instanceMethod yX1_followers, Cond.selects RX1 yX1_followers yX1_followers, Cond.code yX1_followers cX1_followers 4 (some .int), Cond.methodLink RX1 44 yX1_isNeeded, Cond.instanceMethod yX1_isNeeded, Cond.selects RX1 yX1_isNeeded yX1_isNeeded, Cond.code yX1_isNeeded cX1_isNeeded 3 (some .boolean), Cond.methodLink RX0 37 yX0_firstByRule, Cond.instanceMethod yX0_firstByRule, Cond.selects RX0 yX0_firstByRule yX0_firstByRule, Cond.code yX0_firstByRule cX0_firstByRule 8 (some .int), Cond.fieldLink RX0 53 "TheatreWall$State" "needs" "[I", Cond.methodLink RX0 41 yX0_firstDay]
def wsL_looks_r4 : List Cond := [Cond.instanceMethod yX0_firstDay, Cond.selects RX0 yX0_firstDay yX0_firstDay, Cond.code yX0_firstDay cX0_firstDay 8 (some .int), Cond.fieldLink RX0 59 "TheatreWall$State" "halls" "[I", Cond.fieldLink RX0 62 "TheatreWall$State" "firstDays" "[I", Cond.fieldLink RX0 65 "TheatreWall$State" "lastDays" "[I", Cond.methodLink RX0 56 yX0_startOf, Cond.instanceMethod yX0_startOf, Cond.selects RX0 yX0_startOf yX0_startOf, Cond.code yX0_startOf cX0_startOf 5 (some .int), Cond.fieldLink RX0 76 "TheatreWall$State" "earliest" "[I", Cond.methodLink RX0 79 yX1_isNeeded, Cond.methodLink RX0 68 yX0_behindClash, Cond.instanceMethod yX0_behindClash, Cond.selects RX0 yX0_behindClash yX0_behindClash, Cond.code yX0_behindClash cX0_behindClash 8 (some .int), Cond.methodLink RX0 72 yX1_share, Cond.instanceMethod yX1_share, Cond.selects RX1 yX1_share yX1_share, Cond.code yX1_share cX1_share 5 (some .boolean), Cond.methodLink RX3 193 yX0_waitOfAll, Cond.instanceMethod yX0_waitOfAll, Cond.selects RX0 yX0_waitOfAll yX0_waitOfAll, Cond.code yX0_waitOfAll cX0_waitOfAll 4 (some .int)]
def wsL_looks_r5 : List Cond := [Cond.methodLink RX0 82 yX0_waitOf, Cond.instanceMethod yX0_waitOf, Cond.selects RX0 yX0_waitOf yX0_waitOf, Cond.code yX0_waitOf cX0_waitOf 3 (some .int), Cond.methodLink RL 25 yX3_count, Cond.instanceMethod yX3_count, Cond.selects RX3 yX3_count yX3_count, Cond.code yX3_count cX3_count 2 (some .int), Cond.fieldLink RX3 61 "TheatreWall$State" "size" "I", Cond.fieldLink RX3 19 "TheatreWall" "plan" "LTheatreWall$Plan;", Cond.fieldLink RX3 44 "TheatreWall" "savedCount" "I", Cond.methodLink RX3 187 yX1_lengthOfAll, Cond.instanceMethod yX1_lengthOfAll, Cond.selects RX1 yX1_lengthOfAll yX1_lengthOfAll, Cond.code yX1_lengthOfAll cX1_lengthOfAll 3 (some .int), Cond.methodLink RX3 190 yX3_criticalTasks, Cond.instanceMethod yX3_criticalTasks, Cond.selects RX3 yX3_criticalTasks yX3_criticalTasks, Cond.code yX3_criticalTasks cX3_criticalTasks 3 (some .int), Cond.methodLink RX3 161 yX3_slackOf, Cond.instanceMethod yX3_slackOf, Cond.selects RX3 yX3_slackOf yX3_slackOf, Cond.code yX3_slackOf cX3_slackOf 4 (some .int), Cond.fieldLink RX3 118 "TheatreWall$Plan" "begins" "[I"]
def wsL_looks_r6 : List Cond := [Cond.fieldLink RX3 115 "TheatreWall$State" "earliest" "[I", Cond.methodLink RX3 197 yX3_longestRow, Cond.instanceMethod yX3_longestRow, Cond.selects RX3 yX3_longestRow yX3_longestRow, Cond.code yX3_longestRow cX3_longestRow 5 (some .int), Cond.fieldLink RX3 40 "TheatreWall" "rowSums" "[I", Cond.methodLink RX3 266 Lib.Math.max.name, Cond.fieldLink RX3 271 "TheatreWall$State" "lengths" "[I", Cond.methodLink RX3 92 yX1_isNeeded, Cond.methodLink RL 35 yX3_hallOn, Cond.instanceMethod yX3_hallOn, Cond.selects RX3 yX3_hallOn yX3_hallOn, Cond.code yX3_hallOn cX3_hallOn 3 (some .int), Cond.classLink RX3 81 "java/lang/IndexOutOfBoundsException", Cond.initialized "java/lang/IndexOutOfBoundsException", Cond.fieldLink RX3 178 "TheatreWall$State" "halls" "[I", Cond.methodLink RX3 121 yX3_isHall, Cond.static yX3_isHall, Cond.code yX3_isHall cX3_isHall 1 (some .boolean), Cond.methodLink RX3 124 yX3_isDay, Cond.static yX3_isDay, Cond.code yX3_isDay cX3_isDay 1 (some .boolean), Cond.methodLink RX3 174 yX0_taskOn, Cond.instanceMethod yX0_taskOn]
def wsL_looks_r7 : List Cond := [Cond.selects RX0 yX0_taskOn yX0_taskOn, Cond.code yX0_taskOn cX0_taskOn 7 (some .int), Cond.methodLink RL 38 yX3_hall, Cond.instanceMethod yX3_hall, Cond.selects RX3 yX3_hall yX3_hall, Cond.code yX3_hall cX3_hall 3 (some .int), Cond.fieldLink RX3 127 "TheatreWall$State" "firstDays" "[I", Cond.fieldLink RX3 130 "TheatreWall$State" "lastDays" "[I", Cond.methodLink RX3 181 yX0_daysIn, Cond.instanceMethod yX0_daysIn, Cond.selects RX0 yX0_daysIn yX0_daysIn, Cond.code yX0_daysIn cX0_daysIn 5 (some .int), Cond.methodLink RX3 184 yX0_tasksIn, Cond.instanceMethod yX0_tasksIn, Cond.selects RX0 yX0_tasksIn yX0_tasksIn, Cond.code yX0_tasksIn cX0_tasksIn 5 (some .int), Cond.methodLink RL 47 yX3_worstSlip, Cond.instanceMethod yX3_worstSlip, Cond.selects RX3 yX3_worstSlip yX3_worstSlip, Cond.code yX3_worstSlip cX3_worstSlip 5 (some .int), Cond.methodLink RX3 106 yX3_isSlip, Cond.static yX3_isSlip, Cond.code yX3_isSlip cX3_isSlip 1 (some .boolean), Cond.methodLink RX3 109 yX3_couldSlip]
def wsL_looks_r8 : List Cond := [Cond.instanceMethod yX3_couldSlip, Cond.selects RX3 yX3_couldSlip yX3_couldSlip, Cond.code yX3_couldSlip cX3_couldSlip 4 (some .boolean), Cond.methodLink RL 29 yX3_task, Cond.instanceMethod yX3_task, Cond.selects RX3 yX3_task yX3_task, Cond.code yX3_task cX3_task 3 (some .int), Cond.methodLink RX3 78 yX3_isTask, Cond.instanceMethod yX3_isTask, Cond.selects RX3 yX3_isTask yX3_isTask, Cond.code yX3_isTask cX3_isTask 2 (some .boolean), Cond.methodLink RX3 84 yX1_followers, Cond.methodLink RX3 164 yX0_waitOf, Cond.methodLink RX3 102 yX1_property, Cond.instanceMethod yX1_property, Cond.selects RX1 yX1_property yX1_property, Cond.code yX1_property cX1_property 2 (some (.array .int)), Cond.methodLink RL 50 yX3_busyness, Cond.instanceMethod yX3_busyness, Cond.selects RX3 yX3_busyness yX3_busyness, Cond.code yX3_busyness cX3_busyness 2 (some .double), Cond.methodLink RX3 203 yX0_lengthOfLaid, Cond.instanceMethod yX0_lengthOfLaid, Cond.selects RX0 yX0_lengthOfLaid yX0_lengthOfLaid]
def wsL_looks_r9 : List Cond := [Cond.code yX0_lengthOfLaid cX0_lengthOfLaid 4 (some .int)]
def wsL_looks : List Cond := .code yL_looks cL_looks 5 (some .boolean) :: ((wsL_looks_r1 ++ (wsL_looks_r2 ++ (wsL_looks_r3 ++ (wsL_looks_r4 ++ (wsL_looks_r5 ++ (wsL_looks_r6 ++ (wsL_looks_r7 ++ (wsL_looks_r8 ++ wsL_looks_r9)))))))) ++ wsX30 ++ wsX10 ++ wsX00 ++ (vx_at0 RX3 60 "java/lang/IllegalArgumentException" ["java/lang/RuntimeException", "java/lang/Exception"]).filter goodWord ++ (vx_at0 RX3 83 "java/lang/IndexOutOfBoundsException" ["java/lang/RuntimeException", "java/lang/Exception"]).filter goodWord)
def wsL_act_r1 : List Cond := [Cond.methodLink RL 54 yL_cell, Cond.static yL_cell, Cond.initialized RL, Cond.code yL_cell cL_cell 2 (some .int), Cond.constant RL 8 (40503), Cond.methodLink RL 25 yX3_count, Cond.instanceMethod yX3_count, Cond.selects RX3 yX3_count yX3_count, Cond.initialized RX3, Cond.code yX3_count cX3_count 2 (some .int), Cond.classLink RX3 58 "java/lang/IllegalArgumentException", Cond.initialized "java/lang/IllegalArgumentException", Cond.fieldLink RX3 10 "TheatreWall" "now" "LTheatreWall$State;", Cond.fieldLink RX3 61 "TheatreWall$State" "size" "I", Cond.fieldLink RX3 19 "TheatreWall" "plan" "LTheatreWall$Plan;", Cond.fieldLink RX3 133 "TheatreWall$Plan" "laidCount" "I", Cond.fieldLink RX3 112 "TheatreWall$Plan" "end" "I", Cond.fieldLink RX3 44 "TheatreWall" "savedCount" "I", Cond.methodLink RX3 187 yX1_lengthOfAll, Cond.instanceMethod yX1_lengthOfAll, Cond.selects RX1 yX1_lengthOfAll yX1_lengthOfAll, Cond.initialized RX1, Cond.code yX1_lengthOfAll cX1_lengthOfAll 3 (some .int), Cond.fieldLink RX1 33 "TheatreWall$State" "size" "I"]
def wsL_act_r2 : List Cond := [Cond.fieldLink RX1 9 "TheatreWall$State" "lengths" "[I", Cond.methodLink RX3 190 yX3_criticalTasks, Cond.instanceMethod yX3_criticalTasks, Cond.selects RX3 yX3_criticalTasks yX3_criticalTasks, Cond.code yX3_criticalTasks cX3_criticalTasks 3 (some .int), Cond.methodLink RX3 161 yX3_slackOf, Cond.instanceMethod yX3_slackOf, Cond.selects RX3 yX3_slackOf yX3_slackOf, Cond.code yX3_slackOf cX3_slackOf 4 (some .int), Cond.fieldLink RX3 118 "TheatreWall$Plan" "begins" "[I", Cond.fieldLink RX3 23 "TheatreWall" "trial" "LTheatreWall$State;", Cond.fieldLink RX3 115 "TheatreWall$State" "earliest" "[I", Cond.fieldLink RX3 26 "TheatreWall" "trialPlan" "LTheatreWall$Plan;", Cond.methodLink RX3 154 yX1_copyFrom, Cond.instanceMethod yX1_copyFrom, Cond.selects RX1 yX1_copyFrom yX1_copyFrom, Cond.code yX1_copyFrom cX1_copyFrom 3 none, Cond.fieldLink RX1 37 "TheatreWall$State" "order" "I", Cond.fieldLink RX1 15 "TheatreWall$State" "persons" "[I", Cond.fieldLink RX1 18 "TheatreWall$State" "halls" "[I", Cond.fieldLink RX1 21 "TheatreWall$State" "earliest" "[I", Cond.fieldLink RX1 24 "TheatreWall$State" "needs" "[I", Cond.fieldLink RX1 27 "TheatreWall$State" "firstDays" "[I", Cond.fieldLink RX1 30 "TheatreWall$State" "lastDays" "[I"]
def wsL_act_r3 : List Cond := [Cond.methodLink RX3 74 yX0_lay, Cond.instanceMethod yX0_lay, Cond.selects RX0 yX0_lay yX0_lay, Cond.initialized RX0, Cond.code yX0_lay cX0_lay 6 none, Cond.fieldLink RX0 18 "TheatreWall$Plan" "laidMask" "I", Cond.fieldLink RX0 22 "TheatreWall$Plan" "laidCount" "I", Cond.fieldLink RX0 25 "TheatreWall$Plan" "end" "I", Cond.fieldLink RX0 28 "TheatreWall$State" "size" "I", Cond.fieldLink RX0 9 "TheatreWall$Plan" "begins" "[I", Cond.fieldLink RX0 15 "TheatreWall$Plan" "keys" "[I", Cond.fieldLink RX0 44 "TheatreWall$State" "lengths" "[I", Cond.methodLink RX0 47 Lib.Math.max.name, Cond.static Lib.Math.max.name, Cond.initialized "java/lang/Math", Cond.code Lib.Math.max.name Lib.Math.max.code 2 (some .int), Cond.methodLink RX0 33 yX1_keyOf, Cond.instanceMethod yX1_keyOf, Cond.selects RX1 yX1_keyOf yX1_keyOf, Cond.code yX1_keyOf cX1_keyOf 2 (some .int), Cond.methodLink RX1 48 yX1_followers, Cond.instanceMethod yX1_followers, Cond.selects RX1 yX1_followers yX1_followers, Cond.code yX1_followers cX1_followers 4 (some .int)]
def wsL_act_r4 : List Cond := [Cond.methodLink RX1 44 yX1_isNeeded, Cond.instanceMethod yX1_isNeeded, Cond.selects RX1 yX1_isNeeded yX1_isNeeded, Cond.code yX1_isNeeded cX1_isNeeded 3 (some .boolean), Cond.methodLink RX0 37 yX0_firstByRule, Cond.instanceMethod yX0_firstByRule, Cond.selects RX0 yX0_firstByRule yX0_firstByRule, Cond.code yX0_firstByRule cX0_firstByRule 8 (some .int), Cond.fieldLink RX0 53 "TheatreWall$State" "needs" "[I", Cond.methodLink RX0 41 yX0_firstDay, Cond.instanceMethod yX0_firstDay, Cond.selects RX0 yX0_firstDay yX0_firstDay, Cond.code yX0_firstDay cX0_firstDay 8 (some .int), Cond.fieldLink RX0 59 "TheatreWall$State" "halls" "[I", Cond.fieldLink RX0 62 "TheatreWall$State" "firstDays" "[I", Cond.fieldLink RX0 65 "TheatreWall$State" "lastDays" "[I", Cond.methodLink RX0 56 yX0_startOf, Cond.instanceMethod yX0_startOf, Cond.selects RX0 yX0_startOf yX0_startOf, Cond.code yX0_startOf cX0_startOf 5 (some .int), Cond.fieldLink RX0 76 "TheatreWall$State" "earliest" "[I", Cond.methodLink RX0 79 yX1_isNeeded, Cond.methodLink RX0 68 yX0_behindClash, Cond.instanceMethod yX0_behindClash]
def wsL_act_r5 : List Cond := [Cond.selects RX0 yX0_behindClash yX0_behindClash, Cond.code yX0_behindClash cX0_behindClash 8 (some .int), Cond.methodLink RX0 72 yX1_share, Cond.instanceMethod yX1_share, Cond.selects RX1 yX1_share yX1_share, Cond.code yX1_share cX1_share 5 (some .boolean), Cond.methodLink RX3 193 yX0_waitOfAll, Cond.instanceMethod yX0_waitOfAll, Cond.selects RX0 yX0_waitOfAll yX0_waitOfAll, Cond.code yX0_waitOfAll cX0_waitOfAll 4 (some .int), Cond.methodLink RX0 82 yX0_waitOf, Cond.instanceMethod yX0_waitOf, Cond.selects RX0 yX0_waitOf yX0_waitOf, Cond.code yX0_waitOf cX0_waitOf 3 (some .int), Cond.methodLink RX3 197 yX3_longestRow, Cond.instanceMethod yX3_longestRow, Cond.selects RX3 yX3_longestRow yX3_longestRow, Cond.code yX3_longestRow cX3_longestRow 5 (some .int), Cond.fieldLink RX3 40 "TheatreWall" "rowSums" "[I", Cond.methodLink RX3 266 Lib.Math.max.name, Cond.fieldLink RX3 271 "TheatreWall$State" "lengths" "[I", Cond.methodLink RX3 92 yX1_isNeeded, Cond.methodLink RL 60 yL_low, Cond.static yL_low]
def wsL_act_r6 : List Cond := [Cond.code yL_low cL_low 2 (some .int), Cond.constant RL 7 (2147483647), Cond.methodLink RL 63 yL_add, Cond.static yL_add, Cond.codeWith yL_add cL_add 5 (some .int) [(0, 7, 8, 15)], Cond.classLink RL 15 "java/lang/IllegalStateException", Cond.methodLink RL 17 yX3_add, Cond.instanceMethod yX3_add, Cond.selects RX3 yX3_add yX3_add, Cond.code yX3_add cX3_add 4 (some .int), Cond.classLink RX3 64 "java/lang/IllegalStateException", Cond.initialized "java/lang/IllegalStateException", Cond.methodLink RX3 48 yX3_isLength, Cond.static yX3_isLength, Cond.code yX3_isLength cX3_isLength 1 (some .boolean), Cond.methodLink RX3 52 yX3_isPersonOrNone, Cond.static yX3_isPersonOrNone, Cond.code yX3_isPersonOrNone cX3_isPersonOrNone 1 (some .boolean), Cond.methodLink RX3 168 yX3_isPerson, Cond.static yX3_isPerson, Cond.code yX3_isPerson cX3_isPerson 1 (some .boolean), Cond.methodLink RX3 55 yX3_isHallOrNone, Cond.static yX3_isHallOrNone, Cond.code yX3_isHallOrNone cX3_isHallOrNone 1 (some .boolean)]
def wsL_act_r7 : List Cond := [Cond.methodLink RX3 121 yX3_isHall, Cond.static yX3_isHall, Cond.code yX3_isHall cX3_isHall 1 (some .boolean), Cond.methodLink RX3 67 yX3_saveState, Cond.instanceMethod yX3_saveState, Cond.selects RX3 yX3_saveState yX3_saveState, Cond.code yX3_saveState cX3_saveState 1 none, Cond.fieldLink RX3 29 "TheatreWall" "saved" "[LTheatreWall$State;", Cond.methodLink RX3 263 yX3_dropOldest, Cond.instanceMethod yX3_dropOldest, Cond.selects RX3 yX3_dropOldest yX3_dropOldest, Cond.code yX3_dropOldest cX3_dropOldest 3 none, Cond.methodLink RX3 70 yX1_appendTask, Cond.instanceMethod yX1_appendTask, Cond.selects RX1 yX1_appendTask yX1_appendTask, Cond.code yX1_appendTask cX1_appendTask 4 none, Cond.methodLink RL 66 yX3_borrow, Cond.instanceMethod yX3_borrow, Cond.selects RX3 yX3_borrow yX3_borrow, Cond.code yX3_borrow cX3_borrow 4 (some .int), Cond.classLink RX3 81 "java/lang/IndexOutOfBoundsException", Cond.initialized "java/lang/IndexOutOfBoundsException", Cond.fieldLink RX3 127 "TheatreWall$State" "firstDays" "[I", Cond.fieldLink RX3 130 "TheatreWall$State" "lastDays" "[I"]
def wsL_act_r8 : List Cond := [Cond.methodLink RX3 124 yX3_isDay, Cond.static yX3_isDay, Cond.code yX3_isDay cX3_isDay 1 (some .boolean), Cond.methodLink RL 69 yX3_rule, Cond.instanceMethod yX3_rule, Cond.selects RX3 yX3_rule yX3_rule, Cond.code yX3_rule cX3_rule 3 (some .int), Cond.fieldLink RX3 139 "TheatreWall$State" "order" "I", Cond.methodLink RX3 136 yX3_isRule, Cond.static yX3_isRule, Cond.code yX3_isRule cX3_isRule 1 (some .boolean), Cond.methodLink RL 72 yL_undo, Cond.static yL_undo, Cond.codeWith yL_undo cL_undo 2 (some .int) [(0, 4, 5, 15)], Cond.methodLink RL 9 yX3_undo, Cond.instanceMethod yX3_undo, Cond.selects RX3 yX3_undo yX3_undo, Cond.code yX3_undo cX3_undo 1 (some .int), Cond.methodLink RL 75 yX3_need, Cond.instanceMethod yX3_need, Cond.selects RX3 yX3_need yX3_need, Cond.code yX3_need cX3_need 5 (some .int), Cond.fieldLink RX3 96 "TheatreWall$State" "needs" "[I", Cond.methodLink RX3 78 yX3_isTask]
def wsL_act_r9 : List Cond := [Cond.instanceMethod yX3_isTask, Cond.selects RX3 yX3_isTask yX3_isTask, Cond.code yX3_isTask cX3_isTask 2 (some .boolean), Cond.methodLink RL 79 yX3_remove, Cond.instanceMethod yX3_remove, Cond.selects RX3 yX3_remove yX3_remove, Cond.code yX3_remove cX3_remove 3 (some .int), Cond.methodLink RX3 84 yX1_followers, Cond.methodLink RX3 88 yX1_dropTask, Cond.instanceMethod yX1_dropTask, Cond.selects RX1 yX1_dropTask yX1_dropTask, Cond.code yX1_dropTask cX1_dropTask 3 none, Cond.methodLink RX1 40 yX1_withoutBit, Cond.static yX1_withoutBit, Cond.code yX1_withoutBit cX1_withoutBit 4 (some .int), Cond.methodLink RL 82 yX3_change, Cond.instanceMethod yX3_change, Cond.selects RX3 yX3_change yX3_change, Cond.code yX3_change cX3_change 6 (some .int), Cond.methodLink RX3 99 yX3_isValue, Cond.static yX3_isValue, Cond.code yX3_isValue cX3_isValue 2 (some .boolean), Cond.methodLink RX3 102 yX1_property, Cond.instanceMethod yX1_property]
def wsL_act_r10 : List Cond := [Cond.selects RX1 yX1_property yX1_property, Cond.code yX1_property cX1_property 2 (some (.array .int)), Cond.methodLink RL 85 yL_slip, Cond.static yL_slip, Cond.codeWith yL_slip cL_slip 4 (some .int) [(0, 6, 7, 15)], Cond.methodLink RL 21 yX3_slip, Cond.instanceMethod yX3_slip, Cond.selects RX3 yX3_slip yX3_slip, Cond.code yX3_slip cX3_slip 4 (some .int), Cond.methodLink RX3 106 yX3_isSlip, Cond.static yX3_isSlip, Cond.code yX3_isSlip cX3_isSlip 1 (some .boolean), Cond.methodLink RX3 109 yX3_couldSlip, Cond.instanceMethod yX3_couldSlip, Cond.selects RX3 yX3_couldSlip yX3_couldSlip, Cond.code yX3_couldSlip cX3_couldSlip 4 (some .boolean)]
def wsL_act : List Cond := .code yL_act cL_act 10 (some .int) :: ((wsL_act_r1 ++ (wsL_act_r2 ++ (wsL_act_r3 ++ (wsL_act_r4 ++ (wsL_act_r5 ++ (wsL_act_r6 ++ (wsL_act_r7 ++ (wsL_act_r8 ++ (wsL_act_r9 ++ wsL_act_r10))))))))) ++ wsX30 ++ wsX10 ++ wsX00 ++ (vx_at0 RX3 60 "java/lang/IllegalArgumentException" ["java/lang/RuntimeException", "java/lang/Exception"]).filter goodWord ++ (vx_at0 RX3 66 "java/lang/IllegalStateException" ["java/lang/RuntimeException", "java/lang/Exception"]).filter goodWord ++ (vx_at0 RX3 83 "java/lang/IndexOutOfBoundsException" ["java/lang/RuntimeException", "java/lang/Exception"]).filter goodWord)
def wsL_law0_r1 : List Cond := [Cond.classLink RL 10 RX3, Cond.instantiable RX3 8, Cond.initialized RX3, Cond.methodLink RL 88 yX3_init, Cond.instanceMethod yX3_init, Cond.code yX3_init cX3_init 2 none, Cond.methodLink RX3 1 objectInit, Cond.instanceMethod objectInit, Cond.code objectInit ⟨#[0xb1]⟩ 1 none, Cond.classLink RX3 7 RX1, Cond.instantiable RX1 9, Cond.initialized RX1, Cond.fieldLink RX3 10 "TheatreWall" "now" "LTheatreWall$State;", Cond.classLink RX3 16 RX0, Cond.instantiable RX0 5, Cond.initialized RX0, Cond.fieldLink RX3 19 "TheatreWall" "plan" "LTheatreWall$Plan;", Cond.fieldLink RX3 23 "TheatreWall" "trial" "LTheatreWall$State;", Cond.fieldLink RX3 26 "TheatreWall" "trialPlan" "LTheatreWall$Plan;", Cond.fieldLink RX3 29 "TheatreWall" "saved" "[LTheatreWall$State;", Cond.classLink RX3 33 RX2, Cond.instantiable RX2 2, Cond.initialized RX2, Cond.fieldLink RX3 36 "TheatreWall" "text" "LTheatreWall$Text;"]
def wsL_law0_r2 : List Cond := [Cond.arrayClass .int, Cond.fieldLink RX3 40 "TheatreWall" "rowSums" "[I", Cond.fieldLink RX3 44 "TheatreWall" "savedCount" "I", Cond.methodLink RX3 9 yX1_init, Cond.instanceMethod yX1_init, Cond.code yX1_init cX1_init 2 none, Cond.methodLink RX1 3 objectInit, Cond.fieldLink RX1 9 "TheatreWall$State" "lengths" "[I", Cond.fieldLink RX1 15 "TheatreWall$State" "persons" "[I", Cond.fieldLink RX1 18 "TheatreWall$State" "halls" "[I", Cond.fieldLink RX1 21 "TheatreWall$State" "earliest" "[I", Cond.fieldLink RX1 24 "TheatreWall$State" "needs" "[I", Cond.fieldLink RX1 27 "TheatreWall$State" "firstDays" "[I", Cond.fieldLink RX1 30 "TheatreWall$State" "lastDays" "[I", Cond.fieldLink RX1 33 "TheatreWall$State" "size" "I", Cond.fieldLink RX1 37 "TheatreWall$State" "order" "I", Cond.instanceMethod yX0_init, Cond.code yX0_init cX0_init 1 none, Cond.methodLink RX0 3 objectInit, Cond.fieldLink RX0 9 "TheatreWall$Plan" "begins" "[I", Cond.fieldLink RX0 15 "TheatreWall$Plan" "keys" "[I", Cond.fieldLink RX0 18 "TheatreWall$Plan" "laidMask" "I", Cond.fieldLink RX0 22 "TheatreWall$Plan" "laidCount" "I", Cond.fieldLink RX0 25 "TheatreWall$Plan" "end" "I"]
def wsL_law0_r3 : List Cond := [Cond.instanceMethod yX2_init, Cond.code yX2_init cX2_init 1 none, Cond.methodLink RX2 3 objectInit, Cond.fieldLink RX2 9 "TheatreWall$Text" "codes" "[I", Cond.fieldLink RX2 15 "TheatreWall$Text" "size" "I", Cond.methodLink RL 25 yX3_count, Cond.instanceMethod yX3_count, Cond.selects RX3 yX3_count yX3_count, Cond.code yX3_count cX3_count 2 (some .int), Cond.classLink RX3 58 "java/lang/IllegalArgumentException", Cond.initialized "java/lang/IllegalArgumentException", Cond.fieldLink RX3 61 "TheatreWall$State" "size" "I", Cond.fieldLink RX3 133 "TheatreWall$Plan" "laidCount" "I", Cond.fieldLink RX3 112 "TheatreWall$Plan" "end" "I", Cond.methodLink RX3 187 yX1_lengthOfAll, Cond.instanceMethod yX1_lengthOfAll, Cond.selects RX1 yX1_lengthOfAll yX1_lengthOfAll, Cond.code yX1_lengthOfAll cX1_lengthOfAll 3 (some .int), Cond.methodLink RX3 190 yX3_criticalTasks, Cond.instanceMethod yX3_criticalTasks, Cond.selects RX3 yX3_criticalTasks yX3_criticalTasks, Cond.code yX3_criticalTasks cX3_criticalTasks 3 (some .int), Cond.methodLink RX3 161 yX3_slackOf, Cond.instanceMethod yX3_slackOf]
def wsL_law0_r4 : List Cond := [Cond.selects RX3 yX3_slackOf yX3_slackOf, Cond.code yX3_slackOf cX3_slackOf 4 (some .int), Cond.fieldLink RX3 118 "TheatreWall$Plan" "begins" "[I", Cond.fieldLink RX3 115 "TheatreWall$State" "earliest" "[I", Cond.methodLink RX3 154 yX1_copyFrom, Cond.instanceMethod yX1_copyFrom, Cond.selects RX1 yX1_copyFrom yX1_copyFrom, Cond.code yX1_copyFrom cX1_copyFrom 3 none, Cond.methodLink RX3 74 yX0_lay, Cond.instanceMethod yX0_lay, Cond.selects RX0 yX0_lay yX0_lay, Cond.code yX0_lay cX0_lay 6 none, Cond.fieldLink RX0 28 "TheatreWall$State" "size" "I", Cond.fieldLink RX0 44 "TheatreWall$State" "lengths" "[I", Cond.methodLink RX0 47 Lib.Math.max.name, Cond.static Lib.Math.max.name, Cond.initialized "java/lang/Math", Cond.code Lib.Math.max.name Lib.Math.max.code 2 (some .int), Cond.methodLink RX0 33 yX1_keyOf, Cond.instanceMethod yX1_keyOf, Cond.selects RX1 yX1_keyOf yX1_keyOf, Cond.code yX1_keyOf cX1_keyOf 2 (some .int), Cond.methodLink RX1 48 yX1_followers, Cond.instanceMethod yX1_followers]
def wsL_law0_r5 : List Cond := [Cond.selects RX1 yX1_followers yX1_followers, Cond.code yX1_followers cX1_followers 4 (some .int), Cond.methodLink RX1 44 yX1_isNeeded, Cond.instanceMethod yX1_isNeeded, Cond.selects RX1 yX1_isNeeded yX1_isNeeded, Cond.code yX1_isNeeded cX1_isNeeded 3 (some .boolean), Cond.methodLink RX0 37 yX0_firstByRule, Cond.instanceMethod yX0_firstByRule, Cond.selects RX0 yX0_firstByRule yX0_firstByRule, Cond.code yX0_firstByRule cX0_firstByRule 8 (some .int), Cond.fieldLink RX0 53 "TheatreWall$State" "needs" "[I", Cond.methodLink RX0 41 yX0_firstDay, Cond.instanceMethod yX0_firstDay, Cond.selects RX0 yX0_firstDay yX0_firstDay, Cond.code yX0_firstDay cX0_firstDay 8 (some .int), Cond.fieldLink RX0 59 "TheatreWall$State" "halls" "[I", Cond.fieldLink RX0 62 "TheatreWall$State" "firstDays" "[I", Cond.fieldLink RX0 65 "TheatreWall$State" "lastDays" "[I", Cond.methodLink RX0 56 yX0_startOf, Cond.instanceMethod yX0_startOf, Cond.selects RX0 yX0_startOf yX0_startOf, Cond.code yX0_startOf cX0_startOf 5 (some .int), Cond.fieldLink RX0 76 "TheatreWall$State" "earliest" "[I", Cond.methodLink RX0 79 yX1_isNeeded]
def wsL_law0_r6 : List Cond := [Cond.methodLink RX0 68 yX0_behindClash, Cond.instanceMethod yX0_behindClash, Cond.selects RX0 yX0_behindClash yX0_behindClash, Cond.code yX0_behindClash cX0_behindClash 8 (some .int), Cond.methodLink RX0 72 yX1_share, Cond.instanceMethod yX1_share, Cond.selects RX1 yX1_share yX1_share, Cond.code yX1_share cX1_share 5 (some .boolean), Cond.methodLink RX3 193 yX0_waitOfAll, Cond.instanceMethod yX0_waitOfAll, Cond.selects RX0 yX0_waitOfAll yX0_waitOfAll, Cond.code yX0_waitOfAll cX0_waitOfAll 4 (some .int), Cond.methodLink RX0 82 yX0_waitOf, Cond.instanceMethod yX0_waitOf, Cond.selects RX0 yX0_waitOf yX0_waitOf, Cond.code yX0_waitOf cX0_waitOf 3 (some .int), Cond.methodLink RX3 197 yX3_longestRow, Cond.instanceMethod yX3_longestRow, Cond.selects RX3 yX3_longestRow yX3_longestRow, Cond.code yX3_longestRow cX3_longestRow 5 (some .int), Cond.methodLink RX3 266 Lib.Math.max.name, Cond.fieldLink RX3 271 "TheatreWall$State" "lengths" "[I", Cond.methodLink RX3 92 yX1_isNeeded, Cond.methodLink RL 89 yL_act]
def wsL_law0_r7 : List Cond := [Cond.static yL_act, Cond.initialized RL, Cond.code yL_act cL_act 10 (some .int), Cond.methodLink RL 54 yL_cell, Cond.static yL_cell, Cond.code yL_cell cL_cell 2 (some .int), Cond.constant RL 8 (40503), Cond.methodLink RL 60 yL_low, Cond.static yL_low, Cond.code yL_low cL_low 2 (some .int), Cond.constant RL 7 (2147483647), Cond.methodLink RL 63 yL_add, Cond.static yL_add, Cond.codeWith yL_add cL_add 5 (some .int) [(0, 7, 8, 15)], Cond.classLink RL 15 "java/lang/IllegalStateException", Cond.methodLink RL 17 yX3_add, Cond.instanceMethod yX3_add, Cond.selects RX3 yX3_add yX3_add, Cond.code yX3_add cX3_add 4 (some .int), Cond.classLink RX3 64 "java/lang/IllegalStateException", Cond.initialized "java/lang/IllegalStateException", Cond.methodLink RX3 48 yX3_isLength, Cond.static yX3_isLength, Cond.code yX3_isLength cX3_isLength 1 (some .boolean)]
def wsL_law0_r8 : List Cond := [Cond.methodLink RX3 52 yX3_isPersonOrNone, Cond.static yX3_isPersonOrNone, Cond.code yX3_isPersonOrNone cX3_isPersonOrNone 1 (some .boolean), Cond.methodLink RX3 168 yX3_isPerson, Cond.static yX3_isPerson, Cond.code yX3_isPerson cX3_isPerson 1 (some .boolean), Cond.methodLink RX3 55 yX3_isHallOrNone, Cond.static yX3_isHallOrNone, Cond.code yX3_isHallOrNone cX3_isHallOrNone 1 (some .boolean), Cond.methodLink RX3 121 yX3_isHall, Cond.static yX3_isHall, Cond.code yX3_isHall cX3_isHall 1 (some .boolean), Cond.methodLink RX3 67 yX3_saveState, Cond.instanceMethod yX3_saveState, Cond.selects RX3 yX3_saveState yX3_saveState, Cond.code yX3_saveState cX3_saveState 1 none, Cond.methodLink RX3 263 yX3_dropOldest, Cond.instanceMethod yX3_dropOldest, Cond.selects RX3 yX3_dropOldest yX3_dropOldest, Cond.code yX3_dropOldest cX3_dropOldest 3 none, Cond.methodLink RX3 70 yX1_appendTask, Cond.instanceMethod yX1_appendTask, Cond.selects RX1 yX1_appendTask yX1_appendTask, Cond.code yX1_appendTask cX1_appendTask 4 none]
def wsL_law0_r9 : List Cond := [Cond.methodLink RL 66 yX3_borrow, Cond.instanceMethod yX3_borrow, Cond.selects RX3 yX3_borrow yX3_borrow, Cond.code yX3_borrow cX3_borrow 4 (some .int), Cond.classLink RX3 81 "java/lang/IndexOutOfBoundsException", Cond.initialized "java/lang/IndexOutOfBoundsException", Cond.fieldLink RX3 127 "TheatreWall$State" "firstDays" "[I", Cond.fieldLink RX3 130 "TheatreWall$State" "lastDays" "[I", Cond.methodLink RX3 124 yX3_isDay, Cond.static yX3_isDay, Cond.code yX3_isDay cX3_isDay 1 (some .boolean), Cond.methodLink RL 69 yX3_rule, Cond.instanceMethod yX3_rule, Cond.selects RX3 yX3_rule yX3_rule, Cond.code yX3_rule cX3_rule 3 (some .int), Cond.fieldLink RX3 139 "TheatreWall$State" "order" "I", Cond.methodLink RX3 136 yX3_isRule, Cond.static yX3_isRule, Cond.code yX3_isRule cX3_isRule 1 (some .boolean), Cond.methodLink RL 72 yL_undo, Cond.static yL_undo, Cond.codeWith yL_undo cL_undo 2 (some .int) [(0, 4, 5, 15)], Cond.methodLink RL 9 yX3_undo, Cond.instanceMethod yX3_undo]
def wsL_law0_r10 : List Cond := [Cond.selects RX3 yX3_undo yX3_undo, Cond.code yX3_undo cX3_undo 1 (some .int), Cond.methodLink RL 75 yX3_need, Cond.instanceMethod yX3_need, Cond.selects RX3 yX3_need yX3_need, Cond.code yX3_need cX3_need 5 (some .int), Cond.fieldLink RX3 96 "TheatreWall$State" "needs" "[I", Cond.methodLink RX3 78 yX3_isTask, Cond.instanceMethod yX3_isTask, Cond.selects RX3 yX3_isTask yX3_isTask, Cond.code yX3_isTask cX3_isTask 2 (some .boolean), Cond.methodLink RL 79 yX3_remove, Cond.instanceMethod yX3_remove, Cond.selects RX3 yX3_remove yX3_remove, Cond.code yX3_remove cX3_remove 3 (some .int), Cond.methodLink RX3 84 yX1_followers, Cond.methodLink RX3 88 yX1_dropTask, Cond.instanceMethod yX1_dropTask, Cond.selects RX1 yX1_dropTask yX1_dropTask, Cond.code yX1_dropTask cX1_dropTask 3 none, Cond.methodLink RX1 40 yX1_withoutBit, Cond.static yX1_withoutBit, Cond.code yX1_withoutBit cX1_withoutBit 4 (some .int), Cond.methodLink RL 82 yX3_change]
def wsL_law0_r11 : List Cond := [Cond.instanceMethod yX3_change, Cond.selects RX3 yX3_change yX3_change, Cond.code yX3_change cX3_change 6 (some .int), Cond.methodLink RX3 99 yX3_isValue, Cond.static yX3_isValue, Cond.code yX3_isValue cX3_isValue 2 (some .boolean), Cond.methodLink RX3 102 yX1_property, Cond.instanceMethod yX1_property, Cond.selects RX1 yX1_property yX1_property, Cond.code yX1_property cX1_property 2 (some (.array .int)), Cond.methodLink RL 85 yL_slip, Cond.static yL_slip, Cond.codeWith yL_slip cL_slip 4 (some .int) [(0, 6, 7, 15)], Cond.methodLink RL 21 yX3_slip, Cond.instanceMethod yX3_slip, Cond.selects RX3 yX3_slip yX3_slip, Cond.code yX3_slip cX3_slip 4 (some .int), Cond.methodLink RX3 106 yX3_isSlip, Cond.static yX3_isSlip, Cond.code yX3_isSlip cX3_isSlip 1 (some .boolean), Cond.methodLink RX3 109 yX3_couldSlip, Cond.instanceMethod yX3_couldSlip, Cond.selects RX3 yX3_couldSlip yX3_couldSlip, Cond.code yX3_couldSlip cX3_couldSlip 4 (some .boolean)]
def wsL_law0_r12 : List Cond := [Cond.methodLink RL 93 yL_plan, Cond.static yL_plan, Cond.code yL_plan cL_plan 14 (some .boolean), Cond.methodLink RL 29 yX3_task, Cond.instanceMethod yX3_task, Cond.selects RX3 yX3_task yX3_task, Cond.code yX3_task cX3_task 3 (some .int), Cond.methodLink RX3 164 yX0_waitOf, Cond.methodLink RL 32 yX3_personOn, Cond.instanceMethod yX3_personOn, Cond.selects RX3 yX3_personOn yX3_personOn, Cond.code yX3_personOn cX3_personOn 3 (some .int), Cond.fieldLink RX3 171 "TheatreWall$State" "persons" "[I", Cond.methodLink RX3 174 yX0_taskOn, Cond.instanceMethod yX0_taskOn, Cond.selects RX0 yX0_taskOn yX0_taskOn, Cond.code yX0_taskOn cX0_taskOn 7 (some .int), Cond.methodLink RL 35 yX3_hallOn, Cond.instanceMethod yX3_hallOn, Cond.selects RX3 yX3_hallOn yX3_hallOn, Cond.code yX3_hallOn cX3_hallOn 3 (some .int), Cond.fieldLink RX3 178 "TheatreWall$State" "halls" "[I", Cond.methodLink RL 38 yX3_hall, Cond.instanceMethod yX3_hall]
def wsL_law0_r13 : List Cond := [Cond.selects RX3 yX3_hall yX3_hall, Cond.code yX3_hall cX3_hall 3 (some .int), Cond.methodLink RX3 181 yX0_daysIn, Cond.instanceMethod yX0_daysIn, Cond.selects RX0 yX0_daysIn yX0_daysIn, Cond.code yX0_daysIn cX0_daysIn 5 (some .int), Cond.methodLink RX3 184 yX0_tasksIn, Cond.instanceMethod yX0_tasksIn, Cond.selects RX0 yX0_tasksIn yX0_tasksIn, Cond.code yX0_tasksIn cX0_tasksIn 5 (some .int), Cond.methodLink RL 97 yL_looks, Cond.static yL_looks, Cond.code yL_looks cL_looks 5 (some .boolean), Cond.methodLink RL 41 yX3_setting, Cond.instanceMethod yX3_setting, Cond.selects RX3 yX3_setting yX3_setting, Cond.code yX3_setting cX3_setting 1 (some .int), Cond.methodLink RL 44 yX3_ifRule, Cond.instanceMethod yX3_ifRule, Cond.selects RX3 yX3_ifRule yX3_ifRule, Cond.code yX3_ifRule cX3_ifRule 3 (some .int), Cond.methodLink RX3 200 yX3_tryRule, Cond.instanceMethod yX3_tryRule, Cond.selects RX3 yX3_tryRule yX3_tryRule]
def wsL_law0_r14 : List Cond := [Cond.code yX3_tryRule cX3_tryRule 2 none, Cond.methodLink RL 47 yX3_worstSlip, Cond.instanceMethod yX3_worstSlip, Cond.selects RX3 yX3_worstSlip yX3_worstSlip, Cond.code yX3_worstSlip cX3_worstSlip 5 (some .int), Cond.methodLink RL 50 yX3_busyness, Cond.instanceMethod yX3_busyness, Cond.selects RX3 yX3_busyness yX3_busyness, Cond.code yX3_busyness cX3_busyness 2 (some .double), Cond.methodLink RX3 203 yX0_lengthOfLaid, Cond.instanceMethod yX0_lengthOfLaid, Cond.selects RX0 yX0_lengthOfLaid yX0_lengthOfLaid, Cond.code yX0_lengthOfLaid cX0_lengthOfLaid 4 (some .int)]
def wsL_law0 : List Cond := (wsL_law0_r1 ++ (wsL_law0_r2 ++ (wsL_law0_r3 ++ (wsL_law0_r4 ++ (wsL_law0_r5 ++ (wsL_law0_r6 ++ (wsL_law0_r7 ++ (wsL_law0_r8 ++ (wsL_law0_r9 ++ (wsL_law0_r10 ++ (wsL_law0_r11 ++ (wsL_law0_r12 ++ (wsL_law0_r13 ++ wsL_law0_r14))))))))))))) ++ wsX30 ++ wsX10 ++ wsX00 ++ wsX20 ++ ([] : List Cond)
def wsL_law : List Cond := wsL_law0 ++ (vx_at0 RX3 60 "java/lang/IllegalArgumentException" ["java/lang/RuntimeException", "java/lang/Exception"]).filter goodWord ++ (vx_at0 RX3 66 "java/lang/IllegalStateException" ["java/lang/RuntimeException", "java/lang/Exception"]).filter goodWord ++ (vx_at0 RX3 83 "java/lang/IndexOutOfBoundsException" ["java/lang/RuntimeException", "java/lang/Exception"]).filter goodWord
set_option maxRecDepth 20000 in
theorem tw_in_wsL_law0_r1 : ∀ w ∈ wsL_law0_r1, w ∈ lw_tbl := fun w h => (goodIn_r (big := lw_tbl) wsL_law0_r1 [25, 26, 14, 27, 28, 29, 30, 31, 32, 33, 34, 15, 123, 84, 85, 16, 124, 125, 126, 127, 110, 111, 17, 128] (by decide +kernel) (by decide +kernel) w h).1
set_option maxRecDepth 20000 in
theorem tw_in_wsL_law0_r2 : ∀ w ∈ wsL_law0_r2, w ∈ lw_tbl := fun w h => (goodIn_r (big := lw_tbl) wsL_law0_r2 [83, 129, 130, 35, 36, 37, 38, 39, 42, 44, 47, 50, 53, 56, 59, 62, 87, 88, 89, 90, 92, 93, 94, 96] (by decide +kernel) (by decide +kernel) w h).1
set_option maxRecDepth 20000 in
theorem tw_in_wsL_law0_r3 : ∀ w ∈ wsL_law0_r3, w ∈ lw_tbl := fun w h => (goodIn_r (big := lw_tbl) wsL_law0_r3 [113, 114, 115, 116, 117, 148, 149, 150, 151, 152, 21, 61, 95, 97, 215, 216, 217, 218, 219, 221, 1, 222, 223, 225] (by decide +kernel) (by decide +kernel) w h).1
set_option maxRecDepth 20000 in
theorem tw_in_wsL_law0_r4 : ∀ w ∈ wsL_law0_r4, w ∈ lw_tbl := fun w h => (goodIn_r (big := lw_tbl) wsL_law0_r4 [2, 226, 91, 49, 227, 228, 229, 230, 231, 232, 233, 234, 60, 40, 260, 261, 22, 262, 235, 236, 237, 238, 239, 240] (by decide +kernel) (by decide +kernel) w h).1
set_option maxRecDepth 20000 in
theorem tw_in_wsL_law0_r5 : ∀ w ∈ wsL_law0_r5, w ∈ lw_tbl := fun w h => (goodIn_r (big := lw_tbl) wsL_law0_r5 [241, 242, 243, 244, 245, 246, 247, 249, 3, 250, 51, 251, 253, 4, 254, 45, 54, 57, 255, 257, 5, 258, 48, 259] (by decide +kernel) (by decide +kernel) w h).1
set_option maxRecDepth 20000 in
theorem tw_in_wsL_law0_r6 : ∀ w ∈ wsL_law0_r6, w ∈ lw_tbl := fun w h => (goodIn_r (big := lw_tbl) wsL_law0_r6 [263, 265, 6, 266, 267, 268, 269, 270, 271, 272, 273, 274, 275, 276, 277, 278, 279, 281, 7, 282, 284, 41, 283, 387] (by decide +kernel) (by decide +kernel) w h).1
set_option maxRecDepth 20000 in
theorem tw_in_wsL_law0_r7 : ∀ w ∈ wsL_law0_r7, w ∈ lw_tbl := fun w h => (goodIn_r (big := lw_tbl) wsL_law0_r7 [388, 13, 389, 390, 391, 392, 393, 394, 395, 396, 397, 398, 399, 400, 401, 402, 403, 404, 405, 415, 23, 406, 407, 408] (by decide +kernel) (by decide +kernel) w h).1
set_option maxRecDepth 20000 in
theorem tw_in_wsL_law0_r8 : ∀ w ∈ wsL_law0_r8, w ∈ lw_tbl := fun w h => (goodIn_r (big := lw_tbl) wsL_law0_r8 [409, 410, 411, 321, 322, 323, 412, 413, 414, 335, 336, 337, 430, 432, 11, 433, 434, 436, 12, 437, 438, 439, 440, 441] (by decide +kernel) (by decide +kernel) w h).1
set_option maxRecDepth 20000 in
theorem tw_in_wsL_law0_r9 : ∀ w ∈ wsL_law0_r9, w ∈ lw_tbl := fun w h => (goodIn_r (big := lw_tbl) wsL_law0_r9 [442, 443, 444, 445, 296, 24, 55, 58, 324, 325, 326, 446, 447, 448, 449, 63, 361, 362, 363, 450, 451, 452, 453, 454] (by decide +kernel) (by decide +kernel) w h).1
set_option maxRecDepth 20000 in
theorem tw_in_wsL_law0_r10 : ∀ w ∈ wsL_law0_r10, w ∈ lw_tbl := fun w h => (goodIn_r (big := lw_tbl) wsL_law0_r10 [455, 456, 457, 458, 459, 460, 52, 292, 294, 8, 295, 461, 462, 463, 464, 311, 465, 466, 467, 468, 469, 470, 471, 472] (by decide +kernel) (by decide +kernel) w h).1
set_option maxRecDepth 20000 in
theorem tw_in_wsL_law0_r11 : ∀ w ∈ wsL_law0_r11, w ∈ lw_tbl := fun w h => (goodIn_r (big := lw_tbl) wsL_law0_r11 [473, 474, 475, 476, 477, 478, 313, 314, 315, 316, 479, 480, 481, 482, 483, 484, 485, 372, 373, 374, 375, 377, 10, 378] (by decide +kernel) (by decide +kernel) w h).1
set_option maxRecDepth 20000 in
theorem tw_in_wsL_law0_r12 : ∀ w ∈ wsL_law0_r12, w ∈ lw_tbl := fun w h => (goodIn_r (big := lw_tbl) wsL_law0_r12 [285, 286, 287, 288, 289, 290, 291, 312, 317, 318, 319, 320, 43, 327, 328, 329, 330, 331, 332, 333, 334, 46, 338, 339] (by decide +kernel) (by decide +kernel) w h).1
set_option maxRecDepth 20000 in
theorem tw_in_wsL_law0_r13 : ∀ w ∈ wsL_law0_r13, w ∈ lw_tbl := fun w h => (goodIn_r (big := lw_tbl) wsL_law0_r13 [340, 341, 342, 343, 344, 345, 346, 347, 348, 349, 350, 351, 352, 353, 354, 355, 356, 357, 358, 359, 360, 364, 366, 9] (by decide +kernel) (by decide +kernel) w h).1
set_option maxRecDepth 20000 in
theorem tw_in_wsL_law0_r14 : ∀ w ∈ wsL_law0_r14, w ∈ lw_tbl := fun w h => (goodIn_r (big := lw_tbl) wsL_law0_r14 [367, 368, 369, 370, 371, 379, 380, 381, 382, 383, 384, 385, 386] (by decide +kernel) (by decide +kernel) w h).1
set_option maxRecDepth 20000 in
theorem tw_in_wsX30 : ∀ w ∈ wsX30, w ∈ lw_tbl := fun w h => (goodIn_r (big := lw_tbl) wsX30 [131, 133, 135, 137, 139, 141, 143, 145] (by decide +kernel) (by decide +kernel) w h).1
set_option maxRecDepth 20000 in
theorem tw_in_wsX10 : ∀ w ∈ wsX10, w ∈ lw_tbl := fun w h => (goodIn_r (big := lw_tbl) wsX10 [64, 66, 68, 70, 72, 74, 76, 78, 80] (by decide +kernel) (by decide +kernel) w h).1
set_option maxRecDepth 20000 in
theorem tw_in_wsX00 : ∀ w ∈ wsX00, w ∈ lw_tbl := fun w h => (goodIn_r (big := lw_tbl) wsX00 [98, 100, 102, 104, 106] (by decide +kernel) (by decide +kernel) w h).1
set_option maxRecDepth 20000 in
theorem tw_in_wsX20 : ∀ w ∈ wsX20, w ∈ lw_tbl := fun w h => (goodIn_r (big := lw_tbl) wsX20 [118, 120] (by decide +kernel) (by decide +kernel) w h).1
theorem wsL_law_in0 : ∀ w ∈ wsL_law0, w ∈ lw_tbl := fun w h => (List.mem_append.mp h).elim (fun h => (List.mem_append.mp h).elim (fun h => (List.mem_append.mp h).elim (fun h => (List.mem_append.mp h).elim (fun h => (List.mem_append.mp h).elim (fun h => (List.mem_append.mp h).elim (fun h => tw_in_wsL_law0_r1 w h) (fun h => (List.mem_append.mp h).elim (fun h => tw_in_wsL_law0_r2 w h) (fun h => (List.mem_append.mp h).elim (fun h => tw_in_wsL_law0_r3 w h) (fun h => (List.mem_append.mp h).elim (fun h => tw_in_wsL_law0_r4 w h) (fun h => (List.mem_append.mp h).elim (fun h => tw_in_wsL_law0_r5 w h) (fun h => (List.mem_append.mp h).elim (fun h => tw_in_wsL_law0_r6 w h) (fun h => (List.mem_append.mp h).elim (fun h => tw_in_wsL_law0_r7 w h) (fun h => (List.mem_append.mp h).elim (fun h => tw_in_wsL_law0_r8 w h) (fun h => (List.mem_append.mp h).elim (fun h => tw_in_wsL_law0_r9 w h) (fun h => (List.mem_append.mp h).elim (fun h => tw_in_wsL_law0_r10 w h) (fun h => (List.mem_append.mp h).elim (fun h => tw_in_wsL_law0_r11 w h) (fun h => (List.mem_append.mp h).elim (fun h => tw_in_wsL_law0_r12 w h) (fun h => (List.mem_append.mp h).elim (fun h => tw_in_wsL_law0_r13 w h) (fun h => tw_in_wsL_law0_r14 w h)))))))))))))) (fun h => tw_in_wsX30 w h)) (fun h => tw_in_wsX10 w h)) (fun h => tw_in_wsX00 w h)) (fun h => tw_in_wsX20 w h)) (fun h => (nomatch h))
theorem wsL_law_x0 : ∀ w ∈ (vx_at0 RX3 60 "java/lang/IllegalArgumentException" ["java/lang/RuntimeException", "java/lang/Exception"]).filter goodWord, w ∈ lw_tbl := by decide +kernel
theorem wsL_law_x1 : ∀ w ∈ (vx_at0 RX3 66 "java/lang/IllegalStateException" ["java/lang/RuntimeException", "java/lang/Exception"]).filter goodWord, w ∈ lw_tbl := by decide +kernel
theorem wsL_law_x2 : ∀ w ∈ (vx_at0 RX3 83 "java/lang/IndexOutOfBoundsException" ["java/lang/RuntimeException", "java/lang/Exception"]).filter goodWord, w ∈ lw_tbl := by decide +kernel
theorem wsL_law_in : ∀ w ∈ wsL_law, w ∈ lw_tbl := fun w h => (List.mem_append.mp h).elim (fun h => (List.mem_append.mp h).elim (fun h => (List.mem_append.mp h).elim (fun h => wsL_law_in0 w h) (fun h => wsL_law_x0 w h)) (fun h => wsL_law_x1 w h)) (fun h => wsL_law_x2 w h)
theorem inlX0 : ∀ w ∈ wsX00, w ∈ wsL_law := fun _ h => List.mem_append_left _ (List.mem_append_left _ (List.mem_append_left _ (List.mem_append_left _ (List.mem_append_left _ (List.mem_append_right _ h)))))
theorem inX0 : ∀ w ∈ wsX00, w ∈ lw_tbl := fun w h => wsL_law_in w (inlX0 w h)
theorem inlX1 : ∀ w ∈ wsX10, w ∈ wsL_law := fun _ h => List.mem_append_left _ (List.mem_append_left _ (List.mem_append_left _ (List.mem_append_left _ (List.mem_append_left _ (List.mem_append_left _ (List.mem_append_right _ h))))))
theorem inX1 : ∀ w ∈ wsX10, w ∈ lw_tbl := fun w h => wsL_law_in w (inlX1 w h)
theorem inlX2 : ∀ w ∈ wsX20, w ∈ wsL_law := fun _ h => List.mem_append_left _ (List.mem_append_left _ (List.mem_append_left _ (List.mem_append_left _ (List.mem_append_right _ h))))
theorem inX2 : ∀ w ∈ wsX20, w ∈ lw_tbl := fun w h => wsL_law_in w (inlX2 w h)
theorem inlX3 : ∀ w ∈ wsX30, w ∈ wsL_law := fun _ h => List.mem_append_left _ (List.mem_append_left _ (List.mem_append_left _ (List.mem_append_left _ (List.mem_append_left _ (List.mem_append_left _ (List.mem_append_left _ (List.mem_append_right _ h)))))))
theorem inX3 : ∀ w ∈ wsX30, w ∈ lw_tbl := fun w h => wsL_law_in w (inlX3 w h)
theorem inX4 : ∀ w ∈ wsX40, w ∈ lw_tbl := by decide +kernel
theorem inJ9 : ∀ w ∈ wsJ90, w ∈ lw_tbl := by decide +kernel
abbrev vwCl : List vw_C := [(RX0, TX0, 5), (RX1, TX1, 9), (RX2, TX2, 2), (RX3, TX3, 8)]
end
section
theorem dX0_init_0 : decode cX0_init 0 = .ok (.aload_n 0, 1) := by decide +kernel
theorem dX0_init_1 : decode cX0_init 1 = .ok (.invokespecial 3, 3) := by decide +kernel
theorem dX0_init_4 : decode cX0_init 4 = .ok (.aload_n 0, 1) := by decide +kernel
theorem dX0_init_5 : decode cX0_init 5 = .ok (.bipush 12, 2) := by decide +kernel
theorem dX0_init_7 : decode cX0_init 7 = .ok (.newarray .int, 2) := by decide +kernel
theorem dX0_init_9 : decode cX0_init 9 = .ok (.putfield 9, 3) := by decide +kernel
theorem dX0_init_12 : decode cX0_init 12 = .ok (.aload_n 0, 1) := by decide +kernel
theorem dX0_init_13 : decode cX0_init 13 = .ok (.bipush 12, 2) := by decide +kernel
theorem dX0_init_15 : decode cX0_init 15 = .ok (.newarray .int, 2) := by decide +kernel
theorem dX0_init_17 : decode cX0_init 17 = .ok (.putfield 15, 3) := by decide +kernel
theorem dX0_init_20 : decode cX0_init 20 = .ok (.aload_n 0, 1) := by decide +kernel
theorem dX0_init_21 : decode cX0_init 21 = .ok (.iconst 0, 1) := by decide +kernel
theorem dX0_init_22 : decode cX0_init 22 = .ok (.putfield 18, 3) := by decide +kernel
theorem dX0_init_25 : decode cX0_init 25 = .ok (.aload_n 0, 1) := by decide +kernel
theorem dX0_init_26 : decode cX0_init 26 = .ok (.iconst 0, 1) := by decide +kernel
theorem dX0_init_27 : decode cX0_init 27 = .ok (.putfield 22, 3) := by decide +kernel
theorem dX0_init_30 : decode cX0_init 30 = .ok (.aload_n 0, 1) := by decide +kernel
theorem dX0_init_31 : decode cX0_init 31 = .ok (.iconst 0, 1) := by decide +kernel
theorem dX0_init_32 : decode cX0_init 32 = .ok (.putfield 25, 3) := by decide +kernel
theorem dX0_init_35 : decode cX0_init 35 = .ok (.return_, 1) := by decide +kernel
set_option maxRecDepth 20000 in
theorem ggX0_lay_X1_keyOf : GoodIn wsX0_lay wsX1_keyOf := goodIn_r _ [16, 17, 18, 19, 20, 21, 22, 15, 23, 24, 25, 26, 27, 28, 29, 64, 65, 66, 67, 68, 69, 70, 71, 72] (by decide +kernel) (by decide +kernel)
set_option maxRecDepth 20000 in
theorem gX0_lay_X1_keyOf : GoodIn wsX0_lay (wsV RX0 33 RX1 yX1_keyOf wsX1_keyOf) := goodIn_app (goodIn_r _ [12, 13, 14, 15] (by decide +kernel) (by decide +kernel)) ggX0_lay_X1_keyOf
set_option maxRecDepth 20000 in
theorem ggX0_lay_X0_firstByRule : GoodIn wsX0_lay wsX0_firstByRule := goodIn_r _ [34, 4, 35, 1, 6, 64, 65, 66, 67, 68, 69, 70, 71, 72, 59, 60, 61, 62, 63] (by decide +kernel) (by decide +kernel)
set_option maxRecDepth 20000 in
theorem gX0_lay_X0_firstByRule : GoodIn wsX0_lay (wsV RX0 37 RX0 yX0_firstByRule wsX0_firstByRule) := goodIn_app (goodIn_r _ [30, 31, 32, 33] (by decide +kernel) (by decide +kernel)) ggX0_lay_X0_firstByRule
set_option maxRecDepth 20000 in
theorem ggX0_lay_X0_firstDay : GoodIn wsX0_lay wsX0_firstDay := goodIn_r _ [39, 40, 41, 8, 9, 10, 11, 42, 7, 43, 44, 45, 33, 46, 47, 5, 48, 26, 27, 15, 28, 29, 49, 50, 51, 52, 4, 53, 54, 55, 56, 57, 58, 64, 65, 66, 67, 68, 69, 70, 71, 72, 59, 60, 61, 62, 63] (by decide +kernel) (by decide +kernel)
set_option maxRecDepth 20000 in
theorem gX0_lay_X0_firstDay : GoodIn wsX0_lay (wsV RX0 41 RX0 yX0_firstDay wsX0_firstDay) := goodIn_app (goodIn_r _ [36, 37, 38, 33] (by decide +kernel) (by decide +kernel)) ggX0_lay_X0_firstDay
theorem dX0_lay_0 : decode cX0_lay 0 = .ok (.aload_n 0, 1) := by decide +kernel
theorem dX0_lay_1 : decode cX0_lay 1 = .ok (.iconst 0, 1) := by decide +kernel
theorem dX0_lay_2 : decode cX0_lay 2 = .ok (.putfield 18, 3) := by decide +kernel
theorem dX0_lay_5 : decode cX0_lay 5 = .ok (.aload_n 0, 1) := by decide +kernel
theorem dX0_lay_6 : decode cX0_lay 6 = .ok (.iconst 0, 1) := by decide +kernel
theorem dX0_lay_7 : decode cX0_lay 7 = .ok (.putfield 22, 3) := by decide +kernel
theorem dX0_lay_10 : decode cX0_lay 10 = .ok (.aload_n 0, 1) := by decide +kernel
theorem dX0_lay_11 : decode cX0_lay 11 = .ok (.iconst 0, 1) := by decide +kernel
theorem dX0_lay_12 : decode cX0_lay 12 = .ok (.putfield 25, 3) := by decide +kernel
theorem dX0_lay_15 : decode cX0_lay 15 = .ok (.iconst 0, 1) := by decide +kernel
theorem dX0_lay_16 : decode cX0_lay 16 = .ok (.istore_n 2, 1) := by decide +kernel
theorem dX0_lay_17 : decode cX0_lay 17 = .ok (.iload_n 2, 1) := by decide +kernel
theorem dX0_lay_18 : decode cX0_lay 18 = .ok (.aload_n 1, 1) := by decide +kernel
theorem dX0_lay_19 : decode cX0_lay 19 = .ok (.getfield 28, 3) := by decide +kernel
theorem dX0_lay_22 : decode cX0_lay 22 = .ok (.if_icmp .ge 27, 3) := by decide +kernel
theorem dX0_lay_25 : decode cX0_lay 25 = .ok (.aload_n 0, 1) := by decide +kernel
theorem dX0_lay_26 : decode cX0_lay 26 = .ok (.getfield 9, 3) := by decide +kernel
theorem dX0_lay_29 : decode cX0_lay 29 = .ok (.iload_n 2, 1) := by decide +kernel
theorem dX0_lay_30 : decode cX0_lay 30 = .ok (.iconst (-1), 1) := by decide +kernel
theorem dX0_lay_31 : decode cX0_lay 31 = .ok (.iastore, 1) := by decide +kernel
theorem dX0_lay_32 : decode cX0_lay 32 = .ok (.aload_n 0, 1) := by decide +kernel
theorem dX0_lay_33 : decode cX0_lay 33 = .ok (.getfield 15, 3) := by decide +kernel
theorem dX0_lay_36 : decode cX0_lay 36 = .ok (.iload_n 2, 1) := by decide +kernel
theorem dX0_lay_37 : decode cX0_lay 37 = .ok (.aload_n 1, 1) := by decide +kernel
theorem dX0_lay_38 : decode cX0_lay 38 = .ok (.iload_n 2, 1) := by decide +kernel
theorem dX0_lay_39 : decode cX0_lay 39 = .ok (.invokevirtual 33, 3) := by decide +kernel
theorem dX0_lay_42 : decode cX0_lay 42 = .ok (.iastore, 1) := by decide +kernel
theorem dX0_lay_43 : decode cX0_lay 43 = .ok (.iinc 2 1, 3) := by decide +kernel
theorem dX0_lay_46 : decode cX0_lay 46 = .ok (.goto (-29), 3) := by decide +kernel
theorem dX0_lay_49 : decode cX0_lay 49 = .ok (.iconst 0, 1) := by decide +kernel
theorem dX0_lay_50 : decode cX0_lay 50 = .ok (.istore_n 2, 1) := by decide +kernel
theorem dX0_lay_51 : decode cX0_lay 51 = .ok (.iconst 0, 1) := by decide +kernel
theorem dX0_lay_52 : decode cX0_lay 52 = .ok (.istore_n 3, 1) := by decide +kernel
theorem dX0_lay_53 : decode cX0_lay 53 = .ok (.iload_n 3, 1) := by decide +kernel
theorem dX0_lay_54 : decode cX0_lay 54 = .ok (.aload_n 1, 1) := by decide +kernel
theorem dX0_lay_55 : decode cX0_lay 55 = .ok (.getfield 28, 3) := by decide +kernel
theorem dX0_lay_58 : decode cX0_lay 58 = .ok (.if_icmp .ge 99, 3) := by decide +kernel
theorem dX0_lay_61 : decode cX0_lay 61 = .ok (.aload_n 0, 1) := by decide +kernel
theorem dX0_lay_62 : decode cX0_lay 62 = .ok (.aload_n 1, 1) := by decide +kernel
theorem dX0_lay_63 : decode cX0_lay 63 = .ok (.iload_n 2, 1) := by decide +kernel
theorem dX0_lay_64 : decode cX0_lay 64 = .ok (.invokevirtual 37, 3) := by decide +kernel
theorem dX0_lay_67 : decode cX0_lay 67 = .ok (.istore 4, 2) := by decide +kernel
theorem dX0_lay_69 : decode cX0_lay 69 = .ok (.iload 4, 2) := by decide +kernel
theorem dX0_lay_71 : decode cX0_lay 71 = .ok (.iconst (-1), 1) := by decide +kernel
theorem dX0_lay_72 : decode cX0_lay 72 = .ok (.if_icmp .ne 4, 3) := by decide +kernel
theorem dX0_lay_75 : decode cX0_lay 75 = .ok (.return_, 1) := by decide +kernel
theorem dX0_lay_76 : decode cX0_lay 76 = .ok (.iload_n 2, 1) := by decide +kernel
theorem dX0_lay_77 : decode cX0_lay 77 = .ok (.iconst 1, 1) := by decide +kernel
theorem dX0_lay_78 : decode cX0_lay 78 = .ok (.iload 4, 2) := by decide +kernel
theorem dX0_lay_80 : decode cX0_lay 80 = .ok (.ishl, 1) := by decide +kernel
theorem dX0_lay_81 : decode cX0_lay 81 = .ok (.ior, 1) := by decide +kernel
theorem dX0_lay_82 : decode cX0_lay 82 = .ok (.istore_n 2, 1) := by decide +kernel
theorem dX0_lay_83 : decode cX0_lay 83 = .ok (.aload_n 0, 1) := by decide +kernel
theorem dX0_lay_84 : decode cX0_lay 84 = .ok (.aload_n 1, 1) := by decide +kernel
theorem dX0_lay_85 : decode cX0_lay 85 = .ok (.iload 4, 2) := by decide +kernel
theorem dX0_lay_87 : decode cX0_lay 87 = .ok (.invokevirtual 41, 3) := by decide +kernel
theorem dX0_lay_90 : decode cX0_lay 90 = .ok (.istore 5, 2) := by decide +kernel
theorem dX0_lay_92 : decode cX0_lay 92 = .ok (.iload 5, 2) := by decide +kernel
theorem dX0_lay_94 : decode cX0_lay 94 = .ok (.iconst (-1), 1) := by decide +kernel
theorem dX0_lay_95 : decode cX0_lay 95 = .ok (.if_icmp .eq 56, 3) := by decide +kernel
theorem dX0_lay_98 : decode cX0_lay 98 = .ok (.aload_n 0, 1) := by decide +kernel
theorem dX0_lay_99 : decode cX0_lay 99 = .ok (.getfield 9, 3) := by decide +kernel
theorem dX0_lay_102 : decode cX0_lay 102 = .ok (.iload 4, 2) := by decide +kernel
theorem dX0_lay_104 : decode cX0_lay 104 = .ok (.iload 5, 2) := by decide +kernel
theorem dX0_lay_106 : decode cX0_lay 106 = .ok (.iastore, 1) := by decide +kernel
theorem dX0_lay_107 : decode cX0_lay 107 = .ok (.aload_n 0, 1) := by decide +kernel
theorem dX0_lay_108 : decode cX0_lay 108 = .ok (.dup, 1) := by decide +kernel
theorem dX0_lay_109 : decode cX0_lay 109 = .ok (.getfield 18, 3) := by decide +kernel
theorem dX0_lay_112 : decode cX0_lay 112 = .ok (.iconst 1, 1) := by decide +kernel
theorem dX0_lay_113 : decode cX0_lay 113 = .ok (.iload 4, 2) := by decide +kernel
theorem dX0_lay_115 : decode cX0_lay 115 = .ok (.ishl, 1) := by decide +kernel
theorem dX0_lay_116 : decode cX0_lay 116 = .ok (.ior, 1) := by decide +kernel
theorem dX0_lay_117 : decode cX0_lay 117 = .ok (.putfield 18, 3) := by decide +kernel
theorem dX0_lay_120 : decode cX0_lay 120 = .ok (.aload_n 0, 1) := by decide +kernel
theorem dX0_lay_121 : decode cX0_lay 121 = .ok (.dup, 1) := by decide +kernel
theorem dX0_lay_122 : decode cX0_lay 122 = .ok (.getfield 22, 3) := by decide +kernel
theorem dX0_lay_125 : decode cX0_lay 125 = .ok (.iconst 1, 1) := by decide +kernel
theorem dX0_lay_126 : decode cX0_lay 126 = .ok (.iadd, 1) := by decide +kernel
theorem dX0_lay_127 : decode cX0_lay 127 = .ok (.putfield 22, 3) := by decide +kernel
theorem dX0_lay_130 : decode cX0_lay 130 = .ok (.aload_n 0, 1) := by decide +kernel
theorem dX0_lay_131 : decode cX0_lay 131 = .ok (.aload_n 0, 1) := by decide +kernel
theorem dX0_lay_132 : decode cX0_lay 132 = .ok (.getfield 25, 3) := by decide +kernel
theorem dX0_lay_135 : decode cX0_lay 135 = .ok (.iload 5, 2) := by decide +kernel
theorem dX0_lay_137 : decode cX0_lay 137 = .ok (.aload_n 1, 1) := by decide +kernel
theorem dX0_lay_138 : decode cX0_lay 138 = .ok (.getfield 44, 3) := by decide +kernel
theorem dX0_lay_141 : decode cX0_lay 141 = .ok (.iload 4, 2) := by decide +kernel
theorem dX0_lay_143 : decode cX0_lay 143 = .ok (.iaload, 1) := by decide +kernel
theorem dX0_lay_144 : decode cX0_lay 144 = .ok (.iadd, 1) := by decide +kernel
theorem dX0_lay_145 : decode cX0_lay 145 = .ok (.invokestatic 47, 3) := by decide +kernel
theorem dX0_lay_148 : decode cX0_lay 148 = .ok (.putfield 25, 3) := by decide +kernel
theorem dX0_lay_151 : decode cX0_lay 151 = .ok (.iinc 3 1, 3) := by decide +kernel
theorem dX0_lay_154 : decode cX0_lay 154 = .ok (.goto (-101), 3) := by decide +kernel
theorem dX0_lay_157 : decode cX0_lay 157 = .ok (.return_, 1) := by decide +kernel
theorem dX0_firstByRule_0 : decode cX0_firstByRule 0 = .ok (.iconst (-1), 1) := by decide +kernel
theorem dX0_firstByRule_1 : decode cX0_firstByRule 1 = .ok (.istore_n 3, 1) := by decide +kernel
theorem dX0_firstByRule_2 : decode cX0_firstByRule 2 = .ok (.iconst (-1), 1) := by decide +kernel
theorem dX0_firstByRule_3 : decode cX0_firstByRule 3 = .ok (.istore 4, 2) := by decide +kernel
theorem dX0_firstByRule_5 : decode cX0_firstByRule 5 = .ok (.iconst 0, 1) := by decide +kernel
theorem dX0_firstByRule_6 : decode cX0_firstByRule 6 = .ok (.istore 5, 2) := by decide +kernel
theorem dX0_firstByRule_8 : decode cX0_firstByRule 8 = .ok (.iload 5, 2) := by decide +kernel
theorem dX0_firstByRule_10 : decode cX0_firstByRule 10 = .ok (.aload_n 1, 1) := by decide +kernel
theorem dX0_firstByRule_11 : decode cX0_firstByRule 11 = .ok (.getfield 28, 3) := by decide +kernel
theorem dX0_firstByRule_14 : decode cX0_firstByRule 14 = .ok (.if_icmp .ge 83, 3) := by decide +kernel
theorem dX0_firstByRule_17 : decode cX0_firstByRule 17 = .ok (.iload_n 2, 1) := by decide +kernel
theorem dX0_firstByRule_18 : decode cX0_firstByRule 18 = .ok (.iconst 1, 1) := by decide +kernel
theorem dX0_firstByRule_19 : decode cX0_firstByRule 19 = .ok (.iload 5, 2) := by decide +kernel
theorem dX0_firstByRule_21 : decode cX0_firstByRule 21 = .ok (.ishl, 1) := by decide +kernel
theorem dX0_firstByRule_22 : decode cX0_firstByRule 22 = .ok (.iand, 1) := by decide +kernel
theorem dX0_firstByRule_23 : decode cX0_firstByRule 23 = .ok (.ifCond .eq 7, 3) := by decide +kernel
theorem dX0_firstByRule_26 : decode cX0_firstByRule 26 = .ok (.iconst 1, 1) := by decide +kernel
theorem dX0_firstByRule_27 : decode cX0_firstByRule 27 = .ok (.goto 4, 3) := by decide +kernel
theorem dX0_firstByRule_30 : decode cX0_firstByRule 30 = .ok (.iconst 0, 1) := by decide +kernel
theorem dX0_firstByRule_31 : decode cX0_firstByRule 31 = .ok (.istore 6, 2) := by decide +kernel
theorem dX0_firstByRule_33 : decode cX0_firstByRule 33 = .ok (.aload_n 1, 1) := by decide +kernel
theorem dX0_firstByRule_34 : decode cX0_firstByRule 34 = .ok (.getfield 53, 3) := by decide +kernel
theorem dX0_firstByRule_37 : decode cX0_firstByRule 37 = .ok (.iload 5, 2) := by decide +kernel
theorem dX0_firstByRule_39 : decode cX0_firstByRule 39 = .ok (.iaload, 1) := by decide +kernel
theorem dX0_firstByRule_40 : decode cX0_firstByRule 40 = .ok (.aload_n 0, 1) := by decide +kernel
theorem dX0_firstByRule_41 : decode cX0_firstByRule 41 = .ok (.getfield 18, 3) := by decide +kernel
theorem dX0_firstByRule_44 : decode cX0_firstByRule 44 = .ok (.iconst (-1), 1) := by decide +kernel
theorem dX0_firstByRule_45 : decode cX0_firstByRule 45 = .ok (.ixor, 1) := by decide +kernel
theorem dX0_firstByRule_46 : decode cX0_firstByRule 46 = .ok (.iand, 1) := by decide +kernel
theorem dX0_firstByRule_47 : decode cX0_firstByRule 47 = .ok (.ifCond .ne 7, 3) := by decide +kernel
theorem dX0_firstByRule_50 : decode cX0_firstByRule 50 = .ok (.iconst 1, 1) := by decide +kernel
theorem dX0_firstByRule_51 : decode cX0_firstByRule 51 = .ok (.goto 4, 3) := by decide +kernel
theorem dX0_firstByRule_54 : decode cX0_firstByRule 54 = .ok (.iconst 0, 1) := by decide +kernel
theorem dX0_firstByRule_55 : decode cX0_firstByRule 55 = .ok (.istore 7, 2) := by decide +kernel
theorem dX0_firstByRule_57 : decode cX0_firstByRule 57 = .ok (.iload 6, 2) := by decide +kernel
theorem dX0_firstByRule_59 : decode cX0_firstByRule 59 = .ok (.ifCond .ne 32, 3) := by decide +kernel
theorem dX0_firstByRule_62 : decode cX0_firstByRule 62 = .ok (.iload 7, 2) := by decide +kernel
theorem dX0_firstByRule_64 : decode cX0_firstByRule 64 = .ok (.ifCond .eq 27, 3) := by decide +kernel
theorem dX0_firstByRule_67 : decode cX0_firstByRule 67 = .ok (.aload_n 0, 1) := by decide +kernel
theorem dX0_firstByRule_68 : decode cX0_firstByRule 68 = .ok (.getfield 15, 3) := by decide +kernel
theorem dX0_firstByRule_71 : decode cX0_firstByRule 71 = .ok (.iload 5, 2) := by decide +kernel
theorem dX0_firstByRule_73 : decode cX0_firstByRule 73 = .ok (.iaload, 1) := by decide +kernel
theorem dX0_firstByRule_74 : decode cX0_firstByRule 74 = .ok (.iload 4, 2) := by decide +kernel
theorem dX0_firstByRule_76 : decode cX0_firstByRule 76 = .ok (.if_icmp .le 15, 3) := by decide +kernel
theorem dX0_firstByRule_79 : decode cX0_firstByRule 79 = .ok (.iload 5, 2) := by decide +kernel
theorem dX0_firstByRule_81 : decode cX0_firstByRule 81 = .ok (.istore_n 3, 1) := by decide +kernel
theorem dX0_firstByRule_82 : decode cX0_firstByRule 82 = .ok (.aload_n 0, 1) := by decide +kernel
theorem dX0_firstByRule_83 : decode cX0_firstByRule 83 = .ok (.getfield 15, 3) := by decide +kernel
theorem dX0_firstByRule_86 : decode cX0_firstByRule 86 = .ok (.iload 5, 2) := by decide +kernel
theorem dX0_firstByRule_88 : decode cX0_firstByRule 88 = .ok (.iaload, 1) := by decide +kernel
theorem dX0_firstByRule_89 : decode cX0_firstByRule 89 = .ok (.istore 4, 2) := by decide +kernel
theorem dX0_firstByRule_91 : decode cX0_firstByRule 91 = .ok (.iinc 5 1, 3) := by decide +kernel
theorem dX0_firstByRule_94 : decode cX0_firstByRule 94 = .ok (.goto (-86), 3) := by decide +kernel
theorem dX0_firstByRule_97 : decode cX0_firstByRule 97 = .ok (.iload_n 3, 1) := by decide +kernel
theorem dX0_firstByRule_98 : decode cX0_firstByRule 98 = .ok (.ireturn, 1) := by decide +kernel
set_option maxRecDepth 20000 in
theorem ggX0_firstDay_X0_startOf : GoodIn wsX0_firstDay wsX0_startOf := goodIn_r _ [13, 14, 15, 8, 3, 4, 5, 6, 16, 17, 18, 19, 20, 21, 33, 34, 35, 36, 37, 38, 39, 40, 41, 42, 43, 44, 45, 46] (by decide +kernel) (by decide +kernel)
set_option maxRecDepth 20000 in
theorem gX0_firstDay_X0_startOf : GoodIn wsX0_firstDay (wsV RX0 56 RX0 yX0_startOf wsX0_startOf) := goodIn_app (goodIn_r _ [9, 10, 11, 12] (by decide +kernel) (by decide +kernel)) ggX0_firstDay_X0_startOf
set_option maxRecDepth 20000 in
theorem ggX0_firstDay_X0_behindClash : GoodIn wsX0_firstDay wsX0_behindClash := goodIn_r _ [25, 8, 26, 15, 27, 28, 29, 19, 30, 31, 32, 33, 34, 35, 36, 37, 38, 39, 40, 41, 42, 43, 44, 45, 46] (by decide +kernel) (by decide +kernel)
set_option maxRecDepth 20000 in
theorem gX0_firstDay_X0_behindClash : GoodIn wsX0_firstDay (wsV RX0 68 RX0 yX0_behindClash wsX0_behindClash) := goodIn_app (goodIn_r _ [22, 23, 24, 12] (by decide +kernel) (by decide +kernel)) ggX0_firstDay_X0_behindClash
theorem dX0_firstDay_0 : decode cX0_firstDay 0 = .ok (.aload_n 0, 1) := by decide +kernel
theorem dX0_firstDay_1 : decode cX0_firstDay 1 = .ok (.aload_n 1, 1) := by decide +kernel
theorem dX0_firstDay_2 : decode cX0_firstDay 2 = .ok (.iload_n 2, 1) := by decide +kernel
theorem dX0_firstDay_3 : decode cX0_firstDay 3 = .ok (.invokevirtual 56, 3) := by decide +kernel
theorem dX0_firstDay_6 : decode cX0_firstDay 6 = .ok (.istore_n 3, 1) := by decide +kernel
theorem dX0_firstDay_7 : decode cX0_firstDay 7 = .ok (.bipush 100, 2) := by decide +kernel
theorem dX0_firstDay_9 : decode cX0_firstDay 9 = .ok (.istore 4, 2) := by decide +kernel
theorem dX0_firstDay_11 : decode cX0_firstDay 11 = .ok (.aload_n 1, 1) := by decide +kernel
theorem dX0_firstDay_12 : decode cX0_firstDay 12 = .ok (.getfield 59, 3) := by decide +kernel
theorem dX0_firstDay_15 : decode cX0_firstDay 15 = .ok (.iload_n 2, 1) := by decide +kernel
theorem dX0_firstDay_16 : decode cX0_firstDay 16 = .ok (.iaload, 1) := by decide +kernel
theorem dX0_firstDay_17 : decode cX0_firstDay 17 = .ok (.istore 5, 2) := by decide +kernel
theorem dX0_firstDay_19 : decode cX0_firstDay 19 = .ok (.iload 5, 2) := by decide +kernel
theorem dX0_firstDay_21 : decode cX0_firstDay 21 = .ok (.iconst (-1), 1) := by decide +kernel
theorem dX0_firstDay_22 : decode cX0_firstDay 22 = .ok (.if_icmp .eq 26, 3) := by decide +kernel
theorem dX0_firstDay_25 : decode cX0_firstDay 25 = .ok (.iload_n 3, 1) := by decide +kernel
theorem dX0_firstDay_26 : decode cX0_firstDay 26 = .ok (.aload_n 1, 1) := by decide +kernel
theorem dX0_firstDay_27 : decode cX0_firstDay 27 = .ok (.getfield 62, 3) := by decide +kernel
theorem dX0_firstDay_30 : decode cX0_firstDay 30 = .ok (.iload 5, 2) := by decide +kernel
theorem dX0_firstDay_32 : decode cX0_firstDay 32 = .ok (.iaload, 1) := by decide +kernel
theorem dX0_firstDay_33 : decode cX0_firstDay 33 = .ok (.invokestatic 47, 3) := by decide +kernel
theorem dX0_firstDay_36 : decode cX0_firstDay 36 = .ok (.istore_n 3, 1) := by decide +kernel
theorem dX0_firstDay_37 : decode cX0_firstDay 37 = .ok (.aload_n 1, 1) := by decide +kernel
theorem dX0_firstDay_38 : decode cX0_firstDay 38 = .ok (.getfield 65, 3) := by decide +kernel
theorem dX0_firstDay_41 : decode cX0_firstDay 41 = .ok (.iload 5, 2) := by decide +kernel
theorem dX0_firstDay_43 : decode cX0_firstDay 43 = .ok (.iaload, 1) := by decide +kernel
theorem dX0_firstDay_44 : decode cX0_firstDay 44 = .ok (.iconst 1, 1) := by decide +kernel
theorem dX0_firstDay_45 : decode cX0_firstDay 45 = .ok (.iadd, 1) := by decide +kernel
theorem dX0_firstDay_46 : decode cX0_firstDay 46 = .ok (.istore 4, 2) := by decide +kernel
theorem dX0_firstDay_48 : decode cX0_firstDay 48 = .ok (.iconst 0, 1) := by decide +kernel
theorem dX0_firstDay_49 : decode cX0_firstDay 49 = .ok (.istore 6, 2) := by decide +kernel
theorem dX0_firstDay_51 : decode cX0_firstDay 51 = .ok (.iload 6, 2) := by decide +kernel
theorem dX0_firstDay_53 : decode cX0_firstDay 53 = .ok (.bipush 12, 2) := by decide +kernel
theorem dX0_firstDay_55 : decode cX0_firstDay 55 = .ok (.if_icmp .ge 42, 3) := by decide +kernel
theorem dX0_firstDay_58 : decode cX0_firstDay 58 = .ok (.iload_n 3, 1) := by decide +kernel
theorem dX0_firstDay_59 : decode cX0_firstDay 59 = .ok (.aload_n 1, 1) := by decide +kernel
theorem dX0_firstDay_60 : decode cX0_firstDay 60 = .ok (.getfield 44, 3) := by decide +kernel
theorem dX0_firstDay_63 : decode cX0_firstDay 63 = .ok (.iload_n 2, 1) := by decide +kernel
theorem dX0_firstDay_64 : decode cX0_firstDay 64 = .ok (.iaload, 1) := by decide +kernel
theorem dX0_firstDay_65 : decode cX0_firstDay 65 = .ok (.iadd, 1) := by decide +kernel
theorem dX0_firstDay_66 : decode cX0_firstDay 66 = .ok (.iload 4, 2) := by decide +kernel
theorem dX0_firstDay_68 : decode cX0_firstDay 68 = .ok (.if_icmp .gt 29, 3) := by decide +kernel
theorem dX0_firstDay_71 : decode cX0_firstDay 71 = .ok (.aload_n 0, 1) := by decide +kernel
theorem dX0_firstDay_72 : decode cX0_firstDay 72 = .ok (.aload_n 1, 1) := by decide +kernel
theorem dX0_firstDay_73 : decode cX0_firstDay 73 = .ok (.iload_n 2, 1) := by decide +kernel
theorem dX0_firstDay_74 : decode cX0_firstDay 74 = .ok (.iload_n 3, 1) := by decide +kernel
theorem dX0_firstDay_75 : decode cX0_firstDay 75 = .ok (.invokevirtual 68, 3) := by decide +kernel
theorem dX0_firstDay_78 : decode cX0_firstDay 78 = .ok (.istore 7, 2) := by decide +kernel
theorem dX0_firstDay_80 : decode cX0_firstDay 80 = .ok (.iload 7, 2) := by decide +kernel
theorem dX0_firstDay_82 : decode cX0_firstDay 82 = .ok (.iload_n 3, 1) := by decide +kernel
theorem dX0_firstDay_83 : decode cX0_firstDay 83 = .ok (.if_icmp .ne 5, 3) := by decide +kernel
theorem dX0_firstDay_86 : decode cX0_firstDay 86 = .ok (.iload_n 3, 1) := by decide +kernel
theorem dX0_firstDay_87 : decode cX0_firstDay 87 = .ok (.ireturn, 1) := by decide +kernel
theorem dX0_firstDay_88 : decode cX0_firstDay 88 = .ok (.iload 7, 2) := by decide +kernel
theorem dX0_firstDay_90 : decode cX0_firstDay 90 = .ok (.istore_n 3, 1) := by decide +kernel
theorem dX0_firstDay_91 : decode cX0_firstDay 91 = .ok (.iinc 6 1, 3) := by decide +kernel
theorem dX0_firstDay_94 : decode cX0_firstDay 94 = .ok (.goto (-43), 3) := by decide +kernel
theorem dX0_firstDay_97 : decode cX0_firstDay 97 = .ok (.iconst (-1), 1) := by decide +kernel
theorem dX0_firstDay_98 : decode cX0_firstDay 98 = .ok (.ireturn, 1) := by decide +kernel
set_option maxRecDepth 20000 in
theorem ggX0_behindClash_X1_share : GoodIn wsX0_behindClash wsX1_share := goodIn_r _ [8, 9, 10, 11, 12, 13, 14, 15, 16, 17, 18, 19] (by decide +kernel) (by decide +kernel)
set_option maxRecDepth 20000 in
theorem gX0_behindClash_X1_share : GoodIn wsX0_behindClash (wsV RX0 72 RX1 yX1_share wsX1_share) := goodIn_app (goodIn_r _ [4, 5, 6, 7] (by decide +kernel) (by decide +kernel)) ggX0_behindClash_X1_share
theorem dX0_behindClash_0 : decode cX0_behindClash 0 = .ok (.iload_n 3, 1) := by decide +kernel
theorem dX0_behindClash_1 : decode cX0_behindClash 1 = .ok (.aload_n 1, 1) := by decide +kernel
theorem dX0_behindClash_2 : decode cX0_behindClash 2 = .ok (.getfield 44, 3) := by decide +kernel
theorem dX0_behindClash_5 : decode cX0_behindClash 5 = .ok (.iload_n 2, 1) := by decide +kernel
theorem dX0_behindClash_6 : decode cX0_behindClash 6 = .ok (.iaload, 1) := by decide +kernel
theorem dX0_behindClash_7 : decode cX0_behindClash 7 = .ok (.iadd, 1) := by decide +kernel
theorem dX0_behindClash_8 : decode cX0_behindClash 8 = .ok (.istore 4, 2) := by decide +kernel
theorem dX0_behindClash_10 : decode cX0_behindClash 10 = .ok (.iconst 0, 1) := by decide +kernel
theorem dX0_behindClash_11 : decode cX0_behindClash 11 = .ok (.istore 5, 2) := by decide +kernel
theorem dX0_behindClash_13 : decode cX0_behindClash 13 = .ok (.iload 5, 2) := by decide +kernel
theorem dX0_behindClash_15 : decode cX0_behindClash 15 = .ok (.aload_n 1, 1) := by decide +kernel
theorem dX0_behindClash_16 : decode cX0_behindClash 16 = .ok (.getfield 28, 3) := by decide +kernel
theorem dX0_behindClash_19 : decode cX0_behindClash 19 = .ok (.if_icmp .ge 62, 3) := by decide +kernel
theorem dX0_behindClash_22 : decode cX0_behindClash 22 = .ok (.aload_n 0, 1) := by decide +kernel
theorem dX0_behindClash_23 : decode cX0_behindClash 23 = .ok (.getfield 9, 3) := by decide +kernel
theorem dX0_behindClash_26 : decode cX0_behindClash 26 = .ok (.iload 5, 2) := by decide +kernel
theorem dX0_behindClash_28 : decode cX0_behindClash 28 = .ok (.iaload, 1) := by decide +kernel
theorem dX0_behindClash_29 : decode cX0_behindClash 29 = .ok (.istore 6, 2) := by decide +kernel
theorem dX0_behindClash_31 : decode cX0_behindClash 31 = .ok (.iload 6, 2) := by decide +kernel
theorem dX0_behindClash_33 : decode cX0_behindClash 33 = .ok (.aload_n 1, 1) := by decide +kernel
theorem dX0_behindClash_34 : decode cX0_behindClash 34 = .ok (.getfield 44, 3) := by decide +kernel
theorem dX0_behindClash_37 : decode cX0_behindClash 37 = .ok (.iload 5, 2) := by decide +kernel
theorem dX0_behindClash_39 : decode cX0_behindClash 39 = .ok (.iaload, 1) := by decide +kernel
theorem dX0_behindClash_40 : decode cX0_behindClash 40 = .ok (.iadd, 1) := by decide +kernel
theorem dX0_behindClash_41 : decode cX0_behindClash 41 = .ok (.istore 7, 2) := by decide +kernel
theorem dX0_behindClash_43 : decode cX0_behindClash 43 = .ok (.iload 6, 2) := by decide +kernel
theorem dX0_behindClash_45 : decode cX0_behindClash 45 = .ok (.iconst (-1), 1) := by decide +kernel
theorem dX0_behindClash_46 : decode cX0_behindClash 46 = .ok (.if_icmp .eq 29, 3) := by decide +kernel
theorem dX0_behindClash_49 : decode cX0_behindClash 49 = .ok (.iload 6, 2) := by decide +kernel
theorem dX0_behindClash_51 : decode cX0_behindClash 51 = .ok (.iload 4, 2) := by decide +kernel
theorem dX0_behindClash_53 : decode cX0_behindClash 53 = .ok (.if_icmp .ge 22, 3) := by decide +kernel
theorem dX0_behindClash_56 : decode cX0_behindClash 56 = .ok (.iload_n 3, 1) := by decide +kernel
theorem dX0_behindClash_57 : decode cX0_behindClash 57 = .ok (.iload 7, 2) := by decide +kernel
theorem dX0_behindClash_59 : decode cX0_behindClash 59 = .ok (.if_icmp .ge 16, 3) := by decide +kernel
theorem dX0_behindClash_62 : decode cX0_behindClash 62 = .ok (.aload_n 1, 1) := by decide +kernel
theorem dX0_behindClash_63 : decode cX0_behindClash 63 = .ok (.iload_n 2, 1) := by decide +kernel
theorem dX0_behindClash_64 : decode cX0_behindClash 64 = .ok (.iload 5, 2) := by decide +kernel
theorem dX0_behindClash_66 : decode cX0_behindClash 66 = .ok (.invokevirtual 72, 3) := by decide +kernel
theorem dX0_behindClash_69 : decode cX0_behindClash 69 = .ok (.ifCond .eq 6, 3) := by decide +kernel
theorem dX0_behindClash_72 : decode cX0_behindClash 72 = .ok (.iload 7, 2) := by decide +kernel
theorem dX0_behindClash_74 : decode cX0_behindClash 74 = .ok (.ireturn, 1) := by decide +kernel
theorem dX0_behindClash_75 : decode cX0_behindClash 75 = .ok (.iinc 5 1, 3) := by decide +kernel
theorem dX0_behindClash_78 : decode cX0_behindClash 78 = .ok (.goto (-65), 3) := by decide +kernel
theorem dX0_behindClash_81 : decode cX0_behindClash 81 = .ok (.iload_n 3, 1) := by decide +kernel
theorem dX0_behindClash_82 : decode cX0_behindClash 82 = .ok (.ireturn, 1) := by decide +kernel
set_option maxRecDepth 20000 in
theorem ggX0_startOf_X1_isNeeded : GoodIn wsX0_startOf wsX1_isNeeded := goodIn_r _ [12, 13, 14, 15, 16, 17, 18, 19, 20, 21, 22] (by decide +kernel) (by decide +kernel)
set_option maxRecDepth 20000 in
theorem gX0_startOf_X1_isNeeded : GoodIn wsX0_startOf (wsV RX0 79 RX1 yX1_isNeeded wsX1_isNeeded) := goodIn_app (goodIn_r _ [8, 9, 10, 11] (by decide +kernel) (by decide +kernel)) ggX0_startOf_X1_isNeeded
theorem dX0_startOf_0 : decode cX0_startOf 0 = .ok (.aload_n 1, 1) := by decide +kernel
theorem dX0_startOf_1 : decode cX0_startOf 1 = .ok (.getfield 76, 3) := by decide +kernel
theorem dX0_startOf_4 : decode cX0_startOf 4 = .ok (.iload_n 2, 1) := by decide +kernel
theorem dX0_startOf_5 : decode cX0_startOf 5 = .ok (.iaload, 1) := by decide +kernel
theorem dX0_startOf_6 : decode cX0_startOf 6 = .ok (.istore_n 3, 1) := by decide +kernel
theorem dX0_startOf_7 : decode cX0_startOf 7 = .ok (.iconst 0, 1) := by decide +kernel
theorem dX0_startOf_8 : decode cX0_startOf 8 = .ok (.istore 4, 2) := by decide +kernel
theorem dX0_startOf_10 : decode cX0_startOf 10 = .ok (.iload 4, 2) := by decide +kernel
theorem dX0_startOf_12 : decode cX0_startOf 12 = .ok (.iload_n 2, 1) := by decide +kernel
theorem dX0_startOf_13 : decode cX0_startOf 13 = .ok (.if_icmp .ge 50, 3) := by decide +kernel
theorem dX0_startOf_16 : decode cX0_startOf 16 = .ok (.aload_n 0, 1) := by decide +kernel
theorem dX0_startOf_17 : decode cX0_startOf 17 = .ok (.getfield 9, 3) := by decide +kernel
theorem dX0_startOf_20 : decode cX0_startOf 20 = .ok (.iload 4, 2) := by decide +kernel
theorem dX0_startOf_22 : decode cX0_startOf 22 = .ok (.iaload, 1) := by decide +kernel
theorem dX0_startOf_23 : decode cX0_startOf 23 = .ok (.iconst (-1), 1) := by decide +kernel
theorem dX0_startOf_24 : decode cX0_startOf 24 = .ok (.if_icmp .eq 33, 3) := by decide +kernel
theorem dX0_startOf_27 : decode cX0_startOf 27 = .ok (.aload_n 1, 1) := by decide +kernel
theorem dX0_startOf_28 : decode cX0_startOf 28 = .ok (.iload_n 2, 1) := by decide +kernel
theorem dX0_startOf_29 : decode cX0_startOf 29 = .ok (.iload 4, 2) := by decide +kernel
theorem dX0_startOf_31 : decode cX0_startOf 31 = .ok (.invokevirtual 79, 3) := by decide +kernel
theorem dX0_startOf_34 : decode cX0_startOf 34 = .ok (.ifCond .eq 23, 3) := by decide +kernel
theorem dX0_startOf_37 : decode cX0_startOf 37 = .ok (.iload_n 3, 1) := by decide +kernel
theorem dX0_startOf_38 : decode cX0_startOf 38 = .ok (.aload_n 0, 1) := by decide +kernel
theorem dX0_startOf_39 : decode cX0_startOf 39 = .ok (.getfield 9, 3) := by decide +kernel
theorem dX0_startOf_42 : decode cX0_startOf 42 = .ok (.iload 4, 2) := by decide +kernel
theorem dX0_startOf_44 : decode cX0_startOf 44 = .ok (.iaload, 1) := by decide +kernel
theorem dX0_startOf_45 : decode cX0_startOf 45 = .ok (.aload_n 1, 1) := by decide +kernel
theorem dX0_startOf_46 : decode cX0_startOf 46 = .ok (.getfield 44, 3) := by decide +kernel
theorem dX0_startOf_49 : decode cX0_startOf 49 = .ok (.iload 4, 2) := by decide +kernel
theorem dX0_startOf_51 : decode cX0_startOf 51 = .ok (.iaload, 1) := by decide +kernel
theorem dX0_startOf_52 : decode cX0_startOf 52 = .ok (.iadd, 1) := by decide +kernel
theorem dX0_startOf_53 : decode cX0_startOf 53 = .ok (.invokestatic 47, 3) := by decide +kernel
theorem dX0_startOf_56 : decode cX0_startOf 56 = .ok (.istore_n 3, 1) := by decide +kernel
theorem dX0_startOf_57 : decode cX0_startOf 57 = .ok (.iinc 4 1, 3) := by decide +kernel
theorem dX0_startOf_60 : decode cX0_startOf 60 = .ok (.goto (-50), 3) := by decide +kernel
theorem dX0_startOf_63 : decode cX0_startOf 63 = .ok (.iload_n 3, 1) := by decide +kernel
theorem dX0_startOf_64 : decode cX0_startOf 64 = .ok (.ireturn, 1) := by decide +kernel
set_option maxRecDepth 20000 in
theorem ggX0_waitOf_X0_startOf : GoodIn wsX0_waitOf wsX0_startOf := goodIn_r _ [6, 7, 1, 8, 9, 10, 11, 12, 13, 14, 15, 16, 17, 18, 24, 25, 26, 27, 28, 29, 30, 31, 32, 19, 20, 21, 22, 23] (by decide +kernel) (by decide +kernel)
set_option maxRecDepth 20000 in
theorem gX0_waitOf_X0_startOf : GoodIn wsX0_waitOf (wsV RX0 56 RX0 yX0_startOf wsX0_startOf) := goodIn_app (goodIn_r _ [2, 3, 4, 5] (by decide +kernel) (by decide +kernel)) ggX0_waitOf_X0_startOf
theorem dX0_waitOf_0 : decode cX0_waitOf 0 = .ok (.aload_n 0, 1) := by decide +kernel
theorem dX0_waitOf_1 : decode cX0_waitOf 1 = .ok (.getfield 9, 3) := by decide +kernel
theorem dX0_waitOf_4 : decode cX0_waitOf 4 = .ok (.iload_n 2, 1) := by decide +kernel
theorem dX0_waitOf_5 : decode cX0_waitOf 5 = .ok (.iaload, 1) := by decide +kernel
theorem dX0_waitOf_6 : decode cX0_waitOf 6 = .ok (.iconst (-1), 1) := by decide +kernel
theorem dX0_waitOf_7 : decode cX0_waitOf 7 = .ok (.if_icmp .ne 7, 3) := by decide +kernel
theorem dX0_waitOf_10 : decode cX0_waitOf 10 = .ok (.iconst 0, 1) := by decide +kernel
theorem dX0_waitOf_11 : decode cX0_waitOf 11 = .ok (.goto 16, 3) := by decide +kernel
theorem dX0_waitOf_14 : decode cX0_waitOf 14 = .ok (.aload_n 0, 1) := by decide +kernel
theorem dX0_waitOf_15 : decode cX0_waitOf 15 = .ok (.getfield 9, 3) := by decide +kernel
theorem dX0_waitOf_18 : decode cX0_waitOf 18 = .ok (.iload_n 2, 1) := by decide +kernel
theorem dX0_waitOf_19 : decode cX0_waitOf 19 = .ok (.iaload, 1) := by decide +kernel
theorem dX0_waitOf_20 : decode cX0_waitOf 20 = .ok (.aload_n 0, 1) := by decide +kernel
theorem dX0_waitOf_21 : decode cX0_waitOf 21 = .ok (.aload_n 1, 1) := by decide +kernel
theorem dX0_waitOf_22 : decode cX0_waitOf 22 = .ok (.iload_n 2, 1) := by decide +kernel
theorem dX0_waitOf_23 : decode cX0_waitOf 23 = .ok (.invokevirtual 56, 3) := by decide +kernel
theorem dX0_waitOf_26 : decode cX0_waitOf 26 = .ok (.isub, 1) := by decide +kernel
theorem dX0_waitOf_27 : decode cX0_waitOf 27 = .ok (.ireturn, 1) := by decide +kernel
set_option maxRecDepth 20000 in
theorem ggX0_waitOfAll_X0_waitOf : GoodIn wsX0_waitOfAll wsX0_waitOf := goodIn_r _ [6, 7, 8, 9, 10, 5, 11, 12, 13, 14, 15, 16, 17, 18, 19, 20, 21, 22, 23, 33, 34, 35, 36, 37, 24, 25, 26, 27, 28, 29, 30, 31, 32] (by decide +kernel) (by decide +kernel)
set_option maxRecDepth 20000 in
theorem gX0_waitOfAll_X0_waitOf : GoodIn wsX0_waitOfAll (wsV RX0 82 RX0 yX0_waitOf wsX0_waitOf) := goodIn_app (goodIn_r _ [2, 3, 4, 5] (by decide +kernel) (by decide +kernel)) ggX0_waitOfAll_X0_waitOf
theorem dX0_waitOfAll_0 : decode cX0_waitOfAll 0 = .ok (.iconst 0, 1) := by decide +kernel
theorem dX0_waitOfAll_1 : decode cX0_waitOfAll 1 = .ok (.istore_n 2, 1) := by decide +kernel
theorem dX0_waitOfAll_2 : decode cX0_waitOfAll 2 = .ok (.iconst 0, 1) := by decide +kernel
theorem dX0_waitOfAll_3 : decode cX0_waitOfAll 3 = .ok (.istore_n 3, 1) := by decide +kernel
theorem dX0_waitOfAll_4 : decode cX0_waitOfAll 4 = .ok (.iload_n 3, 1) := by decide +kernel
theorem dX0_waitOfAll_5 : decode cX0_waitOfAll 5 = .ok (.aload_n 1, 1) := by decide +kernel
theorem dX0_waitOfAll_6 : decode cX0_waitOfAll 6 = .ok (.getfield 28, 3) := by decide +kernel
theorem dX0_waitOfAll_9 : decode cX0_waitOfAll 9 = .ok (.if_icmp .ge 18, 3) := by decide +kernel
theorem dX0_waitOfAll_12 : decode cX0_waitOfAll 12 = .ok (.iload_n 2, 1) := by decide +kernel
theorem dX0_waitOfAll_13 : decode cX0_waitOfAll 13 = .ok (.aload_n 0, 1) := by decide +kernel
theorem dX0_waitOfAll_14 : decode cX0_waitOfAll 14 = .ok (.aload_n 1, 1) := by decide +kernel
theorem dX0_waitOfAll_15 : decode cX0_waitOfAll 15 = .ok (.iload_n 3, 1) := by decide +kernel
theorem dX0_waitOfAll_16 : decode cX0_waitOfAll 16 = .ok (.invokevirtual 82, 3) := by decide +kernel
theorem dX0_waitOfAll_19 : decode cX0_waitOfAll 19 = .ok (.iadd, 1) := by decide +kernel
theorem dX0_waitOfAll_20 : decode cX0_waitOfAll 20 = .ok (.istore_n 2, 1) := by decide +kernel
theorem dX0_waitOfAll_21 : decode cX0_waitOfAll 21 = .ok (.iinc 3 1, 3) := by decide +kernel
theorem dX0_waitOfAll_24 : decode cX0_waitOfAll 24 = .ok (.goto (-20), 3) := by decide +kernel
theorem dX0_waitOfAll_27 : decode cX0_waitOfAll 27 = .ok (.iload_n 2, 1) := by decide +kernel
theorem dX0_waitOfAll_28 : decode cX0_waitOfAll 28 = .ok (.ireturn, 1) := by decide +kernel
theorem dX0_lengthOfLaid_0 : decode cX0_lengthOfLaid 0 = .ok (.iconst 0, 1) := by decide +kernel
theorem dX0_lengthOfLaid_1 : decode cX0_lengthOfLaid 1 = .ok (.istore_n 2, 1) := by decide +kernel
theorem dX0_lengthOfLaid_2 : decode cX0_lengthOfLaid 2 = .ok (.iconst 0, 1) := by decide +kernel
theorem dX0_lengthOfLaid_3 : decode cX0_lengthOfLaid 3 = .ok (.istore_n 3, 1) := by decide +kernel
theorem dX0_lengthOfLaid_4 : decode cX0_lengthOfLaid 4 = .ok (.iload_n 3, 1) := by decide +kernel
theorem dX0_lengthOfLaid_5 : decode cX0_lengthOfLaid 5 = .ok (.aload_n 1, 1) := by decide +kernel
theorem dX0_lengthOfLaid_6 : decode cX0_lengthOfLaid 6 = .ok (.getfield 28, 3) := by decide +kernel
theorem dX0_lengthOfLaid_9 : decode cX0_lengthOfLaid 9 = .ok (.if_icmp .ge 28, 3) := by decide +kernel
theorem dX0_lengthOfLaid_12 : decode cX0_lengthOfLaid 12 = .ok (.aload_n 0, 1) := by decide +kernel
theorem dX0_lengthOfLaid_13 : decode cX0_lengthOfLaid 13 = .ok (.getfield 9, 3) := by decide +kernel
theorem dX0_lengthOfLaid_16 : decode cX0_lengthOfLaid 16 = .ok (.iload_n 3, 1) := by decide +kernel
theorem dX0_lengthOfLaid_17 : decode cX0_lengthOfLaid 17 = .ok (.iaload, 1) := by decide +kernel
theorem dX0_lengthOfLaid_18 : decode cX0_lengthOfLaid 18 = .ok (.iconst (-1), 1) := by decide +kernel
theorem dX0_lengthOfLaid_19 : decode cX0_lengthOfLaid 19 = .ok (.if_icmp .eq 12, 3) := by decide +kernel
theorem dX0_lengthOfLaid_22 : decode cX0_lengthOfLaid 22 = .ok (.iload_n 2, 1) := by decide +kernel
theorem dX0_lengthOfLaid_23 : decode cX0_lengthOfLaid 23 = .ok (.aload_n 1, 1) := by decide +kernel
theorem dX0_lengthOfLaid_24 : decode cX0_lengthOfLaid 24 = .ok (.getfield 44, 3) := by decide +kernel
theorem dX0_lengthOfLaid_27 : decode cX0_lengthOfLaid 27 = .ok (.iload_n 3, 1) := by decide +kernel
theorem dX0_lengthOfLaid_28 : decode cX0_lengthOfLaid 28 = .ok (.iaload, 1) := by decide +kernel
theorem dX0_lengthOfLaid_29 : decode cX0_lengthOfLaid 29 = .ok (.iadd, 1) := by decide +kernel
theorem dX0_lengthOfLaid_30 : decode cX0_lengthOfLaid 30 = .ok (.istore_n 2, 1) := by decide +kernel
theorem dX0_lengthOfLaid_31 : decode cX0_lengthOfLaid 31 = .ok (.iinc 3 1, 3) := by decide +kernel
theorem dX0_lengthOfLaid_34 : decode cX0_lengthOfLaid 34 = .ok (.goto (-30), 3) := by decide +kernel
theorem dX0_lengthOfLaid_37 : decode cX0_lengthOfLaid 37 = .ok (.iload_n 2, 1) := by decide +kernel
theorem dX0_lengthOfLaid_38 : decode cX0_lengthOfLaid 38 = .ok (.ireturn, 1) := by decide +kernel
theorem dX0_taskOn_0 : decode cX0_taskOn 0 = .ok (.iconst 0, 1) := by decide +kernel
theorem dX0_taskOn_1 : decode cX0_taskOn 1 = .ok (.istore 5, 2) := by decide +kernel
theorem dX0_taskOn_3 : decode cX0_taskOn 3 = .ok (.iload 5, 2) := by decide +kernel
theorem dX0_taskOn_5 : decode cX0_taskOn 5 = .ok (.aload_n 1, 1) := by decide +kernel
theorem dX0_taskOn_6 : decode cX0_taskOn 6 = .ok (.getfield 28, 3) := by decide +kernel
theorem dX0_taskOn_9 : decode cX0_taskOn 9 = .ok (.if_icmp .ge 57, 3) := by decide +kernel
theorem dX0_taskOn_12 : decode cX0_taskOn 12 = .ok (.aload_n 0, 1) := by decide +kernel
theorem dX0_taskOn_13 : decode cX0_taskOn 13 = .ok (.getfield 9, 3) := by decide +kernel
theorem dX0_taskOn_16 : decode cX0_taskOn 16 = .ok (.iload 5, 2) := by decide +kernel
theorem dX0_taskOn_18 : decode cX0_taskOn 18 = .ok (.iaload, 1) := by decide +kernel
theorem dX0_taskOn_19 : decode cX0_taskOn 19 = .ok (.istore 6, 2) := by decide +kernel
theorem dX0_taskOn_21 : decode cX0_taskOn 21 = .ok (.iload 6, 2) := by decide +kernel
theorem dX0_taskOn_23 : decode cX0_taskOn 23 = .ok (.iconst (-1), 1) := by decide +kernel
theorem dX0_taskOn_24 : decode cX0_taskOn 24 = .ok (.if_icmp .eq 36, 3) := by decide +kernel
theorem dX0_taskOn_27 : decode cX0_taskOn 27 = .ok (.aload_n 2, 1) := by decide +kernel
theorem dX0_taskOn_28 : decode cX0_taskOn 28 = .ok (.iload 5, 2) := by decide +kernel
theorem dX0_taskOn_30 : decode cX0_taskOn 30 = .ok (.iaload, 1) := by decide +kernel
theorem dX0_taskOn_31 : decode cX0_taskOn 31 = .ok (.iload_n 3, 1) := by decide +kernel
theorem dX0_taskOn_32 : decode cX0_taskOn 32 = .ok (.if_icmp .ne 28, 3) := by decide +kernel
theorem dX0_taskOn_35 : decode cX0_taskOn 35 = .ok (.iload 6, 2) := by decide +kernel
theorem dX0_taskOn_37 : decode cX0_taskOn 37 = .ok (.iload 4, 2) := by decide +kernel
theorem dX0_taskOn_39 : decode cX0_taskOn 39 = .ok (.if_icmp .gt 21, 3) := by decide +kernel
theorem dX0_taskOn_42 : decode cX0_taskOn 42 = .ok (.iload 4, 2) := by decide +kernel
theorem dX0_taskOn_44 : decode cX0_taskOn 44 = .ok (.iload 6, 2) := by decide +kernel
theorem dX0_taskOn_46 : decode cX0_taskOn 46 = .ok (.aload_n 1, 1) := by decide +kernel
theorem dX0_taskOn_47 : decode cX0_taskOn 47 = .ok (.getfield 44, 3) := by decide +kernel
theorem dX0_taskOn_50 : decode cX0_taskOn 50 = .ok (.iload 5, 2) := by decide +kernel
theorem dX0_taskOn_52 : decode cX0_taskOn 52 = .ok (.iaload, 1) := by decide +kernel
theorem dX0_taskOn_53 : decode cX0_taskOn 53 = .ok (.iadd, 1) := by decide +kernel
theorem dX0_taskOn_54 : decode cX0_taskOn 54 = .ok (.if_icmp .ge 6, 3) := by decide +kernel
theorem dX0_taskOn_57 : decode cX0_taskOn 57 = .ok (.iload 5, 2) := by decide +kernel
theorem dX0_taskOn_59 : decode cX0_taskOn 59 = .ok (.ireturn, 1) := by decide +kernel
theorem dX0_taskOn_60 : decode cX0_taskOn 60 = .ok (.iinc 5 1, 3) := by decide +kernel
theorem dX0_taskOn_63 : decode cX0_taskOn 63 = .ok (.goto (-60), 3) := by decide +kernel
theorem dX0_taskOn_66 : decode cX0_taskOn 66 = .ok (.iconst (-1), 1) := by decide +kernel
theorem dX0_taskOn_67 : decode cX0_taskOn 67 = .ok (.ireturn, 1) := by decide +kernel
theorem dX0_daysIn_0 : decode cX0_daysIn 0 = .ok (.iconst 0, 1) := by decide +kernel
theorem dX0_daysIn_1 : decode cX0_daysIn 1 = .ok (.istore_n 3, 1) := by decide +kernel
theorem dX0_daysIn_2 : decode cX0_daysIn 2 = .ok (.iconst 0, 1) := by decide +kernel
theorem dX0_daysIn_3 : decode cX0_daysIn 3 = .ok (.istore 4, 2) := by decide +kernel
theorem dX0_daysIn_5 : decode cX0_daysIn 5 = .ok (.iload 4, 2) := by decide +kernel
theorem dX0_daysIn_7 : decode cX0_daysIn 7 = .ok (.aload_n 1, 1) := by decide +kernel
theorem dX0_daysIn_8 : decode cX0_daysIn 8 = .ok (.getfield 28, 3) := by decide +kernel
theorem dX0_daysIn_11 : decode cX0_daysIn 11 = .ok (.if_icmp .ge 41, 3) := by decide +kernel
theorem dX0_daysIn_14 : decode cX0_daysIn 14 = .ok (.aload_n 0, 1) := by decide +kernel
theorem dX0_daysIn_15 : decode cX0_daysIn 15 = .ok (.getfield 9, 3) := by decide +kernel
theorem dX0_daysIn_18 : decode cX0_daysIn 18 = .ok (.iload 4, 2) := by decide +kernel
theorem dX0_daysIn_20 : decode cX0_daysIn 20 = .ok (.iaload, 1) := by decide +kernel
theorem dX0_daysIn_21 : decode cX0_daysIn 21 = .ok (.iconst (-1), 1) := by decide +kernel
theorem dX0_daysIn_22 : decode cX0_daysIn 22 = .ok (.if_icmp .eq 24, 3) := by decide +kernel
theorem dX0_daysIn_25 : decode cX0_daysIn 25 = .ok (.aload_n 1, 1) := by decide +kernel
theorem dX0_daysIn_26 : decode cX0_daysIn 26 = .ok (.getfield 59, 3) := by decide +kernel
theorem dX0_daysIn_29 : decode cX0_daysIn 29 = .ok (.iload 4, 2) := by decide +kernel
theorem dX0_daysIn_31 : decode cX0_daysIn 31 = .ok (.iaload, 1) := by decide +kernel
theorem dX0_daysIn_32 : decode cX0_daysIn 32 = .ok (.iload_n 2, 1) := by decide +kernel
theorem dX0_daysIn_33 : decode cX0_daysIn 33 = .ok (.if_icmp .ne 13, 3) := by decide +kernel
theorem dX0_daysIn_36 : decode cX0_daysIn 36 = .ok (.iload_n 3, 1) := by decide +kernel
theorem dX0_daysIn_37 : decode cX0_daysIn 37 = .ok (.aload_n 1, 1) := by decide +kernel
theorem dX0_daysIn_38 : decode cX0_daysIn 38 = .ok (.getfield 44, 3) := by decide +kernel
theorem dX0_daysIn_41 : decode cX0_daysIn 41 = .ok (.iload 4, 2) := by decide +kernel
theorem dX0_daysIn_43 : decode cX0_daysIn 43 = .ok (.iaload, 1) := by decide +kernel
theorem dX0_daysIn_44 : decode cX0_daysIn 44 = .ok (.iadd, 1) := by decide +kernel
theorem dX0_daysIn_45 : decode cX0_daysIn 45 = .ok (.istore_n 3, 1) := by decide +kernel
theorem dX0_daysIn_46 : decode cX0_daysIn 46 = .ok (.iinc 4 1, 3) := by decide +kernel
theorem dX0_daysIn_49 : decode cX0_daysIn 49 = .ok (.goto (-44), 3) := by decide +kernel
theorem dX0_daysIn_52 : decode cX0_daysIn 52 = .ok (.iload_n 3, 1) := by decide +kernel
theorem dX0_daysIn_53 : decode cX0_daysIn 53 = .ok (.ireturn, 1) := by decide +kernel
theorem dX0_tasksIn_0 : decode cX0_tasksIn 0 = .ok (.iconst 0, 1) := by decide +kernel
theorem dX0_tasksIn_1 : decode cX0_tasksIn 1 = .ok (.istore_n 3, 1) := by decide +kernel
theorem dX0_tasksIn_2 : decode cX0_tasksIn 2 = .ok (.iconst 0, 1) := by decide +kernel
theorem dX0_tasksIn_3 : decode cX0_tasksIn 3 = .ok (.istore 4, 2) := by decide +kernel
theorem dX0_tasksIn_5 : decode cX0_tasksIn 5 = .ok (.iload 4, 2) := by decide +kernel
theorem dX0_tasksIn_7 : decode cX0_tasksIn 7 = .ok (.aload_n 1, 1) := by decide +kernel
theorem dX0_tasksIn_8 : decode cX0_tasksIn 8 = .ok (.getfield 28, 3) := by decide +kernel
theorem dX0_tasksIn_11 : decode cX0_tasksIn 11 = .ok (.if_icmp .ge 34, 3) := by decide +kernel
theorem dX0_tasksIn_14 : decode cX0_tasksIn 14 = .ok (.aload_n 0, 1) := by decide +kernel
theorem dX0_tasksIn_15 : decode cX0_tasksIn 15 = .ok (.getfield 9, 3) := by decide +kernel
theorem dX0_tasksIn_18 : decode cX0_tasksIn 18 = .ok (.iload 4, 2) := by decide +kernel
theorem dX0_tasksIn_20 : decode cX0_tasksIn 20 = .ok (.iaload, 1) := by decide +kernel
theorem dX0_tasksIn_21 : decode cX0_tasksIn 21 = .ok (.iconst (-1), 1) := by decide +kernel
theorem dX0_tasksIn_22 : decode cX0_tasksIn 22 = .ok (.if_icmp .eq 17, 3) := by decide +kernel
theorem dX0_tasksIn_25 : decode cX0_tasksIn 25 = .ok (.aload_n 1, 1) := by decide +kernel
theorem dX0_tasksIn_26 : decode cX0_tasksIn 26 = .ok (.getfield 59, 3) := by decide +kernel
theorem dX0_tasksIn_29 : decode cX0_tasksIn 29 = .ok (.iload 4, 2) := by decide +kernel
theorem dX0_tasksIn_31 : decode cX0_tasksIn 31 = .ok (.iaload, 1) := by decide +kernel
theorem dX0_tasksIn_32 : decode cX0_tasksIn 32 = .ok (.iload_n 2, 1) := by decide +kernel
theorem dX0_tasksIn_33 : decode cX0_tasksIn 33 = .ok (.if_icmp .ne 6, 3) := by decide +kernel
theorem dX0_tasksIn_36 : decode cX0_tasksIn 36 = .ok (.iinc 3 1, 3) := by decide +kernel
theorem dX0_tasksIn_39 : decode cX0_tasksIn 39 = .ok (.iinc 4 1, 3) := by decide +kernel
theorem dX0_tasksIn_42 : decode cX0_tasksIn 42 = .ok (.goto (-37), 3) := by decide +kernel
theorem dX0_tasksIn_45 : decode cX0_tasksIn 45 = .ok (.iload_n 3, 1) := by decide +kernel
theorem dX0_tasksIn_46 : decode cX0_tasksIn 46 = .ok (.ireturn, 1) := by decide +kernel
theorem dX1_init_0 : decode cX1_init 0 = .ok (.aload_n 0, 1) := by decide +kernel
theorem dX1_init_1 : decode cX1_init 1 = .ok (.invokespecial 3, 3) := by decide +kernel
theorem dX1_init_4 : decode cX1_init 4 = .ok (.aload_n 0, 1) := by decide +kernel
theorem dX1_init_5 : decode cX1_init 5 = .ok (.bipush 12, 2) := by decide +kernel
theorem dX1_init_7 : decode cX1_init 7 = .ok (.newarray .int, 2) := by decide +kernel
theorem dX1_init_9 : decode cX1_init 9 = .ok (.putfield 9, 3) := by decide +kernel
theorem dX1_init_12 : decode cX1_init 12 = .ok (.aload_n 0, 1) := by decide +kernel
theorem dX1_init_13 : decode cX1_init 13 = .ok (.bipush 12, 2) := by decide +kernel
theorem dX1_init_15 : decode cX1_init 15 = .ok (.newarray .int, 2) := by decide +kernel
theorem dX1_init_17 : decode cX1_init 17 = .ok (.putfield 15, 3) := by decide +kernel
theorem dX1_init_20 : decode cX1_init 20 = .ok (.aload_n 0, 1) := by decide +kernel
theorem dX1_init_21 : decode cX1_init 21 = .ok (.bipush 12, 2) := by decide +kernel
theorem dX1_init_23 : decode cX1_init 23 = .ok (.newarray .int, 2) := by decide +kernel
theorem dX1_init_25 : decode cX1_init 25 = .ok (.putfield 18, 3) := by decide +kernel
theorem dX1_init_28 : decode cX1_init 28 = .ok (.aload_n 0, 1) := by decide +kernel
theorem dX1_init_29 : decode cX1_init 29 = .ok (.bipush 12, 2) := by decide +kernel
theorem dX1_init_31 : decode cX1_init 31 = .ok (.newarray .int, 2) := by decide +kernel
theorem dX1_init_33 : decode cX1_init 33 = .ok (.putfield 21, 3) := by decide +kernel
theorem dX1_init_36 : decode cX1_init 36 = .ok (.aload_n 0, 1) := by decide +kernel
theorem dX1_init_37 : decode cX1_init 37 = .ok (.bipush 12, 2) := by decide +kernel
theorem dX1_init_39 : decode cX1_init 39 = .ok (.newarray .int, 2) := by decide +kernel
theorem dX1_init_41 : decode cX1_init 41 = .ok (.putfield 24, 3) := by decide +kernel
theorem dX1_init_44 : decode cX1_init 44 = .ok (.aload_n 0, 1) := by decide +kernel
theorem dX1_init_45 : decode cX1_init 45 = .ok (.iconst 4, 1) := by decide +kernel
theorem dX1_init_46 : decode cX1_init 46 = .ok (.newarray .int, 2) := by decide +kernel
theorem dX1_init_48 : decode cX1_init 48 = .ok (.putfield 27, 3) := by decide +kernel
theorem dX1_init_51 : decode cX1_init 51 = .ok (.aload_n 0, 1) := by decide +kernel
theorem dX1_init_52 : decode cX1_init 52 = .ok (.iconst 4, 1) := by decide +kernel
theorem dX1_init_53 : decode cX1_init 53 = .ok (.newarray .int, 2) := by decide +kernel
theorem dX1_init_55 : decode cX1_init 55 = .ok (.putfield 30, 3) := by decide +kernel
theorem dX1_init_58 : decode cX1_init 58 = .ok (.aload_n 0, 1) := by decide +kernel
theorem dX1_init_59 : decode cX1_init 59 = .ok (.iconst 0, 1) := by decide +kernel
theorem dX1_init_60 : decode cX1_init 60 = .ok (.putfield 33, 3) := by decide +kernel
theorem dX1_init_63 : decode cX1_init 63 = .ok (.aload_n 0, 1) := by decide +kernel
theorem dX1_init_64 : decode cX1_init 64 = .ok (.iconst 0, 1) := by decide +kernel
theorem dX1_init_65 : decode cX1_init 65 = .ok (.putfield 37, 3) := by decide +kernel
theorem dX1_init_68 : decode cX1_init 68 = .ok (.iconst 0, 1) := by decide +kernel
theorem dX1_init_69 : decode cX1_init 69 = .ok (.istore_n 1, 1) := by decide +kernel
theorem dX1_init_70 : decode cX1_init 70 = .ok (.iload_n 1, 1) := by decide +kernel
theorem dX1_init_71 : decode cX1_init 71 = .ok (.iconst 4, 1) := by decide +kernel
theorem dX1_init_72 : decode cX1_init 72 = .ok (.if_icmp .ge 17, 3) := by decide +kernel
theorem dX1_init_75 : decode cX1_init 75 = .ok (.aload_n 0, 1) := by decide +kernel
theorem dX1_init_76 : decode cX1_init 76 = .ok (.getfield 30, 3) := by decide +kernel
theorem dX1_init_79 : decode cX1_init 79 = .ok (.iload_n 1, 1) := by decide +kernel
theorem dX1_init_80 : decode cX1_init 80 = .ok (.bipush 99, 2) := by decide +kernel
theorem dX1_init_82 : decode cX1_init 82 = .ok (.iastore, 1) := by decide +kernel
theorem dX1_init_83 : decode cX1_init 83 = .ok (.iinc 1 1, 3) := by decide +kernel
theorem dX1_init_86 : decode cX1_init 86 = .ok (.goto (-16), 3) := by decide +kernel
theorem dX1_init_89 : decode cX1_init 89 = .ok (.return_, 1) := by decide +kernel
theorem dX1_copyFrom_0 : decode cX1_copyFrom 0 = .ok (.aload_n 0, 1) := by decide +kernel
theorem dX1_copyFrom_1 : decode cX1_copyFrom 1 = .ok (.aload_n 1, 1) := by decide +kernel
theorem dX1_copyFrom_2 : decode cX1_copyFrom 2 = .ok (.getfield 33, 3) := by decide +kernel
theorem dX1_copyFrom_5 : decode cX1_copyFrom 5 = .ok (.putfield 33, 3) := by decide +kernel
theorem dX1_copyFrom_8 : decode cX1_copyFrom 8 = .ok (.aload_n 0, 1) := by decide +kernel
theorem dX1_copyFrom_9 : decode cX1_copyFrom 9 = .ok (.aload_n 1, 1) := by decide +kernel
theorem dX1_copyFrom_10 : decode cX1_copyFrom 10 = .ok (.getfield 37, 3) := by decide +kernel
theorem dX1_copyFrom_13 : decode cX1_copyFrom 13 = .ok (.putfield 37, 3) := by decide +kernel
theorem dX1_copyFrom_16 : decode cX1_copyFrom 16 = .ok (.iconst 0, 1) := by decide +kernel
theorem dX1_copyFrom_17 : decode cX1_copyFrom 17 = .ok (.istore_n 2, 1) := by decide +kernel
theorem dX1_copyFrom_18 : decode cX1_copyFrom 18 = .ok (.iload_n 2, 1) := by decide +kernel
theorem dX1_copyFrom_19 : decode cX1_copyFrom 19 = .ok (.aload_n 0, 1) := by decide +kernel
theorem dX1_copyFrom_20 : decode cX1_copyFrom 20 = .ok (.getfield 33, 3) := by decide +kernel
theorem dX1_copyFrom_23 : decode cX1_copyFrom 23 = .ok (.if_icmp .ge 69, 3) := by decide +kernel
theorem dX1_copyFrom_26 : decode cX1_copyFrom 26 = .ok (.aload_n 0, 1) := by decide +kernel
theorem dX1_copyFrom_27 : decode cX1_copyFrom 27 = .ok (.getfield 9, 3) := by decide +kernel
theorem dX1_copyFrom_30 : decode cX1_copyFrom 30 = .ok (.iload_n 2, 1) := by decide +kernel
theorem dX1_copyFrom_31 : decode cX1_copyFrom 31 = .ok (.aload_n 1, 1) := by decide +kernel
theorem dX1_copyFrom_32 : decode cX1_copyFrom 32 = .ok (.getfield 9, 3) := by decide +kernel
theorem dX1_copyFrom_35 : decode cX1_copyFrom 35 = .ok (.iload_n 2, 1) := by decide +kernel
theorem dX1_copyFrom_36 : decode cX1_copyFrom 36 = .ok (.iaload, 1) := by decide +kernel
theorem dX1_copyFrom_37 : decode cX1_copyFrom 37 = .ok (.iastore, 1) := by decide +kernel
theorem dX1_copyFrom_38 : decode cX1_copyFrom 38 = .ok (.aload_n 0, 1) := by decide +kernel
theorem dX1_copyFrom_39 : decode cX1_copyFrom 39 = .ok (.getfield 15, 3) := by decide +kernel
theorem dX1_copyFrom_42 : decode cX1_copyFrom 42 = .ok (.iload_n 2, 1) := by decide +kernel
theorem dX1_copyFrom_43 : decode cX1_copyFrom 43 = .ok (.aload_n 1, 1) := by decide +kernel
theorem dX1_copyFrom_44 : decode cX1_copyFrom 44 = .ok (.getfield 15, 3) := by decide +kernel
theorem dX1_copyFrom_47 : decode cX1_copyFrom 47 = .ok (.iload_n 2, 1) := by decide +kernel
theorem dX1_copyFrom_48 : decode cX1_copyFrom 48 = .ok (.iaload, 1) := by decide +kernel
theorem dX1_copyFrom_49 : decode cX1_copyFrom 49 = .ok (.iastore, 1) := by decide +kernel
theorem dX1_copyFrom_50 : decode cX1_copyFrom 50 = .ok (.aload_n 0, 1) := by decide +kernel
theorem dX1_copyFrom_51 : decode cX1_copyFrom 51 = .ok (.getfield 18, 3) := by decide +kernel
theorem dX1_copyFrom_54 : decode cX1_copyFrom 54 = .ok (.iload_n 2, 1) := by decide +kernel
theorem dX1_copyFrom_55 : decode cX1_copyFrom 55 = .ok (.aload_n 1, 1) := by decide +kernel
theorem dX1_copyFrom_56 : decode cX1_copyFrom 56 = .ok (.getfield 18, 3) := by decide +kernel
theorem dX1_copyFrom_59 : decode cX1_copyFrom 59 = .ok (.iload_n 2, 1) := by decide +kernel
theorem dX1_copyFrom_60 : decode cX1_copyFrom 60 = .ok (.iaload, 1) := by decide +kernel
theorem dX1_copyFrom_61 : decode cX1_copyFrom 61 = .ok (.iastore, 1) := by decide +kernel
theorem dX1_copyFrom_62 : decode cX1_copyFrom 62 = .ok (.aload_n 0, 1) := by decide +kernel
theorem dX1_copyFrom_63 : decode cX1_copyFrom 63 = .ok (.getfield 21, 3) := by decide +kernel
theorem dX1_copyFrom_66 : decode cX1_copyFrom 66 = .ok (.iload_n 2, 1) := by decide +kernel
theorem dX1_copyFrom_67 : decode cX1_copyFrom 67 = .ok (.aload_n 1, 1) := by decide +kernel
theorem dX1_copyFrom_68 : decode cX1_copyFrom 68 = .ok (.getfield 21, 3) := by decide +kernel
theorem dX1_copyFrom_71 : decode cX1_copyFrom 71 = .ok (.iload_n 2, 1) := by decide +kernel
theorem dX1_copyFrom_72 : decode cX1_copyFrom 72 = .ok (.iaload, 1) := by decide +kernel
theorem dX1_copyFrom_73 : decode cX1_copyFrom 73 = .ok (.iastore, 1) := by decide +kernel
theorem dX1_copyFrom_74 : decode cX1_copyFrom 74 = .ok (.aload_n 0, 1) := by decide +kernel
theorem dX1_copyFrom_75 : decode cX1_copyFrom 75 = .ok (.getfield 24, 3) := by decide +kernel
theorem dX1_copyFrom_78 : decode cX1_copyFrom 78 = .ok (.iload_n 2, 1) := by decide +kernel
theorem dX1_copyFrom_79 : decode cX1_copyFrom 79 = .ok (.aload_n 1, 1) := by decide +kernel
theorem dX1_copyFrom_80 : decode cX1_copyFrom 80 = .ok (.getfield 24, 3) := by decide +kernel
theorem dX1_copyFrom_83 : decode cX1_copyFrom 83 = .ok (.iload_n 2, 1) := by decide +kernel
theorem dX1_copyFrom_84 : decode cX1_copyFrom 84 = .ok (.iaload, 1) := by decide +kernel
theorem dX1_copyFrom_85 : decode cX1_copyFrom 85 = .ok (.iastore, 1) := by decide +kernel
theorem dX1_copyFrom_86 : decode cX1_copyFrom 86 = .ok (.iinc 2 1, 3) := by decide +kernel
theorem dX1_copyFrom_89 : decode cX1_copyFrom 89 = .ok (.goto (-71), 3) := by decide +kernel
theorem dX1_copyFrom_92 : decode cX1_copyFrom 92 = .ok (.iconst 0, 1) := by decide +kernel
theorem dX1_copyFrom_93 : decode cX1_copyFrom 93 = .ok (.istore_n 2, 1) := by decide +kernel
theorem dX1_copyFrom_94 : decode cX1_copyFrom 94 = .ok (.iload_n 2, 1) := by decide +kernel
theorem dX1_copyFrom_95 : decode cX1_copyFrom 95 = .ok (.iconst 4, 1) := by decide +kernel
theorem dX1_copyFrom_96 : decode cX1_copyFrom 96 = .ok (.if_icmp .ge 33, 3) := by decide +kernel
theorem dX1_copyFrom_99 : decode cX1_copyFrom 99 = .ok (.aload_n 0, 1) := by decide +kernel
theorem dX1_copyFrom_100 : decode cX1_copyFrom 100 = .ok (.getfield 27, 3) := by decide +kernel
theorem dX1_copyFrom_103 : decode cX1_copyFrom 103 = .ok (.iload_n 2, 1) := by decide +kernel
theorem dX1_copyFrom_104 : decode cX1_copyFrom 104 = .ok (.aload_n 1, 1) := by decide +kernel
theorem dX1_copyFrom_105 : decode cX1_copyFrom 105 = .ok (.getfield 27, 3) := by decide +kernel
theorem dX1_copyFrom_108 : decode cX1_copyFrom 108 = .ok (.iload_n 2, 1) := by decide +kernel
theorem dX1_copyFrom_109 : decode cX1_copyFrom 109 = .ok (.iaload, 1) := by decide +kernel
theorem dX1_copyFrom_110 : decode cX1_copyFrom 110 = .ok (.iastore, 1) := by decide +kernel
theorem dX1_copyFrom_111 : decode cX1_copyFrom 111 = .ok (.aload_n 0, 1) := by decide +kernel
theorem dX1_copyFrom_112 : decode cX1_copyFrom 112 = .ok (.getfield 30, 3) := by decide +kernel
theorem dX1_copyFrom_115 : decode cX1_copyFrom 115 = .ok (.iload_n 2, 1) := by decide +kernel
theorem dX1_copyFrom_116 : decode cX1_copyFrom 116 = .ok (.aload_n 1, 1) := by decide +kernel
theorem dX1_copyFrom_117 : decode cX1_copyFrom 117 = .ok (.getfield 30, 3) := by decide +kernel
theorem dX1_copyFrom_120 : decode cX1_copyFrom 120 = .ok (.iload_n 2, 1) := by decide +kernel
theorem dX1_copyFrom_121 : decode cX1_copyFrom 121 = .ok (.iaload, 1) := by decide +kernel
theorem dX1_copyFrom_122 : decode cX1_copyFrom 122 = .ok (.iastore, 1) := by decide +kernel
theorem dX1_copyFrom_123 : decode cX1_copyFrom 123 = .ok (.iinc 2 1, 3) := by decide +kernel
theorem dX1_copyFrom_126 : decode cX1_copyFrom 126 = .ok (.goto (-32), 3) := by decide +kernel
theorem dX1_copyFrom_129 : decode cX1_copyFrom 129 = .ok (.return_, 1) := by decide +kernel
theorem dX1_property_0 : decode cX1_property 0 = .ok (.iload_n 1, 1) := by decide +kernel
theorem dX1_property_1 : decode cX1_property 1 = .ok (.tableswitch 51 0 3 #[31, 36, 41, 46], 31) := by decide +kernel
theorem dX1_property_32 : decode cX1_property 32 = .ok (.aload_n 0, 1) := by decide +kernel
theorem dX1_property_33 : decode cX1_property 33 = .ok (.getfield 9, 3) := by decide +kernel
theorem dX1_property_36 : decode cX1_property 36 = .ok (.areturn, 1) := by decide +kernel
theorem dX1_property_37 : decode cX1_property 37 = .ok (.aload_n 0, 1) := by decide +kernel
theorem dX1_property_38 : decode cX1_property 38 = .ok (.getfield 15, 3) := by decide +kernel
theorem dX1_property_41 : decode cX1_property 41 = .ok (.areturn, 1) := by decide +kernel
theorem dX1_property_42 : decode cX1_property 42 = .ok (.aload_n 0, 1) := by decide +kernel
theorem dX1_property_43 : decode cX1_property 43 = .ok (.getfield 18, 3) := by decide +kernel
theorem dX1_property_46 : decode cX1_property 46 = .ok (.areturn, 1) := by decide +kernel
theorem dX1_property_47 : decode cX1_property 47 = .ok (.aload_n 0, 1) := by decide +kernel
theorem dX1_property_48 : decode cX1_property 48 = .ok (.getfield 21, 3) := by decide +kernel
theorem dX1_property_51 : decode cX1_property 51 = .ok (.areturn, 1) := by decide +kernel
theorem dX1_property_52 : decode cX1_property 52 = .ok (.aload_n 0, 1) := by decide +kernel
theorem dX1_property_53 : decode cX1_property 53 = .ok (.getfield 24, 3) := by decide +kernel
theorem dX1_property_56 : decode cX1_property 56 = .ok (.areturn, 1) := by decide +kernel
theorem dX1_appendTask_0 : decode cX1_appendTask 0 = .ok (.aload_n 0, 1) := by decide +kernel
theorem dX1_appendTask_1 : decode cX1_appendTask 1 = .ok (.getfield 9, 3) := by decide +kernel
theorem dX1_appendTask_4 : decode cX1_appendTask 4 = .ok (.aload_n 0, 1) := by decide +kernel
theorem dX1_appendTask_5 : decode cX1_appendTask 5 = .ok (.getfield 33, 3) := by decide +kernel
theorem dX1_appendTask_8 : decode cX1_appendTask 8 = .ok (.iload_n 1, 1) := by decide +kernel
theorem dX1_appendTask_9 : decode cX1_appendTask 9 = .ok (.iastore, 1) := by decide +kernel
theorem dX1_appendTask_10 : decode cX1_appendTask 10 = .ok (.aload_n 0, 1) := by decide +kernel
theorem dX1_appendTask_11 : decode cX1_appendTask 11 = .ok (.getfield 15, 3) := by decide +kernel
theorem dX1_appendTask_14 : decode cX1_appendTask 14 = .ok (.aload_n 0, 1) := by decide +kernel
theorem dX1_appendTask_15 : decode cX1_appendTask 15 = .ok (.getfield 33, 3) := by decide +kernel
theorem dX1_appendTask_18 : decode cX1_appendTask 18 = .ok (.iload_n 2, 1) := by decide +kernel
theorem dX1_appendTask_19 : decode cX1_appendTask 19 = .ok (.iastore, 1) := by decide +kernel
theorem dX1_appendTask_20 : decode cX1_appendTask 20 = .ok (.aload_n 0, 1) := by decide +kernel
theorem dX1_appendTask_21 : decode cX1_appendTask 21 = .ok (.getfield 18, 3) := by decide +kernel
theorem dX1_appendTask_24 : decode cX1_appendTask 24 = .ok (.aload_n 0, 1) := by decide +kernel
theorem dX1_appendTask_25 : decode cX1_appendTask 25 = .ok (.getfield 33, 3) := by decide +kernel
theorem dX1_appendTask_28 : decode cX1_appendTask 28 = .ok (.iload_n 3, 1) := by decide +kernel
theorem dX1_appendTask_29 : decode cX1_appendTask 29 = .ok (.iastore, 1) := by decide +kernel
theorem dX1_appendTask_30 : decode cX1_appendTask 30 = .ok (.aload_n 0, 1) := by decide +kernel
theorem dX1_appendTask_31 : decode cX1_appendTask 31 = .ok (.getfield 21, 3) := by decide +kernel
theorem dX1_appendTask_34 : decode cX1_appendTask 34 = .ok (.aload_n 0, 1) := by decide +kernel
theorem dX1_appendTask_35 : decode cX1_appendTask 35 = .ok (.getfield 33, 3) := by decide +kernel
theorem dX1_appendTask_38 : decode cX1_appendTask 38 = .ok (.iconst 0, 1) := by decide +kernel
theorem dX1_appendTask_39 : decode cX1_appendTask 39 = .ok (.iastore, 1) := by decide +kernel
theorem dX1_appendTask_40 : decode cX1_appendTask 40 = .ok (.aload_n 0, 1) := by decide +kernel
theorem dX1_appendTask_41 : decode cX1_appendTask 41 = .ok (.getfield 24, 3) := by decide +kernel
theorem dX1_appendTask_44 : decode cX1_appendTask 44 = .ok (.aload_n 0, 1) := by decide +kernel
theorem dX1_appendTask_45 : decode cX1_appendTask 45 = .ok (.getfield 33, 3) := by decide +kernel
theorem dX1_appendTask_48 : decode cX1_appendTask 48 = .ok (.iconst 0, 1) := by decide +kernel
theorem dX1_appendTask_49 : decode cX1_appendTask 49 = .ok (.iastore, 1) := by decide +kernel
theorem dX1_appendTask_50 : decode cX1_appendTask 50 = .ok (.aload_n 0, 1) := by decide +kernel
theorem dX1_appendTask_51 : decode cX1_appendTask 51 = .ok (.dup, 1) := by decide +kernel
theorem dX1_appendTask_52 : decode cX1_appendTask 52 = .ok (.getfield 33, 3) := by decide +kernel
theorem dX1_appendTask_55 : decode cX1_appendTask 55 = .ok (.iconst 1, 1) := by decide +kernel
theorem dX1_appendTask_56 : decode cX1_appendTask 56 = .ok (.iadd, 1) := by decide +kernel
theorem dX1_appendTask_57 : decode cX1_appendTask 57 = .ok (.putfield 33, 3) := by decide +kernel
theorem dX1_appendTask_60 : decode cX1_appendTask 60 = .ok (.return_, 1) := by decide +kernel
set_option maxRecDepth 20000 in
theorem ggX1_dropTask_X1_withoutBit : GoodIn wsX1_dropTask wsX1_withoutBit := goodIn_r _ [10] (by decide +kernel) (by decide +kernel)
set_option maxRecDepth 20000 in
theorem gX1_dropTask_X1_withoutBit : GoodIn wsX1_dropTask (va_wsS RX1 40 yX1_withoutBit wsX1_withoutBit) := goodIn_app (goodIn_r _ [7, 8, 9] (by decide +kernel) (by decide +kernel)) ggX1_dropTask_X1_withoutBit
theorem dX1_dropTask_0 : decode cX1_dropTask 0 = .ok (.aload_n 0, 1) := by decide +kernel
theorem dX1_dropTask_1 : decode cX1_dropTask 1 = .ok (.dup, 1) := by decide +kernel
theorem dX1_dropTask_2 : decode cX1_dropTask 2 = .ok (.getfield 33, 3) := by decide +kernel
theorem dX1_dropTask_5 : decode cX1_dropTask 5 = .ok (.iconst 1, 1) := by decide +kernel
theorem dX1_dropTask_6 : decode cX1_dropTask 6 = .ok (.isub, 1) := by decide +kernel
theorem dX1_dropTask_7 : decode cX1_dropTask 7 = .ok (.putfield 33, 3) := by decide +kernel
theorem dX1_dropTask_10 : decode cX1_dropTask 10 = .ok (.iload_n 1, 1) := by decide +kernel
theorem dX1_dropTask_11 : decode cX1_dropTask 11 = .ok (.istore_n 2, 1) := by decide +kernel
theorem dX1_dropTask_12 : decode cX1_dropTask 12 = .ok (.iload_n 2, 1) := by decide +kernel
theorem dX1_dropTask_13 : decode cX1_dropTask 13 = .ok (.aload_n 0, 1) := by decide +kernel
theorem dX1_dropTask_14 : decode cX1_dropTask 14 = .ok (.getfield 33, 3) := by decide +kernel
theorem dX1_dropTask_17 : decode cX1_dropTask 17 = .ok (.if_icmp .ge 83, 3) := by decide +kernel
theorem dX1_dropTask_20 : decode cX1_dropTask 20 = .ok (.aload_n 0, 1) := by decide +kernel
theorem dX1_dropTask_21 : decode cX1_dropTask 21 = .ok (.getfield 9, 3) := by decide +kernel
theorem dX1_dropTask_24 : decode cX1_dropTask 24 = .ok (.iload_n 2, 1) := by decide +kernel
theorem dX1_dropTask_25 : decode cX1_dropTask 25 = .ok (.aload_n 0, 1) := by decide +kernel
theorem dX1_dropTask_26 : decode cX1_dropTask 26 = .ok (.getfield 9, 3) := by decide +kernel
theorem dX1_dropTask_29 : decode cX1_dropTask 29 = .ok (.iload_n 2, 1) := by decide +kernel
theorem dX1_dropTask_30 : decode cX1_dropTask 30 = .ok (.iconst 1, 1) := by decide +kernel
theorem dX1_dropTask_31 : decode cX1_dropTask 31 = .ok (.iadd, 1) := by decide +kernel
theorem dX1_dropTask_32 : decode cX1_dropTask 32 = .ok (.iaload, 1) := by decide +kernel
theorem dX1_dropTask_33 : decode cX1_dropTask 33 = .ok (.iastore, 1) := by decide +kernel
theorem dX1_dropTask_34 : decode cX1_dropTask 34 = .ok (.aload_n 0, 1) := by decide +kernel
theorem dX1_dropTask_35 : decode cX1_dropTask 35 = .ok (.getfield 15, 3) := by decide +kernel
theorem dX1_dropTask_38 : decode cX1_dropTask 38 = .ok (.iload_n 2, 1) := by decide +kernel
theorem dX1_dropTask_39 : decode cX1_dropTask 39 = .ok (.aload_n 0, 1) := by decide +kernel
theorem dX1_dropTask_40 : decode cX1_dropTask 40 = .ok (.getfield 15, 3) := by decide +kernel
theorem dX1_dropTask_43 : decode cX1_dropTask 43 = .ok (.iload_n 2, 1) := by decide +kernel
theorem dX1_dropTask_44 : decode cX1_dropTask 44 = .ok (.iconst 1, 1) := by decide +kernel
theorem dX1_dropTask_45 : decode cX1_dropTask 45 = .ok (.iadd, 1) := by decide +kernel
theorem dX1_dropTask_46 : decode cX1_dropTask 46 = .ok (.iaload, 1) := by decide +kernel
theorem dX1_dropTask_47 : decode cX1_dropTask 47 = .ok (.iastore, 1) := by decide +kernel
theorem dX1_dropTask_48 : decode cX1_dropTask 48 = .ok (.aload_n 0, 1) := by decide +kernel
theorem dX1_dropTask_49 : decode cX1_dropTask 49 = .ok (.getfield 18, 3) := by decide +kernel
theorem dX1_dropTask_52 : decode cX1_dropTask 52 = .ok (.iload_n 2, 1) := by decide +kernel
theorem dX1_dropTask_53 : decode cX1_dropTask 53 = .ok (.aload_n 0, 1) := by decide +kernel
theorem dX1_dropTask_54 : decode cX1_dropTask 54 = .ok (.getfield 18, 3) := by decide +kernel
theorem dX1_dropTask_57 : decode cX1_dropTask 57 = .ok (.iload_n 2, 1) := by decide +kernel
theorem dX1_dropTask_58 : decode cX1_dropTask 58 = .ok (.iconst 1, 1) := by decide +kernel
theorem dX1_dropTask_59 : decode cX1_dropTask 59 = .ok (.iadd, 1) := by decide +kernel
theorem dX1_dropTask_60 : decode cX1_dropTask 60 = .ok (.iaload, 1) := by decide +kernel
theorem dX1_dropTask_61 : decode cX1_dropTask 61 = .ok (.iastore, 1) := by decide +kernel
theorem dX1_dropTask_62 : decode cX1_dropTask 62 = .ok (.aload_n 0, 1) := by decide +kernel
theorem dX1_dropTask_63 : decode cX1_dropTask 63 = .ok (.getfield 21, 3) := by decide +kernel
theorem dX1_dropTask_66 : decode cX1_dropTask 66 = .ok (.iload_n 2, 1) := by decide +kernel
theorem dX1_dropTask_67 : decode cX1_dropTask 67 = .ok (.aload_n 0, 1) := by decide +kernel
theorem dX1_dropTask_68 : decode cX1_dropTask 68 = .ok (.getfield 21, 3) := by decide +kernel
theorem dX1_dropTask_71 : decode cX1_dropTask 71 = .ok (.iload_n 2, 1) := by decide +kernel
theorem dX1_dropTask_72 : decode cX1_dropTask 72 = .ok (.iconst 1, 1) := by decide +kernel
theorem dX1_dropTask_73 : decode cX1_dropTask 73 = .ok (.iadd, 1) := by decide +kernel
theorem dX1_dropTask_74 : decode cX1_dropTask 74 = .ok (.iaload, 1) := by decide +kernel
theorem dX1_dropTask_75 : decode cX1_dropTask 75 = .ok (.iastore, 1) := by decide +kernel
theorem dX1_dropTask_76 : decode cX1_dropTask 76 = .ok (.aload_n 0, 1) := by decide +kernel
theorem dX1_dropTask_77 : decode cX1_dropTask 77 = .ok (.getfield 24, 3) := by decide +kernel
theorem dX1_dropTask_80 : decode cX1_dropTask 80 = .ok (.iload_n 2, 1) := by decide +kernel
theorem dX1_dropTask_81 : decode cX1_dropTask 81 = .ok (.aload_n 0, 1) := by decide +kernel
theorem dX1_dropTask_82 : decode cX1_dropTask 82 = .ok (.getfield 24, 3) := by decide +kernel
theorem dX1_dropTask_85 : decode cX1_dropTask 85 = .ok (.iload_n 2, 1) := by decide +kernel
theorem dX1_dropTask_86 : decode cX1_dropTask 86 = .ok (.iconst 1, 1) := by decide +kernel
theorem dX1_dropTask_87 : decode cX1_dropTask 87 = .ok (.iadd, 1) := by decide +kernel
theorem dX1_dropTask_88 : decode cX1_dropTask 88 = .ok (.iaload, 1) := by decide +kernel
theorem dX1_dropTask_89 : decode cX1_dropTask 89 = .ok (.iload_n 1, 1) := by decide +kernel
theorem dX1_dropTask_90 : decode cX1_dropTask 90 = .ok (.invokestatic 40, 3) := by decide +kernel
theorem dX1_dropTask_93 : decode cX1_dropTask 93 = .ok (.iastore, 1) := by decide +kernel
theorem dX1_dropTask_94 : decode cX1_dropTask 94 = .ok (.iinc 2 1, 3) := by decide +kernel
theorem dX1_dropTask_97 : decode cX1_dropTask 97 = .ok (.goto (-85), 3) := by decide +kernel
theorem dX1_dropTask_100 : decode cX1_dropTask 100 = .ok (.return_, 1) := by decide +kernel
theorem dX1_withoutBit_0 : decode cX1_withoutBit 0 = .ok (.iload_n 0, 1) := by decide +kernel
theorem dX1_withoutBit_1 : decode cX1_withoutBit 1 = .ok (.iconst 1, 1) := by decide +kernel
theorem dX1_withoutBit_2 : decode cX1_withoutBit 2 = .ok (.iload_n 1, 1) := by decide +kernel
theorem dX1_withoutBit_3 : decode cX1_withoutBit 3 = .ok (.ishl, 1) := by decide +kernel
theorem dX1_withoutBit_4 : decode cX1_withoutBit 4 = .ok (.iconst 1, 1) := by decide +kernel
theorem dX1_withoutBit_5 : decode cX1_withoutBit 5 = .ok (.isub, 1) := by decide +kernel
theorem dX1_withoutBit_6 : decode cX1_withoutBit 6 = .ok (.iand, 1) := by decide +kernel
theorem dX1_withoutBit_7 : decode cX1_withoutBit 7 = .ok (.istore_n 2, 1) := by decide +kernel
theorem dX1_withoutBit_8 : decode cX1_withoutBit 8 = .ok (.iload_n 0, 1) := by decide +kernel
theorem dX1_withoutBit_9 : decode cX1_withoutBit 9 = .ok (.iload_n 1, 1) := by decide +kernel
theorem dX1_withoutBit_10 : decode cX1_withoutBit 10 = .ok (.iconst 1, 1) := by decide +kernel
theorem dX1_withoutBit_11 : decode cX1_withoutBit 11 = .ok (.iadd, 1) := by decide +kernel
theorem dX1_withoutBit_12 : decode cX1_withoutBit 12 = .ok (.ishr, 1) := by decide +kernel
theorem dX1_withoutBit_13 : decode cX1_withoutBit 13 = .ok (.iload_n 1, 1) := by decide +kernel
theorem dX1_withoutBit_14 : decode cX1_withoutBit 14 = .ok (.ishl, 1) := by decide +kernel
theorem dX1_withoutBit_15 : decode cX1_withoutBit 15 = .ok (.istore_n 3, 1) := by decide +kernel
theorem dX1_withoutBit_16 : decode cX1_withoutBit 16 = .ok (.iload_n 2, 1) := by decide +kernel
theorem dX1_withoutBit_17 : decode cX1_withoutBit 17 = .ok (.iload_n 3, 1) := by decide +kernel
theorem dX1_withoutBit_18 : decode cX1_withoutBit 18 = .ok (.ior, 1) := by decide +kernel
theorem dX1_withoutBit_19 : decode cX1_withoutBit 19 = .ok (.ireturn, 1) := by decide +kernel
theorem dX1_isNeeded_0 : decode cX1_isNeeded 0 = .ok (.aload_n 0, 1) := by decide +kernel
theorem dX1_isNeeded_1 : decode cX1_isNeeded 1 = .ok (.getfield 24, 3) := by decide +kernel
theorem dX1_isNeeded_4 : decode cX1_isNeeded 4 = .ok (.iload_n 1, 1) := by decide +kernel
theorem dX1_isNeeded_5 : decode cX1_isNeeded 5 = .ok (.iaload, 1) := by decide +kernel
theorem dX1_isNeeded_6 : decode cX1_isNeeded 6 = .ok (.iconst 1, 1) := by decide +kernel
theorem dX1_isNeeded_7 : decode cX1_isNeeded 7 = .ok (.iload_n 2, 1) := by decide +kernel
theorem dX1_isNeeded_8 : decode cX1_isNeeded 8 = .ok (.ishl, 1) := by decide +kernel
theorem dX1_isNeeded_9 : decode cX1_isNeeded 9 = .ok (.iand, 1) := by decide +kernel
theorem dX1_isNeeded_10 : decode cX1_isNeeded 10 = .ok (.ifCond .eq 7, 3) := by decide +kernel
theorem dX1_isNeeded_13 : decode cX1_isNeeded 13 = .ok (.iconst 1, 1) := by decide +kernel
theorem dX1_isNeeded_14 : decode cX1_isNeeded 14 = .ok (.goto 4, 3) := by decide +kernel
theorem dX1_isNeeded_17 : decode cX1_isNeeded 17 = .ok (.iconst 0, 1) := by decide +kernel
theorem dX1_isNeeded_18 : decode cX1_isNeeded 18 = .ok (.ireturn, 1) := by decide +kernel
set_option maxRecDepth 20000 in
theorem ggX1_followers_X1_isNeeded : GoodIn wsX1_followers wsX1_isNeeded := goodIn_r _ [6, 7, 8, 9, 10, 11, 12, 13, 14, 15, 16] (by decide +kernel) (by decide +kernel)
set_option maxRecDepth 20000 in
theorem gX1_followers_X1_isNeeded : GoodIn wsX1_followers (wsV RX1 44 RX1 yX1_isNeeded wsX1_isNeeded) := goodIn_app (goodIn_r _ [2, 3, 4, 5] (by decide +kernel) (by decide +kernel)) ggX1_followers_X1_isNeeded
theorem dX1_followers_0 : decode cX1_followers 0 = .ok (.iconst 0, 1) := by decide +kernel
theorem dX1_followers_1 : decode cX1_followers 1 = .ok (.istore_n 2, 1) := by decide +kernel
theorem dX1_followers_2 : decode cX1_followers 2 = .ok (.iload_n 1, 1) := by decide +kernel
theorem dX1_followers_3 : decode cX1_followers 3 = .ok (.iconst 1, 1) := by decide +kernel
theorem dX1_followers_4 : decode cX1_followers 4 = .ok (.iadd, 1) := by decide +kernel
theorem dX1_followers_5 : decode cX1_followers 5 = .ok (.istore_n 3, 1) := by decide +kernel
theorem dX1_followers_6 : decode cX1_followers 6 = .ok (.iload_n 3, 1) := by decide +kernel
theorem dX1_followers_7 : decode cX1_followers 7 = .ok (.aload_n 0, 1) := by decide +kernel
theorem dX1_followers_8 : decode cX1_followers 8 = .ok (.getfield 33, 3) := by decide +kernel
theorem dX1_followers_11 : decode cX1_followers 11 = .ok (.if_icmp .ge 21, 3) := by decide +kernel
theorem dX1_followers_14 : decode cX1_followers 14 = .ok (.aload_n 0, 1) := by decide +kernel
theorem dX1_followers_15 : decode cX1_followers 15 = .ok (.iload_n 3, 1) := by decide +kernel
theorem dX1_followers_16 : decode cX1_followers 16 = .ok (.iload_n 1, 1) := by decide +kernel
theorem dX1_followers_17 : decode cX1_followers 17 = .ok (.invokevirtual 44, 3) := by decide +kernel
theorem dX1_followers_20 : decode cX1_followers 20 = .ok (.ifCond .eq 6, 3) := by decide +kernel
theorem dX1_followers_23 : decode cX1_followers 23 = .ok (.iinc 2 1, 3) := by decide +kernel
theorem dX1_followers_26 : decode cX1_followers 26 = .ok (.iinc 3 1, 3) := by decide +kernel
theorem dX1_followers_29 : decode cX1_followers 29 = .ok (.goto (-23), 3) := by decide +kernel
theorem dX1_followers_32 : decode cX1_followers 32 = .ok (.iload_n 2, 1) := by decide +kernel
theorem dX1_followers_33 : decode cX1_followers 33 = .ok (.ireturn, 1) := by decide +kernel
theorem dX1_lengthOfAll_0 : decode cX1_lengthOfAll 0 = .ok (.iconst 0, 1) := by decide +kernel
theorem dX1_lengthOfAll_1 : decode cX1_lengthOfAll 1 = .ok (.istore_n 1, 1) := by decide +kernel
theorem dX1_lengthOfAll_2 : decode cX1_lengthOfAll 2 = .ok (.iconst 0, 1) := by decide +kernel
theorem dX1_lengthOfAll_3 : decode cX1_lengthOfAll 3 = .ok (.istore_n 2, 1) := by decide +kernel
theorem dX1_lengthOfAll_4 : decode cX1_lengthOfAll 4 = .ok (.iload_n 2, 1) := by decide +kernel
theorem dX1_lengthOfAll_5 : decode cX1_lengthOfAll 5 = .ok (.aload_n 0, 1) := by decide +kernel
theorem dX1_lengthOfAll_6 : decode cX1_lengthOfAll 6 = .ok (.getfield 33, 3) := by decide +kernel
theorem dX1_lengthOfAll_9 : decode cX1_lengthOfAll 9 = .ok (.if_icmp .ge 18, 3) := by decide +kernel
theorem dX1_lengthOfAll_12 : decode cX1_lengthOfAll 12 = .ok (.iload_n 1, 1) := by decide +kernel
theorem dX1_lengthOfAll_13 : decode cX1_lengthOfAll 13 = .ok (.aload_n 0, 1) := by decide +kernel
theorem dX1_lengthOfAll_14 : decode cX1_lengthOfAll 14 = .ok (.getfield 9, 3) := by decide +kernel
theorem dX1_lengthOfAll_17 : decode cX1_lengthOfAll 17 = .ok (.iload_n 2, 1) := by decide +kernel
theorem dX1_lengthOfAll_18 : decode cX1_lengthOfAll 18 = .ok (.iaload, 1) := by decide +kernel
theorem dX1_lengthOfAll_19 : decode cX1_lengthOfAll 19 = .ok (.iadd, 1) := by decide +kernel
theorem dX1_lengthOfAll_20 : decode cX1_lengthOfAll 20 = .ok (.istore_n 1, 1) := by decide +kernel
theorem dX1_lengthOfAll_21 : decode cX1_lengthOfAll 21 = .ok (.iinc 2 1, 3) := by decide +kernel
theorem dX1_lengthOfAll_24 : decode cX1_lengthOfAll 24 = .ok (.goto (-20), 3) := by decide +kernel
theorem dX1_lengthOfAll_27 : decode cX1_lengthOfAll 27 = .ok (.iload_n 1, 1) := by decide +kernel
theorem dX1_lengthOfAll_28 : decode cX1_lengthOfAll 28 = .ok (.ireturn, 1) := by decide +kernel
set_option maxRecDepth 20000 in
theorem ggX1_keyOf_X1_followers : GoodIn wsX1_keyOf wsX1_followers := goodIn_r _ [8, 9, 10, 11, 12, 7, 13, 14, 15, 16, 17, 18, 19, 20, 21, 22, 23] (by decide +kernel) (by decide +kernel)
set_option maxRecDepth 20000 in
theorem gX1_keyOf_X1_followers : GoodIn wsX1_keyOf (wsV RX1 48 RX1 yX1_followers wsX1_followers) := goodIn_app (goodIn_r _ [4, 5, 6, 7] (by decide +kernel) (by decide +kernel)) ggX1_keyOf_X1_followers
theorem dX1_keyOf_0 : decode cX1_keyOf 0 = .ok (.aload_n 0, 1) := by decide +kernel
theorem dX1_keyOf_1 : decode cX1_keyOf 1 = .ok (.getfield 37, 3) := by decide +kernel
theorem dX1_keyOf_4 : decode cX1_keyOf 4 = .ok (.tableswitch 48 1 3 #[28, 35, 41], 28) := by decide +kernel
theorem dX1_keyOf_32 : decode cX1_keyOf 32 = .ok (.aload_n 0, 1) := by decide +kernel
theorem dX1_keyOf_33 : decode cX1_keyOf 33 = .ok (.getfield 9, 3) := by decide +kernel
theorem dX1_keyOf_36 : decode cX1_keyOf 36 = .ok (.iload_n 1, 1) := by decide +kernel
theorem dX1_keyOf_37 : decode cX1_keyOf 37 = .ok (.iaload, 1) := by decide +kernel
theorem dX1_keyOf_38 : decode cX1_keyOf 38 = .ok (.ireturn, 1) := by decide +kernel
theorem dX1_keyOf_39 : decode cX1_keyOf 39 = .ok (.aload_n 0, 1) := by decide +kernel
theorem dX1_keyOf_40 : decode cX1_keyOf 40 = .ok (.iload_n 1, 1) := by decide +kernel
theorem dX1_keyOf_41 : decode cX1_keyOf 41 = .ok (.invokevirtual 48, 3) := by decide +kernel
theorem dX1_keyOf_44 : decode cX1_keyOf 44 = .ok (.ireturn, 1) := by decide +kernel
theorem dX1_keyOf_45 : decode cX1_keyOf 45 = .ok (.aload_n 0, 1) := by decide +kernel
theorem dX1_keyOf_46 : decode cX1_keyOf 46 = .ok (.getfield 21, 3) := by decide +kernel
theorem dX1_keyOf_49 : decode cX1_keyOf 49 = .ok (.iload_n 1, 1) := by decide +kernel
theorem dX1_keyOf_50 : decode cX1_keyOf 50 = .ok (.iaload, 1) := by decide +kernel
theorem dX1_keyOf_51 : decode cX1_keyOf 51 = .ok (.ireturn, 1) := by decide +kernel
theorem dX1_keyOf_52 : decode cX1_keyOf 52 = .ok (.iconst 0, 1) := by decide +kernel
theorem dX1_keyOf_53 : decode cX1_keyOf 53 = .ok (.ireturn, 1) := by decide +kernel
theorem dX1_share_0 : decode cX1_share 0 = .ok (.aload_n 0, 1) := by decide +kernel
theorem dX1_share_1 : decode cX1_share 1 = .ok (.getfield 15, 3) := by decide +kernel
theorem dX1_share_4 : decode cX1_share 4 = .ok (.iload_n 1, 1) := by decide +kernel
theorem dX1_share_5 : decode cX1_share 5 = .ok (.iaload, 1) := by decide +kernel
theorem dX1_share_6 : decode cX1_share 6 = .ok (.iconst (-1), 1) := by decide +kernel
theorem dX1_share_7 : decode cX1_share 7 = .ok (.if_icmp .eq 22, 3) := by decide +kernel
theorem dX1_share_10 : decode cX1_share 10 = .ok (.aload_n 0, 1) := by decide +kernel
theorem dX1_share_11 : decode cX1_share 11 = .ok (.getfield 15, 3) := by decide +kernel
theorem dX1_share_14 : decode cX1_share 14 = .ok (.iload_n 1, 1) := by decide +kernel
theorem dX1_share_15 : decode cX1_share 15 = .ok (.iaload, 1) := by decide +kernel
theorem dX1_share_16 : decode cX1_share 16 = .ok (.aload_n 0, 1) := by decide +kernel
theorem dX1_share_17 : decode cX1_share 17 = .ok (.getfield 15, 3) := by decide +kernel
theorem dX1_share_20 : decode cX1_share 20 = .ok (.iload_n 2, 1) := by decide +kernel
theorem dX1_share_21 : decode cX1_share 21 = .ok (.iaload, 1) := by decide +kernel
theorem dX1_share_22 : decode cX1_share 22 = .ok (.if_icmp .ne 7, 3) := by decide +kernel
theorem dX1_share_25 : decode cX1_share 25 = .ok (.iconst 1, 1) := by decide +kernel
theorem dX1_share_26 : decode cX1_share 26 = .ok (.goto 4, 3) := by decide +kernel
theorem dX1_share_29 : decode cX1_share 29 = .ok (.iconst 0, 1) := by decide +kernel
theorem dX1_share_30 : decode cX1_share 30 = .ok (.istore_n 3, 1) := by decide +kernel
theorem dX1_share_31 : decode cX1_share 31 = .ok (.aload_n 0, 1) := by decide +kernel
theorem dX1_share_32 : decode cX1_share 32 = .ok (.getfield 18, 3) := by decide +kernel
theorem dX1_share_35 : decode cX1_share 35 = .ok (.iload_n 1, 1) := by decide +kernel
theorem dX1_share_36 : decode cX1_share 36 = .ok (.iaload, 1) := by decide +kernel
theorem dX1_share_37 : decode cX1_share 37 = .ok (.iconst (-1), 1) := by decide +kernel
theorem dX1_share_38 : decode cX1_share 38 = .ok (.if_icmp .eq 22, 3) := by decide +kernel
theorem dX1_share_41 : decode cX1_share 41 = .ok (.aload_n 0, 1) := by decide +kernel
theorem dX1_share_42 : decode cX1_share 42 = .ok (.getfield 18, 3) := by decide +kernel
theorem dX1_share_45 : decode cX1_share 45 = .ok (.iload_n 1, 1) := by decide +kernel
theorem dX1_share_46 : decode cX1_share 46 = .ok (.iaload, 1) := by decide +kernel
theorem dX1_share_47 : decode cX1_share 47 = .ok (.aload_n 0, 1) := by decide +kernel
theorem dX1_share_48 : decode cX1_share 48 = .ok (.getfield 18, 3) := by decide +kernel
theorem dX1_share_51 : decode cX1_share 51 = .ok (.iload_n 2, 1) := by decide +kernel
theorem dX1_share_52 : decode cX1_share 52 = .ok (.iaload, 1) := by decide +kernel
theorem dX1_share_53 : decode cX1_share 53 = .ok (.if_icmp .ne 7, 3) := by decide +kernel
theorem dX1_share_56 : decode cX1_share 56 = .ok (.iconst 1, 1) := by decide +kernel
theorem dX1_share_57 : decode cX1_share 57 = .ok (.goto 4, 3) := by decide +kernel
theorem dX1_share_60 : decode cX1_share 60 = .ok (.iconst 0, 1) := by decide +kernel
theorem dX1_share_61 : decode cX1_share 61 = .ok (.istore 4, 2) := by decide +kernel
theorem dX1_share_63 : decode cX1_share 63 = .ok (.iload_n 3, 1) := by decide +kernel
theorem dX1_share_64 : decode cX1_share 64 = .ok (.ifCond .ne 8, 3) := by decide +kernel
theorem dX1_share_67 : decode cX1_share 67 = .ok (.iload 4, 2) := by decide +kernel
theorem dX1_share_69 : decode cX1_share 69 = .ok (.ifCond .eq 7, 3) := by decide +kernel
theorem dX1_share_72 : decode cX1_share 72 = .ok (.iconst 1, 1) := by decide +kernel
theorem dX1_share_73 : decode cX1_share 73 = .ok (.goto 4, 3) := by decide +kernel
theorem dX1_share_76 : decode cX1_share 76 = .ok (.iconst 0, 1) := by decide +kernel
theorem dX1_share_77 : decode cX1_share 77 = .ok (.ireturn, 1) := by decide +kernel
theorem dX2_init_0 : decode cX2_init 0 = .ok (.aload_n 0, 1) := by decide +kernel
theorem dX2_init_1 : decode cX2_init 1 = .ok (.invokespecial 3, 3) := by decide +kernel
theorem dX2_init_4 : decode cX2_init 4 = .ok (.aload_n 0, 1) := by decide +kernel
theorem dX2_init_5 : decode cX2_init 5 = .ok (.bipush 60, 2) := by decide +kernel
theorem dX2_init_7 : decode cX2_init 7 = .ok (.newarray .int, 2) := by decide +kernel
theorem dX2_init_9 : decode cX2_init 9 = .ok (.putfield 9, 3) := by decide +kernel
theorem dX2_init_12 : decode cX2_init 12 = .ok (.aload_n 0, 1) := by decide +kernel
theorem dX2_init_13 : decode cX2_init 13 = .ok (.iconst 0, 1) := by decide +kernel
theorem dX2_init_14 : decode cX2_init 14 = .ok (.putfield 15, 3) := by decide +kernel
theorem dX2_init_17 : decode cX2_init 17 = .ok (.return_, 1) := by decide +kernel
set_option maxRecDepth 20000 in
theorem ggX3_init_X1_init : GoodIn wsX3_init wsX1_init := goodIn_r _ [24, 25, 2, 3, 19, 26, 27, 28, 29, 30, 31, 32, 33, 34, 48, 49, 50, 51, 52, 53, 54, 55, 56] (by decide +kernel) (by decide +kernel)
set_option maxRecDepth 20000 in
theorem gX3_init_X1_init : GoodIn wsX3_init (wsX1_init) := ggX3_init_X1_init
set_option maxRecDepth 20000 in
theorem ggX3_init_X0_init : GoodIn wsX3_init wsX0_init := goodIn_r _ [36, 37, 2, 3, 19, 38, 39, 40, 41, 42, 65, 66, 67, 68, 69] (by decide +kernel) (by decide +kernel)
set_option maxRecDepth 20000 in
theorem gX3_init_X0_init_n18 : GoodIn wsX3_init (wsX0_init) := ggX3_init_X0_init
set_option maxRecDepth 20000 in
theorem ggX3_init_X2_init : GoodIn wsX3_init wsX2_init := goodIn_r _ [44, 45, 2, 3, 19, 46, 47, 70, 71] (by decide +kernel) (by decide +kernel)
set_option maxRecDepth 20000 in
theorem gX3_init_X2_init_n35 : GoodIn wsX3_init (wsX2_init) := ggX3_init_X2_init
theorem dX3_init_0 : decode cX3_init 0 = .ok (.aload_n 0, 1) := by decide +kernel
theorem dX3_init_1 : decode cX3_init 1 = .ok (.invokespecial 1, 3) := by decide +kernel
theorem dX3_init_4 : decode cX3_init 4 = .ok (.aload_n 0, 1) := by decide +kernel
theorem dX3_init_5 : decode cX3_init 5 = .ok (.new 7, 3) := by decide +kernel
theorem dX3_init_8 : decode cX3_init 8 = .ok (.dup, 1) := by decide +kernel
theorem dX3_init_9 : decode cX3_init 9 = .ok (.invokespecial 9, 3) := by decide +kernel
theorem dX3_init_12 : decode cX3_init 12 = .ok (.putfield 10, 3) := by decide +kernel
theorem dX3_init_15 : decode cX3_init 15 = .ok (.aload_n 0, 1) := by decide +kernel
theorem dX3_init_16 : decode cX3_init 16 = .ok (.new 16, 3) := by decide +kernel
theorem dX3_init_19 : decode cX3_init 19 = .ok (.dup, 1) := by decide +kernel
theorem dX3_init_20 : decode cX3_init 20 = .ok (.invokespecial 18, 3) := by decide +kernel
theorem dX3_init_23 : decode cX3_init 23 = .ok (.putfield 19, 3) := by decide +kernel
theorem dX3_init_26 : decode cX3_init 26 = .ok (.aload_n 0, 1) := by decide +kernel
theorem dX3_init_27 : decode cX3_init 27 = .ok (.new 7, 3) := by decide +kernel
theorem dX3_init_30 : decode cX3_init 30 = .ok (.dup, 1) := by decide +kernel
theorem dX3_init_31 : decode cX3_init 31 = .ok (.invokespecial 9, 3) := by decide +kernel
theorem dX3_init_34 : decode cX3_init 34 = .ok (.putfield 23, 3) := by decide +kernel
theorem dX3_init_37 : decode cX3_init 37 = .ok (.aload_n 0, 1) := by decide +kernel
theorem dX3_init_38 : decode cX3_init 38 = .ok (.new 16, 3) := by decide +kernel
theorem dX3_init_41 : decode cX3_init 41 = .ok (.dup, 1) := by decide +kernel
theorem dX3_init_42 : decode cX3_init 42 = .ok (.invokespecial 18, 3) := by decide +kernel
theorem dX3_init_45 : decode cX3_init 45 = .ok (.putfield 26, 3) := by decide +kernel
theorem dX3_init_48 : decode cX3_init 48 = .ok (.aload_n 0, 1) := by decide +kernel
theorem dX3_init_49 : decode cX3_init 49 = .ok (.bipush 6, 2) := by decide +kernel
theorem dX3_init_51 : decode cX3_init 51 = .ok (.anewarray 7, 3) := by decide +kernel
theorem dX3_init_54 : decode cX3_init 54 = .ok (.putfield 29, 3) := by decide +kernel
theorem dX3_init_57 : decode cX3_init 57 = .ok (.iconst 0, 1) := by decide +kernel
theorem dX3_init_58 : decode cX3_init 58 = .ok (.istore_n 1, 1) := by decide +kernel
theorem dX3_init_59 : decode cX3_init 59 = .ok (.iload_n 1, 1) := by decide +kernel
theorem dX3_init_60 : decode cX3_init 60 = .ok (.bipush 6, 2) := by decide +kernel
theorem dX3_init_62 : decode cX3_init 62 = .ok (.if_icmp .ge 22, 3) := by decide +kernel
theorem dX3_init_65 : decode cX3_init 65 = .ok (.aload_n 0, 1) := by decide +kernel
theorem dX3_init_66 : decode cX3_init 66 = .ok (.getfield 29, 3) := by decide +kernel
theorem dX3_init_69 : decode cX3_init 69 = .ok (.iload_n 1, 1) := by decide +kernel
theorem dX3_init_70 : decode cX3_init 70 = .ok (.new 7, 3) := by decide +kernel
theorem dX3_init_73 : decode cX3_init 73 = .ok (.dup, 1) := by decide +kernel
theorem dX3_init_74 : decode cX3_init 74 = .ok (.invokespecial 9, 3) := by decide +kernel
theorem dX3_init_77 : decode cX3_init 77 = .ok (.aastore, 1) := by decide +kernel
theorem dX3_init_78 : decode cX3_init 78 = .ok (.iinc 1 1, 3) := by decide +kernel
theorem dX3_init_81 : decode cX3_init 81 = .ok (.goto (-22), 3) := by decide +kernel
theorem dX3_init_84 : decode cX3_init 84 = .ok (.aload_n 0, 1) := by decide +kernel
theorem dX3_init_85 : decode cX3_init 85 = .ok (.new 33, 3) := by decide +kernel
theorem dX3_init_88 : decode cX3_init 88 = .ok (.dup, 1) := by decide +kernel
theorem dX3_init_89 : decode cX3_init 89 = .ok (.invokespecial 35, 3) := by decide +kernel
theorem dX3_init_92 : decode cX3_init 92 = .ok (.putfield 36, 3) := by decide +kernel
theorem dX3_init_95 : decode cX3_init 95 = .ok (.aload_n 0, 1) := by decide +kernel
theorem dX3_init_96 : decode cX3_init 96 = .ok (.bipush 12, 2) := by decide +kernel
theorem dX3_init_98 : decode cX3_init 98 = .ok (.newarray .int, 2) := by decide +kernel
theorem dX3_init_100 : decode cX3_init 100 = .ok (.putfield 40, 3) := by decide +kernel
theorem dX3_init_103 : decode cX3_init 103 = .ok (.aload_n 0, 1) := by decide +kernel
theorem dX3_init_104 : decode cX3_init 104 = .ok (.iconst 0, 1) := by decide +kernel
theorem dX3_init_105 : decode cX3_init 105 = .ok (.putfield 44, 3) := by decide +kernel
theorem dX3_init_108 : decode cX3_init 108 = .ok (.return_, 1) := by decide +kernel
set_option maxRecDepth 20000 in
theorem ggX3_add_X3_isLength : GoodIn wsX3_add wsX3_isLength := goodIn_r _ [11] (by decide +kernel) (by decide +kernel)
set_option maxRecDepth 20000 in
theorem gX3_add_X3_isLength : GoodIn wsX3_add (va_wsS RX3 48 yX3_isLength wsX3_isLength) := goodIn_app (goodIn_r _ [8, 9, 10] (by decide +kernel) (by decide +kernel)) ggX3_add_X3_isLength
set_option maxRecDepth 20000 in
theorem ggX3_add_X3_isPersonOrNone : GoodIn wsX3_add wsX3_isPersonOrNone := goodIn_r _ [14, 15, 16, 10, 17] (by decide +kernel) (by decide +kernel)
set_option maxRecDepth 20000 in
theorem gX3_add_X3_isPersonOrNone : GoodIn wsX3_add (va_wsS RX3 52 yX3_isPersonOrNone wsX3_isPersonOrNone) := goodIn_app (goodIn_r _ [12, 13, 10] (by decide +kernel) (by decide +kernel)) ggX3_add_X3_isPersonOrNone
set_option maxRecDepth 20000 in
theorem ggX3_add_X3_isHallOrNone : GoodIn wsX3_add wsX3_isHallOrNone := goodIn_r _ [20, 21, 22, 10, 23] (by decide +kernel) (by decide +kernel)
set_option maxRecDepth 20000 in
theorem gX3_add_X3_isHallOrNone : GoodIn wsX3_add (va_wsS RX3 55 yX3_isHallOrNone wsX3_isHallOrNone) := goodIn_app (goodIn_r _ [18, 19, 10] (by decide +kernel) (by decide +kernel)) ggX3_add_X3_isHallOrNone
set_option maxRecDepth 20000 in
theorem ggX3_add_X3_saveState : GoodIn wsX3_add wsX3_saveState := goodIn_r _ [27, 28, 29, 5, 30, 31, 32, 10, 33, 34, 35, 36, 37, 38, 39, 40, 41, 42, 43, 44, 45, 46, 47, 106, 107, 108, 109, 110, 111, 112, 113, 114, 115, 116, 117, 118, 119, 120, 121, 122] (by decide +kernel) (by decide +kernel)
set_option maxRecDepth 20000 in
theorem gX3_add_X3_saveState : GoodIn wsX3_add (wsV RX3 67 RX3 yX3_saveState wsX3_saveState) := goodIn_app (goodIn_r _ [24, 25, 26, 10] (by decide +kernel) (by decide +kernel)) ggX3_add_X3_saveState
set_option maxRecDepth 20000 in
theorem ggX3_add_X1_appendTask : GoodIn wsX3_add wsX1_appendTask := goodIn_r _ [51, 41, 39, 42, 43, 44, 45, 114, 115, 116, 117, 118, 119, 120, 121, 122] (by decide +kernel) (by decide +kernel)
set_option maxRecDepth 20000 in
theorem gX3_add_X1_appendTask : GoodIn wsX3_add (wsV RX3 70 RX1 yX1_appendTask wsX1_appendTask) := goodIn_app (goodIn_r _ [48, 49, 50, 37] (by decide +kernel) (by decide +kernel)) ggX3_add_X1_appendTask
set_option maxRecDepth 20000 in
theorem ggX3_add_X0_lay : GoodIn wsX3_add wsX0_lay := goodIn_r _ [56, 57, 58, 59, 60, 61, 62, 63, 64, 65, 66, 67, 68, 69, 70, 37, 71, 40, 41, 44, 72, 73, 74, 75, 39, 76, 77, 78, 79, 45, 80, 81, 82, 55, 83, 84, 85, 86, 87, 88, 89, 90, 91, 92, 93, 94, 95, 96, 97, 98, 99, 100, 101, 102, 103, 104, 105, 42, 43, 123, 124, 125, 126, 127, 114, 115, 116, 117, 118, 119, 120, 121, 122] (by decide +kernel) (by decide +kernel)
set_option maxRecDepth 20000 in
theorem gX3_add_X0_lay : GoodIn wsX3_add (wsV RX3 74 RX0 yX0_lay wsX0_lay) := goodIn_app (goodIn_r _ [52, 53, 54, 55] (by decide +kernel) (by decide +kernel)) ggX3_add_X0_lay
theorem dX3_add_0 : decode cX3_add 0 = .ok (.iload_n 1, 1) := by decide +kernel
theorem dX3_add_1 : decode cX3_add 1 = .ok (.invokestatic 48, 3) := by decide +kernel
theorem dX3_add_4 : decode cX3_add 4 = .ok (.ifCond .eq 17, 3) := by decide +kernel
theorem dX3_add_7 : decode cX3_add 7 = .ok (.iload_n 2, 1) := by decide +kernel
theorem dX3_add_8 : decode cX3_add 8 = .ok (.invokestatic 52, 3) := by decide +kernel
theorem dX3_add_11 : decode cX3_add 11 = .ok (.ifCond .eq 10, 3) := by decide +kernel
theorem dX3_add_14 : decode cX3_add 14 = .ok (.iload_n 3, 1) := by decide +kernel
theorem dX3_add_15 : decode cX3_add 15 = .ok (.invokestatic 55, 3) := by decide +kernel
theorem dX3_add_18 : decode cX3_add 18 = .ok (.ifCond .ne 11, 3) := by decide +kernel
theorem dX3_add_21 : decode cX3_add 21 = .ok (.new 58, 3) := by decide +kernel
theorem dX3_add_24 : decode cX3_add 24 = .ok (.dup, 1) := by decide +kernel
theorem dX3_add_25 : decode cX3_add 25 = .ok (.invokespecial 60, 3) := by decide +kernel
theorem dX3_add_28 : decode cX3_add 28 = .ok (.athrow, 1) := by decide +kernel
theorem dX3_add_29 : decode cX3_add 29 = .ok (.aload_n 0, 1) := by decide +kernel
theorem dX3_add_30 : decode cX3_add 30 = .ok (.getfield 10, 3) := by decide +kernel
theorem dX3_add_33 : decode cX3_add 33 = .ok (.getfield 61, 3) := by decide +kernel
theorem dX3_add_36 : decode cX3_add 36 = .ok (.bipush 12, 2) := by decide +kernel
theorem dX3_add_38 : decode cX3_add 38 = .ok (.if_icmp .lt 11, 3) := by decide +kernel
theorem dX3_add_41 : decode cX3_add 41 = .ok (.new 64, 3) := by decide +kernel
theorem dX3_add_44 : decode cX3_add 44 = .ok (.dup, 1) := by decide +kernel
theorem dX3_add_45 : decode cX3_add 45 = .ok (.invokespecial 66, 3) := by decide +kernel
theorem dX3_add_48 : decode cX3_add 48 = .ok (.athrow, 1) := by decide +kernel
theorem dX3_add_49 : decode cX3_add 49 = .ok (.aload_n 0, 1) := by decide +kernel
theorem dX3_add_50 : decode cX3_add 50 = .ok (.invokevirtual 67, 3) := by decide +kernel
theorem dX3_add_53 : decode cX3_add 53 = .ok (.aload_n 0, 1) := by decide +kernel
theorem dX3_add_54 : decode cX3_add 54 = .ok (.getfield 10, 3) := by decide +kernel
theorem dX3_add_57 : decode cX3_add 57 = .ok (.iload_n 1, 1) := by decide +kernel
theorem dX3_add_58 : decode cX3_add 58 = .ok (.iload_n 2, 1) := by decide +kernel
theorem dX3_add_59 : decode cX3_add 59 = .ok (.iload_n 3, 1) := by decide +kernel
theorem dX3_add_60 : decode cX3_add 60 = .ok (.invokevirtual 70, 3) := by decide +kernel
theorem dX3_add_63 : decode cX3_add 63 = .ok (.aload_n 0, 1) := by decide +kernel
theorem dX3_add_64 : decode cX3_add 64 = .ok (.getfield 19, 3) := by decide +kernel
theorem dX3_add_67 : decode cX3_add 67 = .ok (.aload_n 0, 1) := by decide +kernel
theorem dX3_add_68 : decode cX3_add 68 = .ok (.getfield 10, 3) := by decide +kernel
theorem dX3_add_71 : decode cX3_add 71 = .ok (.invokevirtual 74, 3) := by decide +kernel
theorem dX3_add_74 : decode cX3_add 74 = .ok (.aload_n 0, 1) := by decide +kernel
theorem dX3_add_75 : decode cX3_add 75 = .ok (.getfield 10, 3) := by decide +kernel
theorem dX3_add_78 : decode cX3_add 78 = .ok (.getfield 61, 3) := by decide +kernel
theorem dX3_add_81 : decode cX3_add 81 = .ok (.iconst 1, 1) := by decide +kernel
theorem dX3_add_82 : decode cX3_add 82 = .ok (.isub, 1) := by decide +kernel
theorem dX3_add_83 : decode cX3_add 83 = .ok (.ireturn, 1) := by decide +kernel
set_option maxRecDepth 20000 in
theorem ggX3_remove_X3_isTask : GoodIn wsX3_remove wsX3_isTask := goodIn_r _ [9, 3, 10, 97, 98, 99, 100, 101, 102, 103, 104, 105, 106, 107, 108, 109, 110, 111, 112, 113] (by decide +kernel) (by decide +kernel)
set_option maxRecDepth 20000 in
theorem gX3_remove_X3_isTask : GoodIn wsX3_remove (wsV RX3 78 RX3 yX3_isTask wsX3_isTask) := goodIn_app (goodIn_r _ [5, 6, 7, 8] (by decide +kernel) (by decide +kernel)) ggX3_remove_X3_isTask
set_option maxRecDepth 20000 in
theorem ggX3_remove_X1_followers : GoodIn wsX3_remove wsX1_followers := goodIn_r _ [15, 16, 17, 18, 19, 14, 20, 21, 105, 106, 107, 108, 109, 110, 111, 112, 113] (by decide +kernel) (by decide +kernel)
set_option maxRecDepth 20000 in
theorem gX3_remove_X1_followers : GoodIn wsX3_remove (wsV RX3 84 RX1 yX1_followers wsX1_followers) := goodIn_app (goodIn_r _ [11, 12, 13, 14] (by decide +kernel) (by decide +kernel)) ggX3_remove_X1_followers
set_option maxRecDepth 20000 in
theorem ggX3_remove_X3_saveState : GoodIn wsX3_remove wsX3_saveState := goodIn_r _ [25, 26, 27, 3, 28, 29, 30, 8, 31, 32, 33, 34, 14, 35, 16, 36, 37, 38, 39, 40, 21, 41, 42, 97, 98, 99, 100, 101, 102, 103, 104, 105, 106, 107, 108, 109, 110, 111, 112, 113] (by decide +kernel) (by decide +kernel)
set_option maxRecDepth 20000 in
theorem gX3_remove_X3_saveState : GoodIn wsX3_remove (wsV RX3 67 RX3 yX3_saveState wsX3_saveState) := goodIn_app (goodIn_r _ [22, 23, 24, 8] (by decide +kernel) (by decide +kernel)) ggX3_remove_X3_saveState
set_option maxRecDepth 20000 in
theorem ggX3_remove_X1_dropTask : GoodIn wsX3_remove wsX1_dropTask := goodIn_r _ [46, 16, 37, 38, 39, 40, 21, 47, 48, 14, 49, 105, 106, 107, 108, 109, 110, 111, 112, 113] (by decide +kernel) (by decide +kernel)
set_option maxRecDepth 20000 in
theorem gX3_remove_X1_dropTask : GoodIn wsX3_remove (wsV RX3 88 RX1 yX1_dropTask wsX1_dropTask) := goodIn_app (goodIn_r _ [43, 44, 45, 14] (by decide +kernel) (by decide +kernel)) ggX3_remove_X1_dropTask
set_option maxRecDepth 20000 in
theorem ggX3_remove_X0_lay : GoodIn wsX3_remove wsX0_lay := goodIn_r _ [54, 55, 56, 57, 58, 59, 60, 61, 62, 63, 64, 65, 66, 67, 68, 14, 69, 36, 37, 40, 70, 12, 13, 15, 16, 17, 18, 19, 20, 21, 71, 72, 73, 53, 74, 75, 76, 77, 78, 79, 80, 81, 82, 83, 84, 85, 86, 87, 88, 89, 90, 91, 92, 93, 94, 95, 96, 38, 39, 114, 115, 116, 117, 118, 105, 106, 107, 108, 109, 110, 111, 112, 113] (by decide +kernel) (by decide +kernel)
set_option maxRecDepth 20000 in
theorem gX3_remove_X0_lay : GoodIn wsX3_remove (wsV RX3 74 RX0 yX0_lay wsX0_lay) := goodIn_app (goodIn_r _ [50, 51, 52, 53] (by decide +kernel) (by decide +kernel)) ggX3_remove_X0_lay
theorem dX3_remove_0 : decode cX3_remove 0 = .ok (.aload_n 0, 1) := by decide +kernel
theorem dX3_remove_1 : decode cX3_remove 1 = .ok (.iload_n 1, 1) := by decide +kernel
theorem dX3_remove_2 : decode cX3_remove 2 = .ok (.invokevirtual 78, 3) := by decide +kernel
theorem dX3_remove_5 : decode cX3_remove 5 = .ok (.ifCond .ne 11, 3) := by decide +kernel
theorem dX3_remove_8 : decode cX3_remove 8 = .ok (.new 81, 3) := by decide +kernel
theorem dX3_remove_11 : decode cX3_remove 11 = .ok (.dup, 1) := by decide +kernel
theorem dX3_remove_12 : decode cX3_remove 12 = .ok (.invokespecial 83, 3) := by decide +kernel
theorem dX3_remove_15 : decode cX3_remove 15 = .ok (.athrow, 1) := by decide +kernel
theorem dX3_remove_16 : decode cX3_remove 16 = .ok (.aload_n 0, 1) := by decide +kernel
theorem dX3_remove_17 : decode cX3_remove 17 = .ok (.getfield 10, 3) := by decide +kernel
theorem dX3_remove_20 : decode cX3_remove 20 = .ok (.iload_n 1, 1) := by decide +kernel
theorem dX3_remove_21 : decode cX3_remove 21 = .ok (.invokevirtual 84, 3) := by decide +kernel
theorem dX3_remove_24 : decode cX3_remove 24 = .ok (.istore_n 2, 1) := by decide +kernel
theorem dX3_remove_25 : decode cX3_remove 25 = .ok (.aload_n 0, 1) := by decide +kernel
theorem dX3_remove_26 : decode cX3_remove 26 = .ok (.invokevirtual 67, 3) := by decide +kernel
theorem dX3_remove_29 : decode cX3_remove 29 = .ok (.aload_n 0, 1) := by decide +kernel
theorem dX3_remove_30 : decode cX3_remove 30 = .ok (.getfield 10, 3) := by decide +kernel
theorem dX3_remove_33 : decode cX3_remove 33 = .ok (.iload_n 1, 1) := by decide +kernel
theorem dX3_remove_34 : decode cX3_remove 34 = .ok (.invokevirtual 88, 3) := by decide +kernel
theorem dX3_remove_37 : decode cX3_remove 37 = .ok (.aload_n 0, 1) := by decide +kernel
theorem dX3_remove_38 : decode cX3_remove 38 = .ok (.getfield 19, 3) := by decide +kernel
theorem dX3_remove_41 : decode cX3_remove 41 = .ok (.aload_n 0, 1) := by decide +kernel
theorem dX3_remove_42 : decode cX3_remove 42 = .ok (.getfield 10, 3) := by decide +kernel
theorem dX3_remove_45 : decode cX3_remove 45 = .ok (.invokevirtual 74, 3) := by decide +kernel
theorem dX3_remove_48 : decode cX3_remove 48 = .ok (.iload_n 2, 1) := by decide +kernel
theorem dX3_remove_49 : decode cX3_remove 49 = .ok (.ireturn, 1) := by decide +kernel
set_option maxRecDepth 20000 in
theorem ggX3_need_X3_isTask : GoodIn wsX3_need wsX3_isTask := goodIn_r _ [12, 5, 13, 93, 94, 95, 96, 97, 98, 99, 100, 101, 102, 103, 104, 105, 106, 107, 108, 109] (by decide +kernel) (by decide +kernel)
set_option maxRecDepth 20000 in
theorem gX3_need_X3_isTask : GoodIn wsX3_need (wsV RX3 78 RX3 yX3_isTask wsX3_isTask) := goodIn_app (goodIn_r _ [8, 9, 10, 11] (by decide +kernel) (by decide +kernel)) ggX3_need_X3_isTask
set_option maxRecDepth 20000 in
theorem ggX3_need_X1_isNeeded : GoodIn wsX3_need wsX1_isNeeded := goodIn_r _ [18, 19, 101, 102, 103, 104, 105, 106, 107, 108, 109] (by decide +kernel) (by decide +kernel)
set_option maxRecDepth 20000 in
theorem gX3_need_X1_isNeeded : GoodIn wsX3_need (wsV RX3 92 RX1 yX1_isNeeded wsX1_isNeeded) := goodIn_app (goodIn_r _ [14, 15, 16, 17] (by decide +kernel) (by decide +kernel)) ggX3_need_X1_isNeeded
set_option maxRecDepth 20000 in
theorem ggX3_need_X3_saveState : GoodIn wsX3_need wsX3_saveState := goodIn_r _ [23, 24, 25, 5, 26, 27, 28, 11, 29, 30, 31, 32, 17, 33, 34, 35, 36, 37, 38, 39, 19, 40, 41, 93, 94, 95, 96, 97, 98, 99, 100, 101, 102, 103, 104, 105, 106, 107, 108, 109] (by decide +kernel) (by decide +kernel)
set_option maxRecDepth 20000 in
theorem gX3_need_X3_saveState : GoodIn wsX3_need (wsV RX3 67 RX3 yX3_saveState wsX3_saveState) := goodIn_app (goodIn_r _ [20, 21, 22, 11] (by decide +kernel) (by decide +kernel)) ggX3_need_X3_saveState
set_option maxRecDepth 20000 in
theorem ggX3_need_X0_lay : GoodIn wsX3_need wsX0_lay := goodIn_r _ [46, 47, 48, 49, 50, 51, 52, 53, 54, 55, 56, 57, 58, 59, 60, 17, 61, 35, 36, 39, 62, 63, 64, 65, 34, 66, 15, 16, 18, 19, 67, 68, 69, 45, 70, 71, 72, 73, 74, 75, 76, 77, 78, 79, 80, 81, 82, 83, 84, 85, 86, 87, 88, 89, 90, 91, 92, 37, 38, 110, 111, 112, 113, 114, 101, 102, 103, 104, 105, 106, 107, 108, 109] (by decide +kernel) (by decide +kernel)
set_option maxRecDepth 20000 in
theorem gX3_need_X0_lay : GoodIn wsX3_need (wsV RX3 74 RX0 yX0_lay wsX0_lay) := goodIn_app (goodIn_r _ [42, 43, 44, 45] (by decide +kernel) (by decide +kernel)) ggX3_need_X0_lay
theorem dX3_need_0 : decode cX3_need 0 = .ok (.aload_n 0, 1) := by decide +kernel
theorem dX3_need_1 : decode cX3_need 1 = .ok (.iload_n 1, 1) := by decide +kernel
theorem dX3_need_2 : decode cX3_need 2 = .ok (.invokevirtual 78, 3) := by decide +kernel
theorem dX3_need_5 : decode cX3_need 5 = .ok (.ifCond .eq 11, 3) := by decide +kernel
theorem dX3_need_8 : decode cX3_need 8 = .ok (.aload_n 0, 1) := by decide +kernel
theorem dX3_need_9 : decode cX3_need 9 = .ok (.iload_n 2, 1) := by decide +kernel
theorem dX3_need_10 : decode cX3_need 10 = .ok (.invokevirtual 78, 3) := by decide +kernel
theorem dX3_need_13 : decode cX3_need 13 = .ok (.ifCond .ne 11, 3) := by decide +kernel
theorem dX3_need_16 : decode cX3_need 16 = .ok (.new 81, 3) := by decide +kernel
theorem dX3_need_19 : decode cX3_need 19 = .ok (.dup, 1) := by decide +kernel
theorem dX3_need_20 : decode cX3_need 20 = .ok (.invokespecial 83, 3) := by decide +kernel
theorem dX3_need_23 : decode cX3_need 23 = .ok (.athrow, 1) := by decide +kernel
theorem dX3_need_24 : decode cX3_need 24 = .ok (.iload_n 2, 1) := by decide +kernel
theorem dX3_need_25 : decode cX3_need 25 = .ok (.iload_n 1, 1) := by decide +kernel
theorem dX3_need_26 : decode cX3_need 26 = .ok (.if_icmp .lt 11, 3) := by decide +kernel
theorem dX3_need_29 : decode cX3_need 29 = .ok (.new 58, 3) := by decide +kernel
theorem dX3_need_32 : decode cX3_need 32 = .ok (.dup, 1) := by decide +kernel
theorem dX3_need_33 : decode cX3_need 33 = .ok (.invokespecial 60, 3) := by decide +kernel
theorem dX3_need_36 : decode cX3_need 36 = .ok (.athrow, 1) := by decide +kernel
theorem dX3_need_37 : decode cX3_need 37 = .ok (.aload_n 0, 1) := by decide +kernel
theorem dX3_need_38 : decode cX3_need 38 = .ok (.getfield 10, 3) := by decide +kernel
theorem dX3_need_41 : decode cX3_need 41 = .ok (.iload_n 1, 1) := by decide +kernel
theorem dX3_need_42 : decode cX3_need 42 = .ok (.iload_n 2, 1) := by decide +kernel
theorem dX3_need_43 : decode cX3_need 43 = .ok (.invokevirtual 92, 3) := by decide +kernel
theorem dX3_need_46 : decode cX3_need 46 = .ok (.ifCond .eq 7, 3) := by decide +kernel
theorem dX3_need_49 : decode cX3_need 49 = .ok (.iconst 1, 1) := by decide +kernel
theorem dX3_need_50 : decode cX3_need 50 = .ok (.goto 4, 3) := by decide +kernel
theorem dX3_need_53 : decode cX3_need 53 = .ok (.iconst 0, 1) := by decide +kernel
theorem dX3_need_54 : decode cX3_need 54 = .ok (.istore 4, 2) := by decide +kernel
theorem dX3_need_56 : decode cX3_need 56 = .ok (.aload_n 0, 1) := by decide +kernel
theorem dX3_need_57 : decode cX3_need 57 = .ok (.invokevirtual 67, 3) := by decide +kernel
theorem dX3_need_60 : decode cX3_need 60 = .ok (.iload_n 3, 1) := by decide +kernel
theorem dX3_need_61 : decode cX3_need 61 = .ok (.ifCond .eq 21, 3) := by decide +kernel
theorem dX3_need_64 : decode cX3_need 64 = .ok (.aload_n 0, 1) := by decide +kernel
theorem dX3_need_65 : decode cX3_need 65 = .ok (.getfield 10, 3) := by decide +kernel
theorem dX3_need_68 : decode cX3_need 68 = .ok (.getfield 96, 3) := by decide +kernel
theorem dX3_need_71 : decode cX3_need 71 = .ok (.iload_n 1, 1) := by decide +kernel
theorem dX3_need_72 : decode cX3_need 72 = .ok (.dup2, 1) := by decide +kernel
theorem dX3_need_73 : decode cX3_need 73 = .ok (.iaload, 1) := by decide +kernel
theorem dX3_need_74 : decode cX3_need 74 = .ok (.iconst 1, 1) := by decide +kernel
theorem dX3_need_75 : decode cX3_need 75 = .ok (.iload_n 2, 1) := by decide +kernel
theorem dX3_need_76 : decode cX3_need 76 = .ok (.ishl, 1) := by decide +kernel
theorem dX3_need_77 : decode cX3_need 77 = .ok (.ior, 1) := by decide +kernel
theorem dX3_need_78 : decode cX3_need 78 = .ok (.iastore, 1) := by decide +kernel
theorem dX3_need_79 : decode cX3_need 79 = .ok (.goto 20, 3) := by decide +kernel
theorem dX3_need_82 : decode cX3_need 82 = .ok (.aload_n 0, 1) := by decide +kernel
theorem dX3_need_83 : decode cX3_need 83 = .ok (.getfield 10, 3) := by decide +kernel
theorem dX3_need_86 : decode cX3_need 86 = .ok (.getfield 96, 3) := by decide +kernel
theorem dX3_need_89 : decode cX3_need 89 = .ok (.iload_n 1, 1) := by decide +kernel
theorem dX3_need_90 : decode cX3_need 90 = .ok (.dup2, 1) := by decide +kernel
theorem dX3_need_91 : decode cX3_need 91 = .ok (.iaload, 1) := by decide +kernel
theorem dX3_need_92 : decode cX3_need 92 = .ok (.iconst 1, 1) := by decide +kernel
theorem dX3_need_93 : decode cX3_need 93 = .ok (.iload_n 2, 1) := by decide +kernel
theorem dX3_need_94 : decode cX3_need 94 = .ok (.ishl, 1) := by decide +kernel
theorem dX3_need_95 : decode cX3_need 95 = .ok (.iconst (-1), 1) := by decide +kernel
theorem dX3_need_96 : decode cX3_need 96 = .ok (.ixor, 1) := by decide +kernel
theorem dX3_need_97 : decode cX3_need 97 = .ok (.iand, 1) := by decide +kernel
theorem dX3_need_98 : decode cX3_need 98 = .ok (.iastore, 1) := by decide +kernel
theorem dX3_need_99 : decode cX3_need 99 = .ok (.aload_n 0, 1) := by decide +kernel
theorem dX3_need_100 : decode cX3_need 100 = .ok (.getfield 19, 3) := by decide +kernel
theorem dX3_need_103 : decode cX3_need 103 = .ok (.aload_n 0, 1) := by decide +kernel
theorem dX3_need_104 : decode cX3_need 104 = .ok (.getfield 10, 3) := by decide +kernel
theorem dX3_need_107 : decode cX3_need 107 = .ok (.invokevirtual 74, 3) := by decide +kernel
theorem dX3_need_110 : decode cX3_need 110 = .ok (.iload 4, 2) := by decide +kernel
theorem dX3_need_112 : decode cX3_need 112 = .ok (.ireturn, 1) := by decide +kernel
set_option maxRecDepth 20000 in
theorem ggX3_change_X3_isTask : GoodIn wsX3_change wsX3_isTask := goodIn_r _ [11, 5, 12, 113, 114, 115, 116, 117, 118, 119, 120, 121, 122, 123, 124, 125, 126, 127, 128, 129] (by decide +kernel) (by decide +kernel)
set_option maxRecDepth 20000 in
theorem gX3_change_X3_isTask : GoodIn wsX3_change (wsV RX3 78 RX3 yX3_isTask wsX3_isTask) := goodIn_app (goodIn_r _ [7, 8, 9, 10] (by decide +kernel) (by decide +kernel)) ggX3_change_X3_isTask
set_option maxRecDepth 20000 in
theorem ggX3_change_X3_isValue : GoodIn wsX3_change wsX3_isValue := goodIn_r _ [15, 16, 17, 10, 18, 19, 20, 21, 22, 23, 24, 25, 26, 27, 28, 29, 30] (by decide +kernel) (by decide +kernel)
set_option maxRecDepth 20000 in
theorem gX3_change_X3_isValue : GoodIn wsX3_change (va_wsS RX3 99 yX3_isValue wsX3_isValue) := goodIn_app (goodIn_r _ [13, 14, 10] (by decide +kernel) (by decide +kernel)) ggX3_change_X3_isValue
set_option maxRecDepth 20000 in
theorem ggX3_change_X3_saveState : GoodIn wsX3_change wsX3_saveState := goodIn_r _ [34, 35, 36, 5, 37, 38, 39, 10, 40, 41, 42, 43, 44, 45, 46, 47, 48, 49, 50, 51, 52, 53, 54, 113, 114, 115, 116, 117, 118, 119, 120, 121, 122, 123, 124, 125, 126, 127, 128, 129] (by decide +kernel) (by decide +kernel)
set_option maxRecDepth 20000 in
theorem gX3_change_X3_saveState : GoodIn wsX3_change (wsV RX3 67 RX3 yX3_saveState wsX3_saveState) := goodIn_app (goodIn_r _ [31, 32, 33, 10] (by decide +kernel) (by decide +kernel)) ggX3_change_X3_saveState
set_option maxRecDepth 20000 in
theorem ggX3_change_X1_property : GoodIn wsX3_change wsX1_property := goodIn_r _ [58, 48, 49, 50, 51, 52, 121, 122, 123, 124, 125, 126, 127, 128, 129] (by decide +kernel) (by decide +kernel)
set_option maxRecDepth 20000 in
theorem gX3_change_X1_property : GoodIn wsX3_change (wsV RX3 102 RX1 yX1_property wsX1_property) := goodIn_app (goodIn_r _ [55, 56, 57, 44] (by decide +kernel) (by decide +kernel)) ggX3_change_X1_property
set_option maxRecDepth 20000 in
theorem ggX3_change_X0_lay : GoodIn wsX3_change wsX0_lay := goodIn_r _ [63, 64, 65, 66, 67, 68, 69, 70, 71, 72, 73, 74, 75, 76, 77, 44, 78, 47, 48, 51, 79, 80, 81, 82, 46, 83, 84, 85, 86, 52, 87, 88, 89, 62, 90, 91, 92, 93, 94, 95, 96, 97, 98, 99, 100, 101, 102, 103, 104, 105, 106, 107, 108, 109, 110, 111, 112, 49, 50, 130, 131, 132, 133, 134, 121, 122, 123, 124, 125, 126, 127, 128, 129] (by decide +kernel) (by decide +kernel)
set_option maxRecDepth 20000 in
theorem gX3_change_X0_lay : GoodIn wsX3_change (wsV RX3 74 RX0 yX0_lay wsX0_lay) := goodIn_app (goodIn_r _ [59, 60, 61, 62] (by decide +kernel) (by decide +kernel)) ggX3_change_X0_lay
theorem dX3_change_0 : decode cX3_change 0 = .ok (.aload_n 0, 1) := by decide +kernel
theorem dX3_change_1 : decode cX3_change 1 = .ok (.iload_n 1, 1) := by decide +kernel
theorem dX3_change_2 : decode cX3_change 2 = .ok (.invokevirtual 78, 3) := by decide +kernel
theorem dX3_change_5 : decode cX3_change 5 = .ok (.ifCond .ne 11, 3) := by decide +kernel
theorem dX3_change_8 : decode cX3_change 8 = .ok (.new 81, 3) := by decide +kernel
theorem dX3_change_11 : decode cX3_change 11 = .ok (.dup, 1) := by decide +kernel
theorem dX3_change_12 : decode cX3_change 12 = .ok (.invokespecial 83, 3) := by decide +kernel
theorem dX3_change_15 : decode cX3_change 15 = .ok (.athrow, 1) := by decide +kernel
theorem dX3_change_16 : decode cX3_change 16 = .ok (.iload_n 2, 1) := by decide +kernel
theorem dX3_change_17 : decode cX3_change 17 = .ok (.iload_n 3, 1) := by decide +kernel
theorem dX3_change_18 : decode cX3_change 18 = .ok (.invokestatic 99, 3) := by decide +kernel
theorem dX3_change_21 : decode cX3_change 21 = .ok (.ifCond .ne 11, 3) := by decide +kernel
theorem dX3_change_24 : decode cX3_change 24 = .ok (.new 58, 3) := by decide +kernel
theorem dX3_change_27 : decode cX3_change 27 = .ok (.dup, 1) := by decide +kernel
theorem dX3_change_28 : decode cX3_change 28 = .ok (.invokespecial 60, 3) := by decide +kernel
theorem dX3_change_31 : decode cX3_change 31 = .ok (.athrow, 1) := by decide +kernel
theorem dX3_change_32 : decode cX3_change 32 = .ok (.aload_n 0, 1) := by decide +kernel
theorem dX3_change_33 : decode cX3_change 33 = .ok (.invokevirtual 67, 3) := by decide +kernel
theorem dX3_change_36 : decode cX3_change 36 = .ok (.aload_n 0, 1) := by decide +kernel
theorem dX3_change_37 : decode cX3_change 37 = .ok (.getfield 10, 3) := by decide +kernel
theorem dX3_change_40 : decode cX3_change 40 = .ok (.iload_n 2, 1) := by decide +kernel
theorem dX3_change_41 : decode cX3_change 41 = .ok (.invokevirtual 102, 3) := by decide +kernel
theorem dX3_change_44 : decode cX3_change 44 = .ok (.astore 4, 2) := by decide +kernel
theorem dX3_change_46 : decode cX3_change 46 = .ok (.aload 4, 2) := by decide +kernel
theorem dX3_change_48 : decode cX3_change 48 = .ok (.iload_n 1, 1) := by decide +kernel
theorem dX3_change_49 : decode cX3_change 49 = .ok (.iaload, 1) := by decide +kernel
theorem dX3_change_50 : decode cX3_change 50 = .ok (.istore 5, 2) := by decide +kernel
theorem dX3_change_52 : decode cX3_change 52 = .ok (.aload 4, 2) := by decide +kernel
theorem dX3_change_54 : decode cX3_change 54 = .ok (.iload_n 1, 1) := by decide +kernel
theorem dX3_change_55 : decode cX3_change 55 = .ok (.iload_n 3, 1) := by decide +kernel
theorem dX3_change_56 : decode cX3_change 56 = .ok (.iastore, 1) := by decide +kernel
theorem dX3_change_57 : decode cX3_change 57 = .ok (.aload_n 0, 1) := by decide +kernel
theorem dX3_change_58 : decode cX3_change 58 = .ok (.getfield 19, 3) := by decide +kernel
theorem dX3_change_61 : decode cX3_change 61 = .ok (.aload_n 0, 1) := by decide +kernel
theorem dX3_change_62 : decode cX3_change 62 = .ok (.getfield 10, 3) := by decide +kernel
theorem dX3_change_65 : decode cX3_change 65 = .ok (.invokevirtual 74, 3) := by decide +kernel
theorem dX3_change_68 : decode cX3_change 68 = .ok (.iload 5, 2) := by decide +kernel
theorem dX3_change_70 : decode cX3_change 70 = .ok (.ireturn, 1) := by decide +kernel
set_option maxRecDepth 20000 in
theorem ggX3_slip_X3_isTask : GoodIn wsX3_slip wsX3_isTask := goodIn_r _ [16, 9, 17, 103, 104, 105, 106, 107, 108, 109, 110, 116, 117, 118, 119, 120, 121, 122, 123, 124] (by decide +kernel) (by decide +kernel)
set_option maxRecDepth 20000 in
theorem gX3_slip_X3_isTask : GoodIn wsX3_slip (wsV RX3 78 RX3 yX3_isTask wsX3_isTask) := goodIn_app (goodIn_r _ [12, 13, 14, 15] (by decide +kernel) (by decide +kernel)) ggX3_slip_X3_isTask
set_option maxRecDepth 20000 in
theorem ggX3_slip_X3_isSlip : GoodIn wsX3_slip wsX3_isSlip := goodIn_r _ [20] (by decide +kernel) (by decide +kernel)
set_option maxRecDepth 20000 in
theorem gX3_slip_X3_isSlip : GoodIn wsX3_slip (va_wsS RX3 106 yX3_isSlip wsX3_isSlip) := goodIn_app (goodIn_r _ [18, 19, 15] (by decide +kernel) (by decide +kernel)) ggX3_slip_X3_isSlip
set_option maxRecDepth 20000 in
theorem ggX3_slip_X3_couldSlip : GoodIn wsX3_slip wsX3_couldSlip := goodIn_r _ [24, 7, 11, 103, 104, 105, 106, 107, 108, 109, 110, 111, 112, 113, 114, 115] (by decide +kernel) (by decide +kernel)
set_option maxRecDepth 20000 in
theorem gX3_slip_X3_couldSlip : GoodIn wsX3_slip (wsV RX3 109 RX3 yX3_couldSlip wsX3_couldSlip) := goodIn_app (goodIn_r _ [21, 22, 23, 15] (by decide +kernel) (by decide +kernel)) ggX3_slip_X3_couldSlip
set_option maxRecDepth 20000 in
theorem ggX3_slip_X3_saveState : GoodIn wsX3_slip wsX3_saveState := goodIn_r _ [28, 29, 30, 9, 31, 32, 33, 15, 34, 35, 36, 37, 38, 39, 40, 41, 42, 43, 44, 45, 46, 47, 48, 103, 104, 105, 106, 107, 108, 109, 110, 116, 117, 118, 119, 120, 121, 122, 123, 124] (by decide +kernel) (by decide +kernel)
set_option maxRecDepth 20000 in
theorem gX3_slip_X3_saveState : GoodIn wsX3_slip (wsV RX3 67 RX3 yX3_saveState wsX3_saveState) := goodIn_app (goodIn_r _ [25, 26, 27, 15] (by decide +kernel) (by decide +kernel)) ggX3_slip_X3_saveState
set_option maxRecDepth 20000 in
theorem ggX3_slip_X0_lay : GoodIn wsX3_slip wsX0_lay := goodIn_r _ [53, 54, 55, 56, 57, 58, 59, 60, 61, 62, 63, 64, 65, 66, 67, 38, 68, 41, 42, 45, 69, 70, 71, 72, 40, 73, 74, 75, 76, 46, 77, 78, 79, 52, 80, 81, 82, 83, 84, 85, 86, 87, 88, 89, 90, 91, 92, 93, 94, 95, 96, 97, 98, 99, 100, 101, 102, 43, 44, 111, 112, 113, 114, 115, 116, 117, 118, 119, 120, 121, 122, 123, 124] (by decide +kernel) (by decide +kernel)
set_option maxRecDepth 20000 in
theorem gX3_slip_X0_lay : GoodIn wsX3_slip (wsV RX3 74 RX0 yX0_lay wsX0_lay) := goodIn_app (goodIn_r _ [49, 50, 51, 52] (by decide +kernel) (by decide +kernel)) ggX3_slip_X0_lay
theorem dX3_slip_0 : decode cX3_slip 0 = .ok (.aload_n 0, 1) := by decide +kernel
theorem dX3_slip_1 : decode cX3_slip 1 = .ok (.iload_n 1, 1) := by decide +kernel
theorem dX3_slip_2 : decode cX3_slip 2 = .ok (.invokevirtual 78, 3) := by decide +kernel
theorem dX3_slip_5 : decode cX3_slip 5 = .ok (.ifCond .ne 11, 3) := by decide +kernel
theorem dX3_slip_8 : decode cX3_slip 8 = .ok (.new 81, 3) := by decide +kernel
theorem dX3_slip_11 : decode cX3_slip 11 = .ok (.dup, 1) := by decide +kernel
theorem dX3_slip_12 : decode cX3_slip 12 = .ok (.invokespecial 83, 3) := by decide +kernel
theorem dX3_slip_15 : decode cX3_slip 15 = .ok (.athrow, 1) := by decide +kernel
theorem dX3_slip_16 : decode cX3_slip 16 = .ok (.iload_n 2, 1) := by decide +kernel
theorem dX3_slip_17 : decode cX3_slip 17 = .ok (.invokestatic 106, 3) := by decide +kernel
theorem dX3_slip_20 : decode cX3_slip 20 = .ok (.ifCond .ne 11, 3) := by decide +kernel
theorem dX3_slip_23 : decode cX3_slip 23 = .ok (.new 58, 3) := by decide +kernel
theorem dX3_slip_26 : decode cX3_slip 26 = .ok (.dup, 1) := by decide +kernel
theorem dX3_slip_27 : decode cX3_slip 27 = .ok (.invokespecial 60, 3) := by decide +kernel
theorem dX3_slip_30 : decode cX3_slip 30 = .ok (.athrow, 1) := by decide +kernel
theorem dX3_slip_31 : decode cX3_slip 31 = .ok (.aload_n 0, 1) := by decide +kernel
theorem dX3_slip_32 : decode cX3_slip 32 = .ok (.iload_n 1, 1) := by decide +kernel
theorem dX3_slip_33 : decode cX3_slip 33 = .ok (.iload_n 2, 1) := by decide +kernel
theorem dX3_slip_34 : decode cX3_slip 34 = .ok (.invokevirtual 109, 3) := by decide +kernel
theorem dX3_slip_37 : decode cX3_slip 37 = .ok (.ifCond .ne 11, 3) := by decide +kernel
theorem dX3_slip_40 : decode cX3_slip 40 = .ok (.new 64, 3) := by decide +kernel
theorem dX3_slip_43 : decode cX3_slip 43 = .ok (.dup, 1) := by decide +kernel
theorem dX3_slip_44 : decode cX3_slip 44 = .ok (.invokespecial 66, 3) := by decide +kernel
theorem dX3_slip_47 : decode cX3_slip 47 = .ok (.athrow, 1) := by decide +kernel
theorem dX3_slip_48 : decode cX3_slip 48 = .ok (.aload_n 0, 1) := by decide +kernel
theorem dX3_slip_49 : decode cX3_slip 49 = .ok (.getfield 19, 3) := by decide +kernel
theorem dX3_slip_52 : decode cX3_slip 52 = .ok (.getfield 112, 3) := by decide +kernel
theorem dX3_slip_55 : decode cX3_slip 55 = .ok (.istore_n 3, 1) := by decide +kernel
theorem dX3_slip_56 : decode cX3_slip 56 = .ok (.aload_n 0, 1) := by decide +kernel
theorem dX3_slip_57 : decode cX3_slip 57 = .ok (.invokevirtual 67, 3) := by decide +kernel
theorem dX3_slip_60 : decode cX3_slip 60 = .ok (.aload_n 0, 1) := by decide +kernel
theorem dX3_slip_61 : decode cX3_slip 61 = .ok (.getfield 10, 3) := by decide +kernel
theorem dX3_slip_64 : decode cX3_slip 64 = .ok (.getfield 115, 3) := by decide +kernel
theorem dX3_slip_67 : decode cX3_slip 67 = .ok (.iload_n 1, 1) := by decide +kernel
theorem dX3_slip_68 : decode cX3_slip 68 = .ok (.aload_n 0, 1) := by decide +kernel
theorem dX3_slip_69 : decode cX3_slip 69 = .ok (.getfield 19, 3) := by decide +kernel
theorem dX3_slip_72 : decode cX3_slip 72 = .ok (.getfield 118, 3) := by decide +kernel
theorem dX3_slip_75 : decode cX3_slip 75 = .ok (.iload_n 1, 1) := by decide +kernel
theorem dX3_slip_76 : decode cX3_slip 76 = .ok (.iaload, 1) := by decide +kernel
theorem dX3_slip_77 : decode cX3_slip 77 = .ok (.iload_n 2, 1) := by decide +kernel
theorem dX3_slip_78 : decode cX3_slip 78 = .ok (.iadd, 1) := by decide +kernel
theorem dX3_slip_79 : decode cX3_slip 79 = .ok (.iastore, 1) := by decide +kernel
theorem dX3_slip_80 : decode cX3_slip 80 = .ok (.aload_n 0, 1) := by decide +kernel
theorem dX3_slip_81 : decode cX3_slip 81 = .ok (.getfield 19, 3) := by decide +kernel
theorem dX3_slip_84 : decode cX3_slip 84 = .ok (.aload_n 0, 1) := by decide +kernel
theorem dX3_slip_85 : decode cX3_slip 85 = .ok (.getfield 10, 3) := by decide +kernel
theorem dX3_slip_88 : decode cX3_slip 88 = .ok (.invokevirtual 74, 3) := by decide +kernel
theorem dX3_slip_91 : decode cX3_slip 91 = .ok (.aload_n 0, 1) := by decide +kernel
theorem dX3_slip_92 : decode cX3_slip 92 = .ok (.getfield 19, 3) := by decide +kernel
theorem dX3_slip_95 : decode cX3_slip 95 = .ok (.getfield 112, 3) := by decide +kernel
theorem dX3_slip_98 : decode cX3_slip 98 = .ok (.iload_n 3, 1) := by decide +kernel
theorem dX3_slip_99 : decode cX3_slip 99 = .ok (.isub, 1) := by decide +kernel
theorem dX3_slip_100 : decode cX3_slip 100 = .ok (.ireturn, 1) := by decide +kernel
set_option maxRecDepth 20000 in
theorem ggX3_borrow_X3_isHall : GoodIn wsX3_borrow wsX3_isHall := goodIn_r _ [13] (by decide +kernel) (by decide +kernel)
set_option maxRecDepth 20000 in
theorem gX3_borrow_X3_isHall : GoodIn wsX3_borrow (va_wsS RX3 121 yX3_isHall wsX3_isHall) := goodIn_app (goodIn_r _ [10, 11, 12] (by decide +kernel) (by decide +kernel)) ggX3_borrow_X3_isHall
set_option maxRecDepth 20000 in
theorem ggX3_borrow_X3_isDay : GoodIn wsX3_borrow wsX3_isDay := goodIn_r _ [16] (by decide +kernel) (by decide +kernel)
set_option maxRecDepth 20000 in
theorem gX3_borrow_X3_isDay : GoodIn wsX3_borrow (va_wsS RX3 124 yX3_isDay wsX3_isDay) := goodIn_app (goodIn_r _ [14, 15, 12] (by decide +kernel) (by decide +kernel)) ggX3_borrow_X3_isDay
set_option maxRecDepth 20000 in
theorem ggX3_borrow_X3_saveState : GoodIn wsX3_borrow wsX3_saveState := goodIn_r _ [20, 21, 22, 5, 23, 24, 25, 12, 26, 27, 28, 29, 30, 31, 32, 33, 34, 35, 36, 37, 38, 39, 40, 95, 96, 97, 98, 99, 100, 101, 102, 103, 104, 105, 106, 107, 108, 109, 110, 111] (by decide +kernel) (by decide +kernel)
set_option maxRecDepth 20000 in
theorem gX3_borrow_X3_saveState : GoodIn wsX3_borrow (wsV RX3 67 RX3 yX3_saveState wsX3_saveState) := goodIn_app (goodIn_r _ [17, 18, 19, 12] (by decide +kernel) (by decide +kernel)) ggX3_borrow_X3_saveState
set_option maxRecDepth 20000 in
theorem ggX3_borrow_X0_lay : GoodIn wsX3_borrow wsX0_lay := goodIn_r _ [45, 46, 47, 48, 49, 50, 51, 52, 53, 54, 55, 56, 57, 58, 59, 30, 60, 33, 34, 37, 61, 62, 63, 64, 32, 65, 66, 67, 68, 38, 69, 70, 71, 44, 72, 73, 74, 75, 76, 77, 78, 79, 80, 81, 82, 83, 84, 85, 86, 87, 88, 89, 90, 91, 92, 93, 94, 35, 36, 112, 113, 114, 115, 116, 103, 104, 105, 106, 107, 108, 109, 110, 111] (by decide +kernel) (by decide +kernel)
set_option maxRecDepth 20000 in
theorem gX3_borrow_X0_lay : GoodIn wsX3_borrow (wsV RX3 74 RX0 yX0_lay wsX0_lay) := goodIn_app (goodIn_r _ [41, 42, 43, 44] (by decide +kernel) (by decide +kernel)) ggX3_borrow_X0_lay
theorem dX3_borrow_0 : decode cX3_borrow 0 = .ok (.iload_n 1, 1) := by decide +kernel
theorem dX3_borrow_1 : decode cX3_borrow 1 = .ok (.invokestatic 121, 3) := by decide +kernel
theorem dX3_borrow_4 : decode cX3_borrow 4 = .ok (.ifCond .ne 11, 3) := by decide +kernel
theorem dX3_borrow_7 : decode cX3_borrow 7 = .ok (.new 81, 3) := by decide +kernel
theorem dX3_borrow_10 : decode cX3_borrow 10 = .ok (.dup, 1) := by decide +kernel
theorem dX3_borrow_11 : decode cX3_borrow 11 = .ok (.invokespecial 83, 3) := by decide +kernel
theorem dX3_borrow_14 : decode cX3_borrow 14 = .ok (.athrow, 1) := by decide +kernel
theorem dX3_borrow_15 : decode cX3_borrow 15 = .ok (.iload_n 2, 1) := by decide +kernel
theorem dX3_borrow_16 : decode cX3_borrow 16 = .ok (.invokestatic 124, 3) := by decide +kernel
theorem dX3_borrow_19 : decode cX3_borrow 19 = .ok (.ifCond .eq 15, 3) := by decide +kernel
theorem dX3_borrow_22 : decode cX3_borrow 22 = .ok (.iload_n 3, 1) := by decide +kernel
theorem dX3_borrow_23 : decode cX3_borrow 23 = .ok (.invokestatic 124, 3) := by decide +kernel
theorem dX3_borrow_26 : decode cX3_borrow 26 = .ok (.ifCond .eq 8, 3) := by decide +kernel
theorem dX3_borrow_29 : decode cX3_borrow 29 = .ok (.iload_n 3, 1) := by decide +kernel
theorem dX3_borrow_30 : decode cX3_borrow 30 = .ok (.iload_n 2, 1) := by decide +kernel
theorem dX3_borrow_31 : decode cX3_borrow 31 = .ok (.if_icmp .ge 11, 3) := by decide +kernel
theorem dX3_borrow_34 : decode cX3_borrow 34 = .ok (.new 58, 3) := by decide +kernel
theorem dX3_borrow_37 : decode cX3_borrow 37 = .ok (.dup, 1) := by decide +kernel
theorem dX3_borrow_38 : decode cX3_borrow 38 = .ok (.invokespecial 60, 3) := by decide +kernel
theorem dX3_borrow_41 : decode cX3_borrow 41 = .ok (.athrow, 1) := by decide +kernel
theorem dX3_borrow_42 : decode cX3_borrow 42 = .ok (.aload_n 0, 1) := by decide +kernel
theorem dX3_borrow_43 : decode cX3_borrow 43 = .ok (.invokevirtual 67, 3) := by decide +kernel
theorem dX3_borrow_46 : decode cX3_borrow 46 = .ok (.aload_n 0, 1) := by decide +kernel
theorem dX3_borrow_47 : decode cX3_borrow 47 = .ok (.getfield 10, 3) := by decide +kernel
theorem dX3_borrow_50 : decode cX3_borrow 50 = .ok (.getfield 127, 3) := by decide +kernel
theorem dX3_borrow_53 : decode cX3_borrow 53 = .ok (.iload_n 1, 1) := by decide +kernel
theorem dX3_borrow_54 : decode cX3_borrow 54 = .ok (.iload_n 2, 1) := by decide +kernel
theorem dX3_borrow_55 : decode cX3_borrow 55 = .ok (.iastore, 1) := by decide +kernel
theorem dX3_borrow_56 : decode cX3_borrow 56 = .ok (.aload_n 0, 1) := by decide +kernel
theorem dX3_borrow_57 : decode cX3_borrow 57 = .ok (.getfield 10, 3) := by decide +kernel
theorem dX3_borrow_60 : decode cX3_borrow 60 = .ok (.getfield 130, 3) := by decide +kernel
theorem dX3_borrow_63 : decode cX3_borrow 63 = .ok (.iload_n 1, 1) := by decide +kernel
theorem dX3_borrow_64 : decode cX3_borrow 64 = .ok (.iload_n 3, 1) := by decide +kernel
theorem dX3_borrow_65 : decode cX3_borrow 65 = .ok (.iastore, 1) := by decide +kernel
theorem dX3_borrow_66 : decode cX3_borrow 66 = .ok (.aload_n 0, 1) := by decide +kernel
theorem dX3_borrow_67 : decode cX3_borrow 67 = .ok (.getfield 19, 3) := by decide +kernel
theorem dX3_borrow_70 : decode cX3_borrow 70 = .ok (.aload_n 0, 1) := by decide +kernel
theorem dX3_borrow_71 : decode cX3_borrow 71 = .ok (.getfield 10, 3) := by decide +kernel
theorem dX3_borrow_74 : decode cX3_borrow 74 = .ok (.invokevirtual 74, 3) := by decide +kernel
theorem dX3_borrow_77 : decode cX3_borrow 77 = .ok (.aload_n 0, 1) := by decide +kernel
theorem dX3_borrow_78 : decode cX3_borrow 78 = .ok (.getfield 19, 3) := by decide +kernel
theorem dX3_borrow_81 : decode cX3_borrow 81 = .ok (.getfield 133, 3) := by decide +kernel
theorem dX3_borrow_84 : decode cX3_borrow 84 = .ok (.ireturn, 1) := by decide +kernel
set_option maxRecDepth 20000 in
theorem ggX3_rule_X3_isRule : GoodIn wsX3_rule wsX3_isRule := goodIn_r _ [9] (by decide +kernel) (by decide +kernel)
set_option maxRecDepth 20000 in
theorem gX3_rule_X3_isRule : GoodIn wsX3_rule (va_wsS RX3 136 yX3_isRule wsX3_isRule) := goodIn_app (goodIn_r _ [6, 7, 8] (by decide +kernel) (by decide +kernel)) ggX3_rule_X3_isRule
set_option maxRecDepth 20000 in
theorem ggX3_rule_X3_saveState : GoodIn wsX3_rule wsX3_saveState := goodIn_r _ [13, 14, 15, 3, 16, 17, 18, 8, 19, 20, 21, 22, 23, 24, 25, 26, 27, 28, 29, 30, 31, 32, 33, 88, 89, 90, 91, 92, 93, 94, 95, 96, 97, 98, 99, 100, 101, 102, 103, 104] (by decide +kernel) (by decide +kernel)
set_option maxRecDepth 20000 in
theorem gX3_rule_X3_saveState : GoodIn wsX3_rule (wsV RX3 67 RX3 yX3_saveState wsX3_saveState) := goodIn_app (goodIn_r _ [10, 11, 12, 8] (by decide +kernel) (by decide +kernel)) ggX3_rule_X3_saveState
set_option maxRecDepth 20000 in
theorem ggX3_rule_X0_lay : GoodIn wsX3_rule wsX0_lay := goodIn_r _ [38, 39, 40, 41, 42, 43, 44, 45, 46, 47, 48, 49, 50, 51, 52, 23, 53, 26, 27, 30, 54, 55, 56, 57, 25, 58, 59, 60, 61, 31, 62, 63, 64, 37, 65, 66, 67, 68, 69, 70, 71, 72, 73, 74, 75, 76, 77, 78, 79, 80, 81, 82, 83, 84, 85, 86, 87, 28, 29, 105, 106, 107, 108, 109, 96, 97, 98, 99, 100, 101, 102, 103, 104] (by decide +kernel) (by decide +kernel)
set_option maxRecDepth 20000 in
theorem gX3_rule_X0_lay : GoodIn wsX3_rule (wsV RX3 74 RX0 yX0_lay wsX0_lay) := goodIn_app (goodIn_r _ [34, 35, 36, 37] (by decide +kernel) (by decide +kernel)) ggX3_rule_X0_lay
theorem dX3_rule_0 : decode cX3_rule 0 = .ok (.iload_n 1, 1) := by decide +kernel
theorem dX3_rule_1 : decode cX3_rule 1 = .ok (.invokestatic 136, 3) := by decide +kernel
theorem dX3_rule_4 : decode cX3_rule 4 = .ok (.ifCond .ne 11, 3) := by decide +kernel
theorem dX3_rule_7 : decode cX3_rule 7 = .ok (.new 58, 3) := by decide +kernel
theorem dX3_rule_10 : decode cX3_rule 10 = .ok (.dup, 1) := by decide +kernel
theorem dX3_rule_11 : decode cX3_rule 11 = .ok (.invokespecial 60, 3) := by decide +kernel
theorem dX3_rule_14 : decode cX3_rule 14 = .ok (.athrow, 1) := by decide +kernel
theorem dX3_rule_15 : decode cX3_rule 15 = .ok (.aload_n 0, 1) := by decide +kernel
theorem dX3_rule_16 : decode cX3_rule 16 = .ok (.getfield 10, 3) := by decide +kernel
theorem dX3_rule_19 : decode cX3_rule 19 = .ok (.getfield 139, 3) := by decide +kernel
theorem dX3_rule_22 : decode cX3_rule 22 = .ok (.istore_n 2, 1) := by decide +kernel
theorem dX3_rule_23 : decode cX3_rule 23 = .ok (.aload_n 0, 1) := by decide +kernel
theorem dX3_rule_24 : decode cX3_rule 24 = .ok (.invokevirtual 67, 3) := by decide +kernel
theorem dX3_rule_27 : decode cX3_rule 27 = .ok (.aload_n 0, 1) := by decide +kernel
theorem dX3_rule_28 : decode cX3_rule 28 = .ok (.getfield 10, 3) := by decide +kernel
theorem dX3_rule_31 : decode cX3_rule 31 = .ok (.iload_n 1, 1) := by decide +kernel
theorem dX3_rule_32 : decode cX3_rule 32 = .ok (.putfield 139, 3) := by decide +kernel
theorem dX3_rule_35 : decode cX3_rule 35 = .ok (.aload_n 0, 1) := by decide +kernel
theorem dX3_rule_36 : decode cX3_rule 36 = .ok (.getfield 19, 3) := by decide +kernel
theorem dX3_rule_39 : decode cX3_rule 39 = .ok (.aload_n 0, 1) := by decide +kernel
theorem dX3_rule_40 : decode cX3_rule 40 = .ok (.getfield 10, 3) := by decide +kernel
theorem dX3_rule_43 : decode cX3_rule 43 = .ok (.invokevirtual 74, 3) := by decide +kernel
theorem dX3_rule_46 : decode cX3_rule 46 = .ok (.iload_n 2, 1) := by decide +kernel
theorem dX3_rule_47 : decode cX3_rule 47 = .ok (.ireturn, 1) := by decide +kernel
set_option maxRecDepth 20000 in
theorem ggX3_undo_X1_copyFrom : GoodIn wsX3_undo wsX1_copyFrom := goodIn_r _ [11, 12, 13, 14, 15, 16, 17, 18, 19, 20, 83, 84, 85, 86, 87, 88, 89, 90, 91] (by decide +kernel) (by decide +kernel)
set_option maxRecDepth 20000 in
theorem gX3_undo_X1_copyFrom : GoodIn wsX3_undo (wsV RX3 154 RX1 yX1_copyFrom wsX1_copyFrom) := goodIn_app (goodIn_r _ [7, 8, 9, 10] (by decide +kernel) (by decide +kernel)) ggX3_undo_X1_copyFrom
set_option maxRecDepth 20000 in
theorem ggX3_undo_X0_lay : GoodIn wsX3_undo wsX0_lay := goodIn_r _ [25, 26, 27, 28, 29, 30, 31, 32, 33, 34, 35, 36, 37, 38, 39, 10, 40, 13, 14, 17, 41, 42, 43, 44, 12, 45, 46, 47, 48, 18, 49, 50, 51, 24, 52, 53, 54, 55, 56, 57, 58, 59, 60, 61, 62, 63, 64, 65, 66, 67, 68, 69, 70, 71, 72, 73, 74, 15, 16, 92, 93, 94, 95, 96, 83, 84, 85, 86, 87, 88, 89, 90, 91] (by decide +kernel) (by decide +kernel)
set_option maxRecDepth 20000 in
theorem gX3_undo_X0_lay : GoodIn wsX3_undo (wsV RX3 74 RX0 yX0_lay wsX0_lay) := goodIn_app (goodIn_r _ [21, 22, 23, 24] (by decide +kernel) (by decide +kernel)) ggX3_undo_X0_lay
theorem dX3_undo_0 : decode cX3_undo 0 = .ok (.aload_n 0, 1) := by decide +kernel
theorem dX3_undo_1 : decode cX3_undo 1 = .ok (.getfield 44, 3) := by decide +kernel
theorem dX3_undo_4 : decode cX3_undo 4 = .ok (.ifCond .gt 11, 3) := by decide +kernel
theorem dX3_undo_7 : decode cX3_undo 7 = .ok (.new 64, 3) := by decide +kernel
theorem dX3_undo_10 : decode cX3_undo 10 = .ok (.dup, 1) := by decide +kernel
theorem dX3_undo_11 : decode cX3_undo 11 = .ok (.invokespecial 66, 3) := by decide +kernel
theorem dX3_undo_14 : decode cX3_undo 14 = .ok (.athrow, 1) := by decide +kernel
theorem dX3_undo_15 : decode cX3_undo 15 = .ok (.aload_n 0, 1) := by decide +kernel
theorem dX3_undo_16 : decode cX3_undo 16 = .ok (.dup, 1) := by decide +kernel
theorem dX3_undo_17 : decode cX3_undo 17 = .ok (.getfield 44, 3) := by decide +kernel
theorem dX3_undo_20 : decode cX3_undo 20 = .ok (.iconst 1, 1) := by decide +kernel
theorem dX3_undo_21 : decode cX3_undo 21 = .ok (.isub, 1) := by decide +kernel
theorem dX3_undo_22 : decode cX3_undo 22 = .ok (.putfield 44, 3) := by decide +kernel
theorem dX3_undo_25 : decode cX3_undo 25 = .ok (.aload_n 0, 1) := by decide +kernel
theorem dX3_undo_26 : decode cX3_undo 26 = .ok (.getfield 10, 3) := by decide +kernel
theorem dX3_undo_29 : decode cX3_undo 29 = .ok (.aload_n 0, 1) := by decide +kernel
theorem dX3_undo_30 : decode cX3_undo 30 = .ok (.getfield 29, 3) := by decide +kernel
theorem dX3_undo_33 : decode cX3_undo 33 = .ok (.aload_n 0, 1) := by decide +kernel
theorem dX3_undo_34 : decode cX3_undo 34 = .ok (.getfield 44, 3) := by decide +kernel
theorem dX3_undo_37 : decode cX3_undo 37 = .ok (.aaload, 1) := by decide +kernel
theorem dX3_undo_38 : decode cX3_undo 38 = .ok (.invokevirtual 154, 3) := by decide +kernel
theorem dX3_undo_41 : decode cX3_undo 41 = .ok (.aload_n 0, 1) := by decide +kernel
theorem dX3_undo_42 : decode cX3_undo 42 = .ok (.getfield 19, 3) := by decide +kernel
theorem dX3_undo_45 : decode cX3_undo 45 = .ok (.aload_n 0, 1) := by decide +kernel
theorem dX3_undo_46 : decode cX3_undo 46 = .ok (.getfield 10, 3) := by decide +kernel
theorem dX3_undo_49 : decode cX3_undo 49 = .ok (.invokevirtual 74, 3) := by decide +kernel
theorem dX3_undo_52 : decode cX3_undo 52 = .ok (.aload_n 0, 1) := by decide +kernel
theorem dX3_undo_53 : decode cX3_undo 53 = .ok (.getfield 44, 3) := by decide +kernel
theorem dX3_undo_56 : decode cX3_undo 56 = .ok (.ireturn, 1) := by decide +kernel
set_option maxRecDepth 20000 in
theorem ggX3_task_X3_isTask : GoodIn wsX3_task wsX3_isTask := goodIn_r _ [12, 5, 13, 100, 101, 102, 103, 104, 105, 106, 107, 113, 114, 115, 116, 117, 118, 119, 120, 121] (by decide +kernel) (by decide +kernel)
set_option maxRecDepth 20000 in
theorem gX3_task_X3_isTask : GoodIn wsX3_task (wsV RX3 78 RX3 yX3_isTask wsX3_isTask) := goodIn_app (goodIn_r _ [8, 9, 10, 11] (by decide +kernel) (by decide +kernel)) ggX3_task_X3_isTask
set_option maxRecDepth 20000 in
theorem ggX3_task_X1_followers : GoodIn wsX3_task wsX1_followers := goodIn_r _ [18, 19, 20, 21, 22, 17, 23, 24, 113, 114, 115, 116, 117, 118, 119, 120, 121] (by decide +kernel) (by decide +kernel)
set_option maxRecDepth 20000 in
theorem gX3_task_X1_followers : GoodIn wsX3_task (wsV RX3 84 RX1 yX1_followers wsX1_followers) := goodIn_app (goodIn_r _ [14, 15, 16, 17] (by decide +kernel) (by decide +kernel)) ggX3_task_X1_followers
set_option maxRecDepth 20000 in
theorem ggX3_task_X3_slackOf : GoodIn wsX3_task wsX3_slackOf := goodIn_r _ [28, 6, 7, 29, 5, 30, 31, 32, 33, 34, 35, 36, 17, 37, 19, 38, 39, 40, 41, 42, 24, 43, 44, 45, 46, 47, 48, 49, 50, 51, 52, 53, 54, 55, 56, 57, 58, 59, 60, 61, 62, 63, 64, 65, 15, 16, 18, 20, 21, 22, 23, 66, 67, 68, 69, 70, 71, 72, 73, 74, 75, 76, 77, 78, 79, 80, 81, 82, 83, 84, 85, 86, 87, 88, 89, 90, 91, 100, 101, 102, 103, 104, 105, 106, 107, 108, 109, 110, 111, 112, 113, 114, 115, 116, 117, 118, 119, 120, 121] (by decide +kernel) (by decide +kernel)
set_option maxRecDepth 20000 in
theorem gX3_task_X3_slackOf : GoodIn wsX3_task (wsV RX3 161 RX3 yX3_slackOf wsX3_slackOf) := goodIn_app (goodIn_r _ [25, 26, 27, 11] (by decide +kernel) (by decide +kernel)) ggX3_task_X3_slackOf
set_option maxRecDepth 20000 in
theorem ggX3_task_X0_waitOf : GoodIn wsX3_task wsX0_waitOf := goodIn_r _ [95, 54, 78, 79, 80, 48, 81, 82, 56, 57, 58, 59, 60, 83, 21, 22, 17, 23, 24, 108, 109, 110, 111, 112, 113, 114, 115, 116, 117, 118, 119, 120, 121] (by decide +kernel) (by decide +kernel)
set_option maxRecDepth 20000 in
theorem gX3_task_X0_waitOf : GoodIn wsX3_task (wsV RX3 164 RX0 yX0_waitOf wsX0_waitOf) := goodIn_app (goodIn_r _ [92, 93, 94, 48] (by decide +kernel) (by decide +kernel)) ggX3_task_X0_waitOf
set_option maxRecDepth 20000 in
theorem ggX3_task_X1_property : GoodIn wsX3_task wsX1_property := goodIn_r _ [99, 39, 40, 41, 42, 24, 113, 114, 115, 116, 117, 118, 119, 120, 121] (by decide +kernel) (by decide +kernel)
set_option maxRecDepth 20000 in
theorem gX3_task_X1_property : GoodIn wsX3_task (wsV RX3 102 RX1 yX1_property wsX1_property) := goodIn_app (goodIn_r _ [96, 97, 98, 17] (by decide +kernel) (by decide +kernel)) ggX3_task_X1_property
theorem dX3_task_0 : decode cX3_task 0 = .ok (.aload_n 0, 1) := by decide +kernel
theorem dX3_task_1 : decode cX3_task 1 = .ok (.iload_n 1, 1) := by decide +kernel
end
section
theorem dX3_task_2 : decode cX3_task 2 = .ok (.invokevirtual 78, 3) := by decide +kernel
theorem dX3_task_5 : decode cX3_task 5 = .ok (.ifCond .ne 11, 3) := by decide +kernel
theorem dX3_task_8 : decode cX3_task 8 = .ok (.new 81, 3) := by decide +kernel
theorem dX3_task_11 : decode cX3_task 11 = .ok (.dup, 1) := by decide +kernel
theorem dX3_task_12 : decode cX3_task 12 = .ok (.invokespecial 83, 3) := by decide +kernel
theorem dX3_task_15 : decode cX3_task 15 = .ok (.athrow, 1) := by decide +kernel
theorem dX3_task_16 : decode cX3_task 16 = .ok (.iload_n 2, 1) := by decide +kernel
theorem dX3_task_17 : decode cX3_task 17 = .ok (.ifCond .lt 9, 3) := by decide +kernel
theorem dX3_task_20 : decode cX3_task 20 = .ok (.iload_n 2, 1) := by decide +kernel
theorem dX3_task_21 : decode cX3_task 21 = .ok (.bipush 9, 2) := by decide +kernel
theorem dX3_task_23 : decode cX3_task 23 = .ok (.if_icmp .lt 11, 3) := by decide +kernel
theorem dX3_task_26 : decode cX3_task 26 = .ok (.new 58, 3) := by decide +kernel
theorem dX3_task_29 : decode cX3_task 29 = .ok (.dup, 1) := by decide +kernel
theorem dX3_task_30 : decode cX3_task 30 = .ok (.invokespecial 60, 3) := by decide +kernel
theorem dX3_task_33 : decode cX3_task 33 = .ok (.athrow, 1) := by decide +kernel
theorem dX3_task_34 : decode cX3_task 34 = .ok (.iload_n 2, 1) := by decide +kernel
theorem dX3_task_35 : decode cX3_task 35 = .ok (.tableswitch 67 5 8 #[29, 38, 48, 54], 29) := by decide +kernel
theorem dX3_task_64 : decode cX3_task 64 = .ok (.aload_n 0, 1) := by decide +kernel
theorem dX3_task_65 : decode cX3_task 65 = .ok (.getfield 10, 3) := by decide +kernel
theorem dX3_task_68 : decode cX3_task 68 = .ok (.iload_n 1, 1) := by decide +kernel
theorem dX3_task_69 : decode cX3_task 69 = .ok (.invokevirtual 84, 3) := by decide +kernel
theorem dX3_task_72 : decode cX3_task 72 = .ok (.ireturn, 1) := by decide +kernel
theorem dX3_task_73 : decode cX3_task 73 = .ok (.aload_n 0, 1) := by decide +kernel
theorem dX3_task_74 : decode cX3_task 74 = .ok (.getfield 19, 3) := by decide +kernel
theorem dX3_task_77 : decode cX3_task 77 = .ok (.getfield 118, 3) := by decide +kernel
theorem dX3_task_80 : decode cX3_task 80 = .ok (.iload_n 1, 1) := by decide +kernel
theorem dX3_task_81 : decode cX3_task 81 = .ok (.iaload, 1) := by decide +kernel
theorem dX3_task_82 : decode cX3_task 82 = .ok (.ireturn, 1) := by decide +kernel
theorem dX3_task_83 : decode cX3_task 83 = .ok (.aload_n 0, 1) := by decide +kernel
theorem dX3_task_84 : decode cX3_task 84 = .ok (.iload_n 1, 1) := by decide +kernel
theorem dX3_task_85 : decode cX3_task 85 = .ok (.invokevirtual 161, 3) := by decide +kernel
theorem dX3_task_88 : decode cX3_task 88 = .ok (.ireturn, 1) := by decide +kernel
theorem dX3_task_89 : decode cX3_task 89 = .ok (.aload_n 0, 1) := by decide +kernel
theorem dX3_task_90 : decode cX3_task 90 = .ok (.getfield 19, 3) := by decide +kernel
theorem dX3_task_93 : decode cX3_task 93 = .ok (.aload_n 0, 1) := by decide +kernel
theorem dX3_task_94 : decode cX3_task 94 = .ok (.getfield 10, 3) := by decide +kernel
theorem dX3_task_97 : decode cX3_task 97 = .ok (.iload_n 1, 1) := by decide +kernel
theorem dX3_task_98 : decode cX3_task 98 = .ok (.invokevirtual 164, 3) := by decide +kernel
theorem dX3_task_101 : decode cX3_task 101 = .ok (.ireturn, 1) := by decide +kernel
theorem dX3_task_102 : decode cX3_task 102 = .ok (.aload_n 0, 1) := by decide +kernel
theorem dX3_task_103 : decode cX3_task 103 = .ok (.getfield 10, 3) := by decide +kernel
theorem dX3_task_106 : decode cX3_task 106 = .ok (.iload_n 2, 1) := by decide +kernel
theorem dX3_task_107 : decode cX3_task 107 = .ok (.invokevirtual 102, 3) := by decide +kernel
theorem dX3_task_110 : decode cX3_task 110 = .ok (.iload_n 1, 1) := by decide +kernel
theorem dX3_task_111 : decode cX3_task 111 = .ok (.iaload, 1) := by decide +kernel
theorem dX3_task_112 : decode cX3_task 112 = .ok (.ireturn, 1) := by decide +kernel
set_option maxRecDepth 20000 in
theorem ggX3_personOn_X3_isPerson : GoodIn wsX3_personOn wsX3_isPerson := goodIn_r _ [9] (by decide +kernel) (by decide +kernel)
set_option maxRecDepth 20000 in
theorem gX3_personOn_X3_isPerson : GoodIn wsX3_personOn (va_wsS RX3 168 yX3_isPerson wsX3_isPerson) := goodIn_app (goodIn_r _ [6, 7, 8] (by decide +kernel) (by decide +kernel)) ggX3_personOn_X3_isPerson
set_option maxRecDepth 20000 in
theorem ggX3_personOn_X3_isDay : GoodIn wsX3_personOn wsX3_isDay := goodIn_r _ [12] (by decide +kernel) (by decide +kernel)
set_option maxRecDepth 20000 in
theorem gX3_personOn_X3_isDay : GoodIn wsX3_personOn (va_wsS RX3 124 yX3_isDay wsX3_isDay) := goodIn_app (goodIn_r _ [10, 11, 8] (by decide +kernel) (by decide +kernel)) ggX3_personOn_X3_isDay
set_option maxRecDepth 20000 in
theorem ggX3_personOn_X0_taskOn : GoodIn wsX3_personOn wsX0_taskOn := goodIn_r _ [17, 18, 19, 20, 29, 30, 31, 32, 33, 34, 35, 36, 37, 38, 39, 40, 41, 42] (by decide +kernel) (by decide +kernel)
set_option maxRecDepth 20000 in
theorem gX3_personOn_X0_taskOn : GoodIn wsX3_personOn (wsV RX3 174 RX0 yX0_taskOn wsX0_taskOn) := goodIn_app (goodIn_r _ [13, 14, 15, 16] (by decide +kernel) (by decide +kernel)) ggX3_personOn_X0_taskOn
theorem dX3_personOn_0 : decode cX3_personOn 0 = .ok (.iload_n 1, 1) := by decide +kernel
theorem dX3_personOn_1 : decode cX3_personOn 1 = .ok (.invokestatic 168, 3) := by decide +kernel
theorem dX3_personOn_4 : decode cX3_personOn 4 = .ok (.ifCond .eq 10, 3) := by decide +kernel
theorem dX3_personOn_7 : decode cX3_personOn 7 = .ok (.iload_n 2, 1) := by decide +kernel
theorem dX3_personOn_8 : decode cX3_personOn 8 = .ok (.invokestatic 124, 3) := by decide +kernel
theorem dX3_personOn_11 : decode cX3_personOn 11 = .ok (.ifCond .ne 11, 3) := by decide +kernel
theorem dX3_personOn_14 : decode cX3_personOn 14 = .ok (.new 81, 3) := by decide +kernel
theorem dX3_personOn_17 : decode cX3_personOn 17 = .ok (.dup, 1) := by decide +kernel
theorem dX3_personOn_18 : decode cX3_personOn 18 = .ok (.invokespecial 83, 3) := by decide +kernel
theorem dX3_personOn_21 : decode cX3_personOn 21 = .ok (.athrow, 1) := by decide +kernel
theorem dX3_personOn_22 : decode cX3_personOn 22 = .ok (.aload_n 0, 1) := by decide +kernel
theorem dX3_personOn_23 : decode cX3_personOn 23 = .ok (.getfield 19, 3) := by decide +kernel
theorem dX3_personOn_26 : decode cX3_personOn 26 = .ok (.aload_n 0, 1) := by decide +kernel
theorem dX3_personOn_27 : decode cX3_personOn 27 = .ok (.getfield 10, 3) := by decide +kernel
theorem dX3_personOn_30 : decode cX3_personOn 30 = .ok (.aload_n 0, 1) := by decide +kernel
theorem dX3_personOn_31 : decode cX3_personOn 31 = .ok (.getfield 10, 3) := by decide +kernel
theorem dX3_personOn_34 : decode cX3_personOn 34 = .ok (.getfield 171, 3) := by decide +kernel
theorem dX3_personOn_37 : decode cX3_personOn 37 = .ok (.iload_n 1, 1) := by decide +kernel
theorem dX3_personOn_38 : decode cX3_personOn 38 = .ok (.iload_n 2, 1) := by decide +kernel
theorem dX3_personOn_39 : decode cX3_personOn 39 = .ok (.invokevirtual 174, 3) := by decide +kernel
theorem dX3_personOn_42 : decode cX3_personOn 42 = .ok (.ireturn, 1) := by decide +kernel
set_option maxRecDepth 20000 in
theorem ggX3_hallOn_X3_isHall : GoodIn wsX3_hallOn wsX3_isHall := goodIn_r _ [9] (by decide +kernel) (by decide +kernel)
set_option maxRecDepth 20000 in
theorem gX3_hallOn_X3_isHall : GoodIn wsX3_hallOn (va_wsS RX3 121 yX3_isHall wsX3_isHall) := goodIn_app (goodIn_r _ [6, 7, 8] (by decide +kernel) (by decide +kernel)) ggX3_hallOn_X3_isHall
set_option maxRecDepth 20000 in
theorem ggX3_hallOn_X3_isDay : GoodIn wsX3_hallOn wsX3_isDay := goodIn_r _ [12] (by decide +kernel) (by decide +kernel)
set_option maxRecDepth 20000 in
theorem gX3_hallOn_X3_isDay : GoodIn wsX3_hallOn (va_wsS RX3 124 yX3_isDay wsX3_isDay) := goodIn_app (goodIn_r _ [10, 11, 8] (by decide +kernel) (by decide +kernel)) ggX3_hallOn_X3_isDay
set_option maxRecDepth 20000 in
theorem ggX3_hallOn_X0_taskOn : GoodIn wsX3_hallOn wsX0_taskOn := goodIn_r _ [17, 18, 19, 20, 29, 30, 31, 32, 33, 34, 35, 36, 37, 38, 39, 40, 41, 42] (by decide +kernel) (by decide +kernel)
set_option maxRecDepth 20000 in
theorem gX3_hallOn_X0_taskOn : GoodIn wsX3_hallOn (wsV RX3 174 RX0 yX0_taskOn wsX0_taskOn) := goodIn_app (goodIn_r _ [13, 14, 15, 16] (by decide +kernel) (by decide +kernel)) ggX3_hallOn_X0_taskOn
theorem dX3_hallOn_0 : decode cX3_hallOn 0 = .ok (.iload_n 1, 1) := by decide +kernel
theorem dX3_hallOn_1 : decode cX3_hallOn 1 = .ok (.invokestatic 121, 3) := by decide +kernel
theorem dX3_hallOn_4 : decode cX3_hallOn 4 = .ok (.ifCond .eq 10, 3) := by decide +kernel
theorem dX3_hallOn_7 : decode cX3_hallOn 7 = .ok (.iload_n 2, 1) := by decide +kernel
theorem dX3_hallOn_8 : decode cX3_hallOn 8 = .ok (.invokestatic 124, 3) := by decide +kernel
theorem dX3_hallOn_11 : decode cX3_hallOn 11 = .ok (.ifCond .ne 11, 3) := by decide +kernel
theorem dX3_hallOn_14 : decode cX3_hallOn 14 = .ok (.new 81, 3) := by decide +kernel
theorem dX3_hallOn_17 : decode cX3_hallOn 17 = .ok (.dup, 1) := by decide +kernel
theorem dX3_hallOn_18 : decode cX3_hallOn 18 = .ok (.invokespecial 83, 3) := by decide +kernel
theorem dX3_hallOn_21 : decode cX3_hallOn 21 = .ok (.athrow, 1) := by decide +kernel
theorem dX3_hallOn_22 : decode cX3_hallOn 22 = .ok (.aload_n 0, 1) := by decide +kernel
theorem dX3_hallOn_23 : decode cX3_hallOn 23 = .ok (.getfield 19, 3) := by decide +kernel
theorem dX3_hallOn_26 : decode cX3_hallOn 26 = .ok (.aload_n 0, 1) := by decide +kernel
theorem dX3_hallOn_27 : decode cX3_hallOn 27 = .ok (.getfield 10, 3) := by decide +kernel
theorem dX3_hallOn_30 : decode cX3_hallOn 30 = .ok (.aload_n 0, 1) := by decide +kernel
theorem dX3_hallOn_31 : decode cX3_hallOn 31 = .ok (.getfield 10, 3) := by decide +kernel
theorem dX3_hallOn_34 : decode cX3_hallOn 34 = .ok (.getfield 178, 3) := by decide +kernel
theorem dX3_hallOn_37 : decode cX3_hallOn 37 = .ok (.iload_n 1, 1) := by decide +kernel
theorem dX3_hallOn_38 : decode cX3_hallOn 38 = .ok (.iload_n 2, 1) := by decide +kernel
theorem dX3_hallOn_39 : decode cX3_hallOn 39 = .ok (.invokevirtual 174, 3) := by decide +kernel
theorem dX3_hallOn_42 : decode cX3_hallOn 42 = .ok (.ireturn, 1) := by decide +kernel
set_option maxRecDepth 20000 in
theorem ggX3_hall_X3_isHall : GoodIn wsX3_hall wsX3_isHall := goodIn_r _ [12] (by decide +kernel) (by decide +kernel)
set_option maxRecDepth 20000 in
theorem gX3_hall_X3_isHall : GoodIn wsX3_hall (va_wsS RX3 121 yX3_isHall wsX3_isHall) := goodIn_app (goodIn_r _ [9, 10, 11] (by decide +kernel) (by decide +kernel)) ggX3_hall_X3_isHall
set_option maxRecDepth 20000 in
theorem ggX3_hall_X0_daysIn : GoodIn wsX3_hall wsX0_daysIn := goodIn_r _ [17, 18, 19, 20, 21, 34, 35, 36, 37, 38, 39, 40, 41, 42, 43, 44, 45, 46, 47] (by decide +kernel) (by decide +kernel)
set_option maxRecDepth 20000 in
theorem gX3_hall_X0_daysIn : GoodIn wsX3_hall (wsV RX3 181 RX0 yX0_daysIn wsX0_daysIn) := goodIn_app (goodIn_r _ [13, 14, 15, 16] (by decide +kernel) (by decide +kernel)) ggX3_hall_X0_daysIn
set_option maxRecDepth 20000 in
theorem ggX3_hall_X0_tasksIn : GoodIn wsX3_hall wsX0_tasksIn := goodIn_r _ [25, 18, 19, 20, 34, 35, 36, 37, 38, 39, 40, 41, 42, 43, 44, 45, 46, 47] (by decide +kernel) (by decide +kernel)
set_option maxRecDepth 20000 in
theorem gX3_hall_X0_tasksIn : GoodIn wsX3_hall (wsV RX3 184 RX0 yX0_tasksIn wsX0_tasksIn) := goodIn_app (goodIn_r _ [22, 23, 24, 16] (by decide +kernel) (by decide +kernel)) ggX3_hall_X0_tasksIn
theorem dX3_hall_0 : decode cX3_hall 0 = .ok (.iload_n 1, 1) := by decide +kernel
theorem dX3_hall_1 : decode cX3_hall 1 = .ok (.invokestatic 121, 3) := by decide +kernel
theorem dX3_hall_4 : decode cX3_hall 4 = .ok (.ifCond .ne 11, 3) := by decide +kernel
theorem dX3_hall_7 : decode cX3_hall 7 = .ok (.new 81, 3) := by decide +kernel
theorem dX3_hall_10 : decode cX3_hall 10 = .ok (.dup, 1) := by decide +kernel
theorem dX3_hall_11 : decode cX3_hall 11 = .ok (.invokespecial 83, 3) := by decide +kernel
theorem dX3_hall_14 : decode cX3_hall 14 = .ok (.athrow, 1) := by decide +kernel
theorem dX3_hall_15 : decode cX3_hall 15 = .ok (.iload_n 2, 1) := by decide +kernel
theorem dX3_hall_16 : decode cX3_hall 16 = .ok (.ifCond .lt 8, 3) := by decide +kernel
theorem dX3_hall_19 : decode cX3_hall 19 = .ok (.iload_n 2, 1) := by decide +kernel
theorem dX3_hall_20 : decode cX3_hall 20 = .ok (.iconst 4, 1) := by decide +kernel
theorem dX3_hall_21 : decode cX3_hall 21 = .ok (.if_icmp .lt 11, 3) := by decide +kernel
theorem dX3_hall_24 : decode cX3_hall 24 = .ok (.new 58, 3) := by decide +kernel
theorem dX3_hall_27 : decode cX3_hall 27 = .ok (.dup, 1) := by decide +kernel
theorem dX3_hall_28 : decode cX3_hall 28 = .ok (.invokespecial 60, 3) := by decide +kernel
theorem dX3_hall_31 : decode cX3_hall 31 = .ok (.athrow, 1) := by decide +kernel
theorem dX3_hall_32 : decode cX3_hall 32 = .ok (.iload_n 2, 1) := by decide +kernel
theorem dX3_hall_33 : decode cX3_hall 33 = .ok (.tableswitch 60 0 2 #[27, 37, 47], 27) := by decide +kernel
theorem dX3_hall_60 : decode cX3_hall 60 = .ok (.aload_n 0, 1) := by decide +kernel
theorem dX3_hall_61 : decode cX3_hall 61 = .ok (.getfield 10, 3) := by decide +kernel
theorem dX3_hall_64 : decode cX3_hall 64 = .ok (.getfield 127, 3) := by decide +kernel
theorem dX3_hall_67 : decode cX3_hall 67 = .ok (.iload_n 1, 1) := by decide +kernel
theorem dX3_hall_68 : decode cX3_hall 68 = .ok (.iaload, 1) := by decide +kernel
theorem dX3_hall_69 : decode cX3_hall 69 = .ok (.ireturn, 1) := by decide +kernel
theorem dX3_hall_70 : decode cX3_hall 70 = .ok (.aload_n 0, 1) := by decide +kernel
theorem dX3_hall_71 : decode cX3_hall 71 = .ok (.getfield 10, 3) := by decide +kernel
theorem dX3_hall_74 : decode cX3_hall 74 = .ok (.getfield 130, 3) := by decide +kernel
theorem dX3_hall_77 : decode cX3_hall 77 = .ok (.iload_n 1, 1) := by decide +kernel
theorem dX3_hall_78 : decode cX3_hall 78 = .ok (.iaload, 1) := by decide +kernel
theorem dX3_hall_79 : decode cX3_hall 79 = .ok (.ireturn, 1) := by decide +kernel
theorem dX3_hall_80 : decode cX3_hall 80 = .ok (.aload_n 0, 1) := by decide +kernel
theorem dX3_hall_81 : decode cX3_hall 81 = .ok (.getfield 19, 3) := by decide +kernel
theorem dX3_hall_84 : decode cX3_hall 84 = .ok (.aload_n 0, 1) := by decide +kernel
theorem dX3_hall_85 : decode cX3_hall 85 = .ok (.getfield 10, 3) := by decide +kernel
theorem dX3_hall_88 : decode cX3_hall 88 = .ok (.iload_n 1, 1) := by decide +kernel
theorem dX3_hall_89 : decode cX3_hall 89 = .ok (.invokevirtual 181, 3) := by decide +kernel
theorem dX3_hall_92 : decode cX3_hall 92 = .ok (.ireturn, 1) := by decide +kernel
theorem dX3_hall_93 : decode cX3_hall 93 = .ok (.aload_n 0, 1) := by decide +kernel
theorem dX3_hall_94 : decode cX3_hall 94 = .ok (.getfield 19, 3) := by decide +kernel
theorem dX3_hall_97 : decode cX3_hall 97 = .ok (.aload_n 0, 1) := by decide +kernel
theorem dX3_hall_98 : decode cX3_hall 98 = .ok (.getfield 10, 3) := by decide +kernel
theorem dX3_hall_101 : decode cX3_hall 101 = .ok (.iload_n 1, 1) := by decide +kernel
theorem dX3_hall_102 : decode cX3_hall 102 = .ok (.invokevirtual 184, 3) := by decide +kernel
theorem dX3_hall_105 : decode cX3_hall 105 = .ok (.ireturn, 1) := by decide +kernel
set_option maxRecDepth 20000 in
theorem ggX3_count_X1_lengthOfAll : GoodIn wsX3_count wsX1_lengthOfAll := goodIn_r _ [13, 14, 15, 118, 119, 120, 121, 122, 123, 124, 125, 126] (by decide +kernel) (by decide +kernel)
set_option maxRecDepth 20000 in
theorem gX3_count_X1_lengthOfAll : GoodIn wsX3_count (wsV RX3 187 RX1 yX1_lengthOfAll wsX1_lengthOfAll) := goodIn_app (goodIn_r _ [9, 10, 11, 12] (by decide +kernel) (by decide +kernel)) ggX3_count_X1_lengthOfAll
set_option maxRecDepth 20000 in
theorem ggX3_count_X3_criticalTasks : GoodIn wsX3_count wsX3_criticalTasks := goodIn_r _ [20, 3, 4, 21, 22, 23, 19, 24, 5, 25, 26, 27, 28, 6, 7, 29, 30, 31, 12, 32, 14, 33, 15, 34, 35, 36, 37, 38, 39, 40, 41, 42, 43, 44, 45, 46, 47, 48, 49, 50, 51, 52, 53, 54, 55, 56, 57, 58, 59, 60, 61, 62, 63, 64, 65, 66, 67, 68, 69, 70, 71, 72, 73, 74, 75, 76, 77, 78, 79, 80, 81, 82, 83, 84, 85, 86, 87, 88, 89, 90, 91, 92, 93, 110, 111, 112, 113, 114, 115, 116, 117, 118, 119, 120, 121, 122, 123, 124, 125, 126, 127, 128, 129, 130, 131] (by decide +kernel) (by decide +kernel)
set_option maxRecDepth 20000 in
theorem gX3_count_X3_criticalTasks : GoodIn wsX3_count (wsV RX3 190 RX3 yX3_criticalTasks wsX3_criticalTasks) := goodIn_app (goodIn_r _ [16, 17, 18, 19] (by decide +kernel) (by decide +kernel)) ggX3_count_X3_criticalTasks
set_option maxRecDepth 20000 in
theorem ggX3_count_X0_waitOfAll : GoodIn wsX3_count wsX0_waitOfAll := goodIn_r _ [97, 48, 98, 99, 100, 43, 101, 49, 80, 81, 82, 83, 84, 51, 52, 53, 54, 55, 85, 65, 66, 12, 67, 37, 118, 119, 120, 121, 122, 123, 124, 125, 126, 127, 128, 129, 130, 131] (by decide +kernel) (by decide +kernel)
set_option maxRecDepth 20000 in
theorem gX3_count_X0_waitOfAll : GoodIn wsX3_count (wsV RX3 193 RX0 yX0_waitOfAll wsX0_waitOfAll) := goodIn_app (goodIn_r _ [94, 95, 96, 43] (by decide +kernel) (by decide +kernel)) ggX3_count_X0_waitOfAll
set_option maxRecDepth 20000 in
theorem ggX3_count_X3_longestRow : GoodIn wsX3_count wsX3_longestRow := goodIn_r _ [105, 3, 4, 106, 107, 53, 54, 55, 108, 109, 65, 66, 12, 67, 37, 110, 111, 112, 113, 114, 115, 116, 117, 118, 119, 120, 121, 122, 123, 124, 125, 126] (by decide +kernel) (by decide +kernel)
set_option maxRecDepth 20000 in
theorem gX3_count_X3_longestRow : GoodIn wsX3_count (wsV RX3 197 RX3 yX3_longestRow wsX3_longestRow) := goodIn_app (goodIn_r _ [102, 103, 104, 19] (by decide +kernel) (by decide +kernel)) ggX3_count_X3_longestRow
theorem dX3_count_0 : decode cX3_count 0 = .ok (.iload_n 1, 1) := by decide +kernel
theorem dX3_count_1 : decode cX3_count 1 = .ok (.ifCond .lt 9, 3) := by decide +kernel
theorem dX3_count_4 : decode cX3_count 4 = .ok (.iload_n 1, 1) := by decide +kernel
theorem dX3_count_5 : decode cX3_count 5 = .ok (.bipush 9, 2) := by decide +kernel
theorem dX3_count_7 : decode cX3_count 7 = .ok (.if_icmp .lt 11, 3) := by decide +kernel
theorem dX3_count_10 : decode cX3_count 10 = .ok (.new 58, 3) := by decide +kernel
theorem dX3_count_13 : decode cX3_count 13 = .ok (.dup, 1) := by decide +kernel
theorem dX3_count_14 : decode cX3_count 14 = .ok (.invokespecial 60, 3) := by decide +kernel
theorem dX3_count_17 : decode cX3_count 17 = .ok (.athrow, 1) := by decide +kernel
theorem dX3_count_18 : decode cX3_count 18 = .ok (.iload_n 1, 1) := by decide +kernel
theorem dX3_count_19 : decode cX3_count 19 = .ok (.tableswitch 115 0 7 #[45, 53, 61, 77, 85, 93, 98, 110], 45) := by decide +kernel
theorem dX3_count_64 : decode cX3_count 64 = .ok (.aload_n 0, 1) := by decide +kernel
theorem dX3_count_65 : decode cX3_count 65 = .ok (.getfield 10, 3) := by decide +kernel
theorem dX3_count_68 : decode cX3_count 68 = .ok (.getfield 61, 3) := by decide +kernel
theorem dX3_count_71 : decode cX3_count 71 = .ok (.ireturn, 1) := by decide +kernel
theorem dX3_count_72 : decode cX3_count 72 = .ok (.aload_n 0, 1) := by decide +kernel
theorem dX3_count_73 : decode cX3_count 73 = .ok (.getfield 19, 3) := by decide +kernel
theorem dX3_count_76 : decode cX3_count 76 = .ok (.getfield 133, 3) := by decide +kernel
theorem dX3_count_79 : decode cX3_count 79 = .ok (.ireturn, 1) := by decide +kernel
theorem dX3_count_80 : decode cX3_count 80 = .ok (.aload_n 0, 1) := by decide +kernel
theorem dX3_count_81 : decode cX3_count 81 = .ok (.getfield 10, 3) := by decide +kernel
theorem dX3_count_84 : decode cX3_count 84 = .ok (.getfield 61, 3) := by decide +kernel
theorem dX3_count_87 : decode cX3_count 87 = .ok (.aload_n 0, 1) := by decide +kernel
theorem dX3_count_88 : decode cX3_count 88 = .ok (.getfield 19, 3) := by decide +kernel
theorem dX3_count_91 : decode cX3_count 91 = .ok (.getfield 133, 3) := by decide +kernel
theorem dX3_count_94 : decode cX3_count 94 = .ok (.isub, 1) := by decide +kernel
theorem dX3_count_95 : decode cX3_count 95 = .ok (.ireturn, 1) := by decide +kernel
theorem dX3_count_96 : decode cX3_count 96 = .ok (.aload_n 0, 1) := by decide +kernel
theorem dX3_count_97 : decode cX3_count 97 = .ok (.getfield 19, 3) := by decide +kernel
theorem dX3_count_100 : decode cX3_count 100 = .ok (.getfield 112, 3) := by decide +kernel
theorem dX3_count_103 : decode cX3_count 103 = .ok (.ireturn, 1) := by decide +kernel
theorem dX3_count_104 : decode cX3_count 104 = .ok (.aload_n 0, 1) := by decide +kernel
theorem dX3_count_105 : decode cX3_count 105 = .ok (.getfield 10, 3) := by decide +kernel
theorem dX3_count_108 : decode cX3_count 108 = .ok (.invokevirtual 187, 3) := by decide +kernel
theorem dX3_count_111 : decode cX3_count 111 = .ok (.ireturn, 1) := by decide +kernel
theorem dX3_count_112 : decode cX3_count 112 = .ok (.aload_n 0, 1) := by decide +kernel
theorem dX3_count_113 : decode cX3_count 113 = .ok (.invokevirtual 190, 3) := by decide +kernel
theorem dX3_count_116 : decode cX3_count 116 = .ok (.ireturn, 1) := by decide +kernel
theorem dX3_count_117 : decode cX3_count 117 = .ok (.aload_n 0, 1) := by decide +kernel
theorem dX3_count_118 : decode cX3_count 118 = .ok (.getfield 19, 3) := by decide +kernel
theorem dX3_count_121 : decode cX3_count 121 = .ok (.aload_n 0, 1) := by decide +kernel
theorem dX3_count_122 : decode cX3_count 122 = .ok (.getfield 10, 3) := by decide +kernel
theorem dX3_count_125 : decode cX3_count 125 = .ok (.invokevirtual 193, 3) := by decide +kernel
theorem dX3_count_128 : decode cX3_count 128 = .ok (.ireturn, 1) := by decide +kernel
theorem dX3_count_129 : decode cX3_count 129 = .ok (.aload_n 0, 1) := by decide +kernel
theorem dX3_count_130 : decode cX3_count 130 = .ok (.invokevirtual 197, 3) := by decide +kernel
theorem dX3_count_133 : decode cX3_count 133 = .ok (.ireturn, 1) := by decide +kernel
theorem dX3_count_134 : decode cX3_count 134 = .ok (.aload_n 0, 1) := by decide +kernel
theorem dX3_count_135 : decode cX3_count 135 = .ok (.getfield 44, 3) := by decide +kernel
theorem dX3_count_138 : decode cX3_count 138 = .ok (.ireturn, 1) := by decide +kernel
theorem dX3_setting_0 : decode cX3_setting 0 = .ok (.aload_n 0, 1) := by decide +kernel
theorem dX3_setting_1 : decode cX3_setting 1 = .ok (.getfield 10, 3) := by decide +kernel
theorem dX3_setting_4 : decode cX3_setting 4 = .ok (.getfield 139, 3) := by decide +kernel
theorem dX3_setting_7 : decode cX3_setting 7 = .ok (.ireturn, 1) := by decide +kernel
set_option maxRecDepth 20000 in
theorem ggX3_ifRule_X3_isRule : GoodIn wsX3_ifRule wsX3_isRule := goodIn_r _ [10] (by decide +kernel) (by decide +kernel)
set_option maxRecDepth 20000 in
theorem gX3_ifRule_X3_isRule : GoodIn wsX3_ifRule (va_wsS RX3 136 yX3_isRule wsX3_isRule) := goodIn_app (goodIn_r _ [7, 8, 9] (by decide +kernel) (by decide +kernel)) ggX3_ifRule_X3_isRule
set_option maxRecDepth 20000 in
theorem ggX3_ifRule_X3_tryRule : GoodIn wsX3_ifRule wsX3_tryRule := goodIn_r _ [14, 6, 15, 16, 3, 17, 18, 19, 20, 21, 22, 23, 24, 25, 26, 27, 28, 29, 30, 31, 32, 33, 34, 35, 36, 37, 38, 39, 40, 41, 42, 43, 44, 45, 46, 47, 48, 49, 50, 51, 52, 53, 54, 55, 56, 57, 58, 59, 60, 61, 62, 63, 64, 65, 66, 67, 68, 69, 70, 71, 72, 73, 74, 75, 76, 77, 78, 79, 80, 81, 82, 83, 84, 93, 94, 95, 96, 97, 98, 99, 100, 106, 107, 108, 109, 110, 111, 112, 113, 114, 101, 102, 103, 104, 105] (by decide +kernel) (by decide +kernel)
set_option maxRecDepth 20000 in
theorem gX3_ifRule_X3_tryRule : GoodIn wsX3_ifRule (wsV RX3 200 RX3 yX3_tryRule wsX3_tryRule) := goodIn_app (goodIn_r _ [11, 12, 13, 9] (by decide +kernel) (by decide +kernel)) ggX3_ifRule_X3_tryRule
set_option maxRecDepth 20000 in
theorem ggX3_ifRule_X0_waitOfAll : GoodIn wsX3_ifRule wsX0_waitOfAll := goodIn_r _ [88, 39, 89, 90, 91, 34, 92, 40, 71, 72, 73, 74, 75, 42, 43, 44, 45, 46, 76, 56, 57, 20, 58, 28, 106, 107, 108, 109, 110, 111, 112, 113, 114, 101, 102, 103, 104, 105] (by decide +kernel) (by decide +kernel)
set_option maxRecDepth 20000 in
theorem gX3_ifRule_X0_waitOfAll : GoodIn wsX3_ifRule (wsV RX3 193 RX0 yX0_waitOfAll wsX0_waitOfAll) := goodIn_app (goodIn_r _ [85, 86, 87, 34] (by decide +kernel) (by decide +kernel)) ggX3_ifRule_X0_waitOfAll
theorem dX3_ifRule_0 : decode cX3_ifRule 0 = .ok (.iload_n 1, 1) := by decide +kernel
theorem dX3_ifRule_1 : decode cX3_ifRule 1 = .ok (.invokestatic 136, 3) := by decide +kernel
theorem dX3_ifRule_4 : decode cX3_ifRule 4 = .ok (.ifCond .eq 12, 3) := by decide +kernel
theorem dX3_ifRule_7 : decode cX3_ifRule 7 = .ok (.iload_n 2, 1) := by decide +kernel
theorem dX3_ifRule_8 : decode cX3_ifRule 8 = .ok (.ifCond .lt 8, 3) := by decide +kernel
theorem dX3_ifRule_11 : decode cX3_ifRule 11 = .ok (.iload_n 2, 1) := by decide +kernel
theorem dX3_ifRule_12 : decode cX3_ifRule 12 = .ok (.iconst 3, 1) := by decide +kernel
theorem dX3_ifRule_13 : decode cX3_ifRule 13 = .ok (.if_icmp .lt 11, 3) := by decide +kernel
theorem dX3_ifRule_16 : decode cX3_ifRule 16 = .ok (.new 58, 3) := by decide +kernel
theorem dX3_ifRule_19 : decode cX3_ifRule 19 = .ok (.dup, 1) := by decide +kernel
theorem dX3_ifRule_20 : decode cX3_ifRule 20 = .ok (.invokespecial 60, 3) := by decide +kernel
theorem dX3_ifRule_23 : decode cX3_ifRule 23 = .ok (.athrow, 1) := by decide +kernel
theorem dX3_ifRule_24 : decode cX3_ifRule 24 = .ok (.aload_n 0, 1) := by decide +kernel
theorem dX3_ifRule_25 : decode cX3_ifRule 25 = .ok (.iload_n 1, 1) := by decide +kernel
theorem dX3_ifRule_26 : decode cX3_ifRule 26 = .ok (.invokevirtual 200, 3) := by decide +kernel
theorem dX3_ifRule_29 : decode cX3_ifRule 29 = .ok (.iload_n 2, 1) := by decide +kernel
theorem dX3_ifRule_30 : decode cX3_ifRule 30 = .ok (.lookupswitch 42 #[(0, 26), (1, 34)], 26) := by decide +kernel
theorem dX3_ifRule_56 : decode cX3_ifRule 56 = .ok (.aload_n 0, 1) := by decide +kernel
theorem dX3_ifRule_57 : decode cX3_ifRule 57 = .ok (.getfield 26, 3) := by decide +kernel
theorem dX3_ifRule_60 : decode cX3_ifRule 60 = .ok (.getfield 112, 3) := by decide +kernel
theorem dX3_ifRule_63 : decode cX3_ifRule 63 = .ok (.ireturn, 1) := by decide +kernel
theorem dX3_ifRule_64 : decode cX3_ifRule 64 = .ok (.aload_n 0, 1) := by decide +kernel
theorem dX3_ifRule_65 : decode cX3_ifRule 65 = .ok (.getfield 26, 3) := by decide +kernel
theorem dX3_ifRule_68 : decode cX3_ifRule 68 = .ok (.getfield 133, 3) := by decide +kernel
theorem dX3_ifRule_71 : decode cX3_ifRule 71 = .ok (.ireturn, 1) := by decide +kernel
theorem dX3_ifRule_72 : decode cX3_ifRule 72 = .ok (.aload_n 0, 1) := by decide +kernel
theorem dX3_ifRule_73 : decode cX3_ifRule 73 = .ok (.getfield 26, 3) := by decide +kernel
theorem dX3_ifRule_76 : decode cX3_ifRule 76 = .ok (.aload_n 0, 1) := by decide +kernel
theorem dX3_ifRule_77 : decode cX3_ifRule 77 = .ok (.getfield 23, 3) := by decide +kernel
theorem dX3_ifRule_80 : decode cX3_ifRule 80 = .ok (.invokevirtual 193, 3) := by decide +kernel
theorem dX3_ifRule_83 : decode cX3_ifRule 83 = .ok (.ireturn, 1) := by decide +kernel
set_option maxRecDepth 20000 in
theorem ggX3_worstSlip_X3_isSlip : GoodIn wsX3_worstSlip wsX3_isSlip := goodIn_r _ [14] (by decide +kernel) (by decide +kernel)
set_option maxRecDepth 20000 in
theorem gX3_worstSlip_X3_isSlip : GoodIn wsX3_worstSlip (va_wsS RX3 106 yX3_isSlip wsX3_isSlip) := goodIn_app (goodIn_r _ [11, 12, 13] (by decide +kernel) (by decide +kernel)) ggX3_worstSlip_X3_isSlip
set_option maxRecDepth 20000 in
theorem ggX3_worstSlip_X3_couldSlip : GoodIn wsX3_worstSlip wsX3_couldSlip := goodIn_r _ [18, 7, 8, 87, 88, 89, 90, 91, 92, 93, 94, 104, 105, 106, 107, 108] (by decide +kernel) (by decide +kernel)
set_option maxRecDepth 20000 in
theorem gX3_worstSlip_X3_couldSlip : GoodIn wsX3_worstSlip (wsV RX3 109 RX3 yX3_couldSlip wsX3_couldSlip) := goodIn_app (goodIn_r _ [15, 16, 17, 13] (by decide +kernel) (by decide +kernel)) ggX3_worstSlip_X3_couldSlip
set_option maxRecDepth 20000 in
theorem ggX3_worstSlip_X1_copyFrom : GoodIn wsX3_worstSlip wsX1_copyFrom := goodIn_r _ [23, 24, 25, 26, 27, 28, 29, 30, 31, 32, 95, 96, 97, 98, 99, 100, 101, 102, 103] (by decide +kernel) (by decide +kernel)
set_option maxRecDepth 20000 in
theorem gX3_worstSlip_X1_copyFrom : GoodIn wsX3_worstSlip (wsV RX3 154 RX1 yX1_copyFrom wsX1_copyFrom) := goodIn_app (goodIn_r _ [19, 20, 21, 22] (by decide +kernel) (by decide +kernel)) ggX3_worstSlip_X1_copyFrom
set_option maxRecDepth 20000 in
theorem ggX3_worstSlip_X0_lay : GoodIn wsX3_worstSlip wsX0_lay := goodIn_r _ [37, 38, 39, 40, 41, 42, 43, 44, 45, 46, 47, 48, 49, 50, 51, 22, 52, 25, 26, 29, 53, 54, 55, 56, 24, 57, 58, 59, 60, 30, 61, 62, 63, 36, 64, 65, 66, 67, 68, 69, 70, 71, 72, 73, 74, 75, 76, 77, 78, 79, 80, 81, 82, 83, 84, 85, 86, 27, 28, 104, 105, 106, 107, 108, 95, 96, 97, 98, 99, 100, 101, 102, 103] (by decide +kernel) (by decide +kernel)
set_option maxRecDepth 20000 in
theorem gX3_worstSlip_X0_lay : GoodIn wsX3_worstSlip (wsV RX3 74 RX0 yX0_lay wsX0_lay) := goodIn_app (goodIn_r _ [33, 34, 35, 36] (by decide +kernel) (by decide +kernel)) ggX3_worstSlip_X0_lay
theorem dX3_worstSlip_0 : decode cX3_worstSlip 0 = .ok (.iload_n 1, 1) := by decide +kernel
theorem dX3_worstSlip_1 : decode cX3_worstSlip 1 = .ok (.invokestatic 106, 3) := by decide +kernel
theorem dX3_worstSlip_4 : decode cX3_worstSlip 4 = .ok (.ifCond .ne 11, 3) := by decide +kernel
theorem dX3_worstSlip_7 : decode cX3_worstSlip 7 = .ok (.new 58, 3) := by decide +kernel
theorem dX3_worstSlip_10 : decode cX3_worstSlip 10 = .ok (.dup, 1) := by decide +kernel
theorem dX3_worstSlip_11 : decode cX3_worstSlip 11 = .ok (.invokespecial 60, 3) := by decide +kernel
theorem dX3_worstSlip_14 : decode cX3_worstSlip 14 = .ok (.athrow, 1) := by decide +kernel
theorem dX3_worstSlip_15 : decode cX3_worstSlip 15 = .ok (.iconst (-1), 1) := by decide +kernel
theorem dX3_worstSlip_16 : decode cX3_worstSlip 16 = .ok (.istore_n 2, 1) := by decide +kernel
theorem dX3_worstSlip_17 : decode cX3_worstSlip 17 = .ok (.iconst (-1), 1) := by decide +kernel
theorem dX3_worstSlip_18 : decode cX3_worstSlip 18 = .ok (.istore_n 3, 1) := by decide +kernel
theorem dX3_worstSlip_19 : decode cX3_worstSlip 19 = .ok (.iconst 0, 1) := by decide +kernel
theorem dX3_worstSlip_20 : decode cX3_worstSlip 20 = .ok (.istore 4, 2) := by decide +kernel
theorem dX3_worstSlip_22 : decode cX3_worstSlip 22 = .ok (.iload 4, 2) := by decide +kernel
theorem dX3_worstSlip_24 : decode cX3_worstSlip 24 = .ok (.aload_n 0, 1) := by decide +kernel
theorem dX3_worstSlip_25 : decode cX3_worstSlip 25 = .ok (.getfield 10, 3) := by decide +kernel
theorem dX3_worstSlip_28 : decode cX3_worstSlip 28 = .ok (.getfield 61, 3) := by decide +kernel
theorem dX3_worstSlip_31 : decode cX3_worstSlip 31 = .ok (.if_icmp .ge 85, 3) := by decide +kernel
theorem dX3_worstSlip_34 : decode cX3_worstSlip 34 = .ok (.aload_n 0, 1) := by decide +kernel
theorem dX3_worstSlip_35 : decode cX3_worstSlip 35 = .ok (.iload 4, 2) := by decide +kernel
theorem dX3_worstSlip_37 : decode cX3_worstSlip 37 = .ok (.iload_n 1, 1) := by decide +kernel
theorem dX3_worstSlip_38 : decode cX3_worstSlip 38 = .ok (.invokevirtual 109, 3) := by decide +kernel
theorem dX3_worstSlip_41 : decode cX3_worstSlip 41 = .ok (.ifCond .eq 69, 3) := by decide +kernel
theorem dX3_worstSlip_44 : decode cX3_worstSlip 44 = .ok (.aload_n 0, 1) := by decide +kernel
theorem dX3_worstSlip_45 : decode cX3_worstSlip 45 = .ok (.getfield 23, 3) := by decide +kernel
theorem dX3_worstSlip_48 : decode cX3_worstSlip 48 = .ok (.aload_n 0, 1) := by decide +kernel
theorem dX3_worstSlip_49 : decode cX3_worstSlip 49 = .ok (.getfield 10, 3) := by decide +kernel
theorem dX3_worstSlip_52 : decode cX3_worstSlip 52 = .ok (.invokevirtual 154, 3) := by decide +kernel
theorem dX3_worstSlip_55 : decode cX3_worstSlip 55 = .ok (.aload_n 0, 1) := by decide +kernel
theorem dX3_worstSlip_56 : decode cX3_worstSlip 56 = .ok (.getfield 23, 3) := by decide +kernel
theorem dX3_worstSlip_59 : decode cX3_worstSlip 59 = .ok (.getfield 115, 3) := by decide +kernel
theorem dX3_worstSlip_62 : decode cX3_worstSlip 62 = .ok (.iload 4, 2) := by decide +kernel
theorem dX3_worstSlip_64 : decode cX3_worstSlip 64 = .ok (.aload_n 0, 1) := by decide +kernel
theorem dX3_worstSlip_65 : decode cX3_worstSlip 65 = .ok (.getfield 19, 3) := by decide +kernel
theorem dX3_worstSlip_68 : decode cX3_worstSlip 68 = .ok (.getfield 118, 3) := by decide +kernel
theorem dX3_worstSlip_71 : decode cX3_worstSlip 71 = .ok (.iload 4, 2) := by decide +kernel
theorem dX3_worstSlip_73 : decode cX3_worstSlip 73 = .ok (.iaload, 1) := by decide +kernel
theorem dX3_worstSlip_74 : decode cX3_worstSlip 74 = .ok (.iload_n 1, 1) := by decide +kernel
theorem dX3_worstSlip_75 : decode cX3_worstSlip 75 = .ok (.iadd, 1) := by decide +kernel
theorem dX3_worstSlip_76 : decode cX3_worstSlip 76 = .ok (.iastore, 1) := by decide +kernel
theorem dX3_worstSlip_77 : decode cX3_worstSlip 77 = .ok (.aload_n 0, 1) := by decide +kernel
theorem dX3_worstSlip_78 : decode cX3_worstSlip 78 = .ok (.getfield 26, 3) := by decide +kernel
theorem dX3_worstSlip_81 : decode cX3_worstSlip 81 = .ok (.aload_n 0, 1) := by decide +kernel
theorem dX3_worstSlip_82 : decode cX3_worstSlip 82 = .ok (.getfield 23, 3) := by decide +kernel
theorem dX3_worstSlip_85 : decode cX3_worstSlip 85 = .ok (.invokevirtual 74, 3) := by decide +kernel
theorem dX3_worstSlip_88 : decode cX3_worstSlip 88 = .ok (.aload_n 0, 1) := by decide +kernel
theorem dX3_worstSlip_89 : decode cX3_worstSlip 89 = .ok (.getfield 26, 3) := by decide +kernel
theorem dX3_worstSlip_92 : decode cX3_worstSlip 92 = .ok (.getfield 112, 3) := by decide +kernel
theorem dX3_worstSlip_95 : decode cX3_worstSlip 95 = .ok (.iload_n 3, 1) := by decide +kernel
theorem dX3_worstSlip_96 : decode cX3_worstSlip 96 = .ok (.if_icmp .le 14, 3) := by decide +kernel
theorem dX3_worstSlip_99 : decode cX3_worstSlip 99 = .ok (.iload 4, 2) := by decide +kernel
theorem dX3_worstSlip_101 : decode cX3_worstSlip 101 = .ok (.istore_n 2, 1) := by decide +kernel
theorem dX3_worstSlip_102 : decode cX3_worstSlip 102 = .ok (.aload_n 0, 1) := by decide +kernel
theorem dX3_worstSlip_103 : decode cX3_worstSlip 103 = .ok (.getfield 26, 3) := by decide +kernel
theorem dX3_worstSlip_106 : decode cX3_worstSlip 106 = .ok (.getfield 112, 3) := by decide +kernel
theorem dX3_worstSlip_109 : decode cX3_worstSlip 109 = .ok (.istore_n 3, 1) := by decide +kernel
theorem dX3_worstSlip_110 : decode cX3_worstSlip 110 = .ok (.iinc 4 1, 3) := by decide +kernel
theorem dX3_worstSlip_113 : decode cX3_worstSlip 113 = .ok (.goto (-91), 3) := by decide +kernel
theorem dX3_worstSlip_116 : decode cX3_worstSlip 116 = .ok (.iload_n 2, 1) := by decide +kernel
theorem dX3_worstSlip_117 : decode cX3_worstSlip 117 = .ok (.ireturn, 1) := by decide +kernel
set_option maxRecDepth 20000 in
theorem ggX3_busyness_X0_lengthOfLaid : GoodIn wsX3_busyness wsX0_lengthOfLaid := goodIn_r _ [8, 9, 10, 11, 25, 26, 27, 28, 29, 30, 31, 32, 33, 20, 21, 22, 23, 24] (by decide +kernel) (by decide +kernel)
set_option maxRecDepth 20000 in
theorem gX3_busyness_X0_lengthOfLaid : GoodIn wsX3_busyness (wsV RX3 203 RX0 yX0_lengthOfLaid wsX0_lengthOfLaid) := goodIn_app (goodIn_r _ [4, 5, 6, 7] (by decide +kernel) (by decide +kernel)) ggX3_busyness_X0_lengthOfLaid
theorem dX3_busyness_0 : decode cX3_busyness 0 = .ok (.aload_n 0, 1) := by decide +kernel
theorem dX3_busyness_1 : decode cX3_busyness 1 = .ok (.getfield 19, 3) := by decide +kernel
theorem dX3_busyness_4 : decode cX3_busyness 4 = .ok (.getfield 112, 3) := by decide +kernel
theorem dX3_busyness_7 : decode cX3_busyness 7 = .ok (.istore_n 1, 1) := by decide +kernel
theorem dX3_busyness_8 : decode cX3_busyness 8 = .ok (.iload_n 1, 1) := by decide +kernel
theorem dX3_busyness_9 : decode cX3_busyness 9 = .ok (.ifCond .gt 5, 3) := by decide +kernel
theorem dX3_busyness_12 : decode cX3_busyness 12 = .ok (.dconst 0, 1) := by decide +kernel
theorem dX3_busyness_13 : decode cX3_busyness 13 = .ok (.dreturn, 1) := by decide +kernel
theorem dX3_busyness_14 : decode cX3_busyness 14 = .ok (.aload_n 0, 1) := by decide +kernel
theorem dX3_busyness_15 : decode cX3_busyness 15 = .ok (.getfield 19, 3) := by decide +kernel
theorem dX3_busyness_18 : decode cX3_busyness 18 = .ok (.aload_n 0, 1) := by decide +kernel
theorem dX3_busyness_19 : decode cX3_busyness 19 = .ok (.getfield 10, 3) := by decide +kernel
theorem dX3_busyness_22 : decode cX3_busyness 22 = .ok (.invokevirtual 203, 3) := by decide +kernel
theorem dX3_busyness_25 : decode cX3_busyness 25 = .ok (.i2d, 1) := by decide +kernel
theorem dX3_busyness_26 : decode cX3_busyness 26 = .ok (.iload_n 1, 1) := by decide +kernel
theorem dX3_busyness_27 : decode cX3_busyness 27 = .ok (.i2d, 1) := by decide +kernel
theorem dX3_busyness_28 : decode cX3_busyness 28 = .ok (.ddiv, 1) := by decide +kernel
theorem dX3_busyness_29 : decode cX3_busyness 29 = .ok (.dreturn, 1) := by decide +kernel
theorem dX3_isTask_0 : decode cX3_isTask 0 = .ok (.iload_n 1, 1) := by decide +kernel
theorem dX3_isTask_1 : decode cX3_isTask 1 = .ok (.ifCond .lt 18, 3) := by decide +kernel
theorem dX3_isTask_4 : decode cX3_isTask 4 = .ok (.iload_n 1, 1) := by decide +kernel
theorem dX3_isTask_5 : decode cX3_isTask 5 = .ok (.aload_n 0, 1) := by decide +kernel
theorem dX3_isTask_6 : decode cX3_isTask 6 = .ok (.getfield 10, 3) := by decide +kernel
theorem dX3_isTask_9 : decode cX3_isTask 9 = .ok (.getfield 61, 3) := by decide +kernel
theorem dX3_isTask_12 : decode cX3_isTask 12 = .ok (.if_icmp .ge 7, 3) := by decide +kernel
theorem dX3_isTask_15 : decode cX3_isTask 15 = .ok (.iconst 1, 1) := by decide +kernel
theorem dX3_isTask_16 : decode cX3_isTask 16 = .ok (.goto 4, 3) := by decide +kernel
theorem dX3_isTask_19 : decode cX3_isTask 19 = .ok (.iconst 0, 1) := by decide +kernel
theorem dX3_isTask_20 : decode cX3_isTask 20 = .ok (.ireturn, 1) := by decide +kernel
theorem dX3_isLength_0 : decode cX3_isLength 0 = .ok (.iload_n 0, 1) := by decide +kernel
theorem dX3_isLength_1 : decode cX3_isLength 1 = .ok (.iconst 1, 1) := by decide +kernel
theorem dX3_isLength_2 : decode cX3_isLength 2 = .ok (.if_icmp .lt 13, 3) := by decide +kernel
theorem dX3_isLength_5 : decode cX3_isLength 5 = .ok (.iload_n 0, 1) := by decide +kernel
theorem dX3_isLength_6 : decode cX3_isLength 6 = .ok (.bipush 9, 2) := by decide +kernel
theorem dX3_isLength_8 : decode cX3_isLength 8 = .ok (.if_icmp .gt 7, 3) := by decide +kernel
theorem dX3_isLength_11 : decode cX3_isLength 11 = .ok (.iconst 1, 1) := by decide +kernel
theorem dX3_isLength_12 : decode cX3_isLength 12 = .ok (.goto 4, 3) := by decide +kernel
theorem dX3_isLength_15 : decode cX3_isLength 15 = .ok (.iconst 0, 1) := by decide +kernel
theorem dX3_isLength_16 : decode cX3_isLength 16 = .ok (.ireturn, 1) := by decide +kernel
theorem dX3_isPerson_0 : decode cX3_isPerson 0 = .ok (.iload_n 0, 1) := by decide +kernel
theorem dX3_isPerson_1 : decode cX3_isPerson 1 = .ok (.ifCond .lt 13, 3) := by decide +kernel
theorem dX3_isPerson_4 : decode cX3_isPerson 4 = .ok (.iload_n 0, 1) := by decide +kernel
theorem dX3_isPerson_5 : decode cX3_isPerson 5 = .ok (.bipush 6, 2) := by decide +kernel
theorem dX3_isPerson_7 : decode cX3_isPerson 7 = .ok (.if_icmp .ge 7, 3) := by decide +kernel
theorem dX3_isPerson_10 : decode cX3_isPerson 10 = .ok (.iconst 1, 1) := by decide +kernel
theorem dX3_isPerson_11 : decode cX3_isPerson 11 = .ok (.goto 4, 3) := by decide +kernel
theorem dX3_isPerson_14 : decode cX3_isPerson 14 = .ok (.iconst 0, 1) := by decide +kernel
theorem dX3_isPerson_15 : decode cX3_isPerson 15 = .ok (.ireturn, 1) := by decide +kernel
set_option maxRecDepth 20000 in
theorem ggX3_isPersonOrNone_X3_isPerson : GoodIn wsX3_isPersonOrNone wsX3_isPerson := goodIn_r _ [4] (by decide +kernel) (by decide +kernel)
set_option maxRecDepth 20000 in
theorem gX3_isPersonOrNone_X3_isPerson : GoodIn wsX3_isPersonOrNone (va_wsS RX3 168 yX3_isPerson wsX3_isPerson) := goodIn_app (goodIn_r _ [1, 2, 3] (by decide +kernel) (by decide +kernel)) ggX3_isPersonOrNone_X3_isPerson
theorem dX3_isPersonOrNone_0 : decode cX3_isPersonOrNone 0 = .ok (.iload_n 0, 1) := by decide +kernel
theorem dX3_isPersonOrNone_1 : decode cX3_isPersonOrNone 1 = .ok (.iconst (-1), 1) := by decide +kernel
theorem dX3_isPersonOrNone_2 : decode cX3_isPersonOrNone 2 = .ok (.if_icmp .eq 10, 3) := by decide +kernel
theorem dX3_isPersonOrNone_5 : decode cX3_isPersonOrNone 5 = .ok (.iload_n 0, 1) := by decide +kernel
theorem dX3_isPersonOrNone_6 : decode cX3_isPersonOrNone 6 = .ok (.invokestatic 168, 3) := by decide +kernel
theorem dX3_isPersonOrNone_9 : decode cX3_isPersonOrNone 9 = .ok (.ifCond .eq 7, 3) := by decide +kernel
theorem dX3_isPersonOrNone_12 : decode cX3_isPersonOrNone 12 = .ok (.iconst 1, 1) := by decide +kernel
theorem dX3_isPersonOrNone_13 : decode cX3_isPersonOrNone 13 = .ok (.goto 4, 3) := by decide +kernel
theorem dX3_isPersonOrNone_16 : decode cX3_isPersonOrNone 16 = .ok (.iconst 0, 1) := by decide +kernel
theorem dX3_isPersonOrNone_17 : decode cX3_isPersonOrNone 17 = .ok (.ireturn, 1) := by decide +kernel
theorem dX3_isHall_0 : decode cX3_isHall 0 = .ok (.iload_n 0, 1) := by decide +kernel
theorem dX3_isHall_1 : decode cX3_isHall 1 = .ok (.ifCond .lt 12, 3) := by decide +kernel
theorem dX3_isHall_4 : decode cX3_isHall 4 = .ok (.iload_n 0, 1) := by decide +kernel
theorem dX3_isHall_5 : decode cX3_isHall 5 = .ok (.iconst 4, 1) := by decide +kernel
theorem dX3_isHall_6 : decode cX3_isHall 6 = .ok (.if_icmp .ge 7, 3) := by decide +kernel
theorem dX3_isHall_9 : decode cX3_isHall 9 = .ok (.iconst 1, 1) := by decide +kernel
theorem dX3_isHall_10 : decode cX3_isHall 10 = .ok (.goto 4, 3) := by decide +kernel
theorem dX3_isHall_13 : decode cX3_isHall 13 = .ok (.iconst 0, 1) := by decide +kernel
theorem dX3_isHall_14 : decode cX3_isHall 14 = .ok (.ireturn, 1) := by decide +kernel
set_option maxRecDepth 20000 in
theorem ggX3_isHallOrNone_X3_isHall : GoodIn wsX3_isHallOrNone wsX3_isHall := goodIn_r _ [4] (by decide +kernel) (by decide +kernel)
set_option maxRecDepth 20000 in
theorem gX3_isHallOrNone_X3_isHall : GoodIn wsX3_isHallOrNone (va_wsS RX3 121 yX3_isHall wsX3_isHall) := goodIn_app (goodIn_r _ [1, 2, 3] (by decide +kernel) (by decide +kernel)) ggX3_isHallOrNone_X3_isHall
theorem dX3_isHallOrNone_0 : decode cX3_isHallOrNone 0 = .ok (.iload_n 0, 1) := by decide +kernel
theorem dX3_isHallOrNone_1 : decode cX3_isHallOrNone 1 = .ok (.iconst (-1), 1) := by decide +kernel
theorem dX3_isHallOrNone_2 : decode cX3_isHallOrNone 2 = .ok (.if_icmp .eq 10, 3) := by decide +kernel
theorem dX3_isHallOrNone_5 : decode cX3_isHallOrNone 5 = .ok (.iload_n 0, 1) := by decide +kernel
theorem dX3_isHallOrNone_6 : decode cX3_isHallOrNone 6 = .ok (.invokestatic 121, 3) := by decide +kernel
theorem dX3_isHallOrNone_9 : decode cX3_isHallOrNone 9 = .ok (.ifCond .eq 7, 3) := by decide +kernel
theorem dX3_isHallOrNone_12 : decode cX3_isHallOrNone 12 = .ok (.iconst 1, 1) := by decide +kernel
theorem dX3_isHallOrNone_13 : decode cX3_isHallOrNone 13 = .ok (.goto 4, 3) := by decide +kernel
theorem dX3_isHallOrNone_16 : decode cX3_isHallOrNone 16 = .ok (.iconst 0, 1) := by decide +kernel
theorem dX3_isHallOrNone_17 : decode cX3_isHallOrNone 17 = .ok (.ireturn, 1) := by decide +kernel
theorem dX3_isDay_0 : decode cX3_isDay 0 = .ok (.iload_n 0, 1) := by decide +kernel
theorem dX3_isDay_1 : decode cX3_isDay 1 = .ok (.ifCond .lt 13, 3) := by decide +kernel
theorem dX3_isDay_4 : decode cX3_isDay 4 = .ok (.iload_n 0, 1) := by decide +kernel
theorem dX3_isDay_5 : decode cX3_isDay 5 = .ok (.bipush 100, 2) := by decide +kernel
theorem dX3_isDay_7 : decode cX3_isDay 7 = .ok (.if_icmp .ge 7, 3) := by decide +kernel
theorem dX3_isDay_10 : decode cX3_isDay 10 = .ok (.iconst 1, 1) := by decide +kernel
theorem dX3_isDay_11 : decode cX3_isDay 11 = .ok (.goto 4, 3) := by decide +kernel
theorem dX3_isDay_14 : decode cX3_isDay 14 = .ok (.iconst 0, 1) := by decide +kernel
theorem dX3_isDay_15 : decode cX3_isDay 15 = .ok (.ireturn, 1) := by decide +kernel
theorem dX3_isRule_0 : decode cX3_isRule 0 = .ok (.iload_n 0, 1) := by decide +kernel
theorem dX3_isRule_1 : decode cX3_isRule 1 = .ok (.ifCond .lt 12, 3) := by decide +kernel
theorem dX3_isRule_4 : decode cX3_isRule 4 = .ok (.iload_n 0, 1) := by decide +kernel
theorem dX3_isRule_5 : decode cX3_isRule 5 = .ok (.iconst 4, 1) := by decide +kernel
theorem dX3_isRule_6 : decode cX3_isRule 6 = .ok (.if_icmp .ge 7, 3) := by decide +kernel
theorem dX3_isRule_9 : decode cX3_isRule 9 = .ok (.iconst 1, 1) := by decide +kernel
theorem dX3_isRule_10 : decode cX3_isRule 10 = .ok (.goto 4, 3) := by decide +kernel
theorem dX3_isRule_13 : decode cX3_isRule 13 = .ok (.iconst 0, 1) := by decide +kernel
theorem dX3_isRule_14 : decode cX3_isRule 14 = .ok (.ireturn, 1) := by decide +kernel
theorem dX3_isSlip_0 : decode cX3_isSlip 0 = .ok (.iload_n 0, 1) := by decide +kernel
theorem dX3_isSlip_1 : decode cX3_isSlip 1 = .ok (.iconst 1, 1) := by decide +kernel
theorem dX3_isSlip_2 : decode cX3_isSlip 2 = .ok (.if_icmp .lt 13, 3) := by decide +kernel
theorem dX3_isSlip_5 : decode cX3_isSlip 5 = .ok (.iload_n 0, 1) := by decide +kernel
theorem dX3_isSlip_6 : decode cX3_isSlip 6 = .ok (.bipush 20, 2) := by decide +kernel
theorem dX3_isSlip_8 : decode cX3_isSlip 8 = .ok (.if_icmp .gt 7, 3) := by decide +kernel
theorem dX3_isSlip_11 : decode cX3_isSlip 11 = .ok (.iconst 1, 1) := by decide +kernel
theorem dX3_isSlip_12 : decode cX3_isSlip 12 = .ok (.goto 4, 3) := by decide +kernel
theorem dX3_isSlip_15 : decode cX3_isSlip 15 = .ok (.iconst 0, 1) := by decide +kernel
theorem dX3_isSlip_16 : decode cX3_isSlip 16 = .ok (.ireturn, 1) := by decide +kernel
set_option maxRecDepth 20000 in
theorem ggX3_isValue_X3_isLength : GoodIn wsX3_isValue wsX3_isLength := goodIn_r _ [4] (by decide +kernel) (by decide +kernel)
set_option maxRecDepth 20000 in
theorem gX3_isValue_X3_isLength : GoodIn wsX3_isValue (va_wsS RX3 48 yX3_isLength wsX3_isLength) := goodIn_app (goodIn_r _ [1, 2, 3] (by decide +kernel) (by decide +kernel)) ggX3_isValue_X3_isLength
set_option maxRecDepth 20000 in
theorem ggX3_isValue_X3_isPersonOrNone : GoodIn wsX3_isValue wsX3_isPersonOrNone := goodIn_r _ [7, 8, 9, 3, 10] (by decide +kernel) (by decide +kernel)
set_option maxRecDepth 20000 in
theorem gX3_isValue_X3_isPersonOrNone : GoodIn wsX3_isValue (va_wsS RX3 52 yX3_isPersonOrNone wsX3_isPersonOrNone) := goodIn_app (goodIn_r _ [5, 6, 3] (by decide +kernel) (by decide +kernel)) ggX3_isValue_X3_isPersonOrNone
set_option maxRecDepth 20000 in
theorem ggX3_isValue_X3_isHallOrNone : GoodIn wsX3_isValue wsX3_isHallOrNone := goodIn_r _ [13, 14, 15, 3, 16] (by decide +kernel) (by decide +kernel)
set_option maxRecDepth 20000 in
theorem gX3_isValue_X3_isHallOrNone : GoodIn wsX3_isValue (va_wsS RX3 55 yX3_isHallOrNone wsX3_isHallOrNone) := goodIn_app (goodIn_r _ [11, 12, 3] (by decide +kernel) (by decide +kernel)) ggX3_isValue_X3_isHallOrNone
theorem dX3_isValue_0 : decode cX3_isValue 0 = .ok (.iload_n 0, 1) := by decide +kernel
theorem dX3_isValue_1 : decode cX3_isValue 1 = .ok (.tableswitch 62 0 3 #[31, 36, 41, 46], 31) := by decide +kernel
theorem dX3_isValue_32 : decode cX3_isValue 32 = .ok (.iload_n 1, 1) := by decide +kernel
theorem dX3_isValue_33 : decode cX3_isValue 33 = .ok (.invokestatic 48, 3) := by decide +kernel
theorem dX3_isValue_36 : decode cX3_isValue 36 = .ok (.ireturn, 1) := by decide +kernel
theorem dX3_isValue_37 : decode cX3_isValue 37 = .ok (.iload_n 1, 1) := by decide +kernel
theorem dX3_isValue_38 : decode cX3_isValue 38 = .ok (.invokestatic 52, 3) := by decide +kernel
theorem dX3_isValue_41 : decode cX3_isValue 41 = .ok (.ireturn, 1) := by decide +kernel
theorem dX3_isValue_42 : decode cX3_isValue 42 = .ok (.iload_n 1, 1) := by decide +kernel
theorem dX3_isValue_43 : decode cX3_isValue 43 = .ok (.invokestatic 55, 3) := by decide +kernel
theorem dX3_isValue_46 : decode cX3_isValue 46 = .ok (.ireturn, 1) := by decide +kernel
theorem dX3_isValue_47 : decode cX3_isValue 47 = .ok (.iload_n 1, 1) := by decide +kernel
theorem dX3_isValue_48 : decode cX3_isValue 48 = .ok (.ifCond .lt 13, 3) := by decide +kernel
theorem dX3_isValue_51 : decode cX3_isValue 51 = .ok (.iload_n 1, 1) := by decide +kernel
theorem dX3_isValue_52 : decode cX3_isValue 52 = .ok (.bipush 60, 2) := by decide +kernel
theorem dX3_isValue_54 : decode cX3_isValue 54 = .ok (.if_icmp .gt 7, 3) := by decide +kernel
theorem dX3_isValue_57 : decode cX3_isValue 57 = .ok (.iconst 1, 1) := by decide +kernel
theorem dX3_isValue_58 : decode cX3_isValue 58 = .ok (.goto 4, 3) := by decide +kernel
theorem dX3_isValue_61 : decode cX3_isValue 61 = .ok (.iconst 0, 1) := by decide +kernel
theorem dX3_isValue_62 : decode cX3_isValue 62 = .ok (.ireturn, 1) := by decide +kernel
theorem dX3_isValue_63 : decode cX3_isValue 63 = .ok (.iconst 0, 1) := by decide +kernel
theorem dX3_isValue_64 : decode cX3_isValue 64 = .ok (.ireturn, 1) := by decide +kernel
set_option maxRecDepth 20000 in
theorem ggX3_saveState_X3_dropOldest : GoodIn wsX3_saveState wsX3_dropOldest := goodIn_r _ [8, 2, 1, 23, 24, 25, 26, 27, 28, 29, 30] (by decide +kernel) (by decide +kernel)
set_option maxRecDepth 20000 in
theorem gX3_saveState_X3_dropOldest : GoodIn wsX3_saveState (wsV RX3 263 RX3 yX3_dropOldest wsX3_dropOldest) := goodIn_app (goodIn_r _ [4, 5, 6, 7] (by decide +kernel) (by decide +kernel)) ggX3_saveState_X3_dropOldest
set_option maxRecDepth 20000 in
theorem ggX3_saveState_X1_copyFrom : GoodIn wsX3_saveState wsX1_copyFrom := goodIn_r _ [13, 14, 15, 16, 17, 18, 19, 20, 21, 22, 31, 32, 33, 34, 35, 36, 37, 38, 39] (by decide +kernel) (by decide +kernel)
set_option maxRecDepth 20000 in
theorem gX3_saveState_X1_copyFrom : GoodIn wsX3_saveState (wsV RX3 154 RX1 yX1_copyFrom wsX1_copyFrom) := goodIn_app (goodIn_r _ [9, 10, 11, 12] (by decide +kernel) (by decide +kernel)) ggX3_saveState_X1_copyFrom
theorem dX3_saveState_0 : decode cX3_saveState 0 = .ok (.aload_n 0, 1) := by decide +kernel
theorem dX3_saveState_1 : decode cX3_saveState 1 = .ok (.getfield 44, 3) := by decide +kernel
theorem dX3_saveState_4 : decode cX3_saveState 4 = .ok (.bipush 6, 2) := by decide +kernel
theorem dX3_saveState_6 : decode cX3_saveState 6 = .ok (.if_icmp .lt 7, 3) := by decide +kernel
theorem dX3_saveState_9 : decode cX3_saveState 9 = .ok (.aload_n 0, 1) := by decide +kernel
theorem dX3_saveState_10 : decode cX3_saveState 10 = .ok (.invokevirtual 263, 3) := by decide +kernel
theorem dX3_saveState_13 : decode cX3_saveState 13 = .ok (.aload_n 0, 1) := by decide +kernel
theorem dX3_saveState_14 : decode cX3_saveState 14 = .ok (.getfield 29, 3) := by decide +kernel
theorem dX3_saveState_17 : decode cX3_saveState 17 = .ok (.aload_n 0, 1) := by decide +kernel
theorem dX3_saveState_18 : decode cX3_saveState 18 = .ok (.getfield 44, 3) := by decide +kernel
theorem dX3_saveState_21 : decode cX3_saveState 21 = .ok (.aaload, 1) := by decide +kernel
theorem dX3_saveState_22 : decode cX3_saveState 22 = .ok (.aload_n 0, 1) := by decide +kernel
theorem dX3_saveState_23 : decode cX3_saveState 23 = .ok (.getfield 10, 3) := by decide +kernel
theorem dX3_saveState_26 : decode cX3_saveState 26 = .ok (.invokevirtual 154, 3) := by decide +kernel
theorem dX3_saveState_29 : decode cX3_saveState 29 = .ok (.aload_n 0, 1) := by decide +kernel
theorem dX3_saveState_30 : decode cX3_saveState 30 = .ok (.dup, 1) := by decide +kernel
theorem dX3_saveState_31 : decode cX3_saveState 31 = .ok (.getfield 44, 3) := by decide +kernel
theorem dX3_saveState_34 : decode cX3_saveState 34 = .ok (.iconst 1, 1) := by decide +kernel
theorem dX3_saveState_35 : decode cX3_saveState 35 = .ok (.iadd, 1) := by decide +kernel
theorem dX3_saveState_36 : decode cX3_saveState 36 = .ok (.putfield 44, 3) := by decide +kernel
theorem dX3_saveState_39 : decode cX3_saveState 39 = .ok (.return_, 1) := by decide +kernel
theorem dX3_dropOldest_0 : decode cX3_dropOldest 0 = .ok (.aload_n 0, 1) := by decide +kernel
theorem dX3_dropOldest_1 : decode cX3_dropOldest 1 = .ok (.getfield 29, 3) := by decide +kernel
theorem dX3_dropOldest_4 : decode cX3_dropOldest 4 = .ok (.iconst 0, 1) := by decide +kernel
theorem dX3_dropOldest_5 : decode cX3_dropOldest 5 = .ok (.aaload, 1) := by decide +kernel
theorem dX3_dropOldest_6 : decode cX3_dropOldest 6 = .ok (.astore_n 1, 1) := by decide +kernel
theorem dX3_dropOldest_7 : decode cX3_dropOldest 7 = .ok (.iconst 1, 1) := by decide +kernel
theorem dX3_dropOldest_8 : decode cX3_dropOldest 8 = .ok (.istore_n 2, 1) := by decide +kernel
theorem dX3_dropOldest_9 : decode cX3_dropOldest 9 = .ok (.iload_n 2, 1) := by decide +kernel
theorem dX3_dropOldest_10 : decode cX3_dropOldest 10 = .ok (.bipush 6, 2) := by decide +kernel
theorem dX3_dropOldest_12 : decode cX3_dropOldest 12 = .ok (.if_icmp .ge 23, 3) := by decide +kernel
theorem dX3_dropOldest_15 : decode cX3_dropOldest 15 = .ok (.aload_n 0, 1) := by decide +kernel
theorem dX3_dropOldest_16 : decode cX3_dropOldest 16 = .ok (.getfield 29, 3) := by decide +kernel
theorem dX3_dropOldest_19 : decode cX3_dropOldest 19 = .ok (.iload_n 2, 1) := by decide +kernel
theorem dX3_dropOldest_20 : decode cX3_dropOldest 20 = .ok (.iconst 1, 1) := by decide +kernel
theorem dX3_dropOldest_21 : decode cX3_dropOldest 21 = .ok (.isub, 1) := by decide +kernel
theorem dX3_dropOldest_22 : decode cX3_dropOldest 22 = .ok (.aload_n 0, 1) := by decide +kernel
theorem dX3_dropOldest_23 : decode cX3_dropOldest 23 = .ok (.getfield 29, 3) := by decide +kernel
theorem dX3_dropOldest_26 : decode cX3_dropOldest 26 = .ok (.iload_n 2, 1) := by decide +kernel
theorem dX3_dropOldest_27 : decode cX3_dropOldest 27 = .ok (.aaload, 1) := by decide +kernel
theorem dX3_dropOldest_28 : decode cX3_dropOldest 28 = .ok (.aastore, 1) := by decide +kernel
theorem dX3_dropOldest_29 : decode cX3_dropOldest 29 = .ok (.iinc 2 1, 3) := by decide +kernel
theorem dX3_dropOldest_32 : decode cX3_dropOldest 32 = .ok (.goto (-23), 3) := by decide +kernel
theorem dX3_dropOldest_35 : decode cX3_dropOldest 35 = .ok (.aload_n 0, 1) := by decide +kernel
theorem dX3_dropOldest_36 : decode cX3_dropOldest 36 = .ok (.getfield 29, 3) := by decide +kernel
theorem dX3_dropOldest_39 : decode cX3_dropOldest 39 = .ok (.iconst 5, 1) := by decide +kernel
theorem dX3_dropOldest_40 : decode cX3_dropOldest 40 = .ok (.aload_n 1, 1) := by decide +kernel
theorem dX3_dropOldest_41 : decode cX3_dropOldest 41 = .ok (.aastore, 1) := by decide +kernel
theorem dX3_dropOldest_42 : decode cX3_dropOldest 42 = .ok (.aload_n 0, 1) := by decide +kernel
theorem dX3_dropOldest_43 : decode cX3_dropOldest 43 = .ok (.iconst 5, 1) := by decide +kernel
theorem dX3_dropOldest_44 : decode cX3_dropOldest 44 = .ok (.putfield 44, 3) := by decide +kernel
theorem dX3_dropOldest_47 : decode cX3_dropOldest 47 = .ok (.return_, 1) := by decide +kernel
theorem dX3_couldSlip_0 : decode cX3_couldSlip 0 = .ok (.aload_n 0, 1) := by decide +kernel
theorem dX3_couldSlip_1 : decode cX3_couldSlip 1 = .ok (.getfield 19, 3) := by decide +kernel
theorem dX3_couldSlip_4 : decode cX3_couldSlip 4 = .ok (.getfield 118, 3) := by decide +kernel
theorem dX3_couldSlip_7 : decode cX3_couldSlip 7 = .ok (.iload_n 1, 1) := by decide +kernel
theorem dX3_couldSlip_8 : decode cX3_couldSlip 8 = .ok (.iaload, 1) := by decide +kernel
theorem dX3_couldSlip_9 : decode cX3_couldSlip 9 = .ok (.istore_n 3, 1) := by decide +kernel
theorem dX3_couldSlip_10 : decode cX3_couldSlip 10 = .ok (.iload_n 3, 1) := by decide +kernel
theorem dX3_couldSlip_11 : decode cX3_couldSlip 11 = .ok (.iconst (-1), 1) := by decide +kernel
theorem dX3_couldSlip_12 : decode cX3_couldSlip 12 = .ok (.if_icmp .eq 15, 3) := by decide +kernel
theorem dX3_couldSlip_15 : decode cX3_couldSlip 15 = .ok (.iload_n 3, 1) := by decide +kernel
theorem dX3_couldSlip_16 : decode cX3_couldSlip 16 = .ok (.iload_n 2, 1) := by decide +kernel
theorem dX3_couldSlip_17 : decode cX3_couldSlip 17 = .ok (.iadd, 1) := by decide +kernel
theorem dX3_couldSlip_18 : decode cX3_couldSlip 18 = .ok (.bipush 60, 2) := by decide +kernel
theorem dX3_couldSlip_20 : decode cX3_couldSlip 20 = .ok (.if_icmp .gt 7, 3) := by decide +kernel
theorem dX3_couldSlip_23 : decode cX3_couldSlip 23 = .ok (.iconst 1, 1) := by decide +kernel
theorem dX3_couldSlip_24 : decode cX3_couldSlip 24 = .ok (.goto 4, 3) := by decide +kernel
theorem dX3_couldSlip_27 : decode cX3_couldSlip 27 = .ok (.iconst 0, 1) := by decide +kernel
theorem dX3_couldSlip_28 : decode cX3_couldSlip 28 = .ok (.ireturn, 1) := by decide +kernel
set_option maxRecDepth 20000 in
theorem ggX3_tryRule_X1_copyFrom : GoodIn wsX3_tryRule wsX1_copyFrom := goodIn_r _ [9, 10, 11, 12, 13, 14, 15, 16, 17, 18, 81, 82, 83, 84, 85, 86, 87, 88, 89] (by decide +kernel) (by decide +kernel)
set_option maxRecDepth 20000 in
theorem gX3_tryRule_X1_copyFrom : GoodIn wsX3_tryRule (wsV RX3 154 RX1 yX1_copyFrom wsX1_copyFrom) := goodIn_app (goodIn_r _ [5, 6, 7, 8] (by decide +kernel) (by decide +kernel)) ggX3_tryRule_X1_copyFrom
set_option maxRecDepth 20000 in
theorem ggX3_tryRule_X0_lay : GoodIn wsX3_tryRule wsX0_lay := goodIn_r _ [23, 24, 25, 26, 27, 28, 29, 30, 31, 32, 33, 34, 35, 36, 37, 8, 38, 11, 12, 15, 39, 40, 41, 42, 10, 43, 44, 45, 46, 16, 47, 48, 49, 22, 50, 51, 52, 53, 54, 55, 56, 57, 58, 59, 60, 61, 62, 63, 64, 65, 66, 67, 68, 69, 70, 71, 72, 13, 14, 90, 91, 92, 93, 94, 81, 82, 83, 84, 85, 86, 87, 88, 89] (by decide +kernel) (by decide +kernel)
set_option maxRecDepth 20000 in
theorem gX3_tryRule_X0_lay : GoodIn wsX3_tryRule (wsV RX3 74 RX0 yX0_lay wsX0_lay) := goodIn_app (goodIn_r _ [19, 20, 21, 22] (by decide +kernel) (by decide +kernel)) ggX3_tryRule_X0_lay
theorem dX3_tryRule_0 : decode cX3_tryRule 0 = .ok (.aload_n 0, 1) := by decide +kernel
theorem dX3_tryRule_1 : decode cX3_tryRule 1 = .ok (.getfield 23, 3) := by decide +kernel
theorem dX3_tryRule_4 : decode cX3_tryRule 4 = .ok (.aload_n 0, 1) := by decide +kernel
theorem dX3_tryRule_5 : decode cX3_tryRule 5 = .ok (.getfield 10, 3) := by decide +kernel
theorem dX3_tryRule_8 : decode cX3_tryRule 8 = .ok (.invokevirtual 154, 3) := by decide +kernel
theorem dX3_tryRule_11 : decode cX3_tryRule 11 = .ok (.aload_n 0, 1) := by decide +kernel
theorem dX3_tryRule_12 : decode cX3_tryRule 12 = .ok (.getfield 23, 3) := by decide +kernel
theorem dX3_tryRule_15 : decode cX3_tryRule 15 = .ok (.iload_n 1, 1) := by decide +kernel
theorem dX3_tryRule_16 : decode cX3_tryRule 16 = .ok (.putfield 139, 3) := by decide +kernel
theorem dX3_tryRule_19 : decode cX3_tryRule 19 = .ok (.aload_n 0, 1) := by decide +kernel
theorem dX3_tryRule_20 : decode cX3_tryRule 20 = .ok (.getfield 26, 3) := by decide +kernel
theorem dX3_tryRule_23 : decode cX3_tryRule 23 = .ok (.aload_n 0, 1) := by decide +kernel
theorem dX3_tryRule_24 : decode cX3_tryRule 24 = .ok (.getfield 23, 3) := by decide +kernel
theorem dX3_tryRule_27 : decode cX3_tryRule 27 = .ok (.invokevirtual 74, 3) := by decide +kernel
theorem dX3_tryRule_30 : decode cX3_tryRule 30 = .ok (.return_, 1) := by decide +kernel
set_option maxRecDepth 20000 in
theorem ggX3_slackOf_X1_copyFrom : GoodIn wsX3_slackOf wsX1_copyFrom := goodIn_r _ [13, 14, 15, 16, 17, 18, 19, 20, 21, 22, 90, 91, 92, 93, 94, 95, 96, 97, 98] (by decide +kernel) (by decide +kernel)
set_option maxRecDepth 20000 in
theorem gX3_slackOf_X1_copyFrom : GoodIn wsX3_slackOf (wsV RX3 154 RX1 yX1_copyFrom wsX1_copyFrom) := goodIn_app (goodIn_r _ [9, 10, 11, 12] (by decide +kernel) (by decide +kernel)) ggX3_slackOf_X1_copyFrom
set_option maxRecDepth 20000 in
theorem ggX3_slackOf_X0_lay : GoodIn wsX3_slackOf wsX0_lay := goodIn_r _ [27, 28, 29, 30, 31, 32, 33, 34, 35, 36, 37, 38, 39, 40, 41, 12, 42, 15, 16, 19, 43, 44, 45, 46, 14, 47, 48, 49, 50, 20, 51, 52, 53, 26, 54, 55, 56, 57, 58, 59, 60, 61, 62, 63, 64, 65, 66, 67, 68, 69, 70, 71, 72, 73, 74, 75, 76, 17, 18, 85, 86, 87, 88, 89, 90, 91, 92, 93, 94, 95, 96, 97, 98] (by decide +kernel) (by decide +kernel)
set_option maxRecDepth 20000 in
theorem gX3_slackOf_X0_lay : GoodIn wsX3_slackOf (wsV RX3 74 RX0 yX0_lay wsX0_lay) := goodIn_app (goodIn_r _ [23, 24, 25, 26] (by decide +kernel) (by decide +kernel)) ggX3_slackOf_X0_lay
theorem dX3_slackOf_0 : decode cX3_slackOf 0 = .ok (.aload_n 0, 1) := by decide +kernel
theorem dX3_slackOf_1 : decode cX3_slackOf 1 = .ok (.getfield 19, 3) := by decide +kernel
theorem dX3_slackOf_4 : decode cX3_slackOf 4 = .ok (.getfield 118, 3) := by decide +kernel
theorem dX3_slackOf_7 : decode cX3_slackOf 7 = .ok (.iload_n 1, 1) := by decide +kernel
theorem dX3_slackOf_8 : decode cX3_slackOf 8 = .ok (.iaload, 1) := by decide +kernel
theorem dX3_slackOf_9 : decode cX3_slackOf 9 = .ok (.istore_n 2, 1) := by decide +kernel
theorem dX3_slackOf_10 : decode cX3_slackOf 10 = .ok (.iload_n 2, 1) := by decide +kernel
theorem dX3_slackOf_11 : decode cX3_slackOf 11 = .ok (.iconst (-1), 1) := by decide +kernel
theorem dX3_slackOf_12 : decode cX3_slackOf 12 = .ok (.if_icmp .ne 5, 3) := by decide +kernel
theorem dX3_slackOf_15 : decode cX3_slackOf 15 = .ok (.iconst (-1), 1) := by decide +kernel
theorem dX3_slackOf_16 : decode cX3_slackOf 16 = .ok (.ireturn, 1) := by decide +kernel
theorem dX3_slackOf_17 : decode cX3_slackOf 17 = .ok (.aload_n 0, 1) := by decide +kernel
theorem dX3_slackOf_18 : decode cX3_slackOf 18 = .ok (.getfield 23, 3) := by decide +kernel
theorem dX3_slackOf_21 : decode cX3_slackOf 21 = .ok (.aload_n 0, 1) := by decide +kernel
theorem dX3_slackOf_22 : decode cX3_slackOf 22 = .ok (.getfield 10, 3) := by decide +kernel
theorem dX3_slackOf_25 : decode cX3_slackOf 25 = .ok (.invokevirtual 154, 3) := by decide +kernel
theorem dX3_slackOf_28 : decode cX3_slackOf 28 = .ok (.bipush 30, 2) := by decide +kernel
theorem dX3_slackOf_30 : decode cX3_slackOf 30 = .ok (.istore_n 3, 1) := by decide +kernel
theorem dX3_slackOf_31 : decode cX3_slackOf 31 = .ok (.iload_n 3, 1) := by decide +kernel
theorem dX3_slackOf_32 : decode cX3_slackOf 32 = .ok (.ifCond .le 68, 3) := by decide +kernel
theorem dX3_slackOf_35 : decode cX3_slackOf 35 = .ok (.aload_n 0, 1) := by decide +kernel
theorem dX3_slackOf_36 : decode cX3_slackOf 36 = .ok (.getfield 23, 3) := by decide +kernel
theorem dX3_slackOf_39 : decode cX3_slackOf 39 = .ok (.getfield 115, 3) := by decide +kernel
theorem dX3_slackOf_42 : decode cX3_slackOf 42 = .ok (.iload_n 1, 1) := by decide +kernel
theorem dX3_slackOf_43 : decode cX3_slackOf 43 = .ok (.iload_n 2, 1) := by decide +kernel
theorem dX3_slackOf_44 : decode cX3_slackOf 44 = .ok (.iload_n 3, 1) := by decide +kernel
theorem dX3_slackOf_45 : decode cX3_slackOf 45 = .ok (.iadd, 1) := by decide +kernel
theorem dX3_slackOf_46 : decode cX3_slackOf 46 = .ok (.iastore, 1) := by decide +kernel
theorem dX3_slackOf_47 : decode cX3_slackOf 47 = .ok (.aload_n 0, 1) := by decide +kernel
theorem dX3_slackOf_48 : decode cX3_slackOf 48 = .ok (.getfield 26, 3) := by decide +kernel
theorem dX3_slackOf_51 : decode cX3_slackOf 51 = .ok (.aload_n 0, 1) := by decide +kernel
theorem dX3_slackOf_52 : decode cX3_slackOf 52 = .ok (.getfield 23, 3) := by decide +kernel
theorem dX3_slackOf_55 : decode cX3_slackOf 55 = .ok (.invokevirtual 74, 3) := by decide +kernel
theorem dX3_slackOf_58 : decode cX3_slackOf 58 = .ok (.aload_n 0, 1) := by decide +kernel
theorem dX3_slackOf_59 : decode cX3_slackOf 59 = .ok (.getfield 26, 3) := by decide +kernel
theorem dX3_slackOf_62 : decode cX3_slackOf 62 = .ok (.getfield 133, 3) := by decide +kernel
theorem dX3_slackOf_65 : decode cX3_slackOf 65 = .ok (.aload_n 0, 1) := by decide +kernel
theorem dX3_slackOf_66 : decode cX3_slackOf 66 = .ok (.getfield 19, 3) := by decide +kernel
theorem dX3_slackOf_69 : decode cX3_slackOf 69 = .ok (.getfield 133, 3) := by decide +kernel
theorem dX3_slackOf_72 : decode cX3_slackOf 72 = .ok (.if_icmp .lt 22, 3) := by decide +kernel
theorem dX3_slackOf_75 : decode cX3_slackOf 75 = .ok (.aload_n 0, 1) := by decide +kernel
theorem dX3_slackOf_76 : decode cX3_slackOf 76 = .ok (.getfield 26, 3) := by decide +kernel
theorem dX3_slackOf_79 : decode cX3_slackOf 79 = .ok (.getfield 112, 3) := by decide +kernel
theorem dX3_slackOf_82 : decode cX3_slackOf 82 = .ok (.aload_n 0, 1) := by decide +kernel
theorem dX3_slackOf_83 : decode cX3_slackOf 83 = .ok (.getfield 19, 3) := by decide +kernel
theorem dX3_slackOf_86 : decode cX3_slackOf 86 = .ok (.getfield 112, 3) := by decide +kernel
theorem dX3_slackOf_89 : decode cX3_slackOf 89 = .ok (.if_icmp .gt 5, 3) := by decide +kernel
theorem dX3_slackOf_92 : decode cX3_slackOf 92 = .ok (.iload_n 3, 1) := by decide +kernel
theorem dX3_slackOf_93 : decode cX3_slackOf 93 = .ok (.ireturn, 1) := by decide +kernel
theorem dX3_slackOf_94 : decode cX3_slackOf 94 = .ok (.iinc 3 (-1), 3) := by decide +kernel
theorem dX3_slackOf_97 : decode cX3_slackOf 97 = .ok (.goto (-66), 3) := by decide +kernel
theorem dX3_slackOf_100 : decode cX3_slackOf 100 = .ok (.iconst 0, 1) := by decide +kernel
theorem dX3_slackOf_101 : decode cX3_slackOf 101 = .ok (.ireturn, 1) := by decide +kernel
set_option maxRecDepth 20000 in
theorem ggX3_criticalTasks_X3_slackOf : GoodIn wsX3_criticalTasks wsX3_slackOf := goodIn_r _ [7, 8, 9, 10, 1, 11, 12, 13, 14, 15, 16, 17, 18, 19, 20, 21, 22, 23, 24, 25, 26, 27, 28, 29, 30, 31, 32, 33, 34, 35, 36, 37, 38, 39, 40, 41, 42, 43, 44, 45, 46, 47, 48, 49, 50, 51, 52, 53, 54, 55, 56, 57, 58, 59, 60, 61, 62, 63, 64, 65, 66, 67, 68, 69, 70, 71, 72, 73, 74, 75, 76, 77, 78, 79, 80, 81, 82, 83, 84, 85, 86, 87, 88, 89, 90, 100, 101, 102, 103, 104, 91, 92, 93, 94, 95, 96, 97, 98, 99] (by decide +kernel) (by decide +kernel)
set_option maxRecDepth 20000 in
theorem gX3_criticalTasks_X3_slackOf : GoodIn wsX3_criticalTasks (wsV RX3 161 RX3 yX3_slackOf wsX3_slackOf) := goodIn_app (goodIn_r _ [3, 4, 5, 6] (by decide +kernel) (by decide +kernel)) ggX3_criticalTasks_X3_slackOf
theorem dX3_criticalTasks_0 : decode cX3_criticalTasks 0 = .ok (.iconst 0, 1) := by decide +kernel
theorem dX3_criticalTasks_1 : decode cX3_criticalTasks 1 = .ok (.istore_n 1, 1) := by decide +kernel
theorem dX3_criticalTasks_2 : decode cX3_criticalTasks 2 = .ok (.iconst 0, 1) := by decide +kernel
theorem dX3_criticalTasks_3 : decode cX3_criticalTasks 3 = .ok (.istore_n 2, 1) := by decide +kernel
theorem dX3_criticalTasks_4 : decode cX3_criticalTasks 4 = .ok (.iload_n 2, 1) := by decide +kernel
theorem dX3_criticalTasks_5 : decode cX3_criticalTasks 5 = .ok (.aload_n 0, 1) := by decide +kernel
theorem dX3_criticalTasks_6 : decode cX3_criticalTasks 6 = .ok (.getfield 10, 3) := by decide +kernel
theorem dX3_criticalTasks_9 : decode cX3_criticalTasks 9 = .ok (.getfield 61, 3) := by decide +kernel
theorem dX3_criticalTasks_12 : decode cX3_criticalTasks 12 = .ok (.if_icmp .ge 20, 3) := by decide +kernel
theorem dX3_criticalTasks_15 : decode cX3_criticalTasks 15 = .ok (.aload_n 0, 1) := by decide +kernel
theorem dX3_criticalTasks_16 : decode cX3_criticalTasks 16 = .ok (.iload_n 2, 1) := by decide +kernel
theorem dX3_criticalTasks_17 : decode cX3_criticalTasks 17 = .ok (.invokevirtual 161, 3) := by decide +kernel
theorem dX3_criticalTasks_20 : decode cX3_criticalTasks 20 = .ok (.ifCond .ne 6, 3) := by decide +kernel
theorem dX3_criticalTasks_23 : decode cX3_criticalTasks 23 = .ok (.iinc 1 1, 3) := by decide +kernel
theorem dX3_criticalTasks_26 : decode cX3_criticalTasks 26 = .ok (.iinc 2 1, 3) := by decide +kernel
theorem dX3_criticalTasks_29 : decode cX3_criticalTasks 29 = .ok (.goto (-25), 3) := by decide +kernel
theorem dX3_criticalTasks_32 : decode cX3_criticalTasks 32 = .ok (.iload_n 1, 1) := by decide +kernel
theorem dX3_criticalTasks_33 : decode cX3_criticalTasks 33 = .ok (.ireturn, 1) := by decide +kernel
set_option maxRecDepth 20000 in
theorem ggX3_longestRow_X1_isNeeded : GoodIn wsX3_longestRow wsX1_isNeeded := goodIn_r _ [13, 14, 23, 24, 25, 26, 27, 28, 29, 30, 31] (by decide +kernel) (by decide +kernel)
set_option maxRecDepth 20000 in
theorem gX3_longestRow_X1_isNeeded : GoodIn wsX3_longestRow (wsV RX3 92 RX1 yX1_isNeeded wsX1_isNeeded) := goodIn_app (goodIn_r _ [9, 10, 11, 12] (by decide +kernel) (by decide +kernel)) ggX3_longestRow_X1_isNeeded
theorem dX3_longestRow_0 : decode cX3_longestRow 0 = .ok (.iconst 0, 1) := by decide +kernel
theorem dX3_longestRow_1 : decode cX3_longestRow 1 = .ok (.istore_n 1, 1) := by decide +kernel
theorem dX3_longestRow_2 : decode cX3_longestRow 2 = .ok (.iconst 0, 1) := by decide +kernel
theorem dX3_longestRow_3 : decode cX3_longestRow 3 = .ok (.istore_n 2, 1) := by decide +kernel
theorem dX3_longestRow_4 : decode cX3_longestRow 4 = .ok (.iload_n 2, 1) := by decide +kernel
theorem dX3_longestRow_5 : decode cX3_longestRow 5 = .ok (.aload_n 0, 1) := by decide +kernel
theorem dX3_longestRow_6 : decode cX3_longestRow 6 = .ok (.getfield 10, 3) := by decide +kernel
theorem dX3_longestRow_9 : decode cX3_longestRow 9 = .ok (.getfield 61, 3) := by decide +kernel
theorem dX3_longestRow_12 : decode cX3_longestRow 12 = .ok (.if_icmp .ge 79, 3) := by decide +kernel
theorem dX3_longestRow_15 : decode cX3_longestRow 15 = .ok (.iconst 0, 1) := by decide +kernel
theorem dX3_longestRow_16 : decode cX3_longestRow 16 = .ok (.istore_n 3, 1) := by decide +kernel
theorem dX3_longestRow_17 : decode cX3_longestRow 17 = .ok (.iconst 0, 1) := by decide +kernel
theorem dX3_longestRow_18 : decode cX3_longestRow 18 = .ok (.istore 4, 2) := by decide +kernel
theorem dX3_longestRow_20 : decode cX3_longestRow 20 = .ok (.iload 4, 2) := by decide +kernel
theorem dX3_longestRow_22 : decode cX3_longestRow 22 = .ok (.iload_n 2, 1) := by decide +kernel
theorem dX3_longestRow_23 : decode cX3_longestRow 23 = .ok (.if_icmp .ge 34, 3) := by decide +kernel
theorem dX3_longestRow_26 : decode cX3_longestRow 26 = .ok (.aload_n 0, 1) := by decide +kernel
theorem dX3_longestRow_27 : decode cX3_longestRow 27 = .ok (.getfield 10, 3) := by decide +kernel
theorem dX3_longestRow_30 : decode cX3_longestRow 30 = .ok (.iload_n 2, 1) := by decide +kernel
theorem dX3_longestRow_31 : decode cX3_longestRow 31 = .ok (.iload 4, 2) := by decide +kernel
theorem dX3_longestRow_33 : decode cX3_longestRow 33 = .ok (.invokevirtual 92, 3) := by decide +kernel
theorem dX3_longestRow_36 : decode cX3_longestRow 36 = .ok (.ifCond .eq 15, 3) := by decide +kernel
theorem dX3_longestRow_39 : decode cX3_longestRow 39 = .ok (.iload_n 3, 1) := by decide +kernel
theorem dX3_longestRow_40 : decode cX3_longestRow 40 = .ok (.aload_n 0, 1) := by decide +kernel
theorem dX3_longestRow_41 : decode cX3_longestRow 41 = .ok (.getfield 40, 3) := by decide +kernel
theorem dX3_longestRow_44 : decode cX3_longestRow 44 = .ok (.iload 4, 2) := by decide +kernel
theorem dX3_longestRow_46 : decode cX3_longestRow 46 = .ok (.iaload, 1) := by decide +kernel
theorem dX3_longestRow_47 : decode cX3_longestRow 47 = .ok (.invokestatic 266, 3) := by decide +kernel
theorem dX3_longestRow_50 : decode cX3_longestRow 50 = .ok (.istore_n 3, 1) := by decide +kernel
theorem dX3_longestRow_51 : decode cX3_longestRow 51 = .ok (.iinc 4 1, 3) := by decide +kernel
theorem dX3_longestRow_54 : decode cX3_longestRow 54 = .ok (.goto (-34), 3) := by decide +kernel
theorem dX3_longestRow_57 : decode cX3_longestRow 57 = .ok (.aload_n 0, 1) := by decide +kernel
theorem dX3_longestRow_58 : decode cX3_longestRow 58 = .ok (.getfield 40, 3) := by decide +kernel
theorem dX3_longestRow_61 : decode cX3_longestRow 61 = .ok (.iload_n 2, 1) := by decide +kernel
theorem dX3_longestRow_62 : decode cX3_longestRow 62 = .ok (.iload_n 3, 1) := by decide +kernel
theorem dX3_longestRow_63 : decode cX3_longestRow 63 = .ok (.aload_n 0, 1) := by decide +kernel
theorem dX3_longestRow_64 : decode cX3_longestRow 64 = .ok (.getfield 10, 3) := by decide +kernel
theorem dX3_longestRow_67 : decode cX3_longestRow 67 = .ok (.getfield 271, 3) := by decide +kernel
theorem dX3_longestRow_70 : decode cX3_longestRow 70 = .ok (.iload_n 2, 1) := by decide +kernel
theorem dX3_longestRow_71 : decode cX3_longestRow 71 = .ok (.iaload, 1) := by decide +kernel
theorem dX3_longestRow_72 : decode cX3_longestRow 72 = .ok (.iadd, 1) := by decide +kernel
theorem dX3_longestRow_73 : decode cX3_longestRow 73 = .ok (.iastore, 1) := by decide +kernel
theorem dX3_longestRow_74 : decode cX3_longestRow 74 = .ok (.iload_n 1, 1) := by decide +kernel
theorem dX3_longestRow_75 : decode cX3_longestRow 75 = .ok (.aload_n 0, 1) := by decide +kernel
theorem dX3_longestRow_76 : decode cX3_longestRow 76 = .ok (.getfield 40, 3) := by decide +kernel
theorem dX3_longestRow_79 : decode cX3_longestRow 79 = .ok (.iload_n 2, 1) := by decide +kernel
theorem dX3_longestRow_80 : decode cX3_longestRow 80 = .ok (.iaload, 1) := by decide +kernel
theorem dX3_longestRow_81 : decode cX3_longestRow 81 = .ok (.invokestatic 266, 3) := by decide +kernel
theorem dX3_longestRow_84 : decode cX3_longestRow 84 = .ok (.istore_n 1, 1) := by decide +kernel
theorem dX3_longestRow_85 : decode cX3_longestRow 85 = .ok (.iinc 2 1, 3) := by decide +kernel
theorem dX3_longestRow_88 : decode cX3_longestRow 88 = .ok (.goto (-84), 3) := by decide +kernel
theorem dX3_longestRow_91 : decode cX3_longestRow 91 = .ok (.iload_n 1, 1) := by decide +kernel
theorem dX3_longestRow_92 : decode cX3_longestRow 92 = .ok (.ireturn, 1) := by decide +kernel
theorem dJ9_max_7cf53_0 : decode cJ9_max_7cf53 0 = .ok (.iload_n 0, 1) := by decide +kernel
theorem dJ9_max_7cf53_1 : decode cJ9_max_7cf53 1 = .ok (.iload_n 1, 1) := by decide +kernel
theorem dJ9_max_7cf53_2 : decode cJ9_max_7cf53 2 = .ok (.if_icmp .lt 7, 3) := by decide +kernel
theorem dJ9_max_7cf53_5 : decode cJ9_max_7cf53 5 = .ok (.iload_n 0, 1) := by decide +kernel
theorem dJ9_max_7cf53_6 : decode cJ9_max_7cf53 6 = .ok (.goto 4, 3) := by decide +kernel
theorem dJ9_max_7cf53_9 : decode cJ9_max_7cf53 9 = .ok (.iload_n 1, 1) := by decide +kernel
theorem dJ9_max_7cf53_10 : decode cJ9_max_7cf53 10 = .ok (.ireturn, 1) := by decide +kernel
theorem dL_low_0 : decode cL_low 0 = .ok (.iload_n 0, 1) := by decide +kernel
theorem dL_low_1 : decode cL_low 1 = .ok (.ldc 7, 2) := by decide +kernel
theorem dL_low_3 : decode cL_low 3 = .ok (.iand, 1) := by decide +kernel
theorem dL_low_4 : decode cL_low 4 = .ok (.iload_n 1, 1) := by decide +kernel
theorem dL_low_5 : decode cL_low 5 = .ok (.irem, 1) := by decide +kernel
theorem dL_low_6 : decode cL_low 6 = .ok (.ireturn, 1) := by decide +kernel
theorem dL_cell_0 : decode cL_cell 0 = .ok (.iload_n 1, 1) := by decide +kernel
theorem dL_cell_1 : decode cL_cell 1 = .ok (.aload_n 0, 1) := by decide +kernel
theorem dL_cell_2 : decode cL_cell 2 = .ok (.arraylength, 1) := by decide +kernel
theorem dL_cell_3 : decode cL_cell 3 = .ok (.if_icmp .ge 9, 3) := by decide +kernel
theorem dL_cell_6 : decode cL_cell 6 = .ok (.aload_n 0, 1) := by decide +kernel
theorem dL_cell_7 : decode cL_cell 7 = .ok (.iload_n 1, 1) := by decide +kernel
theorem dL_cell_8 : decode cL_cell 8 = .ok (.iaload, 1) := by decide +kernel
theorem dL_cell_9 : decode cL_cell 9 = .ok (.goto 11, 3) := by decide +kernel
theorem dL_cell_12 : decode cL_cell 12 = .ok (.ldc 8, 2) := by decide +kernel
theorem dL_cell_14 : decode cL_cell 14 = .ok (.iload_n 1, 1) := by decide +kernel
theorem dL_cell_15 : decode cL_cell 15 = .ok (.imul, 1) := by decide +kernel
theorem dL_cell_16 : decode cL_cell 16 = .ok (.sipush 977, 3) := by decide +kernel
theorem dL_cell_19 : decode cL_cell 19 = .ok (.iadd, 1) := by decide +kernel
theorem dL_cell_20 : decode cL_cell 20 = .ok (.ireturn, 1) := by decide +kernel
set_option maxRecDepth 20000 in
theorem ggL_undo_X3_undo : GoodIn wsL_undo wsX3_undo := goodIn_ca (goodIn_r _ [6, 7, 8, 9, 10, 11, 12, 13, 14, 15, 16, 17, 18, 19, 20, 21, 22, 23, 24, 25, 26, 27, 28, 29, 30, 31, 32, 33, 34, 35, 36, 37, 38, 39, 40, 41, 42, 43, 44, 45, 46, 47, 48, 49, 50, 51, 52, 53, 54, 55, 56, 57, 58, 59, 60, 61, 62, 63, 64, 65, 66, 67, 68, 69, 70, 71, 72, 73, 74, 75, 76, 77, 78, 79, 80, 81, 82, 83, 84, 85, 86, 87, 88, 89, 90, 91, 92, 93, 94, 95, 96, 97, 98, 99, 100, 101, 102] (by decide +kernel) (by decide +kernel)) (goodIn_sub (fun _ h => List.mem_cons_of_mem _ (List.mem_append_right _ h)) (by decide +kernel))
set_option maxRecDepth 20000 in
theorem gL_undo_X3_undo : GoodIn wsL_undo (wsV RL 9 RX3 yX3_undo wsX3_undo) := goodIn_app (goodIn_r _ [2, 3, 4, 5] (by decide +kernel) (by decide +kernel)) ggL_undo_X3_undo
theorem dL_undo_0 : decode cL_undo 0 = .ok (.aload_n 0, 1) := by decide +kernel
theorem dL_undo_1 : decode cL_undo 1 = .ok (.invokevirtual 9, 3) := by decide +kernel
theorem dL_undo_4 : decode cL_undo 4 = .ok (.ireturn, 1) := by decide +kernel
theorem dL_undo_5 : decode cL_undo 5 = .ok (.astore_n 1, 1) := by decide +kernel
theorem dL_undo_6 : decode cL_undo 6 = .ok (.sipush (-200), 3) := by decide +kernel
theorem dL_undo_9 : decode cL_undo 9 = .ok (.ireturn, 1) := by decide +kernel
set_option maxRecDepth 20000 in
theorem ggL_add_X3_add : GoodIn wsL_add wsX3_add := goodIn_ca (goodIn_ca (goodIn_r _ [6, 7, 8, 9, 10, 11, 12, 13, 14, 15, 5, 16, 17, 18, 19, 20, 21, 22, 23, 24, 25, 26, 27, 28, 29, 30, 31, 32, 33, 34, 35, 36, 37, 38, 39, 40, 41, 42, 43, 44, 45, 46, 47, 48, 49, 50, 51, 52, 53, 54, 55, 56, 57, 58, 59, 60, 61, 62, 63, 64, 65, 66, 67, 68, 69, 70, 71, 72, 73, 74, 75, 76, 77, 78, 79, 80, 81, 82, 83, 84, 85, 86, 87, 88, 89, 90, 91, 92, 93, 94, 95, 96, 97, 98, 99, 100, 101, 102, 103, 104, 105, 106, 107, 108, 109, 110, 111, 112, 113, 114, 115, 116, 117, 118, 119, 120, 121, 122, 123, 124, 125, 126, 127, 128, 129, 130, 131, 132] (by decide +kernel) (by decide +kernel)) (goodIn_sub (fun _ h => List.mem_cons_of_mem _ (List.mem_append_left _ (List.mem_append_right _ h))) (by decide +kernel))) (goodIn_sub (fun _ h => List.mem_cons_of_mem _ (List.mem_append_right _ h)) (by decide +kernel))
set_option maxRecDepth 20000 in
theorem gL_add_X3_add : GoodIn wsL_add (wsV RL 17 RX3 yX3_add wsX3_add) := goodIn_app (goodIn_r _ [2, 3, 4, 5] (by decide +kernel) (by decide +kernel)) ggL_add_X3_add
theorem dL_add_0 : decode cL_add 0 = .ok (.aload_n 0, 1) := by decide +kernel
theorem dL_add_1 : decode cL_add 1 = .ok (.iload_n 1, 1) := by decide +kernel
theorem dL_add_2 : decode cL_add 2 = .ok (.iload_n 2, 1) := by decide +kernel
theorem dL_add_3 : decode cL_add 3 = .ok (.iload_n 3, 1) := by decide +kernel
theorem dL_add_4 : decode cL_add 4 = .ok (.invokevirtual 17, 3) := by decide +kernel
theorem dL_add_7 : decode cL_add 7 = .ok (.ireturn, 1) := by decide +kernel
theorem dL_add_8 : decode cL_add 8 = .ok (.astore 4, 2) := by decide +kernel
theorem dL_add_10 : decode cL_add 10 = .ok (.sipush (-200), 3) := by decide +kernel
theorem dL_add_13 : decode cL_add 13 = .ok (.ireturn, 1) := by decide +kernel
set_option maxRecDepth 20000 in
theorem ggL_slip_X3_slip : GoodIn wsL_slip wsX3_slip := goodIn_ca (goodIn_ca (goodIn_ca (goodIn_r _ [6, 7, 8, 9, 10, 11, 12, 13, 14, 15, 16, 17, 18, 19, 20, 5, 21, 22, 23, 24, 25, 26, 27, 28, 29, 30, 31, 32, 33, 34, 35, 36, 37, 38, 39, 40, 41, 42, 43, 44, 45, 46, 47, 48, 49, 50, 51, 52, 53, 54, 55, 56, 57, 58, 59, 60, 61, 62, 63, 64, 65, 66, 67, 68, 69, 70, 71, 72, 73, 74, 75, 76, 77, 78, 79, 80, 81, 82, 83, 84, 85, 86, 87, 88, 89, 90, 91, 92, 93, 94, 95, 96, 97, 98, 99, 100, 101, 102, 103, 104, 105, 106, 107, 108, 109, 110, 111, 112, 113, 114, 115, 116, 117, 118, 119, 120, 121, 122, 123, 124, 125, 126, 127, 128, 129] (by decide +kernel) (by decide +kernel)) (goodIn_sub (fun _ h => List.mem_cons_of_mem _ (List.mem_append_left _ (List.mem_append_left _ (List.mem_append_right _ h)))) (by decide +kernel))) (goodIn_sub (fun _ h => List.mem_cons_of_mem _ (List.mem_append_left _ (List.mem_append_right _ h))) (by decide +kernel))) (goodIn_sub (fun _ h => List.mem_cons_of_mem _ (List.mem_append_right _ h)) (by decide +kernel))
set_option maxRecDepth 20000 in
theorem gL_slip_X3_slip : GoodIn wsL_slip (wsV RL 21 RX3 yX3_slip wsX3_slip) := goodIn_app (goodIn_r _ [2, 3, 4, 5] (by decide +kernel) (by decide +kernel)) ggL_slip_X3_slip
theorem dL_slip_0 : decode cL_slip 0 = .ok (.aload_n 0, 1) := by decide +kernel
theorem dL_slip_1 : decode cL_slip 1 = .ok (.iload_n 1, 1) := by decide +kernel
theorem dL_slip_2 : decode cL_slip 2 = .ok (.iload_n 2, 1) := by decide +kernel
theorem dL_slip_3 : decode cL_slip 3 = .ok (.invokevirtual 21, 3) := by decide +kernel
theorem dL_slip_6 : decode cL_slip 6 = .ok (.ireturn, 1) := by decide +kernel
theorem dL_slip_7 : decode cL_slip 7 = .ok (.astore_n 3, 1) := by decide +kernel
theorem dL_slip_8 : decode cL_slip 8 = .ok (.sipush (-200), 3) := by decide +kernel
theorem dL_slip_11 : decode cL_slip 11 = .ok (.ireturn, 1) := by decide +kernel
set_option maxRecDepth 20000 in
theorem ggL_plan_X3_count : GoodIn wsL_plan wsX3_count := goodIn_ca (goodIn_r _ [5, 6, 7, 8, 9, 10, 11, 12, 13, 14, 15, 16, 17, 18, 19, 20, 21, 22, 23, 4, 24, 25, 26, 27, 28, 29, 30, 31, 32, 33, 34, 35, 36, 37, 38, 39, 40, 41, 42, 43, 44, 45, 46, 47, 48, 49, 50, 51, 52, 53, 54, 55, 56, 57, 58, 59, 60, 61, 62, 63, 64, 65, 66, 67, 68, 69, 70, 71, 72, 73, 74, 75, 76, 77, 78, 79, 80, 81, 82, 83, 84, 85, 86, 87, 88, 89, 90, 91, 92, 93, 94, 95, 96, 97, 98, 99, 100, 101, 102, 103, 104, 105, 106, 107, 108, 109, 110, 111, 112, 113, 167, 168, 169, 170, 171, 172, 173, 174, 175, 176, 177, 178, 179, 180, 181, 182, 183, 184, 185, 186, 187, 188] (by decide +kernel) (by decide +kernel)) (goodIn_sub (fun _ h => List.mem_cons_of_mem _ (List.mem_append_left _ (List.mem_append_right _ h))) (by decide +kernel))
set_option maxRecDepth 20000 in
theorem gL_plan_X3_count : GoodIn wsL_plan (wsV RL 25 RX3 yX3_count wsX3_count) := goodIn_app (goodIn_r _ [1, 2, 3, 4] (by decide +kernel) (by decide +kernel)) ggL_plan_X3_count
set_option maxRecDepth 20000 in
theorem ggL_plan_X3_task : GoodIn wsL_plan wsX3_task := goodIn_ca (goodIn_ca (goodIn_r _ [117, 118, 119, 6, 7, 8, 10, 29, 120, 121, 122, 4, 123, 9, 124, 65, 66, 17, 67, 19, 68, 69, 70, 71, 41, 25, 26, 27, 28, 30, 31, 32, 11, 12, 33, 34, 35, 36, 37, 20, 38, 39, 40, 42, 43, 44, 45, 46, 47, 48, 49, 50, 51, 52, 53, 54, 55, 56, 57, 58, 59, 60, 61, 62, 63, 64, 72, 73, 74, 75, 76, 77, 78, 79, 80, 81, 82, 83, 84, 85, 86, 87, 88, 89, 90, 91, 92, 93, 94, 95, 96, 97, 125, 103, 104, 105, 126, 127, 128, 129, 167, 168, 169, 170, 171, 172, 173, 174, 184, 185, 186, 187, 188, 175, 176, 177, 178, 179, 180, 181, 182, 183] (by decide +kernel) (by decide +kernel)) (goodIn_sub (fun _ h => List.mem_cons_of_mem _ (List.mem_append_right _ h)) (by decide +kernel))) (goodIn_sub (fun _ h => List.mem_cons_of_mem _ (List.mem_append_left _ (List.mem_append_right _ h))) (by decide +kernel))
set_option maxRecDepth 20000 in
theorem gL_plan_X3_task : GoodIn wsL_plan (wsV RL 29 RX3 yX3_task wsX3_task) := goodIn_app (goodIn_r _ [114, 115, 116, 4] (by decide +kernel) (by decide +kernel)) ggL_plan_X3_task
set_option maxRecDepth 20000 in
theorem ggL_plan_X3_personOn : GoodIn wsL_plan wsX3_personOn := goodIn_ca (goodIn_r _ [133, 118, 119, 10, 8, 134, 135, 136, 4, 137, 138, 139, 140, 141, 142, 143, 47, 144, 52, 53, 55, 167, 168, 169, 170, 171, 172, 173, 174, 175, 176, 177, 178, 179, 180, 181, 182, 183, 184, 185, 186, 187, 188] (by decide +kernel) (by decide +kernel)) (goodIn_sub (fun _ h => List.mem_cons_of_mem _ (List.mem_append_right _ h)) (by decide +kernel))
set_option maxRecDepth 20000 in
theorem gL_plan_X3_personOn : GoodIn wsL_plan (wsV RL 32 RX3 yX3_personOn wsX3_personOn) := goodIn_app (goodIn_r _ [130, 131, 132, 4] (by decide +kernel) (by decide +kernel)) ggL_plan_X3_personOn
set_option maxRecDepth 20000 in
theorem ggL_plan_X3_hallOn : GoodIn wsL_plan wsX3_hallOn := goodIn_ca (goodIn_r _ [148, 118, 119, 10, 8, 149, 150, 151, 4, 152, 138, 139, 140, 141, 142, 143, 47, 144, 52, 53, 55, 167, 168, 169, 170, 171, 172, 173, 174, 175, 176, 177, 178, 179, 180, 181, 182, 183, 184, 185, 186, 187, 188] (by decide +kernel) (by decide +kernel)) (goodIn_sub (fun _ h => List.mem_cons_of_mem _ (List.mem_append_right _ h)) (by decide +kernel))
set_option maxRecDepth 20000 in
theorem gL_plan_X3_hallOn : GoodIn wsL_plan (wsV RL 35 RX3 yX3_hallOn wsX3_hallOn) := goodIn_app (goodIn_r _ [145, 146, 147, 4] (by decide +kernel) (by decide +kernel)) ggL_plan_X3_hallOn
set_option maxRecDepth 20000 in
theorem ggL_plan_X3_hall : GoodIn wsL_plan wsX3_hall := goodIn_ca (goodIn_ca (goodIn_r _ [156, 118, 119, 6, 7, 8, 157, 158, 10, 150, 151, 4, 152, 159, 160, 161, 47, 162, 52, 53, 81, 55, 163, 164, 165, 166, 167, 168, 169, 170, 171, 172, 173, 174, 175, 176, 177, 178, 179, 180, 181, 182, 183, 184, 185, 186, 187, 188] (by decide +kernel) (by decide +kernel)) (goodIn_sub (fun _ h => List.mem_cons_of_mem _ (List.mem_append_right _ h)) (by decide +kernel))) (goodIn_sub (fun _ h => List.mem_cons_of_mem _ (List.mem_append_left _ (List.mem_append_right _ h))) (by decide +kernel))
set_option maxRecDepth 20000 in
theorem gL_plan_X3_hall : GoodIn wsL_plan (wsV RL 38 RX3 yX3_hall wsX3_hall) := goodIn_app (goodIn_r _ [153, 154, 155, 4] (by decide +kernel) (by decide +kernel)) ggL_plan_X3_hall
theorem dL_plan_0 : decode cL_plan 0 = .ok (.aload_n 0, 1) := by decide +kernel
theorem dL_plan_1 : decode cL_plan 1 = .ok (.iconst 0, 1) := by decide +kernel
theorem dL_plan_2 : decode cL_plan 2 = .ok (.invokevirtual 25, 3) := by decide +kernel
theorem dL_plan_5 : decode cL_plan 5 = .ok (.istore_n 1, 1) := by decide +kernel
theorem dL_plan_6 : decode cL_plan 6 = .ok (.iconst 0, 1) := by decide +kernel
theorem dL_plan_7 : decode cL_plan 7 = .ok (.istore_n 2, 1) := by decide +kernel
theorem dL_plan_8 : decode cL_plan 8 = .ok (.iconst 0, 1) := by decide +kernel
theorem dL_plan_9 : decode cL_plan 9 = .ok (.istore_n 3, 1) := by decide +kernel
theorem dL_plan_10 : decode cL_plan 10 = .ok (.iconst 0, 1) := by decide +kernel
theorem dL_plan_11 : decode cL_plan 11 = .ok (.istore 4, 2) := by decide +kernel
theorem dL_plan_13 : decode cL_plan 13 = .ok (.iconst 0, 1) := by decide +kernel
theorem dL_plan_14 : decode cL_plan 14 = .ok (.istore 5, 2) := by decide +kernel
theorem dL_plan_16 : decode cL_plan 16 = .ok (.iconst 1, 1) := by decide +kernel
theorem dL_plan_17 : decode cL_plan 17 = .ok (.istore 6, 2) := by decide +kernel
theorem dL_plan_19 : decode cL_plan 19 = .ok (.iconst 0, 1) := by decide +kernel
theorem dL_plan_20 : decode cL_plan 20 = .ok (.istore 7, 2) := by decide +kernel
theorem dL_plan_22 : decode cL_plan 22 = .ok (.iload 7, 2) := by decide +kernel
theorem dL_plan_24 : decode cL_plan 24 = .ok (.iload_n 1, 1) := by decide +kernel
theorem dL_plan_25 : decode cL_plan 25 = .ok (.if_icmp .ge 422, 3) := by decide +kernel
theorem dL_plan_28 : decode cL_plan 28 = .ok (.iload 6, 2) := by decide +kernel
theorem dL_plan_30 : decode cL_plan 30 = .ok (.ifCond .eq 417, 3) := by decide +kernel
theorem dL_plan_33 : decode cL_plan 33 = .ok (.aload_n 0, 1) := by decide +kernel
theorem dL_plan_34 : decode cL_plan 34 = .ok (.iload 7, 2) := by decide +kernel
theorem dL_plan_36 : decode cL_plan 36 = .ok (.bipush 6, 2) := by decide +kernel
theorem dL_plan_38 : decode cL_plan 38 = .ok (.invokevirtual 29, 3) := by decide +kernel
theorem dL_plan_41 : decode cL_plan 41 = .ok (.istore 8, 2) := by decide +kernel
theorem dL_plan_43 : decode cL_plan 43 = .ok (.iload 8, 2) := by decide +kernel
theorem dL_plan_45 : decode cL_plan 45 = .ok (.aload_n 0, 1) := by decide +kernel
theorem dL_plan_46 : decode cL_plan 46 = .ok (.iload 7, 2) := by decide +kernel
theorem dL_plan_48 : decode cL_plan 48 = .ok (.iconst 0, 1) := by decide +kernel
theorem dL_plan_49 : decode cL_plan 49 = .ok (.invokevirtual 29, 3) := by decide +kernel
theorem dL_plan_52 : decode cL_plan 52 = .ok (.iadd, 1) := by decide +kernel
theorem dL_plan_53 : decode cL_plan 53 = .ok (.istore 9, 2) := by decide +kernel
theorem dL_plan_55 : decode cL_plan 55 = .ok (.aload_n 0, 1) := by decide +kernel
theorem dL_plan_56 : decode cL_plan 56 = .ok (.iload 7, 2) := by decide +kernel
theorem dL_plan_58 : decode cL_plan 58 = .ok (.iconst 4, 1) := by decide +kernel
theorem dL_plan_59 : decode cL_plan 59 = .ok (.invokevirtual 29, 3) := by decide +kernel
theorem dL_plan_62 : decode cL_plan 62 = .ok (.istore 10, 2) := by decide +kernel
theorem dL_plan_64 : decode cL_plan 64 = .ok (.iload 10, 2) := by decide +kernel
theorem dL_plan_66 : decode cL_plan 66 = .ok (.iload 7, 2) := by decide +kernel
theorem dL_plan_68 : decode cL_plan 68 = .ok (.ishr, 1) := by decide +kernel
theorem dL_plan_69 : decode cL_plan 69 = .ok (.ifCond .ne 30, 3) := by decide +kernel
theorem dL_plan_72 : decode cL_plan 72 = .ok (.aload_n 0, 1) := by decide +kernel
theorem dL_plan_73 : decode cL_plan 73 = .ok (.iload 7, 2) := by decide +kernel
theorem dL_plan_75 : decode cL_plan 75 = .ok (.iconst 0, 1) := by decide +kernel
theorem dL_plan_76 : decode cL_plan 76 = .ok (.invokevirtual 29, 3) := by decide +kernel
theorem dL_plan_79 : decode cL_plan 79 = .ok (.iconst 1, 1) := by decide +kernel
theorem dL_plan_80 : decode cL_plan 80 = .ok (.if_icmp .lt 19, 3) := by decide +kernel
theorem dL_plan_83 : decode cL_plan 83 = .ok (.aload_n 0, 1) := by decide +kernel
theorem dL_plan_84 : decode cL_plan 84 = .ok (.iload 7, 2) := by decide +kernel
theorem dL_plan_86 : decode cL_plan 86 = .ok (.iconst 0, 1) := by decide +kernel
theorem dL_plan_87 : decode cL_plan 87 = .ok (.invokevirtual 29, 3) := by decide +kernel
theorem dL_plan_90 : decode cL_plan 90 = .ok (.bipush 9, 2) := by decide +kernel
theorem dL_plan_92 : decode cL_plan 92 = .ok (.if_icmp .gt 7, 3) := by decide +kernel
theorem dL_plan_95 : decode cL_plan 95 = .ok (.iconst 1, 1) := by decide +kernel
theorem dL_plan_96 : decode cL_plan 96 = .ok (.goto 4, 3) := by decide +kernel
theorem dL_plan_99 : decode cL_plan 99 = .ok (.iconst 0, 1) := by decide +kernel
theorem dL_plan_100 : decode cL_plan 100 = .ok (.istore 6, 2) := by decide +kernel
theorem dL_plan_102 : decode cL_plan 102 = .ok (.iload_n 3, 1) := by decide +kernel
theorem dL_plan_103 : decode cL_plan 103 = .ok (.aload_n 0, 1) := by decide +kernel
theorem dL_plan_104 : decode cL_plan 104 = .ok (.iload 7, 2) := by decide +kernel
theorem dL_plan_106 : decode cL_plan 106 = .ok (.bipush 8, 2) := by decide +kernel
theorem dL_plan_108 : decode cL_plan 108 = .ok (.invokevirtual 29, 3) := by decide +kernel
theorem dL_plan_111 : decode cL_plan 111 = .ok (.iadd, 1) := by decide +kernel
theorem dL_plan_112 : decode cL_plan 112 = .ok (.istore_n 3, 1) := by decide +kernel
theorem dL_plan_113 : decode cL_plan 113 = .ok (.iload 4, 2) := by decide +kernel
theorem dL_plan_115 : decode cL_plan 115 = .ok (.aload_n 0, 1) := by decide +kernel
theorem dL_plan_116 : decode cL_plan 116 = .ok (.iload 7, 2) := by decide +kernel
theorem dL_plan_118 : decode cL_plan 118 = .ok (.bipush 7, 2) := by decide +kernel
theorem dL_plan_120 : decode cL_plan 120 = .ok (.invokevirtual 29, 3) := by decide +kernel
theorem dL_plan_123 : decode cL_plan 123 = .ok (.ifCond .ne 7, 3) := by decide +kernel
theorem dL_plan_126 : decode cL_plan 126 = .ok (.iconst 1, 1) := by decide +kernel
theorem dL_plan_127 : decode cL_plan 127 = .ok (.goto 4, 3) := by decide +kernel
theorem dL_plan_130 : decode cL_plan 130 = .ok (.iconst 0, 1) := by decide +kernel
theorem dL_plan_131 : decode cL_plan 131 = .ok (.iadd, 1) := by decide +kernel
theorem dL_plan_132 : decode cL_plan 132 = .ok (.istore 4, 2) := by decide +kernel
theorem dL_plan_134 : decode cL_plan 134 = .ok (.iload 8, 2) := by decide +kernel
theorem dL_plan_136 : decode cL_plan 136 = .ok (.ifCond .ge 41, 3) := by decide +kernel
theorem dL_plan_139 : decode cL_plan 139 = .ok (.iload 6, 2) := by decide +kernel
theorem dL_plan_141 : decode cL_plan 141 = .ok (.ifCond .eq 30, 3) := by decide +kernel
theorem dL_plan_144 : decode cL_plan 144 = .ok (.aload_n 0, 1) := by decide +kernel
theorem dL_plan_145 : decode cL_plan 145 = .ok (.iload 7, 2) := by decide +kernel
theorem dL_plan_147 : decode cL_plan 147 = .ok (.bipush 7, 2) := by decide +kernel
theorem dL_plan_149 : decode cL_plan 149 = .ok (.invokevirtual 29, 3) := by decide +kernel
theorem dL_plan_152 : decode cL_plan 152 = .ok (.iconst (-1), 1) := by decide +kernel
theorem dL_plan_153 : decode cL_plan 153 = .ok (.if_icmp .ne 18, 3) := by decide +kernel
theorem dL_plan_156 : decode cL_plan 156 = .ok (.aload_n 0, 1) := by decide +kernel
theorem dL_plan_157 : decode cL_plan 157 = .ok (.iload 7, 2) := by decide +kernel
theorem dL_plan_159 : decode cL_plan 159 = .ok (.bipush 8, 2) := by decide +kernel
theorem dL_plan_161 : decode cL_plan 161 = .ok (.invokevirtual 29, 3) := by decide +kernel
theorem dL_plan_164 : decode cL_plan 164 = .ok (.ifCond .ne 7, 3) := by decide +kernel
theorem dL_plan_167 : decode cL_plan 167 = .ok (.iconst 1, 1) := by decide +kernel
theorem dL_plan_168 : decode cL_plan 168 = .ok (.goto 4, 3) := by decide +kernel
theorem dL_plan_171 : decode cL_plan 171 = .ok (.iconst 0, 1) := by decide +kernel
theorem dL_plan_172 : decode cL_plan 172 = .ok (.istore 6, 2) := by decide +kernel
theorem dL_plan_174 : decode cL_plan 174 = .ok (.goto 267, 3) := by decide +kernel
theorem dL_plan_177 : decode cL_plan 177 = .ok (.iinc 2 1, 3) := by decide +kernel
theorem dL_plan_180 : decode cL_plan 180 = .ok (.iload 9, 2) := by decide +kernel
theorem dL_plan_182 : decode cL_plan 182 = .ok (.iload 5, 2) := by decide +kernel
theorem dL_plan_184 : decode cL_plan 184 = .ok (.if_icmp .le 8, 3) := by decide +kernel
theorem dL_plan_187 : decode cL_plan 187 = .ok (.iload 9, 2) := by decide +kernel
theorem dL_plan_189 : decode cL_plan 189 = .ok (.goto 5, 3) := by decide +kernel
theorem dL_plan_192 : decode cL_plan 192 = .ok (.iload 5, 2) := by decide +kernel
theorem dL_plan_194 : decode cL_plan 194 = .ok (.istore 5, 2) := by decide +kernel
theorem dL_plan_196 : decode cL_plan 196 = .ok (.iload 6, 2) := by decide +kernel
theorem dL_plan_198 : decode cL_plan 198 = .ok (.ifCond .eq 61, 3) := by decide +kernel
theorem dL_plan_201 : decode cL_plan 201 = .ok (.iload 8, 2) := by decide +kernel
theorem dL_plan_203 : decode cL_plan 203 = .ok (.aload_n 0, 1) := by decide +kernel
theorem dL_plan_204 : decode cL_plan 204 = .ok (.iload 7, 2) := by decide +kernel
theorem dL_plan_206 : decode cL_plan 206 = .ok (.iconst 3, 1) := by decide +kernel
theorem dL_plan_207 : decode cL_plan 207 = .ok (.invokevirtual 29, 3) := by decide +kernel
theorem dL_plan_210 : decode cL_plan 210 = .ok (.if_icmp .lt 49, 3) := by decide +kernel
theorem dL_plan_213 : decode cL_plan 213 = .ok (.iload 9, 2) := by decide +kernel
theorem dL_plan_215 : decode cL_plan 215 = .ok (.bipush 100, 2) := by decide +kernel
theorem dL_plan_217 : decode cL_plan 217 = .ok (.if_icmp .gt 42, 3) := by decide +kernel
theorem dL_plan_220 : decode cL_plan 220 = .ok (.aload_n 0, 1) := by decide +kernel
theorem dL_plan_221 : decode cL_plan 221 = .ok (.iload 7, 2) := by decide +kernel
theorem dL_plan_223 : decode cL_plan 223 = .ok (.bipush 7, 2) := by decide +kernel
theorem dL_plan_225 : decode cL_plan 225 = .ok (.invokevirtual 29, 3) := by decide +kernel
theorem dL_plan_228 : decode cL_plan 228 = .ok (.ifCond .lt 31, 3) := by decide +kernel
theorem dL_plan_231 : decode cL_plan 231 = .ok (.aload_n 0, 1) := by decide +kernel
theorem dL_plan_232 : decode cL_plan 232 = .ok (.iload 7, 2) := by decide +kernel
theorem dL_plan_234 : decode cL_plan 234 = .ok (.bipush 7, 2) := by decide +kernel
theorem dL_plan_236 : decode cL_plan 236 = .ok (.invokevirtual 29, 3) := by decide +kernel
theorem dL_plan_239 : decode cL_plan 239 = .ok (.bipush 30, 2) := by decide +kernel
theorem dL_plan_241 : decode cL_plan 241 = .ok (.if_icmp .gt 18, 3) := by decide +kernel
theorem dL_plan_244 : decode cL_plan 244 = .ok (.aload_n 0, 1) := by decide +kernel
theorem dL_plan_245 : decode cL_plan 245 = .ok (.iload 7, 2) := by decide +kernel
theorem dL_plan_247 : decode cL_plan 247 = .ok (.bipush 8, 2) := by decide +kernel
theorem dL_plan_249 : decode cL_plan 249 = .ok (.invokevirtual 29, 3) := by decide +kernel
theorem dL_plan_252 : decode cL_plan 252 = .ok (.ifCond .lt 7, 3) := by decide +kernel
theorem dL_plan_255 : decode cL_plan 255 = .ok (.iconst 1, 1) := by decide +kernel
theorem dL_plan_256 : decode cL_plan 256 = .ok (.goto 4, 3) := by decide +kernel
theorem dL_plan_259 : decode cL_plan 259 = .ok (.iconst 0, 1) := by decide +kernel
theorem dL_plan_260 : decode cL_plan 260 = .ok (.istore 6, 2) := by decide +kernel
theorem dL_plan_262 : decode cL_plan 262 = .ok (.iconst 0, 1) := by decide +kernel
theorem dL_plan_263 : decode cL_plan 263 = .ok (.istore 11, 2) := by decide +kernel
theorem dL_plan_265 : decode cL_plan 265 = .ok (.iload 11, 2) := by decide +kernel
theorem dL_plan_267 : decode cL_plan 267 = .ok (.iload 7, 2) := by decide +kernel
theorem dL_plan_269 : decode cL_plan 269 = .ok (.if_icmp .ge 63, 3) := by decide +kernel
theorem dL_plan_272 : decode cL_plan 272 = .ok (.iload 6, 2) := by decide +kernel
theorem dL_plan_274 : decode cL_plan 274 = .ok (.ifCond .eq 58, 3) := by decide +kernel
theorem dL_plan_277 : decode cL_plan 277 = .ok (.iload 10, 2) := by decide +kernel
theorem dL_plan_279 : decode cL_plan 279 = .ok (.iload 11, 2) := by decide +kernel
theorem dL_plan_281 : decode cL_plan 281 = .ok (.ishr, 1) := by decide +kernel
theorem dL_plan_282 : decode cL_plan 282 = .ok (.iconst 1, 1) := by decide +kernel
theorem dL_plan_283 : decode cL_plan 283 = .ok (.iand, 1) := by decide +kernel
theorem dL_plan_284 : decode cL_plan 284 = .ok (.ifCond .eq 35, 3) := by decide +kernel
theorem dL_plan_287 : decode cL_plan 287 = .ok (.aload_n 0, 1) := by decide +kernel
theorem dL_plan_288 : decode cL_plan 288 = .ok (.iload 11, 2) := by decide +kernel
theorem dL_plan_290 : decode cL_plan 290 = .ok (.bipush 6, 2) := by decide +kernel
theorem dL_plan_292 : decode cL_plan 292 = .ok (.invokevirtual 29, 3) := by decide +kernel
theorem dL_plan_295 : decode cL_plan 295 = .ok (.ifCond .lt 28, 3) := by decide +kernel
theorem dL_plan_298 : decode cL_plan 298 = .ok (.aload_n 0, 1) := by decide +kernel
theorem dL_plan_299 : decode cL_plan 299 = .ok (.iload 11, 2) := by decide +kernel
theorem dL_plan_301 : decode cL_plan 301 = .ok (.bipush 6, 2) := by decide +kernel
theorem dL_plan_303 : decode cL_plan 303 = .ok (.invokevirtual 29, 3) := by decide +kernel
theorem dL_plan_306 : decode cL_plan 306 = .ok (.aload_n 0, 1) := by decide +kernel
theorem dL_plan_307 : decode cL_plan 307 = .ok (.iload 11, 2) := by decide +kernel
theorem dL_plan_309 : decode cL_plan 309 = .ok (.iconst 0, 1) := by decide +kernel
theorem dL_plan_310 : decode cL_plan 310 = .ok (.invokevirtual 29, 3) := by decide +kernel
theorem dL_plan_313 : decode cL_plan 313 = .ok (.iadd, 1) := by decide +kernel
theorem dL_plan_314 : decode cL_plan 314 = .ok (.iload 8, 2) := by decide +kernel
theorem dL_plan_316 : decode cL_plan 316 = .ok (.if_icmp .gt 7, 3) := by decide +kernel
theorem dL_plan_319 : decode cL_plan 319 = .ok (.iconst 1, 1) := by decide +kernel
theorem dL_plan_320 : decode cL_plan 320 = .ok (.goto 4, 3) := by decide +kernel
theorem dL_plan_323 : decode cL_plan 323 = .ok (.iconst 0, 1) := by decide +kernel
theorem dL_plan_324 : decode cL_plan 324 = .ok (.istore 6, 2) := by decide +kernel
theorem dL_plan_326 : decode cL_plan 326 = .ok (.iinc 11 1, 3) := by decide +kernel
theorem dL_plan_329 : decode cL_plan 329 = .ok (.goto (-64), 3) := by decide +kernel
theorem dL_plan_332 : decode cL_plan 332 = .ok (.aload_n 0, 1) := by decide +kernel
theorem dL_plan_333 : decode cL_plan 333 = .ok (.iload 7, 2) := by decide +kernel
theorem dL_plan_335 : decode cL_plan 335 = .ok (.iconst 1, 1) := by decide +kernel
theorem dL_plan_336 : decode cL_plan 336 = .ok (.invokevirtual 29, 3) := by decide +kernel
theorem dL_plan_339 : decode cL_plan 339 = .ok (.istore 11, 2) := by decide +kernel
theorem dL_plan_341 : decode cL_plan 341 = .ok (.aload_n 0, 1) := by decide +kernel
theorem dL_plan_342 : decode cL_plan 342 = .ok (.iload 7, 2) := by decide +kernel
theorem dL_plan_344 : decode cL_plan 344 = .ok (.iconst 2, 1) := by decide +kernel
theorem dL_plan_345 : decode cL_plan 345 = .ok (.invokevirtual 29, 3) := by decide +kernel
theorem dL_plan_348 : decode cL_plan 348 = .ok (.istore 12, 2) := by decide +kernel
theorem dL_plan_350 : decode cL_plan 350 = .ok (.iload 8, 2) := by decide +kernel
theorem dL_plan_352 : decode cL_plan 352 = .ok (.istore 13, 2) := by decide +kernel
theorem dL_plan_354 : decode cL_plan 354 = .ok (.iload 13, 2) := by decide +kernel
theorem dL_plan_356 : decode cL_plan 356 = .ok (.iload 9, 2) := by decide +kernel
theorem dL_plan_358 : decode cL_plan 358 = .ok (.if_icmp .ge 83, 3) := by decide +kernel
theorem dL_plan_361 : decode cL_plan 361 = .ok (.iload 6, 2) := by decide +kernel
theorem dL_plan_363 : decode cL_plan 363 = .ok (.ifCond .eq 78, 3) := by decide +kernel
theorem dL_plan_366 : decode cL_plan 366 = .ok (.iload 11, 2) := by decide +kernel
theorem dL_plan_368 : decode cL_plan 368 = .ok (.iconst (-1), 1) := by decide +kernel
theorem dL_plan_369 : decode cL_plan 369 = .ok (.if_icmp .eq 16, 3) := by decide +kernel
theorem dL_plan_372 : decode cL_plan 372 = .ok (.aload_n 0, 1) := by decide +kernel
theorem dL_plan_373 : decode cL_plan 373 = .ok (.iload 11, 2) := by decide +kernel
theorem dL_plan_375 : decode cL_plan 375 = .ok (.iload 13, 2) := by decide +kernel
theorem dL_plan_377 : decode cL_plan 377 = .ok (.invokevirtual 32, 3) := by decide +kernel
theorem dL_plan_380 : decode cL_plan 380 = .ok (.iload 7, 2) := by decide +kernel
theorem dL_plan_382 : decode cL_plan 382 = .ok (.if_icmp .ne 50, 3) := by decide +kernel
theorem dL_plan_385 : decode cL_plan 385 = .ok (.iload 12, 2) := by decide +kernel
theorem dL_plan_387 : decode cL_plan 387 = .ok (.iconst (-1), 1) := by decide +kernel
theorem dL_plan_388 : decode cL_plan 388 = .ok (.if_icmp .eq 40, 3) := by decide +kernel
theorem dL_plan_391 : decode cL_plan 391 = .ok (.aload_n 0, 1) := by decide +kernel
theorem dL_plan_392 : decode cL_plan 392 = .ok (.iload 12, 2) := by decide +kernel
theorem dL_plan_394 : decode cL_plan 394 = .ok (.iload 13, 2) := by decide +kernel
theorem dL_plan_396 : decode cL_plan 396 = .ok (.invokevirtual 35, 3) := by decide +kernel
theorem dL_plan_399 : decode cL_plan 399 = .ok (.iload 7, 2) := by decide +kernel
theorem dL_plan_401 : decode cL_plan 401 = .ok (.if_icmp .ne 31, 3) := by decide +kernel
theorem dL_plan_404 : decode cL_plan 404 = .ok (.iload 13, 2) := by decide +kernel
theorem dL_plan_406 : decode cL_plan 406 = .ok (.aload_n 0, 1) := by decide +kernel
theorem dL_plan_407 : decode cL_plan 407 = .ok (.iload 12, 2) := by decide +kernel
theorem dL_plan_409 : decode cL_plan 409 = .ok (.iconst 0, 1) := by decide +kernel
theorem dL_plan_410 : decode cL_plan 410 = .ok (.invokevirtual 38, 3) := by decide +kernel
theorem dL_plan_413 : decode cL_plan 413 = .ok (.if_icmp .lt 19, 3) := by decide +kernel
theorem dL_plan_416 : decode cL_plan 416 = .ok (.iload 13, 2) := by decide +kernel
theorem dL_plan_418 : decode cL_plan 418 = .ok (.aload_n 0, 1) := by decide +kernel
theorem dL_plan_419 : decode cL_plan 419 = .ok (.iload 12, 2) := by decide +kernel
theorem dL_plan_421 : decode cL_plan 421 = .ok (.iconst 1, 1) := by decide +kernel
theorem dL_plan_422 : decode cL_plan 422 = .ok (.invokevirtual 38, 3) := by decide +kernel
theorem dL_plan_425 : decode cL_plan 425 = .ok (.if_icmp .gt 7, 3) := by decide +kernel
theorem dL_plan_428 : decode cL_plan 428 = .ok (.iconst 1, 1) := by decide +kernel
theorem dL_plan_429 : decode cL_plan 429 = .ok (.goto 4, 3) := by decide +kernel
theorem dL_plan_432 : decode cL_plan 432 = .ok (.iconst 0, 1) := by decide +kernel
theorem dL_plan_433 : decode cL_plan 433 = .ok (.istore 6, 2) := by decide +kernel
theorem dL_plan_435 : decode cL_plan 435 = .ok (.iinc 13 1, 3) := by decide +kernel
theorem dL_plan_438 : decode cL_plan 438 = .ok (.goto (-84), 3) := by decide +kernel
theorem dL_plan_441 : decode cL_plan 441 = .ok (.iinc 7 1, 3) := by decide +kernel
theorem dL_plan_444 : decode cL_plan 444 = .ok (.goto (-422), 3) := by decide +kernel
theorem dL_plan_447 : decode cL_plan 447 = .ok (.iload 6, 2) := by decide +kernel
theorem dL_plan_449 : decode cL_plan 449 = .ok (.ifCond .eq 57, 3) := by decide +kernel
theorem dL_plan_452 : decode cL_plan 452 = .ok (.iload_n 2, 1) := by decide +kernel
theorem dL_plan_453 : decode cL_plan 453 = .ok (.aload_n 0, 1) := by decide +kernel
theorem dL_plan_454 : decode cL_plan 454 = .ok (.iconst 1, 1) := by decide +kernel
theorem dL_plan_455 : decode cL_plan 455 = .ok (.invokevirtual 25, 3) := by decide +kernel
theorem dL_plan_458 : decode cL_plan 458 = .ok (.if_icmp .ne 48, 3) := by decide +kernel
theorem dL_plan_461 : decode cL_plan 461 = .ok (.iload_n 1, 1) := by decide +kernel
theorem dL_plan_462 : decode cL_plan 462 = .ok (.iload_n 2, 1) := by decide +kernel
theorem dL_plan_463 : decode cL_plan 463 = .ok (.isub, 1) := by decide +kernel
theorem dL_plan_464 : decode cL_plan 464 = .ok (.aload_n 0, 1) := by decide +kernel
theorem dL_plan_465 : decode cL_plan 465 = .ok (.iconst 2, 1) := by decide +kernel
theorem dL_plan_466 : decode cL_plan 466 = .ok (.invokevirtual 25, 3) := by decide +kernel
theorem dL_plan_469 : decode cL_plan 469 = .ok (.if_icmp .ne 37, 3) := by decide +kernel
theorem dL_plan_472 : decode cL_plan 472 = .ok (.iload 5, 2) := by decide +kernel
theorem dL_plan_474 : decode cL_plan 474 = .ok (.aload_n 0, 1) := by decide +kernel
theorem dL_plan_475 : decode cL_plan 475 = .ok (.iconst 3, 1) := by decide +kernel
theorem dL_plan_476 : decode cL_plan 476 = .ok (.invokevirtual 25, 3) := by decide +kernel
theorem dL_plan_479 : decode cL_plan 479 = .ok (.if_icmp .ne 27, 3) := by decide +kernel
theorem dL_plan_482 : decode cL_plan 482 = .ok (.iload_n 3, 1) := by decide +kernel
theorem dL_plan_483 : decode cL_plan 483 = .ok (.aload_n 0, 1) := by decide +kernel
theorem dL_plan_484 : decode cL_plan 484 = .ok (.bipush 6, 2) := by decide +kernel
theorem dL_plan_486 : decode cL_plan 486 = .ok (.invokevirtual 25, 3) := by decide +kernel
theorem dL_plan_489 : decode cL_plan 489 = .ok (.if_icmp .ne 17, 3) := by decide +kernel
theorem dL_plan_492 : decode cL_plan 492 = .ok (.iload 4, 2) := by decide +kernel
theorem dL_plan_494 : decode cL_plan 494 = .ok (.aload_n 0, 1) := by decide +kernel
theorem dL_plan_495 : decode cL_plan 495 = .ok (.iconst 5, 1) := by decide +kernel
theorem dL_plan_496 : decode cL_plan 496 = .ok (.invokevirtual 25, 3) := by decide +kernel
theorem dL_plan_499 : decode cL_plan 499 = .ok (.if_icmp .ne 7, 3) := by decide +kernel
theorem dL_plan_502 : decode cL_plan 502 = .ok (.iconst 1, 1) := by decide +kernel
theorem dL_plan_503 : decode cL_plan 503 = .ok (.goto 4, 3) := by decide +kernel
theorem dL_plan_506 : decode cL_plan 506 = .ok (.iconst 0, 1) := by decide +kernel
theorem dL_plan_507 : decode cL_plan 507 = .ok (.ireturn, 1) := by decide +kernel
set_option maxRecDepth 20000 in
theorem ggL_looks_X3_setting : GoodIn wsL_looks wsX3_setting := goodIn_r _ [5, 6, 7, 194, 195, 196, 197, 198, 199, 200, 201, 202, 203, 204, 205, 206, 207, 208, 209, 210] (by decide +kernel) (by decide +kernel)
set_option maxRecDepth 20000 in
theorem gL_looks_X3_setting : GoodIn wsL_looks (wsV RL 41 RX3 yX3_setting wsX3_setting) := goodIn_app (goodIn_r _ [1, 2, 3, 4] (by decide +kernel) (by decide +kernel)) ggL_looks_X3_setting
set_option maxRecDepth 20000 in
theorem ggL_looks_X3_ifRule : GoodIn wsL_looks wsX3_ifRule := goodIn_ca (goodIn_r _ [11, 12, 13, 14, 15, 16, 17, 18, 19, 4, 20, 21, 22, 23, 24, 6, 7, 25, 26, 27, 28, 29, 30, 31, 32, 33, 34, 35, 36, 37, 38, 39, 40, 41, 42, 43, 44, 45, 46, 47, 48, 49, 50, 51, 52, 53, 54, 55, 56, 57, 58, 59, 60, 61, 62, 63, 64, 65, 66, 67, 68, 69, 70, 71, 72, 73, 74, 75, 76, 77, 78, 79, 80, 81, 82, 83, 84, 85, 86, 87, 88, 89, 90, 91, 92, 93, 94, 95, 96, 97, 98, 99, 100, 194, 195, 196, 197, 198, 199, 200, 201, 211, 212, 213, 214, 215, 202, 203, 204, 205, 206, 207, 208, 209, 210] (by decide +kernel) (by decide +kernel)) (goodIn_sub (fun _ h => List.mem_cons_of_mem _ (List.mem_append_left _ (List.mem_append_right _ h))) (by decide +kernel))
set_option maxRecDepth 20000 in
theorem gL_looks_X3_ifRule : GoodIn wsL_looks (wsV RL 44 RX3 yX3_ifRule wsX3_ifRule) := goodIn_app (goodIn_r _ [8, 9, 10, 4] (by decide +kernel) (by decide +kernel)) ggL_looks_X3_ifRule
set_option maxRecDepth 20000 in
theorem ggL_looks_X3_count : GoodIn wsL_looks wsX3_count := goodIn_ca (goodIn_r _ [104, 12, 13, 6, 105, 106, 16, 15, 107, 108, 109, 110, 28, 111, 30, 32, 112, 113, 114, 4, 115, 116, 117, 118, 119, 120, 17, 121, 14, 25, 26, 27, 29, 31, 33, 34, 35, 36, 37, 38, 39, 40, 41, 42, 43, 44, 45, 46, 47, 48, 49, 50, 51, 52, 53, 54, 55, 56, 57, 58, 59, 60, 61, 62, 63, 64, 65, 66, 67, 68, 69, 70, 71, 72, 73, 74, 75, 76, 77, 78, 79, 80, 81, 82, 83, 84, 85, 86, 87, 88, 89, 90, 91, 92, 93, 94, 95, 96, 97, 98, 99, 100, 122, 123, 124, 125, 126, 127, 128, 129, 194, 195, 196, 197, 198, 199, 200, 201, 202, 203, 204, 205, 206, 207, 208, 209, 210, 211, 212, 213, 214, 215] (by decide +kernel) (by decide +kernel)) (goodIn_sub (fun _ h => List.mem_cons_of_mem _ (List.mem_append_left _ (List.mem_append_right _ h))) (by decide +kernel))
set_option maxRecDepth 20000 in
theorem gL_looks_X3_count : GoodIn wsL_looks (wsV RL 25 RX3 yX3_count wsX3_count) := goodIn_app (goodIn_r _ [101, 102, 103, 4] (by decide +kernel) (by decide +kernel)) ggL_looks_X3_count
set_option maxRecDepth 20000 in
theorem ggL_looks_X3_hallOn : GoodIn wsL_looks wsX3_hallOn := goodIn_ca (goodIn_r _ [133, 134, 135, 106, 6, 136, 137, 138, 4, 139, 140, 141, 142, 143, 144, 145, 42, 146, 47, 48, 50, 194, 195, 196, 197, 198, 199, 200, 201, 202, 203, 204, 205, 206, 207, 208, 209, 210, 211, 212, 213, 214, 215] (by decide +kernel) (by decide +kernel)) (goodIn_sub (fun _ h => List.mem_cons_of_mem _ (List.mem_append_right _ h)) (by decide +kernel))
set_option maxRecDepth 20000 in
theorem gL_looks_X3_hallOn : GoodIn wsL_looks (wsV RL 35 RX3 yX3_hallOn wsX3_hallOn) := goodIn_app (goodIn_r _ [130, 131, 132, 4] (by decide +kernel) (by decide +kernel)) ggL_looks_X3_hallOn
set_option maxRecDepth 20000 in
theorem ggL_looks_X3_hall : GoodIn wsL_looks wsX3_hall := goodIn_ca (goodIn_ca (goodIn_r _ [150, 134, 135, 12, 13, 6, 151, 152, 106, 137, 138, 4, 139, 153, 154, 155, 42, 156, 47, 48, 76, 50, 157, 158, 159, 160, 194, 195, 196, 197, 198, 199, 200, 201, 202, 203, 204, 205, 206, 207, 208, 209, 210, 211, 212, 213, 214, 215] (by decide +kernel) (by decide +kernel)) (goodIn_sub (fun _ h => List.mem_cons_of_mem _ (List.mem_append_right _ h)) (by decide +kernel))) (goodIn_sub (fun _ h => List.mem_cons_of_mem _ (List.mem_append_left _ (List.mem_append_right _ h))) (by decide +kernel))
set_option maxRecDepth 20000 in
theorem gL_looks_X3_hall : GoodIn wsL_looks (wsV RL 38 RX3 yX3_hall wsX3_hall) := goodIn_app (goodIn_r _ [147, 148, 149, 4] (by decide +kernel) (by decide +kernel)) ggL_looks_X3_hall
set_option maxRecDepth 20000 in
theorem ggL_looks_X3_worstSlip : GoodIn wsL_looks wsX3_worstSlip := goodIn_ca (goodIn_r _ [164, 12, 13, 6, 105, 17, 121, 106, 120, 14, 15, 165, 166, 4, 167, 168, 169, 170, 171, 25, 26, 27, 28, 29, 30, 31, 32, 33, 34, 35, 36, 37, 38, 39, 40, 41, 42, 43, 44, 45, 46, 47, 48, 49, 50, 51, 52, 53, 54, 55, 56, 57, 58, 59, 60, 61, 62, 63, 64, 65, 66, 67, 68, 69, 70, 71, 72, 73, 74, 75, 76, 77, 78, 79, 80, 81, 82, 83, 84, 85, 86, 87, 88, 89, 90, 91, 92, 194, 195, 196, 197, 198, 199, 200, 201, 202, 203, 204, 205, 206, 207, 208, 209, 210, 211, 212, 213, 214, 215] (by decide +kernel) (by decide +kernel)) (goodIn_sub (fun _ h => List.mem_cons_of_mem _ (List.mem_append_left _ (List.mem_append_right _ h))) (by decide +kernel))
set_option maxRecDepth 20000 in
theorem gL_looks_X3_worstSlip : GoodIn wsL_looks (wsV RL 47 RX3 yX3_worstSlip wsX3_worstSlip) := goodIn_app (goodIn_r _ [161, 162, 163, 4] (by decide +kernel) (by decide +kernel)) ggL_looks_X3_worstSlip
set_option maxRecDepth 20000 in
theorem ggL_looks_X3_task : GoodIn wsL_looks wsX3_task := goodIn_ca (goodIn_ca (goodIn_r _ [175, 134, 135, 12, 13, 6, 106, 120, 176, 177, 178, 4, 179, 105, 180, 60, 61, 28, 62, 30, 63, 64, 65, 66, 36, 116, 117, 118, 119, 17, 121, 14, 16, 15, 25, 26, 27, 29, 31, 32, 33, 34, 35, 37, 38, 39, 40, 41, 42, 43, 44, 45, 46, 47, 48, 49, 50, 51, 52, 53, 54, 55, 56, 57, 58, 59, 67, 68, 69, 70, 71, 72, 73, 74, 75, 76, 77, 78, 79, 80, 81, 82, 83, 84, 85, 86, 87, 88, 89, 90, 91, 92, 181, 98, 99, 100, 182, 183, 184, 185, 194, 195, 196, 197, 198, 199, 200, 201, 211, 212, 213, 214, 215, 202, 203, 204, 205, 206, 207, 208, 209, 210] (by decide +kernel) (by decide +kernel)) (goodIn_sub (fun _ h => List.mem_cons_of_mem _ (List.mem_append_right _ h)) (by decide +kernel))) (goodIn_sub (fun _ h => List.mem_cons_of_mem _ (List.mem_append_left _ (List.mem_append_right _ h))) (by decide +kernel))
set_option maxRecDepth 20000 in
theorem gL_looks_X3_task : GoodIn wsL_looks (wsV RL 29 RX3 yX3_task wsX3_task) := goodIn_app (goodIn_r _ [172, 173, 174, 4] (by decide +kernel) (by decide +kernel)) ggL_looks_X3_task
set_option maxRecDepth 20000 in
theorem ggL_looks_X3_busyness : GoodIn wsL_looks wsX3_busyness := goodIn_r _ [189, 106, 15, 6, 190, 191, 192, 42, 193, 47, 48, 50, 194, 195, 196, 197, 198, 199, 200, 201, 211, 212, 213, 214, 215, 202, 203, 204, 205, 206, 207, 208, 209, 210] (by decide +kernel) (by decide +kernel)
set_option maxRecDepth 20000 in
theorem gL_looks_X3_busyness : GoodIn wsL_looks (wsV RL 50 RX3 yX3_busyness wsX3_busyness) := goodIn_app (goodIn_r _ [186, 187, 188, 4] (by decide +kernel) (by decide +kernel)) ggL_looks_X3_busyness
theorem dL_looks_0 : decode cL_looks 0 = .ok (.aload_n 0, 1) := by decide +kernel
theorem dL_looks_1 : decode cL_looks 1 = .ok (.aload_n 0, 1) := by decide +kernel
theorem dL_looks_2 : decode cL_looks 2 = .ok (.invokevirtual 41, 3) := by decide +kernel
theorem dL_looks_5 : decode cL_looks 5 = .ok (.iconst 0, 1) := by decide +kernel
theorem dL_looks_6 : decode cL_looks 6 = .ok (.invokevirtual 44, 3) := by decide +kernel
theorem dL_looks_9 : decode cL_looks 9 = .ok (.aload_n 0, 1) := by decide +kernel
theorem dL_looks_10 : decode cL_looks 10 = .ok (.iconst 3, 1) := by decide +kernel
theorem dL_looks_11 : decode cL_looks 11 = .ok (.invokevirtual 25, 3) := by decide +kernel
theorem dL_looks_14 : decode cL_looks 14 = .ok (.if_icmp .ne 42, 3) := by decide +kernel
theorem dL_looks_17 : decode cL_looks 17 = .ok (.aload_n 0, 1) := by decide +kernel
theorem dL_looks_18 : decode cL_looks 18 = .ok (.aload_n 0, 1) := by decide +kernel
theorem dL_looks_19 : decode cL_looks 19 = .ok (.invokevirtual 41, 3) := by decide +kernel
theorem dL_looks_22 : decode cL_looks 22 = .ok (.iconst 1, 1) := by decide +kernel
theorem dL_looks_23 : decode cL_looks 23 = .ok (.invokevirtual 44, 3) := by decide +kernel
theorem dL_looks_26 : decode cL_looks 26 = .ok (.aload_n 0, 1) := by decide +kernel
theorem dL_looks_27 : decode cL_looks 27 = .ok (.iconst 1, 1) := by decide +kernel
theorem dL_looks_28 : decode cL_looks 28 = .ok (.invokevirtual 25, 3) := by decide +kernel
theorem dL_looks_31 : decode cL_looks 31 = .ok (.if_icmp .ne 25, 3) := by decide +kernel
theorem dL_looks_34 : decode cL_looks 34 = .ok (.aload_n 0, 1) := by decide +kernel
theorem dL_looks_35 : decode cL_looks 35 = .ok (.aload_n 0, 1) := by decide +kernel
theorem dL_looks_36 : decode cL_looks 36 = .ok (.invokevirtual 41, 3) := by decide +kernel
theorem dL_looks_39 : decode cL_looks 39 = .ok (.iconst 2, 1) := by decide +kernel
theorem dL_looks_40 : decode cL_looks 40 = .ok (.invokevirtual 44, 3) := by decide +kernel
theorem dL_looks_43 : decode cL_looks 43 = .ok (.aload_n 0, 1) := by decide +kernel
theorem dL_looks_44 : decode cL_looks 44 = .ok (.bipush 6, 2) := by decide +kernel
theorem dL_looks_46 : decode cL_looks 46 = .ok (.invokevirtual 25, 3) := by decide +kernel
theorem dL_looks_49 : decode cL_looks 49 = .ok (.if_icmp .ne 7, 3) := by decide +kernel
theorem dL_looks_52 : decode cL_looks 52 = .ok (.iconst 1, 1) := by decide +kernel
theorem dL_looks_53 : decode cL_looks 53 = .ok (.goto 4, 3) := by decide +kernel
theorem dL_looks_56 : decode cL_looks 56 = .ok (.iconst 0, 1) := by decide +kernel
theorem dL_looks_57 : decode cL_looks 57 = .ok (.istore_n 1, 1) := by decide +kernel
theorem dL_looks_58 : decode cL_looks 58 = .ok (.iconst 0, 1) := by decide +kernel
theorem dL_looks_59 : decode cL_looks 59 = .ok (.istore_n 2, 1) := by decide +kernel
theorem dL_looks_60 : decode cL_looks 60 = .ok (.iload_n 2, 1) := by decide +kernel
theorem dL_looks_61 : decode cL_looks 61 = .ok (.iconst 4, 1) := by decide +kernel
theorem dL_looks_62 : decode cL_looks 62 = .ok (.if_icmp .ge 94, 3) := by decide +kernel
theorem dL_looks_65 : decode cL_looks 65 = .ok (.iload_n 1, 1) := by decide +kernel
theorem dL_looks_66 : decode cL_looks 66 = .ok (.ifCond .eq 90, 3) := by decide +kernel
theorem dL_looks_69 : decode cL_looks 69 = .ok (.iconst 0, 1) := by decide +kernel
theorem dL_looks_70 : decode cL_looks 70 = .ok (.istore_n 3, 1) := by decide +kernel
theorem dL_looks_71 : decode cL_looks 71 = .ok (.iconst 0, 1) := by decide +kernel
theorem dL_looks_72 : decode cL_looks 72 = .ok (.istore 4, 2) := by decide +kernel
theorem dL_looks_74 : decode cL_looks 74 = .ok (.iload 4, 2) := by decide +kernel
theorem dL_looks_76 : decode cL_looks 76 = .ok (.bipush 100, 2) := by decide +kernel
theorem dL_looks_78 : decode cL_looks 78 = .ok (.if_icmp .ge 27, 3) := by decide +kernel
theorem dL_looks_81 : decode cL_looks 81 = .ok (.iload_n 3, 1) := by decide +kernel
theorem dL_looks_82 : decode cL_looks 82 = .ok (.aload_n 0, 1) := by decide +kernel
theorem dL_looks_83 : decode cL_looks 83 = .ok (.iload_n 2, 1) := by decide +kernel
theorem dL_looks_84 : decode cL_looks 84 = .ok (.iload 4, 2) := by decide +kernel
theorem dL_looks_86 : decode cL_looks 86 = .ok (.invokevirtual 35, 3) := by decide +kernel
theorem dL_looks_89 : decode cL_looks 89 = .ok (.ifCond .lt 7, 3) := by decide +kernel
theorem dL_looks_92 : decode cL_looks 92 = .ok (.iconst 1, 1) := by decide +kernel
theorem dL_looks_93 : decode cL_looks 93 = .ok (.goto 4, 3) := by decide +kernel
theorem dL_looks_96 : decode cL_looks 96 = .ok (.iconst 0, 1) := by decide +kernel
theorem dL_looks_97 : decode cL_looks 97 = .ok (.iadd, 1) := by decide +kernel
theorem dL_looks_98 : decode cL_looks 98 = .ok (.istore_n 3, 1) := by decide +kernel
theorem dL_looks_99 : decode cL_looks 99 = .ok (.iinc 4 1, 3) := by decide +kernel
theorem dL_looks_102 : decode cL_looks 102 = .ok (.goto (-28), 3) := by decide +kernel
theorem dL_looks_105 : decode cL_looks 105 = .ok (.aload_n 0, 1) := by decide +kernel
theorem dL_looks_106 : decode cL_looks 106 = .ok (.iload_n 2, 1) := by decide +kernel
theorem dL_looks_107 : decode cL_looks 107 = .ok (.iconst 2, 1) := by decide +kernel
theorem dL_looks_108 : decode cL_looks 108 = .ok (.invokevirtual 38, 3) := by decide +kernel
theorem dL_looks_111 : decode cL_looks 111 = .ok (.iload_n 3, 1) := by decide +kernel
theorem dL_looks_112 : decode cL_looks 112 = .ok (.if_icmp .ne 36, 3) := by decide +kernel
theorem dL_looks_115 : decode cL_looks 115 = .ok (.aload_n 0, 1) := by decide +kernel
theorem dL_looks_116 : decode cL_looks 116 = .ok (.iload_n 2, 1) := by decide +kernel
theorem dL_looks_117 : decode cL_looks 117 = .ok (.iconst 0, 1) := by decide +kernel
theorem dL_looks_118 : decode cL_looks 118 = .ok (.invokevirtual 38, 3) := by decide +kernel
theorem dL_looks_121 : decode cL_looks 121 = .ok (.aload_n 0, 1) := by decide +kernel
theorem dL_looks_122 : decode cL_looks 122 = .ok (.iload_n 2, 1) := by decide +kernel
theorem dL_looks_123 : decode cL_looks 123 = .ok (.iconst 1, 1) := by decide +kernel
theorem dL_looks_124 : decode cL_looks 124 = .ok (.invokevirtual 38, 3) := by decide +kernel
theorem dL_looks_127 : decode cL_looks 127 = .ok (.if_icmp .gt 21, 3) := by decide +kernel
theorem dL_looks_130 : decode cL_looks 130 = .ok (.aload_n 0, 1) := by decide +kernel
theorem dL_looks_131 : decode cL_looks 131 = .ok (.iload_n 2, 1) := by decide +kernel
theorem dL_looks_132 : decode cL_looks 132 = .ok (.iconst 3, 1) := by decide +kernel
theorem dL_looks_133 : decode cL_looks 133 = .ok (.invokevirtual 38, 3) := by decide +kernel
theorem dL_looks_136 : decode cL_looks 136 = .ok (.aload_n 0, 1) := by decide +kernel
theorem dL_looks_137 : decode cL_looks 137 = .ok (.iconst 1, 1) := by decide +kernel
theorem dL_looks_138 : decode cL_looks 138 = .ok (.invokevirtual 25, 3) := by decide +kernel
theorem dL_looks_141 : decode cL_looks 141 = .ok (.if_icmp .gt 7, 3) := by decide +kernel
theorem dL_looks_144 : decode cL_looks 144 = .ok (.iconst 1, 1) := by decide +kernel
theorem dL_looks_145 : decode cL_looks 145 = .ok (.goto 4, 3) := by decide +kernel
theorem dL_looks_148 : decode cL_looks 148 = .ok (.iconst 0, 1) := by decide +kernel
theorem dL_looks_149 : decode cL_looks 149 = .ok (.istore_n 1, 1) := by decide +kernel
theorem dL_looks_150 : decode cL_looks 150 = .ok (.iinc 2 1, 3) := by decide +kernel
theorem dL_looks_153 : decode cL_looks 153 = .ok (.goto (-93), 3) := by decide +kernel
theorem dL_looks_156 : decode cL_looks 156 = .ok (.aload_n 0, 1) := by decide +kernel
theorem dL_looks_157 : decode cL_looks 157 = .ok (.iconst 3, 1) := by decide +kernel
theorem dL_looks_158 : decode cL_looks 158 = .ok (.invokevirtual 47, 3) := by decide +kernel
theorem dL_looks_161 : decode cL_looks 161 = .ok (.istore_n 2, 1) := by decide +kernel
theorem dL_looks_162 : decode cL_looks 162 = .ok (.iload_n 1, 1) := by decide +kernel
theorem dL_looks_163 : decode cL_looks 163 = .ok (.ifCond .eq 34, 3) := by decide +kernel
theorem dL_looks_166 : decode cL_looks 166 = .ok (.iload_n 2, 1) := by decide +kernel
theorem dL_looks_167 : decode cL_looks 167 = .ok (.iconst (-1), 1) := by decide +kernel
theorem dL_looks_168 : decode cL_looks 168 = .ok (.if_icmp .eq 25, 3) := by decide +kernel
theorem dL_looks_171 : decode cL_looks 171 = .ok (.aload_n 0, 1) := by decide +kernel
theorem dL_looks_172 : decode cL_looks 172 = .ok (.iload_n 2, 1) := by decide +kernel
theorem dL_looks_173 : decode cL_looks 173 = .ok (.bipush 6, 2) := by decide +kernel
theorem dL_looks_175 : decode cL_looks 175 = .ok (.invokevirtual 29, 3) := by decide +kernel
theorem dL_looks_178 : decode cL_looks 178 = .ok (.ifCond .lt 19, 3) := by decide +kernel
theorem dL_looks_181 : decode cL_looks 181 = .ok (.aload_n 0, 1) := by decide +kernel
theorem dL_looks_182 : decode cL_looks 182 = .ok (.iload_n 2, 1) := by decide +kernel
theorem dL_looks_183 : decode cL_looks 183 = .ok (.bipush 6, 2) := by decide +kernel
theorem dL_looks_185 : decode cL_looks 185 = .ok (.invokevirtual 29, 3) := by decide +kernel
theorem dL_looks_188 : decode cL_looks 188 = .ok (.bipush 57, 2) := by decide +kernel
theorem dL_looks_190 : decode cL_looks 190 = .ok (.if_icmp .gt 7, 3) := by decide +kernel
theorem dL_looks_193 : decode cL_looks 193 = .ok (.iconst 1, 1) := by decide +kernel
theorem dL_looks_194 : decode cL_looks 194 = .ok (.goto 4, 3) := by decide +kernel
theorem dL_looks_197 : decode cL_looks 197 = .ok (.iconst 0, 1) := by decide +kernel
theorem dL_looks_198 : decode cL_looks 198 = .ok (.istore_n 1, 1) := by decide +kernel
theorem dL_looks_199 : decode cL_looks 199 = .ok (.iload_n 1, 1) := by decide +kernel
theorem dL_looks_200 : decode cL_looks 200 = .ok (.ifCond .eq 82, 3) := by decide +kernel
theorem dL_looks_203 : decode cL_looks 203 = .ok (.aload_n 0, 1) := by decide +kernel
theorem dL_looks_204 : decode cL_looks 204 = .ok (.iconst 2, 1) := by decide +kernel
theorem dL_looks_205 : decode cL_looks 205 = .ok (.invokevirtual 25, 3) := by decide +kernel
theorem dL_looks_208 : decode cL_looks 208 = .ok (.ifCond .gt 17, 3) := by decide +kernel
theorem dL_looks_211 : decode cL_looks 211 = .ok (.aload_n 0, 1) := by decide +kernel
theorem dL_looks_212 : decode cL_looks 212 = .ok (.iconst 3, 1) := by decide +kernel
theorem dL_looks_213 : decode cL_looks 213 = .ok (.invokevirtual 25, 3) := by decide +kernel
theorem dL_looks_216 : decode cL_looks 216 = .ok (.aload_n 0, 1) := by decide +kernel
theorem dL_looks_217 : decode cL_looks 217 = .ok (.bipush 7, 2) := by decide +kernel
theorem dL_looks_219 : decode cL_looks 219 = .ok (.invokevirtual 25, 3) := by decide +kernel
theorem dL_looks_222 : decode cL_looks 222 = .ok (.if_icmp .lt 60, 3) := by decide +kernel
theorem dL_looks_225 : decode cL_looks 225 = .ok (.aload_n 0, 1) := by decide +kernel
theorem dL_looks_226 : decode cL_looks 226 = .ok (.bipush 7, 2) := by decide +kernel
theorem dL_looks_228 : decode cL_looks 228 = .ok (.invokevirtual 25, 3) := by decide +kernel
theorem dL_looks_231 : decode cL_looks 231 = .ok (.aload_n 0, 1) := by decide +kernel
theorem dL_looks_232 : decode cL_looks 232 = .ok (.iconst 4, 1) := by decide +kernel
theorem dL_looks_233 : decode cL_looks 233 = .ok (.invokevirtual 25, 3) := by decide +kernel
theorem dL_looks_236 : decode cL_looks 236 = .ok (.if_icmp .gt 46, 3) := by decide +kernel
theorem dL_looks_239 : decode cL_looks 239 = .ok (.aload_n 0, 1) := by decide +kernel
theorem dL_looks_240 : decode cL_looks 240 = .ok (.invokevirtual 50, 3) := by decide +kernel
theorem dL_looks_243 : decode cL_looks 243 = .ok (.dconst 0, 1) := by decide +kernel
theorem dL_looks_244 : decode cL_looks 244 = .ok (.dcmp .l, 1) := by decide +kernel
theorem dL_looks_245 : decode cL_looks 245 = .ok (.ifCond .lt 37, 3) := by decide +kernel
theorem dL_looks_248 : decode cL_looks 248 = .ok (.aload_n 0, 1) := by decide +kernel
theorem dL_looks_249 : decode cL_looks 249 = .ok (.iconst 1, 1) := by decide +kernel
theorem dL_looks_250 : decode cL_looks 250 = .ok (.invokevirtual 25, 3) := by decide +kernel
theorem dL_looks_253 : decode cL_looks 253 = .ok (.ifCond .le 7, 3) := by decide +kernel
theorem dL_looks_256 : decode cL_looks 256 = .ok (.iconst 1, 1) := by decide +kernel
theorem dL_looks_257 : decode cL_looks 257 = .ok (.goto 4, 3) := by decide +kernel
theorem dL_looks_260 : decode cL_looks 260 = .ok (.iconst 0, 1) := by decide +kernel
theorem dL_looks_261 : decode cL_looks 261 = .ok (.aload_n 0, 1) := by decide +kernel
theorem dL_looks_262 : decode cL_looks 262 = .ok (.invokevirtual 50, 3) := by decide +kernel
theorem dL_looks_265 : decode cL_looks 265 = .ok (.dconst 0, 1) := by decide +kernel
theorem dL_looks_266 : decode cL_looks 266 = .ok (.dcmp .l, 1) := by decide +kernel
theorem dL_looks_267 : decode cL_looks 267 = .ok (.ifCond .le 7, 3) := by decide +kernel
theorem dL_looks_270 : decode cL_looks 270 = .ok (.iconst 1, 1) := by decide +kernel
theorem dL_looks_271 : decode cL_looks 271 = .ok (.goto 4, 3) := by decide +kernel
theorem dL_looks_274 : decode cL_looks 274 = .ok (.iconst 0, 1) := by decide +kernel
theorem dL_looks_275 : decode cL_looks 275 = .ok (.if_icmp .ne 7, 3) := by decide +kernel
theorem dL_looks_278 : decode cL_looks 278 = .ok (.iconst 1, 1) := by decide +kernel
theorem dL_looks_279 : decode cL_looks 279 = .ok (.goto 4, 3) := by decide +kernel
theorem dL_looks_282 : decode cL_looks 282 = .ok (.iconst 0, 1) := by decide +kernel
theorem dL_looks_283 : decode cL_looks 283 = .ok (.ireturn, 1) := by decide +kernel
set_option maxRecDepth 20000 in
theorem ggL_act_L_cell : GoodIn wsL_act wsL_cell := goodIn_r _ [4, 5] (by decide +kernel) (by decide +kernel)
set_option maxRecDepth 20000 in
theorem gL_act_L_cell : GoodIn wsL_act (va_wsS RL 54 yL_cell wsL_cell) := goodIn_app (goodIn_r _ [1, 2, 3] (by decide +kernel) (by decide +kernel)) ggL_act_L_cell
set_option maxRecDepth 20000 in
theorem ggL_act_X3_count : GoodIn wsL_act wsX3_count := goodIn_ca (goodIn_r _ [10, 11, 12, 13, 14, 15, 16, 17, 18, 19, 20, 21, 22, 23, 24, 25, 26, 27, 28, 9, 29, 30, 31, 32, 33, 34, 35, 36, 37, 38, 39, 40, 41, 42, 43, 44, 45, 46, 47, 48, 49, 50, 51, 52, 53, 54, 55, 56, 57, 58, 59, 60, 61, 62, 63, 64, 65, 66, 67, 68, 69, 70, 71, 72, 73, 74, 75, 76, 77, 78, 79, 80, 81, 82, 83, 84, 85, 86, 87, 88, 89, 90, 91, 92, 93, 94, 95, 96, 97, 98, 99, 100, 101, 102, 103, 104, 105, 106, 107, 108, 109, 110, 111, 112, 113, 114, 115, 116, 117, 118, 233, 234, 235, 236, 237, 238, 239, 240, 241, 242, 243, 244, 245, 246, 247, 248, 249, 250, 251, 252, 253, 254] (by decide +kernel) (by decide +kernel)) (goodIn_sub (fun _ h => List.mem_cons_of_mem _ (List.mem_append_left _ (List.mem_append_left _ (List.mem_append_right _ h)))) (by decide +kernel))
set_option maxRecDepth 20000 in
theorem gL_act_X3_count : GoodIn wsL_act (wsV RL 25 RX3 yX3_count wsX3_count) := goodIn_app (goodIn_r _ [6, 7, 8, 9] (by decide +kernel) (by decide +kernel)) ggL_act_X3_count
set_option maxRecDepth 20000 in
theorem ggL_act_L_low : GoodIn wsL_act wsL_low := goodIn_r _ [121, 122] (by decide +kernel) (by decide +kernel)
set_option maxRecDepth 20000 in
theorem gL_act_L_low : GoodIn wsL_act (va_wsS RL 60 yL_low wsL_low) := goodIn_app (goodIn_r _ [119, 120, 3] (by decide +kernel) (by decide +kernel)) ggL_act_L_low
set_option maxRecDepth 20000 in
theorem ggL_act_L_add : GoodIn wsL_act wsL_add := goodIn_ca (goodIn_ca (goodIn_r _ [125, 126, 127, 128, 129, 9, 130, 11, 12, 131, 132, 13, 14, 15, 133, 134, 135, 136, 137, 138, 139, 140, 141, 142, 143, 144, 145, 146, 147, 148, 149, 150, 151, 18, 152, 153, 154, 155, 156, 38, 39, 40, 22, 41, 24, 42, 25, 43, 44, 45, 46, 47, 48, 157, 158, 159, 160, 49, 50, 51, 52, 53, 54, 55, 56, 57, 58, 59, 60, 61, 62, 63, 64, 65, 66, 67, 68, 69, 70, 71, 72, 73, 74, 75, 76, 77, 78, 79, 80, 81, 82, 83, 84, 85, 86, 87, 88, 89, 90, 91, 92, 93, 94, 95, 96, 97, 98, 99, 100, 101, 102, 233, 234, 235, 236, 237, 238, 239, 240, 241, 242, 243, 244, 245, 246, 247, 248, 249, 250, 251, 252, 253, 254] (by decide +kernel) (by decide +kernel)) (goodIn_sub (fun _ h => List.mem_cons_of_mem _ (List.mem_append_left _ (List.mem_append_left _ (List.mem_append_right _ h)))) (by decide +kernel))) (goodIn_sub (fun _ h => List.mem_cons_of_mem _ (List.mem_append_left _ (List.mem_append_right _ h))) (by decide +kernel))
set_option maxRecDepth 20000 in
theorem gL_act_L_add : GoodIn wsL_act (va_wsS RL 63 yL_add wsL_add) := goodIn_app (goodIn_r _ [123, 124, 3] (by decide +kernel) (by decide +kernel)) ggL_act_L_add
set_option maxRecDepth 20000 in
theorem ggL_act_X3_borrow : GoodIn wsL_act wsX3_borrow := goodIn_ca (goodIn_ca (goodIn_r _ [164, 165, 166, 11, 12, 13, 167, 168, 15, 16, 145, 146, 9, 147, 169, 170, 171, 148, 149, 150, 151, 18, 152, 153, 154, 155, 156, 38, 39, 40, 22, 41, 24, 42, 25, 43, 44, 45, 46, 47, 48, 49, 50, 51, 52, 53, 54, 55, 56, 57, 58, 59, 60, 61, 62, 63, 64, 65, 66, 67, 68, 69, 70, 71, 72, 73, 74, 75, 76, 77, 78, 79, 80, 81, 82, 83, 84, 85, 86, 87, 88, 89, 90, 91, 92, 93, 94, 95, 96, 97, 98, 99, 100, 101, 102, 233, 234, 235, 236, 237, 238, 239, 240, 241, 242, 243, 244, 245, 246, 247, 248, 249, 250, 251, 252, 253, 254] (by decide +kernel) (by decide +kernel)) (goodIn_sub (fun _ h => List.mem_cons_of_mem _ (List.mem_append_right _ h)) (by decide +kernel))) (goodIn_sub (fun _ h => List.mem_cons_of_mem _ (List.mem_append_left _ (List.mem_append_left _ (List.mem_append_right _ h)))) (by decide +kernel))
set_option maxRecDepth 20000 in
theorem gL_act_X3_borrow : GoodIn wsL_act (wsV RL 66 RX3 yX3_borrow wsX3_borrow) := goodIn_app (goodIn_r _ [161, 162, 163, 9] (by decide +kernel) (by decide +kernel)) ggL_act_X3_borrow
set_option maxRecDepth 20000 in
theorem ggL_act_X3_rule : GoodIn wsL_act wsX3_rule := goodIn_ca (goodIn_r _ [175, 11, 12, 13, 176, 15, 177, 178, 9, 179, 148, 149, 150, 151, 18, 152, 153, 154, 155, 156, 38, 39, 40, 22, 41, 24, 42, 25, 43, 44, 45, 46, 47, 48, 49, 50, 51, 52, 53, 54, 55, 56, 57, 58, 59, 60, 61, 62, 63, 64, 65, 66, 67, 68, 69, 70, 71, 72, 73, 74, 75, 76, 77, 78, 79, 80, 81, 82, 83, 84, 85, 86, 87, 88, 89, 90, 91, 92, 93, 94, 95, 96, 97, 98, 99, 100, 101, 102, 233, 234, 235, 236, 237, 238, 239, 240, 241, 242, 243, 244, 245, 246, 247, 248, 249, 250, 251, 252, 253, 254] (by decide +kernel) (by decide +kernel)) (goodIn_sub (fun _ h => List.mem_cons_of_mem _ (List.mem_append_left _ (List.mem_append_left _ (List.mem_append_right _ h)))) (by decide +kernel))
set_option maxRecDepth 20000 in
theorem gL_act_X3_rule : GoodIn wsL_act (wsV RL 69 RX3 yX3_rule wsX3_rule) := goodIn_app (goodIn_r _ [172, 173, 174, 9] (by decide +kernel) (by decide +kernel)) ggL_act_X3_rule
set_option maxRecDepth 20000 in
theorem ggL_act_L_undo : GoodIn wsL_act wsL_undo := goodIn_ca (goodIn_r _ [182, 126, 183, 184, 185, 9, 186, 131, 132, 18, 13, 152, 15, 38, 39, 40, 22, 41, 24, 42, 25, 43, 44, 45, 46, 47, 48, 49, 50, 51, 52, 53, 54, 55, 56, 57, 58, 59, 60, 61, 62, 63, 64, 65, 66, 67, 68, 69, 70, 71, 72, 73, 74, 75, 76, 77, 78, 79, 80, 81, 82, 83, 84, 85, 86, 87, 88, 89, 90, 91, 92, 93, 94, 95, 96, 97, 98, 99, 100, 101, 102, 233, 234, 235, 236, 237, 238, 239, 240, 241, 242, 243, 244, 245, 246, 247, 248, 249, 250, 251, 252, 253, 254] (by decide +kernel) (by decide +kernel)) (goodIn_sub (fun _ h => List.mem_cons_of_mem _ (List.mem_append_left _ (List.mem_append_right _ h))) (by decide +kernel))
set_option maxRecDepth 20000 in
theorem gL_act_L_undo : GoodIn wsL_act (va_wsS RL 72 yL_undo wsL_undo) := goodIn_app (goodIn_r _ [180, 181, 3] (by decide +kernel) (by decide +kernel)) ggL_act_L_undo
set_option maxRecDepth 20000 in
theorem ggL_act_X3_need : GoodIn wsL_act wsX3_need := goodIn_ca (goodIn_ca (goodIn_r _ [190, 165, 166, 11, 12, 13, 191, 15, 192, 193, 194, 9, 195, 14, 118, 74, 75, 22, 76, 46, 148, 149, 150, 151, 18, 152, 153, 154, 155, 156, 38, 39, 40, 41, 24, 42, 25, 43, 44, 45, 47, 48, 49, 50, 51, 52, 53, 54, 55, 56, 57, 58, 59, 60, 61, 62, 63, 64, 65, 66, 67, 68, 69, 70, 71, 72, 73, 77, 78, 79, 80, 81, 82, 83, 84, 85, 86, 87, 88, 89, 90, 91, 92, 93, 94, 95, 96, 97, 98, 99, 100, 101, 102, 233, 234, 235, 236, 237, 238, 239, 240, 241, 242, 243, 244, 245, 246, 247, 248, 249, 250, 251, 252, 253, 254] (by decide +kernel) (by decide +kernel)) (goodIn_sub (fun _ h => List.mem_cons_of_mem _ (List.mem_append_right _ h)) (by decide +kernel))) (goodIn_sub (fun _ h => List.mem_cons_of_mem _ (List.mem_append_left _ (List.mem_append_left _ (List.mem_append_right _ h)))) (by decide +kernel))
set_option maxRecDepth 20000 in
theorem gL_act_X3_need : GoodIn wsL_act (wsV RL 75 RX3 yX3_need wsX3_need) := goodIn_app (goodIn_r _ [187, 188, 189, 9] (by decide +kernel) (by decide +kernel)) ggL_act_X3_need
set_option maxRecDepth 20000 in
theorem ggL_act_X3_remove : GoodIn wsL_act wsX3_remove := goodIn_ca (goodIn_r _ [199, 165, 166, 13, 15, 192, 193, 194, 9, 195, 14, 200, 70, 71, 22, 72, 24, 73, 74, 75, 76, 46, 148, 149, 150, 151, 18, 152, 153, 154, 155, 156, 38, 39, 40, 41, 42, 25, 43, 44, 45, 47, 48, 201, 202, 203, 204, 205, 206, 207, 49, 50, 51, 52, 53, 54, 55, 56, 57, 58, 59, 60, 61, 62, 63, 64, 65, 66, 67, 68, 69, 77, 78, 79, 80, 81, 82, 83, 84, 85, 86, 87, 88, 89, 90, 91, 92, 93, 94, 95, 96, 97, 98, 99, 100, 101, 102, 233, 234, 235, 236, 237, 238, 239, 240, 241, 242, 243, 244, 245, 246, 247, 248, 249, 250, 251, 252, 253, 254] (by decide +kernel) (by decide +kernel)) (goodIn_sub (fun _ h => List.mem_cons_of_mem _ (List.mem_append_right _ h)) (by decide +kernel))
set_option maxRecDepth 20000 in
theorem gL_act_X3_remove : GoodIn wsL_act (wsV RL 79 RX3 yX3_remove wsX3_remove) := goodIn_app (goodIn_r _ [196, 197, 198, 9] (by decide +kernel) (by decide +kernel)) ggL_act_X3_remove
set_option maxRecDepth 20000 in
theorem ggL_act_X3_change : GoodIn wsL_act wsX3_change := goodIn_ca (goodIn_ca (goodIn_r _ [211, 165, 166, 11, 12, 13, 15, 192, 193, 194, 9, 195, 14, 212, 213, 214, 133, 134, 135, 136, 137, 138, 139, 140, 141, 142, 143, 144, 145, 146, 147, 148, 149, 150, 151, 18, 152, 153, 154, 155, 156, 38, 39, 40, 22, 41, 24, 42, 25, 43, 44, 45, 46, 47, 48, 215, 216, 217, 218, 49, 50, 51, 52, 53, 54, 55, 56, 57, 58, 59, 60, 61, 62, 63, 64, 65, 66, 67, 68, 69, 70, 71, 72, 73, 74, 75, 76, 77, 78, 79, 80, 81, 82, 83, 84, 85, 86, 87, 88, 89, 90, 91, 92, 93, 94, 95, 96, 97, 98, 99, 100, 101, 102, 233, 234, 235, 236, 237, 238, 239, 240, 241, 242, 243, 244, 245, 246, 247, 248, 249, 250, 251, 252, 253, 254] (by decide +kernel) (by decide +kernel)) (goodIn_sub (fun _ h => List.mem_cons_of_mem _ (List.mem_append_right _ h)) (by decide +kernel))) (goodIn_sub (fun _ h => List.mem_cons_of_mem _ (List.mem_append_left _ (List.mem_append_left _ (List.mem_append_right _ h)))) (by decide +kernel))
set_option maxRecDepth 20000 in
theorem gL_act_X3_change : GoodIn wsL_act (wsV RL 82 RX3 yX3_change wsX3_change) := goodIn_app (goodIn_r _ [208, 209, 210, 9] (by decide +kernel) (by decide +kernel)) ggL_act_X3_change
set_option maxRecDepth 20000 in
theorem ggL_act_L_slip : GoodIn wsL_act wsL_slip := goodIn_ca (goodIn_ca (goodIn_ca (goodIn_r _ [221, 126, 222, 223, 224, 9, 225, 165, 166, 11, 12, 131, 132, 15, 17, 13, 36, 34, 192, 193, 194, 195, 14, 226, 227, 228, 229, 230, 231, 232, 148, 149, 150, 151, 18, 152, 153, 154, 155, 156, 38, 39, 40, 22, 41, 24, 42, 25, 43, 44, 45, 46, 47, 48, 49, 50, 51, 52, 53, 54, 55, 56, 57, 58, 59, 60, 61, 62, 63, 64, 65, 66, 67, 68, 69, 70, 71, 72, 73, 74, 75, 76, 77, 78, 79, 80, 81, 82, 83, 84, 85, 86, 87, 88, 89, 90, 91, 92, 93, 94, 95, 96, 97, 98, 99, 100, 101, 102, 233, 234, 235, 236, 237, 238, 239, 240, 250, 251, 252, 253, 254, 241, 242, 243, 244, 245, 246, 247, 248, 249] (by decide +kernel) (by decide +kernel)) (goodIn_sub (fun _ h => List.mem_cons_of_mem _ (List.mem_append_right _ h)) (by decide +kernel))) (goodIn_sub (fun _ h => List.mem_cons_of_mem _ (List.mem_append_left _ (List.mem_append_left _ (List.mem_append_right _ h)))) (by decide +kernel))) (goodIn_sub (fun _ h => List.mem_cons_of_mem _ (List.mem_append_left _ (List.mem_append_right _ h))) (by decide +kernel))
set_option maxRecDepth 20000 in
theorem gL_act_L_slip : GoodIn wsL_act (va_wsS RL 85 yL_slip wsL_slip) := goodIn_app (goodIn_r _ [219, 220, 3] (by decide +kernel) (by decide +kernel)) ggL_act_L_slip
theorem dL_act_0 : decode cL_act 0 = .ok (.aload_n 1, 1) := by decide +kernel
theorem dL_act_1 : decode cL_act 1 = .ok (.iload_n 2, 1) := by decide +kernel
theorem dL_act_2 : decode cL_act 2 = .ok (.iconst 1, 1) := by decide +kernel
theorem dL_act_3 : decode cL_act 3 = .ok (.iadd, 1) := by decide +kernel
theorem dL_act_4 : decode cL_act 4 = .ok (.invokestatic 54, 3) := by decide +kernel
theorem dL_act_7 : decode cL_act 7 = .ok (.istore_n 3, 1) := by decide +kernel
theorem dL_act_8 : decode cL_act 8 = .ok (.aload_n 1, 1) := by decide +kernel
theorem dL_act_9 : decode cL_act 9 = .ok (.iload_n 2, 1) := by decide +kernel
theorem dL_act_10 : decode cL_act 10 = .ok (.iconst 2, 1) := by decide +kernel
theorem dL_act_11 : decode cL_act 11 = .ok (.iadd, 1) := by decide +kernel
theorem dL_act_12 : decode cL_act 12 = .ok (.invokestatic 54, 3) := by decide +kernel
theorem dL_act_15 : decode cL_act 15 = .ok (.istore 4, 2) := by decide +kernel
theorem dL_act_17 : decode cL_act 17 = .ok (.aload_n 1, 1) := by decide +kernel
theorem dL_act_18 : decode cL_act 18 = .ok (.iload_n 2, 1) := by decide +kernel
theorem dL_act_19 : decode cL_act 19 = .ok (.iconst 3, 1) := by decide +kernel
theorem dL_act_20 : decode cL_act 20 = .ok (.iadd, 1) := by decide +kernel
theorem dL_act_21 : decode cL_act 21 = .ok (.invokestatic 54, 3) := by decide +kernel
theorem dL_act_24 : decode cL_act 24 = .ok (.istore 5, 2) := by decide +kernel
theorem dL_act_26 : decode cL_act 26 = .ok (.aload_n 0, 1) := by decide +kernel
theorem dL_act_27 : decode cL_act 27 = .ok (.iconst 0, 1) := by decide +kernel
theorem dL_act_28 : decode cL_act 28 = .ok (.invokevirtual 25, 3) := by decide +kernel
theorem dL_act_31 : decode cL_act 31 = .ok (.istore 6, 2) := by decide +kernel
theorem dL_act_33 : decode cL_act 33 = .ok (.iload 6, 2) := by decide +kernel
theorem dL_act_35 : decode cL_act 35 = .ok (.ifCond .ne 7, 3) := by decide +kernel
theorem dL_act_38 : decode cL_act 38 = .ok (.iconst 0, 1) := by decide +kernel
theorem dL_act_39 : decode cL_act 39 = .ok (.goto 9, 3) := by decide +kernel
theorem dL_act_42 : decode cL_act 42 = .ok (.iload_n 3, 1) := by decide +kernel
theorem dL_act_43 : decode cL_act 43 = .ok (.iload 6, 2) := by decide +kernel
theorem dL_act_45 : decode cL_act 45 = .ok (.invokestatic 60, 3) := by decide +kernel
theorem dL_act_48 : decode cL_act 48 = .ok (.istore 7, 2) := by decide +kernel
theorem dL_act_50 : decode cL_act 50 = .ok (.aload_n 1, 1) := by decide +kernel
theorem dL_act_51 : decode cL_act 51 = .ok (.iload_n 2, 1) := by decide +kernel
theorem dL_act_52 : decode cL_act 52 = .ok (.invokestatic 54, 3) := by decide +kernel
theorem dL_act_55 : decode cL_act 55 = .ok (.bipush 16, 2) := by decide +kernel
theorem dL_act_57 : decode cL_act 57 = .ok (.invokestatic 60, 3) := by decide +kernel
theorem dL_act_60 : decode cL_act 60 = .ok (.istore 8, 2) := by decide +kernel
theorem dL_act_62 : decode cL_act 62 = .ok (.iload 8, 2) := by decide +kernel
theorem dL_act_64 : decode cL_act 64 = .ok (.iconst 5, 1) := by decide +kernel
theorem dL_act_65 : decode cL_act 65 = .ok (.if_icmp .ge 33, 3) := by decide +kernel
theorem dL_act_68 : decode cL_act 68 = .ok (.aload_n 0, 1) := by decide +kernel
theorem dL_act_69 : decode cL_act 69 = .ok (.iconst 1, 1) := by decide +kernel
theorem dL_act_70 : decode cL_act 70 = .ok (.iload_n 3, 1) := by decide +kernel
theorem dL_act_71 : decode cL_act 71 = .ok (.bipush 9, 2) := by decide +kernel
theorem dL_act_73 : decode cL_act 73 = .ok (.invokestatic 60, 3) := by decide +kernel
theorem dL_act_76 : decode cL_act 76 = .ok (.iadd, 1) := by decide +kernel
theorem dL_act_77 : decode cL_act 77 = .ok (.iload 4, 2) := by decide +kernel
theorem dL_act_79 : decode cL_act 79 = .ok (.bipush 6, 2) := by decide +kernel
theorem dL_act_81 : decode cL_act 81 = .ok (.invokestatic 60, 3) := by decide +kernel
theorem dL_act_84 : decode cL_act 84 = .ok (.iconst 1, 1) := by decide +kernel
theorem dL_act_85 : decode cL_act 85 = .ok (.isub, 1) := by decide +kernel
theorem dL_act_86 : decode cL_act 86 = .ok (.iload 5, 2) := by decide +kernel
theorem dL_act_88 : decode cL_act 88 = .ok (.iconst 5, 1) := by decide +kernel
theorem dL_act_89 : decode cL_act 89 = .ok (.invokestatic 60, 3) := by decide +kernel
theorem dL_act_92 : decode cL_act 92 = .ok (.iconst 1, 1) := by decide +kernel
theorem dL_act_93 : decode cL_act 93 = .ok (.isub, 1) := by decide +kernel
theorem dL_act_94 : decode cL_act 94 = .ok (.invokestatic 63, 3) := by decide +kernel
theorem dL_act_97 : decode cL_act 97 = .ok (.ireturn, 1) := by decide +kernel
theorem dL_act_98 : decode cL_act 98 = .ok (.iload 8, 2) := by decide +kernel
theorem dL_act_100 : decode cL_act 100 = .ok (.iconst 5, 1) := by decide +kernel
theorem dL_act_101 : decode cL_act 101 = .ok (.if_icmp .ne 34, 3) := by decide +kernel
theorem dL_act_104 : decode cL_act 104 = .ok (.iload_n 3, 1) := by decide +kernel
theorem dL_act_105 : decode cL_act 105 = .ok (.bipush 60, 2) := by decide +kernel
theorem dL_act_107 : decode cL_act 107 = .ok (.invokestatic 60, 3) := by decide +kernel
theorem dL_act_110 : decode cL_act 110 = .ok (.istore 9, 2) := by decide +kernel
theorem dL_act_112 : decode cL_act 112 = .ok (.aload_n 0, 1) := by decide +kernel
theorem dL_act_113 : decode cL_act 113 = .ok (.iload 4, 2) := by decide +kernel
theorem dL_act_115 : decode cL_act 115 = .ok (.iconst 4, 1) := by decide +kernel
theorem dL_act_116 : decode cL_act 116 = .ok (.invokestatic 60, 3) := by decide +kernel
theorem dL_act_119 : decode cL_act 119 = .ok (.iload 9, 2) := by decide +kernel
theorem dL_act_121 : decode cL_act 121 = .ok (.iload 9, 2) := by decide +kernel
theorem dL_act_123 : decode cL_act 123 = .ok (.iload 5, 2) := by decide +kernel
theorem dL_act_125 : decode cL_act 125 = .ok (.bipush 40, 2) := by decide +kernel
theorem dL_act_127 : decode cL_act 127 = .ok (.invokestatic 60, 3) := by decide +kernel
theorem dL_act_130 : decode cL_act 130 = .ok (.iadd, 1) := by decide +kernel
theorem dL_act_131 : decode cL_act 131 = .ok (.invokevirtual 66, 3) := by decide +kernel
theorem dL_act_134 : decode cL_act 134 = .ok (.ireturn, 1) := by decide +kernel
theorem dL_act_135 : decode cL_act 135 = .ok (.iload 8, 2) := by decide +kernel
theorem dL_act_137 : decode cL_act 137 = .ok (.bipush 6, 2) := by decide +kernel
theorem dL_act_139 : decode cL_act 139 = .ok (.if_icmp .ne 13, 3) := by decide +kernel
theorem dL_act_142 : decode cL_act 142 = .ok (.aload_n 0, 1) := by decide +kernel
theorem dL_act_143 : decode cL_act 143 = .ok (.iload_n 3, 1) := by decide +kernel
theorem dL_act_144 : decode cL_act 144 = .ok (.iconst 4, 1) := by decide +kernel
theorem dL_act_145 : decode cL_act 145 = .ok (.invokestatic 60, 3) := by decide +kernel
theorem dL_act_148 : decode cL_act 148 = .ok (.invokevirtual 69, 3) := by decide +kernel
theorem dL_act_151 : decode cL_act 151 = .ok (.ireturn, 1) := by decide +kernel
theorem dL_act_152 : decode cL_act 152 = .ok (.iload 8, 2) := by decide +kernel
theorem dL_act_154 : decode cL_act 154 = .ok (.bipush 7, 2) := by decide +kernel
theorem dL_act_156 : decode cL_act 156 = .ok (.if_icmp .ne 8, 3) := by decide +kernel
theorem dL_act_159 : decode cL_act 159 = .ok (.aload_n 0, 1) := by decide +kernel
theorem dL_act_160 : decode cL_act 160 = .ok (.invokestatic 72, 3) := by decide +kernel
theorem dL_act_163 : decode cL_act 163 = .ok (.ireturn, 1) := by decide +kernel
theorem dL_act_164 : decode cL_act 164 = .ok (.iload 6, 2) := by decide +kernel
theorem dL_act_166 : decode cL_act 166 = .ok (.ifCond .ne 7, 3) := by decide +kernel
theorem dL_act_169 : decode cL_act 169 = .ok (.sipush (-200), 3) := by decide +kernel
theorem dL_act_172 : decode cL_act 172 = .ok (.ireturn, 1) := by decide +kernel
theorem dL_act_173 : decode cL_act 173 = .ok (.iload 8, 2) := by decide +kernel
theorem dL_act_175 : decode cL_act 175 = .ok (.bipush 11, 2) := by decide +kernel
theorem dL_act_177 : decode cL_act 177 = .ok (.if_icmp .ge 40, 3) := by decide +kernel
theorem dL_act_180 : decode cL_act 180 = .ok (.iload 7, 2) := by decide +kernel
theorem dL_act_182 : decode cL_act 182 = .ok (.ifCond .ne 7, 3) := by decide +kernel
theorem dL_act_185 : decode cL_act 185 = .ok (.iconst 0, 1) := by decide +kernel
theorem dL_act_186 : decode cL_act 186 = .ok (.goto 30, 3) := by decide +kernel
theorem dL_act_189 : decode cL_act 189 = .ok (.aload_n 0, 1) := by decide +kernel
theorem dL_act_190 : decode cL_act 190 = .ok (.iload 7, 2) := by decide +kernel
theorem dL_act_192 : decode cL_act 192 = .ok (.iload 4, 2) := by decide +kernel
theorem dL_act_194 : decode cL_act 194 = .ok (.iload 7, 2) := by decide +kernel
theorem dL_act_196 : decode cL_act 196 = .ok (.invokestatic 60, 3) := by decide +kernel
theorem dL_act_199 : decode cL_act 199 = .ok (.iload 5, 2) := by decide +kernel
theorem dL_act_201 : decode cL_act 201 = .ok (.iconst 4, 1) := by decide +kernel
theorem dL_act_202 : decode cL_act 202 = .ok (.invokestatic 60, 3) := by decide +kernel
theorem dL_act_205 : decode cL_act 205 = .ok (.ifCond .le 7, 3) := by decide +kernel
theorem dL_act_208 : decode cL_act 208 = .ok (.iconst 1, 1) := by decide +kernel
theorem dL_act_209 : decode cL_act 209 = .ok (.goto 4, 3) := by decide +kernel
theorem dL_act_212 : decode cL_act 212 = .ok (.iconst 0, 1) := by decide +kernel
theorem dL_act_213 : decode cL_act 213 = .ok (.invokevirtual 75, 3) := by decide +kernel
theorem dL_act_216 : decode cL_act 216 = .ok (.ireturn, 1) := by decide +kernel
theorem dL_act_217 : decode cL_act 217 = .ok (.iload 8, 2) := by decide +kernel
theorem dL_act_219 : decode cL_act 219 = .ok (.bipush 11, 2) := by decide +kernel
theorem dL_act_221 : decode cL_act 221 = .ok (.if_icmp .ne 38, 3) := by decide +kernel
theorem dL_act_224 : decode cL_act 224 = .ok (.iload 5, 2) := by decide +kernel
theorem dL_act_226 : decode cL_act 226 = .ok (.iconst 2, 1) := by decide +kernel
theorem dL_act_227 : decode cL_act 227 = .ok (.invokestatic 60, 3) := by decide +kernel
theorem dL_act_230 : decode cL_act 230 = .ok (.ifCond .ne 12, 3) := by decide +kernel
theorem dL_act_233 : decode cL_act 233 = .ok (.aload_n 0, 1) := by decide +kernel
theorem dL_act_234 : decode cL_act 234 = .ok (.iload 7, 2) := by decide +kernel
theorem dL_act_236 : decode cL_act 236 = .ok (.invokevirtual 79, 3) := by decide +kernel
theorem dL_act_239 : decode cL_act 239 = .ok (.goto 19, 3) := by decide +kernel
theorem dL_act_242 : decode cL_act 242 = .ok (.aload_n 0, 1) := by decide +kernel
theorem dL_act_243 : decode cL_act 243 = .ok (.iload 7, 2) := by decide +kernel
end
section
theorem dL_act_245 : decode cL_act 245 = .ok (.iconst 1, 1) := by decide +kernel
theorem dL_act_246 : decode cL_act 246 = .ok (.iload 4, 2) := by decide +kernel
theorem dL_act_248 : decode cL_act 248 = .ok (.bipush 7, 2) := by decide +kernel
theorem dL_act_250 : decode cL_act 250 = .ok (.invokestatic 60, 3) := by decide +kernel
theorem dL_act_253 : decode cL_act 253 = .ok (.iconst 1, 1) := by decide +kernel
theorem dL_act_254 : decode cL_act 254 = .ok (.isub, 1) := by decide +kernel
theorem dL_act_255 : decode cL_act 255 = .ok (.invokevirtual 82, 3) := by decide +kernel
theorem dL_act_258 : decode cL_act 258 = .ok (.ireturn, 1) := by decide +kernel
theorem dL_act_259 : decode cL_act 259 = .ok (.iload 8, 2) := by decide +kernel
theorem dL_act_261 : decode cL_act 261 = .ok (.bipush 12, 2) := by decide +kernel
theorem dL_act_263 : decode cL_act 263 = .ok (.if_icmp .ne 20, 3) := by decide +kernel
theorem dL_act_266 : decode cL_act 266 = .ok (.aload_n 0, 1) := by decide +kernel
theorem dL_act_267 : decode cL_act 267 = .ok (.iload 7, 2) := by decide +kernel
theorem dL_act_269 : decode cL_act 269 = .ok (.iconst 0, 1) := by decide +kernel
theorem dL_act_270 : decode cL_act 270 = .ok (.iconst 1, 1) := by decide +kernel
theorem dL_act_271 : decode cL_act 271 = .ok (.iload 4, 2) := by decide +kernel
theorem dL_act_273 : decode cL_act 273 = .ok (.bipush 9, 2) := by decide +kernel
theorem dL_act_275 : decode cL_act 275 = .ok (.invokestatic 60, 3) := by decide +kernel
theorem dL_act_278 : decode cL_act 278 = .ok (.iadd, 1) := by decide +kernel
theorem dL_act_279 : decode cL_act 279 = .ok (.invokevirtual 82, 3) := by decide +kernel
theorem dL_act_282 : decode cL_act 282 = .ok (.ireturn, 1) := by decide +kernel
theorem dL_act_283 : decode cL_act 283 = .ok (.iload 8, 2) := by decide +kernel
theorem dL_act_285 : decode cL_act 285 = .ok (.bipush 13, 2) := by decide +kernel
theorem dL_act_287 : decode cL_act 287 = .ok (.if_icmp .ne 20, 3) := by decide +kernel
theorem dL_act_290 : decode cL_act 290 = .ok (.aload_n 0, 1) := by decide +kernel
theorem dL_act_291 : decode cL_act 291 = .ok (.iload 7, 2) := by decide +kernel
theorem dL_act_293 : decode cL_act 293 = .ok (.iconst 3, 1) := by decide +kernel
theorem dL_act_294 : decode cL_act 294 = .ok (.iload 4, 2) := by decide +kernel
theorem dL_act_296 : decode cL_act 296 = .ok (.bipush 61, 2) := by decide +kernel
theorem dL_act_298 : decode cL_act 298 = .ok (.invokestatic 60, 3) := by decide +kernel
theorem dL_act_301 : decode cL_act 301 = .ok (.invokevirtual 82, 3) := by decide +kernel
theorem dL_act_304 : decode cL_act 304 = .ok (.goto 18, 3) := by decide +kernel
theorem dL_act_307 : decode cL_act 307 = .ok (.aload_n 0, 1) := by decide +kernel
theorem dL_act_308 : decode cL_act 308 = .ok (.iload 7, 2) := by decide +kernel
theorem dL_act_310 : decode cL_act 310 = .ok (.iconst 1, 1) := by decide +kernel
theorem dL_act_311 : decode cL_act 311 = .ok (.iload 4, 2) := by decide +kernel
theorem dL_act_313 : decode cL_act 313 = .ok (.bipush 20, 2) := by decide +kernel
theorem dL_act_315 : decode cL_act 315 = .ok (.invokestatic 60, 3) := by decide +kernel
theorem dL_act_318 : decode cL_act 318 = .ok (.iadd, 1) := by decide +kernel
theorem dL_act_319 : decode cL_act 319 = .ok (.invokestatic 85, 3) := by decide +kernel
theorem dL_act_322 : decode cL_act 322 = .ok (.ireturn, 1) := by decide +kernel
set_option maxRecDepth 20000 in
theorem ggL_law_X3_init : GoodIn wsL_law wsX3_init := goodIn_r _ [5, 6, 7, 8, 9, 10, 11, 12, 13, 14, 15, 16, 17, 18, 19, 20, 21, 22, 23, 24, 25, 26, 27, 28, 29, 30, 31, 32, 33, 34, 35, 36, 37, 38, 39, 40, 41, 42, 43, 44, 45, 46, 47, 48, 49, 50, 51, 52, 333, 334, 335, 336, 337, 338, 339, 340, 341, 325, 326, 327, 328, 329, 330, 331, 332, 342, 343, 344, 345, 346, 347, 348] (by decide +kernel) (by decide +kernel)
set_option maxRecDepth 20000 in
theorem gL_law_X3_init : GoodIn wsL_law (wsX3_init) := ggL_law_X3_init
set_option maxRecDepth 20000 in
theorem ggL_law_X3_count : GoodIn wsL_law wsX3_count := goodIn_ca (goodIn_r _ [56, 57, 58, 12, 59, 16, 60, 61, 26, 62, 63, 64, 11, 65, 38, 31, 66, 67, 68, 2, 69, 70, 71, 72, 73, 74, 17, 75, 18, 76, 77, 78, 79, 39, 32, 33, 34, 35, 36, 37, 80, 81, 82, 15, 83, 45, 46, 47, 84, 43, 44, 85, 86, 87, 88, 89, 90, 91, 92, 93, 94, 95, 96, 97, 98, 99, 100, 101, 102, 103, 104, 105, 106, 107, 108, 109, 110, 111, 112, 113, 114, 115, 116, 117, 118, 119, 120, 121, 122, 123, 124, 125, 126, 127, 128, 129, 130, 131, 132, 133, 134, 135, 136, 137, 138, 139, 25, 140, 141, 142, 325, 326, 327, 328, 329, 330, 331, 332, 333, 334, 335, 336, 337, 338, 339, 340, 341, 342, 343, 344, 345, 346] (by decide +kernel) (by decide +kernel)) (goodIn_sub (fun _ h => List.mem_append_left _ (List.mem_append_left _ (List.mem_append_right _ h))) (by decide +kernel))
set_option maxRecDepth 20000 in
theorem gL_law_X3_count : GoodIn wsL_law (wsV RL 25 RX3 yX3_count wsX3_count) := goodIn_app (goodIn_r _ [53, 54, 55, 2] (by decide +kernel) (by decide +kernel)) ggL_law_X3_count
set_option maxRecDepth 20000 in
theorem ggL_law_L_act : GoodIn wsL_law wsL_act := goodIn_ca (goodIn_ca (goodIn_ca (goodIn_r _ [146, 147, 148, 145, 149, 150, 53, 54, 55, 2, 56, 57, 58, 12, 59, 16, 60, 61, 26, 62, 63, 64, 11, 65, 38, 31, 66, 67, 68, 69, 70, 71, 72, 73, 74, 17, 75, 18, 76, 77, 78, 79, 39, 32, 33, 34, 35, 36, 37, 80, 81, 82, 15, 83, 45, 46, 47, 84, 43, 44, 85, 86, 87, 88, 89, 90, 91, 92, 93, 94, 95, 96, 97, 98, 99, 100, 101, 102, 103, 104, 105, 106, 107, 108, 109, 110, 111, 112, 113, 114, 115, 116, 117, 118, 119, 120, 121, 122, 123, 124, 125, 126, 127, 128, 129, 130, 131, 132, 133, 134, 135, 136, 137, 138, 139, 25, 140, 141, 142, 151, 152, 153, 154, 155, 156, 157, 158, 159, 160, 161, 162, 163, 164, 165, 166, 167, 168, 169, 170, 171, 172, 173, 174, 175, 176, 177, 178, 179, 180, 181, 182, 183, 19, 184, 185, 186, 187, 188, 189, 190, 191, 192, 193, 194, 195, 196, 197, 198, 199, 200, 201, 202, 203, 204, 205, 206, 207, 208, 209, 210, 211, 212, 213, 214, 215, 216, 217, 218, 219, 220, 221, 222, 223, 224, 225, 226, 227, 228, 229, 230, 231, 232, 233, 234, 235, 236, 237, 238, 239, 240, 241, 242, 243, 244, 245, 246, 247, 248, 249, 250, 251, 252, 253, 254, 255, 256, 257, 258, 259, 260, 261, 262, 263, 325, 326, 327, 328, 329, 330, 331, 332, 333, 334, 335, 336, 337, 338, 339, 340, 341, 342, 343, 344, 345, 346] (by decide +kernel) (by decide +kernel)) (goodIn_sub (fun _ h => List.mem_append_left _ (List.mem_append_left _ (List.mem_append_right _ h))) (by decide +kernel))) (goodIn_sub (fun _ h => List.mem_append_left _ (List.mem_append_right _ h)) (by decide +kernel))) (goodIn_sub (fun _ h => List.mem_append_right _ h) (by decide +kernel))
set_option maxRecDepth 20000 in
theorem gL_law_L_act : GoodIn wsL_law (va_wsS RL 89 yL_act wsL_act) := goodIn_app (goodIn_r _ [143, 144, 145] (by decide +kernel) (by decide +kernel)) ggL_law_L_act
set_option maxRecDepth 20000 in
theorem ggL_law_L_plan : GoodIn wsL_law wsL_plan := goodIn_ca (goodIn_ca (goodIn_r _ [266, 53, 54, 55, 2, 56, 57, 58, 12, 59, 16, 60, 61, 26, 62, 63, 64, 11, 65, 38, 31, 66, 67, 68, 69, 70, 71, 72, 73, 74, 17, 75, 18, 76, 77, 78, 79, 39, 32, 33, 34, 35, 36, 37, 80, 81, 82, 15, 83, 45, 46, 47, 84, 43, 44, 85, 86, 87, 88, 89, 90, 91, 92, 93, 94, 95, 96, 97, 98, 99, 100, 101, 102, 103, 104, 105, 106, 107, 108, 109, 110, 111, 112, 113, 114, 115, 116, 117, 118, 119, 120, 121, 122, 123, 124, 125, 126, 127, 128, 129, 130, 131, 132, 133, 134, 135, 136, 137, 138, 139, 25, 140, 141, 142, 267, 268, 269, 270, 196, 197, 223, 224, 225, 226, 231, 271, 246, 247, 248, 249, 272, 273, 274, 275, 276, 171, 172, 173, 200, 201, 202, 277, 278, 279, 280, 281, 282, 283, 284, 285, 177, 178, 179, 286, 287, 288, 289, 198, 199, 290, 291, 292, 293, 294, 295, 296, 297, 325, 326, 327, 328, 329, 330, 331, 332, 333, 334, 335, 336, 337, 338, 339, 340, 341, 342, 343, 344, 345, 346] (by decide +kernel) (by decide +kernel)) (goodIn_sub (fun _ h => List.mem_append_left _ (List.mem_append_left _ (List.mem_append_right _ h))) (by decide +kernel))) (goodIn_sub (fun _ h => List.mem_append_right _ h) (by decide +kernel))
set_option maxRecDepth 20000 in
theorem gL_law_L_plan : GoodIn wsL_law (va_wsS RL 93 yL_plan wsL_plan) := goodIn_app (goodIn_r _ [264, 265, 145] (by decide +kernel) (by decide +kernel)) ggL_law_L_plan
set_option maxRecDepth 20000 in
theorem ggL_law_L_looks : GoodIn wsL_law wsL_looks := goodIn_ca (goodIn_ca (goodIn_r _ [300, 301, 302, 303, 2, 304, 12, 207, 305, 306, 307, 308, 57, 58, 18, 61, 60, 17, 208, 209, 210, 309, 310, 311, 312, 76, 77, 78, 11, 79, 38, 39, 31, 32, 33, 34, 35, 36, 37, 80, 81, 82, 15, 83, 45, 46, 47, 84, 43, 44, 85, 86, 87, 88, 89, 90, 91, 92, 93, 94, 95, 96, 97, 98, 99, 100, 101, 102, 103, 104, 105, 106, 107, 108, 109, 110, 111, 112, 113, 114, 115, 116, 117, 118, 119, 120, 121, 122, 123, 124, 125, 126, 127, 128, 129, 130, 131, 132, 133, 134, 135, 53, 54, 55, 56, 59, 16, 26, 62, 63, 64, 65, 66, 67, 68, 69, 70, 71, 72, 73, 74, 75, 136, 137, 138, 139, 25, 140, 141, 142, 281, 282, 283, 284, 196, 197, 285, 177, 178, 179, 200, 201, 202, 277, 278, 279, 280, 286, 287, 288, 289, 198, 199, 290, 291, 292, 293, 294, 295, 296, 297, 313, 314, 315, 316, 257, 258, 259, 260, 261, 262, 263, 267, 268, 269, 270, 223, 224, 225, 226, 231, 271, 246, 247, 248, 249, 317, 318, 319, 320, 321, 322, 323, 324, 325, 326, 327, 328, 329, 330, 331, 332, 333, 334, 335, 336, 337, 338, 339, 340, 341, 342, 343, 344, 345, 346] (by decide +kernel) (by decide +kernel)) (goodIn_sub (fun _ h => List.mem_append_left _ (List.mem_append_left _ (List.mem_append_right _ h))) (by decide +kernel))) (goodIn_sub (fun _ h => List.mem_append_right _ h) (by decide +kernel))
set_option maxRecDepth 20000 in
theorem gL_law_L_looks : GoodIn wsL_law (va_wsS RL 97 yL_looks wsL_looks) := goodIn_app (goodIn_r _ [298, 299, 145] (by decide +kernel) (by decide +kernel)) ggL_law_L_looks
theorem dL_law_0 : decode cL_law 0 = .ok (.new 10, 3) := by decide +kernel
theorem dL_law_3 : decode cL_law 3 = .ok (.dup, 1) := by decide +kernel
theorem dL_law_4 : decode cL_law 4 = .ok (.invokespecial 88, 3) := by decide +kernel
theorem dL_law_7 : decode cL_law 7 = .ok (.astore_n 1, 1) := by decide +kernel
theorem dL_law_8 : decode cL_law 8 = .ok (.iconst 1, 1) := by decide +kernel
theorem dL_law_9 : decode cL_law 9 = .ok (.istore_n 2, 1) := by decide +kernel
theorem dL_law_10 : decode cL_law 10 = .ok (.aload_n 0, 1) := by decide +kernel
theorem dL_law_11 : decode cL_law 11 = .ok (.arraylength, 1) := by decide +kernel
theorem dL_law_12 : decode cL_law 12 = .ok (.iconst 4, 1) := by decide +kernel
theorem dL_law_13 : decode cL_law 13 = .ok (.idiv, 1) := by decide +kernel
theorem dL_law_14 : decode cL_law 14 = .ok (.bipush 24, 2) := by decide +kernel
theorem dL_law_16 : decode cL_law 16 = .ok (.if_icmp .le 8, 3) := by decide +kernel
theorem dL_law_19 : decode cL_law 19 = .ok (.bipush 24, 2) := by decide +kernel
theorem dL_law_21 : decode cL_law 21 = .ok (.goto 7, 3) := by decide +kernel
theorem dL_law_24 : decode cL_law 24 = .ok (.aload_n 0, 1) := by decide +kernel
theorem dL_law_25 : decode cL_law 25 = .ok (.arraylength, 1) := by decide +kernel
theorem dL_law_26 : decode cL_law 26 = .ok (.iconst 4, 1) := by decide +kernel
theorem dL_law_27 : decode cL_law 27 = .ok (.idiv, 1) := by decide +kernel
theorem dL_law_28 : decode cL_law 28 = .ok (.istore_n 3, 1) := by decide +kernel
theorem dL_law_29 : decode cL_law 29 = .ok (.iconst 0, 1) := by decide +kernel
theorem dL_law_30 : decode cL_law 30 = .ok (.istore 4, 2) := by decide +kernel
theorem dL_law_32 : decode cL_law 32 = .ok (.iload 4, 2) := by decide +kernel
theorem dL_law_34 : decode cL_law 34 = .ok (.iload_n 3, 1) := by decide +kernel
theorem dL_law_35 : decode cL_law 35 = .ok (.if_icmp .ge 112, 3) := by decide +kernel
theorem dL_law_38 : decode cL_law 38 = .ok (.iload_n 2, 1) := by decide +kernel
theorem dL_law_39 : decode cL_law 39 = .ok (.ifCond .eq 108, 3) := by decide +kernel
theorem dL_law_42 : decode cL_law 42 = .ok (.aload_n 1, 1) := by decide +kernel
theorem dL_law_43 : decode cL_law 43 = .ok (.bipush 8, 2) := by decide +kernel
theorem dL_law_45 : decode cL_law 45 = .ok (.invokevirtual 25, 3) := by decide +kernel
theorem dL_law_48 : decode cL_law 48 = .ok (.istore 5, 2) := by decide +kernel
theorem dL_law_50 : decode cL_law 50 = .ok (.aload_n 1, 1) := by decide +kernel
theorem dL_law_51 : decode cL_law 51 = .ok (.iconst 0, 1) := by decide +kernel
theorem dL_law_52 : decode cL_law 52 = .ok (.invokevirtual 25, 3) := by decide +kernel
theorem dL_law_55 : decode cL_law 55 = .ok (.istore 6, 2) := by decide +kernel
theorem dL_law_57 : decode cL_law 57 = .ok (.aload_n 1, 1) := by decide +kernel
theorem dL_law_58 : decode cL_law 58 = .ok (.iconst 3, 1) := by decide +kernel
theorem dL_law_59 : decode cL_law 59 = .ok (.invokevirtual 25, 3) := by decide +kernel
theorem dL_law_62 : decode cL_law 62 = .ok (.istore 7, 2) := by decide +kernel
theorem dL_law_64 : decode cL_law 64 = .ok (.aload_n 1, 1) := by decide +kernel
theorem dL_law_65 : decode cL_law 65 = .ok (.aload_n 0, 1) := by decide +kernel
theorem dL_law_66 : decode cL_law 66 = .ok (.iconst 4, 1) := by decide +kernel
theorem dL_law_67 : decode cL_law 67 = .ok (.iload 4, 2) := by decide +kernel
theorem dL_law_69 : decode cL_law 69 = .ok (.imul, 1) := by decide +kernel
theorem dL_law_70 : decode cL_law 70 = .ok (.invokestatic 89, 3) := by decide +kernel
theorem dL_law_73 : decode cL_law 73 = .ok (.istore 8, 2) := by decide +kernel
theorem dL_law_75 : decode cL_law 75 = .ok (.iload 8, 2) := by decide +kernel
theorem dL_law_77 : decode cL_law 77 = .ok (.sipush (-200), 3) := by decide +kernel
theorem dL_law_80 : decode cL_law 80 = .ok (.if_icmp .gt 34, 3) := by decide +kernel
theorem dL_law_83 : decode cL_law 83 = .ok (.aload_n 1, 1) := by decide +kernel
theorem dL_law_84 : decode cL_law 84 = .ok (.bipush 8, 2) := by decide +kernel
theorem dL_law_86 : decode cL_law 86 = .ok (.invokevirtual 25, 3) := by decide +kernel
theorem dL_law_89 : decode cL_law 89 = .ok (.iload 5, 2) := by decide +kernel
theorem dL_law_91 : decode cL_law 91 = .ok (.if_icmp .ne 48, 3) := by decide +kernel
theorem dL_law_94 : decode cL_law 94 = .ok (.aload_n 1, 1) := by decide +kernel
theorem dL_law_95 : decode cL_law 95 = .ok (.iconst 0, 1) := by decide +kernel
theorem dL_law_96 : decode cL_law 96 = .ok (.invokevirtual 25, 3) := by decide +kernel
theorem dL_law_99 : decode cL_law 99 = .ok (.iload 6, 2) := by decide +kernel
theorem dL_law_101 : decode cL_law 101 = .ok (.if_icmp .ne 38, 3) := by decide +kernel
theorem dL_law_104 : decode cL_law 104 = .ok (.aload_n 1, 1) := by decide +kernel
theorem dL_law_105 : decode cL_law 105 = .ok (.iconst 3, 1) := by decide +kernel
theorem dL_law_106 : decode cL_law 106 = .ok (.invokevirtual 25, 3) := by decide +kernel
theorem dL_law_109 : decode cL_law 109 = .ok (.iload 7, 2) := by decide +kernel
theorem dL_law_111 : decode cL_law 111 = .ok (.if_icmp .ne 28, 3) := by decide +kernel
theorem dL_law_114 : decode cL_law 114 = .ok (.aload_n 1, 1) := by decide +kernel
theorem dL_law_115 : decode cL_law 115 = .ok (.invokestatic 93, 3) := by decide +kernel
theorem dL_law_118 : decode cL_law 118 = .ok (.ifCond .eq 21, 3) := by decide +kernel
theorem dL_law_121 : decode cL_law 121 = .ok (.iload 4, 2) := by decide +kernel
theorem dL_law_123 : decode cL_law 123 = .ok (.iconst 4, 1) := by decide +kernel
theorem dL_law_124 : decode cL_law 124 = .ok (.irem, 1) := by decide +kernel
theorem dL_law_125 : decode cL_law 125 = .ok (.ifCond .gt 10, 3) := by decide +kernel
theorem dL_law_128 : decode cL_law 128 = .ok (.aload_n 1, 1) := by decide +kernel
theorem dL_law_129 : decode cL_law 129 = .ok (.invokestatic 97, 3) := by decide +kernel
theorem dL_law_132 : decode cL_law 132 = .ok (.ifCond .eq 7, 3) := by decide +kernel
theorem dL_law_135 : decode cL_law 135 = .ok (.iconst 1, 1) := by decide +kernel
theorem dL_law_136 : decode cL_law 136 = .ok (.goto 4, 3) := by decide +kernel
theorem dL_law_139 : decode cL_law 139 = .ok (.iconst 0, 1) := by decide +kernel
theorem dL_law_140 : decode cL_law 140 = .ok (.istore_n 2, 1) := by decide +kernel
theorem dL_law_141 : decode cL_law 141 = .ok (.iinc 4 1, 3) := by decide +kernel
theorem dL_law_144 : decode cL_law 144 = .ok (.goto (-112), 3) := by decide +kernel
theorem dL_law_147 : decode cL_law 147 = .ok (.iload_n 2, 1) := by decide +kernel
theorem dL_law_148 : decode cL_law 148 = .ok (.ifCond .eq 14, 3) := by decide +kernel
theorem dL_law_151 : decode cL_law 151 = .ok (.aload_n 1, 1) := by decide +kernel
theorem dL_law_152 : decode cL_law 152 = .ok (.invokestatic 97, 3) := by decide +kernel
theorem dL_law_155 : decode cL_law 155 = .ok (.ifCond .eq 7, 3) := by decide +kernel
theorem dL_law_158 : decode cL_law 158 = .ok (.iconst 1, 1) := by decide +kernel
theorem dL_law_159 : decode cL_law 159 = .ok (.goto 4, 3) := by decide +kernel
theorem dL_law_162 : decode cL_law 162 = .ok (.iconst 0, 1) := by decide +kernel
theorem dL_law_163 : decode cL_law 163 = .ok (.ireturn, 1) := by decide +kernel
end
section
/-! the shapes of the system's worlds; the rows of its calls and ends, each in one piece -/
abbrev tw_F : Type := Nat → Int32
abbrev tw_St : Type := tw_F × tw_F × tw_F × tw_F × tw_F × tw_F × tw_F × Int32 × Int32
abbrev tw_Pl : Type := tw_F × tw_F × Int32 × Int32 × Int32
abbrev tw_Tx : Type := tw_F × Int32
abbrev tw_Wl : Type := tw_St × tw_Pl × tw_St × tw_Pl × tw_Tx × tw_F × Int32 × (Nat → tw_St) × (Nat → Nat)
def tw_ai (cI : ClassId) (a n : Nat) (f : tw_F) : Nat × va_E := (a, .inl (cI, n, .inl f))
def tw_wS (cI : ClassId) (a : Nat → Nat) (S : tw_St) : va_W := [(a 0, .inr (1, [.ref (a 1), .ref (a 2), .ref (a 3), .ref (a 4), .ref (a 5), .ref (a 6), .ref (a 7), .int S.2.2.2.2.2.2.2.1, .int S.2.2.2.2.2.2.2.2])), tw_ai cI (a 1) 12 S.1, tw_ai cI (a 2) 12 S.2.1, tw_ai cI (a 3) 12 S.2.2.1, tw_ai cI (a 4) 12 S.2.2.2.1, tw_ai cI (a 5) 12 S.2.2.2.2.1, tw_ai cI (a 6) 4 S.2.2.2.2.2.1, tw_ai cI (a 7) 4 S.2.2.2.2.2.2.1]
def tw_wP (cI : ClassId) (a : Nat → Nat) (P : tw_Pl) : va_W := [(a 0, .inr (0, [.ref (a 1), .ref (a 2), .int P.2.2.1, .int P.2.2.2.1, .int P.2.2.2.2])), tw_ai cI (a 1) 12 P.1, tw_ai cI (a 2) 12 P.2.1]
def tw_wT (cI : ClassId) (a : Nat → Nat) (X : tw_Tx) : va_W := [(a 0, .inr (2, [.ref (a 1), .int X.2])), tw_ai cI (a 1) 60 X.1]
def tw_wZ (cI : ClassId) (z : Nat → Nat → Nat) (Z : Nat → tw_St) : va_W := tw_wS cI (z 0) (Z 0) ++ (tw_wS cI (z 1) (Z 1) ++ (tw_wS cI (z 2) (Z 2) ++ (tw_wS cI (z 3) (Z 3) ++ (tw_wS cI (z 4) (Z 4) ++ tw_wS cI (z 5) (Z 5)))))
def tw_w0 (cI cQ : ClassId) (a na pa ta qa xa : Nat → Nat) (z : Nat → Nat → Nat) (rs : tw_F) (sc : Int32) (pi : Nat → Nat) : va_W := [(a 0, .inr (3, [.ref (na 0), .ref (pa 0), .ref (ta 0), .ref (qa 0), .ref (a 1), .ref (xa 0), .ref (a 2), .int sc])), (a 1, .inl (cQ, 6, .inr (.inr (.inr (.inr (fun i => some (z (pi i) 0))))))), tw_ai cI (a 2) 12 rs]
/-- the wall: its object (a 0), the row of saved states (a 1), the row of sums (a 2); now (na), plan (pa), trial (ta), its plan (qa), text (xa), the saved states (z) -/
def tw_wW (cI cQ : ClassId) (a na pa ta qa xa : Nat → Nat) (z : Nat → Nat → Nat) (W : tw_Wl) : va_W := tw_w0 cI cQ a na pa ta qa xa z W.2.2.2.2.2.1 W.2.2.2.2.2.2.1 W.2.2.2.2.2.2.2.2 ++ (tw_wS cI na W.1 ++ (tw_wP cI pa W.2.1 ++ (tw_wS cI ta W.2.2.1 ++ (tw_wP cI qa W.2.2.2.1 ++ (tw_wT cI xa W.2.2.2.2.1 ++ tw_wZ cI z W.2.2.2.2.2.2.2.1)))))
/-! the lifted methods: an index that is looked at, a step of an answer -/
def tw_g {α : Type} (i : Int32) (n : Nat) (x : Option α) : Option α := if i < 0 ∨ n ≤ i.toNatClampNeg then none else x
theorem tw_gs {α : Type} {i : Int32} {n : Nat} {x : Option α} {r : α} (h : tw_g i n x = some r) : vp_in i n ∧ x = some r := by
  unfold tw_g at h
  by_cases hc : i < 0 ∨ n ≤ i.toNatClampNeg
  · rw [if_pos hc] at h; cases h
  · rw [if_neg hc] at h; exact ⟨hc, h⟩
def tw_q {α : Type} (c : Prop) [Decidable c] (x : Option α) : Option α := if c then x else none
theorem tw_qs {α : Type} {c : Prop} [Decidable c] {x : Option α} {r : α} (h : tw_q c x = some r) : c ∧ x = some r := by
  unfold tw_q at h
  by_cases hc : c
  · rw [if_pos hc] at h; exact ⟨hc, h⟩
  · rw [if_neg hc] at h; cases h
theorem tw_bs {α β : Type} {x : Option α} {f : α → Option β} {r : β} (h : x.bind f = some r) : ∃ v, x = some v ∧ f v = some r := by
  cases x with
  | none => cases h
  | some v => exact ⟨v, rfl, h⟩
theorem tw_t {α : Type} {c : Prop} [Decidable c] {a b : Option α} {r : α} (hc : c) (h : (if c then a else b) = some r) : a = some r := by rw [if_pos hc] at h; exact h
theorem tw_f {α : Type} {c : Prop} [Decidable c] {a b : Option α} {r : α} (hc : ¬ c) (h : (if c then a else b) = some r) : b = some r := by rw [if_neg hc] at h; exact h
theorem tw_fn {α : Type} {c : Prop} [Decidable c] {a b : Option α} {r : α} (hc : c) (h : (if ¬ c then a else b) = some r) : b = some r := by rw [if_neg (fun q => q hc)] at h; exact h
theorem tw_no {α : Type} {r : α} {P : Prop} (h : (none : Option α) = some r) : P := by cases h
theorem tw_i1 (x : Int32) : x + Int32.ofInt 1 = x + 1 := rfl
theorem tw_i4 (x : Int32) : x + Int32.ofInt 4 = x + 4 := rfl
theorem tw_im1 (x : Int32) : x + Int32.ofInt (-1) = x + (-1) := rfl
/-! names of nest mates -/
def tw_N (U : State) : Prop := va_Nw (.methodLinkNest RX3 18 yX0_init RX3) U ∧ va_Nw (.methodLinkNest RX3 35 yX2_init RX3) U
theorem tw_N.warm {s U : State} (hW : s.WarmedH U.vm) (h : tw_N s) : tw_N U := ⟨va_Nw.warmM hW h.1, va_Nw.warmM hW h.2⟩
theorem tw_N.same {s U : State} (hv : s.vm = U.vm) (h : tw_N s) : tw_N U := ⟨va_Nw.same rfl hv h.1, va_Nw.same rfl hv h.2⟩
/-! a contract's start -/
def tw_Pc (G : va_G) (tys : List (ClassId × FieldType)) (ws : va_W) (sz : Nat) (av : List Value) : Array Value → State → Prop := va_Pc av (fun U => U.heap.size = sz ∧ va_P G vwCl ws U.heap ∧ (va_K G vwCl tys U ∧ tw_N U) ∧ va_D (fun _ => True) ws)
theorem tw_Pc_blind {G : va_G} {tys : List (ClassId × FieldType)} {ws : va_W} {sz : Nat} {av : List Value} : FrameBlind (tw_Pc G tys ws sz av) := fun a U g mk q => by
  obtain ⟨q0, q1, qP, ⟨qK, qN⟩, qD⟩ := q
  exact ⟨q0, q1, qP, ⟨va_K.moved (u := U) (U := U.calling g mk a) (Vm.Alike.refl U.vm) qK, tw_N.same (s := U) (U := U.calling g mk a) rfl qN⟩, qD⟩
def tw_Mi (l : Launch) (y : MethodName) (wsY : List Cond) (rm : Room) (G : va_G) (tys : List (ClassId × FieldType)) (wc : va_W) (av : List Value) (sz : Nat) (rv : Int32) (wc' : va_W) : Prop := Met l y wsY rm (tw_Pc G tys wc sz av) (va_Qi (fun r (_ : Unit) => rv = r) (fun _ t => va_P G vwCl wc' t.heap) (va_A wc sz)) 0 0 (va_A wc sz)
def tw_Ml (l : Launch) (y : MethodName) (wsY : List Cond) (rm : Room) (G : va_G) (tys : List (ClassId × FieldType)) (wc : va_W) (av : List Value) (sz : Nat) (rv : Int64) (wc' : va_W) : Prop := Met l y wsY rm (tw_Pc G tys wc sz av) (va_Ql (fun r (_ : Unit) => rv = r) (fun _ t => va_P G vwCl wc' t.heap) (va_A wc sz)) 0 0 (va_A wc sz)
def tw_Mu (l : Launch) (y : MethodName) (wsY : List Cond) (rm : Room) (G : va_G) (tys : List (ClassId × FieldType)) (wc : va_W) (av : List Value) (sz : Nat) (rv : UInt64) (wc' : va_W) : Prop := Met l y wsY rm (tw_Pc G tys wc sz av) (va_Qd (fun r (_ : Unit) => rv = r) (fun _ t => va_P G vwCl wc' t.heap) (va_A wc sz)) 0 0 (va_A wc sz)
def tw_Mv (l : Launch) (y : MethodName) (wsY : List Cond) (rm : Room) (G : va_G) (tys : List (ClassId × FieldType)) (wc : va_W) (av : List Value) (sz : Nat) (wc' : va_W) : Prop := Met l y wsY rm (tw_Pc G tys wc sz av) (va_Qv (fun (_ : Unit) => True) (fun _ t => va_P G vwCl wc' t.heap) (va_A wc sz)) 0 0 (va_A wc sz)
def tw_Mr (l : Launch) (y : MethodName) (wsY : List Cond) (rm : Room) (G : va_G) (tys : List (ClassId × FieldType)) (wc : va_W) (av : List Value) (sz : Nat) (ra : Nat) (wc' : va_W) : Prop := Met l y wsY rm (tw_Pc G tys wc sz av) (va_Qr (fun (_ : Unit) => True) (fun _ a t => a = ra ∧ va_P G vwCl wc' t.heap) (va_A wc sz)) 0 0 (va_A wc sz)
/-! a world with some of its cells put anew -/
def tw_mix (ws : va_W) : List Nat → va_W → va_W
  | i :: is, e :: es => tw_mix (ws.set i e) is es
  | _, _ => ws
theorem tw_mix_get : ∀ (is : List Nat) (es ws : va_W), is.length = es.length → ∀ (k : Nat) (q : Nat × va_E), (tw_mix ws is es)[k]? = some q → (∃ j : Nat, is[j]? = some k ∧ es[j]? = some q) ∨ (k ∉ is ∧ ws[k]? = some q)
  | [], es, ws, _, k, q, h => Or.inr ⟨List.not_mem_nil, by cases es <;> exact h⟩
  | i :: is, [], ws, hl, k, q, h => by simp at hl
  | i :: is, e :: es, ws, hl, k, q, h => by
    rcases tw_mix_get is es (ws.set i e) (by simpa using hl) k q h with ⟨j, h1, h2⟩ | ⟨h1, h2⟩
    · exact Or.inl ⟨j + 1, by simpa using h1, by simpa using h2⟩
    · by_cases hk : i = k
      · subst hk
        rw [List.getElem?_set] at h2
        by_cases hlt : i < ws.length
        · rw [if_pos rfl, if_pos hlt] at h2
          exact Or.inl ⟨0, rfl, h2⟩
        · rw [if_pos rfl, if_neg hlt] at h2
          cases h2
      · rw [List.getElem?_set_ne hk] at h2
        exact Or.inr ⟨fun hm => (List.mem_cons.mp hm).elim (fun e => hk e.symm) h1, h2⟩
theorem tw_mix_fst : ∀ (is : List Nat) (es ws : va_W), (∀ (j i : Nat) (e : Nat × va_E), is[j]? = some i → es[j]? = some e → (ws.map Prod.fst)[i]? = some e.1) → (tw_mix ws is es).map Prod.fst = ws.map Prod.fst
  | [], es, ws, _ => by cases es <;> rfl
  | i :: is, [], ws, _ => rfl
  | i :: is, e :: es, ws, h => by
    have h0 : (ws.map Prod.fst)[i]? = some e.1 := h 0 i e rfl rfl
    have h1 : (ws.set i e).map Prod.fst = ws.map Prod.fst := by
      rw [List.map_set]
      apply List.ext_getElem?
      intro n
      rw [List.getElem?_set]
      by_cases hn : i = n
      · subst hn
        rw [if_pos rfl, h0, if_pos (List.getElem?_eq_some_iff.mp h0).1]
      · rw [if_neg hn]
    show (tw_mix (ws.set i e) is es).map Prod.fst = _
    rw [tw_mix_fst is es (ws.set i e) (fun j i' e' hj he => by rw [h1]; exact h (j + 1) i' e' (by simpa using hj) (by simpa using he)), h1]
theorem tw_D_fst {A : Nat → Prop} {ws ws' : va_W} (h : ws'.map Prod.fst = ws.map Prod.fst) (hD : va_D A ws) : va_D A ws' := by
  have key : ∀ (k : Nat) (q : Nat × va_E), ws'[k]? = some q → ∃ q0, ws[k]? = some q0 ∧ q0.1 = q.1 := by
    intro k q hq
    have h1 : (ws'.map Prod.fst)[k]? = some q.1 := by rw [List.getElem?_map, hq]; rfl
    rw [h, List.getElem?_map] at h1
    cases hw : ws[k]? with
    | none => rw [hw] at h1; cases h1
    | some q0 => rw [hw] at h1; exact ⟨q0, rfl, Option.some.inj h1⟩
  refine ⟨fun i j p q hi hj hpq => ?_, fun k q hk => ?_⟩
  · obtain ⟨p0, h1, h2⟩ := key i p hi
    obtain ⟨q0, h3, h4⟩ := key j q hj
    exact hD.1 i j p0 q0 h1 h3 (h2.trans (hpq.trans h4.symm))
  · obtain ⟨q0, h1, h2⟩ := key k q hk
    rw [← h2]
    exact hD.2 k q0 h1
theorem tw_is_get {ws wc : va_W} {is : List Nat} (hC : is.map (fun i => ws[i]?) = wc.map some) {k : Nat} {q : Nat × va_E} (h : wc[k]? = some q) : ∃ i, is[k]? = some i ∧ ws[i]? = some q := by
  have h1 : (is.map (fun i => ws[i]?))[k]? = some (some q) := by rw [hC, List.getElem?_map, h]; rfl
  rw [List.getElem?_map] at h1
  cases hi : is[k]? with
  | none => rw [hi] at h1; cases h1
  | some i => rw [hi] at h1; exact ⟨i, rfl, Option.some.inj h1⟩
theorem tw_back {A0 : Nat → Prop} {D : va_G} {cl : List vw_C} {ws wc wc' : va_W} {H H1 : Heap} (hP : va_P D cl ws H) (hD : va_D A0 ws) (is : List Nat) (hC : is.map (fun i => ws[i]?) = wc.map some) (ha : wc'.map Prod.fst = wc.map Prod.fst)
    (hk : ∀ q : Nat, q < H.size → ¬ va_A wc H.size q → H1[q]? = H[q]?) (hP1 : va_P D cl wc' H1) : va_P D cl (tw_mix ws is wc') H1 ∧ va_D A0 (tw_mix ws is wc') := by
  have hl1 : is.length = wc.length := by have := congrArg List.length hC; simpa using this
  have hl2 : wc'.length = wc.length := by have := congrArg List.length ha; simpa using this
  refine ⟨fun k q hq => ?_, tw_D_fst (tw_mix_fst is wc' ws (fun j i e hj he => ?_)) hD⟩
  · rcases tw_mix_get is wc' ws (hl1.trans hl2.symm) k q hq with ⟨j, -, h2⟩ | ⟨h1, h2⟩
    · exact hP1 j q h2
    · have hlt := (hP k q h2).lt
      refine (hP k q h2).kept (hk q.1 hlt (fun hA => ?_))
      rcases hA with ⟨k2, e, h3⟩ | h3
      · obtain ⟨i, h4, h5⟩ := tw_is_get hC h3
        have := hD.1 k i q (q.1, e) h2 h5 rfl
        subst this
        exact h1 (List.mem_of_getElem? h4)
      · omega
  · have h1 : (wc'.map Prod.fst)[j]? = some e.1 := by rw [List.getElem?_map, he]; rfl
    rw [ha, List.getElem?_map] at h1
    cases hw : wc[j]? with
    | none => rw [hw] at h1; cases h1
    | some q0 =>
      rw [hw] at h1
      obtain ⟨i', h4, h5⟩ := tw_is_get hC hw
      rw [hj] at h4
      cases h4
      rw [List.getElem?_map, h5]
      exact h1
theorem tw_mix_skip {n : Nat} : ∀ {l : va_W} (r : va_W) (is : List Nat) (es : va_W), l.length = n → tw_mix (l ++ r) (is.map (fun i => i + n)) es = l ++ tw_mix r is es := by
  intro l r is es hn
  induction is generalizing r es with
  | nil => cases es <;> rfl
  | cons i is ih =>
    cases es with
    | nil => rfl
    | cons e es =>
      show tw_mix ((l ++ r).set (i + n) e) (is.map (fun i => i + n)) es = l ++ tw_mix (r.set i e) is es
      rw [List.set_append_right _ _ (by omega), show i + n - l.length = i by omega, ih]
theorem tw_mix_hit {n : Nat} {l es : va_W} (r : va_W) (hl : l.length = n) (he : es.length = n) : tw_mix (l ++ r) (List.range n) es = es ++ r := by
  induction l generalizing n es with
  | nil =>
    have h0 : n = 0 := hl.symm
    subst h0
    have : es = [] := List.eq_nil_of_length_eq_zero he
    subst this
    rfl
  | cons q l ih =>
    cases es with
    | nil => rw [← he] at hl; cases hl
    | cons e es =>
      obtain ⟨n, rfl⟩ : ∃ k, n = k + 1 := ⟨l.length, by rw [← hl]; rfl⟩
      have h1 : l.length = n := by simpa using hl
      have h2 : es.length = n := by simpa using he
      rw [List.range_succ_eq_map]
      have h3 := tw_mix_skip (n := 1) (l := [e]) (l ++ r) (List.range n) es rfl
      show tw_mix ([e] ++ (l ++ r)) ((List.range n).map (fun i => i + 1)) es = _
      rw [h3, ih h1 h2]
      rfl
theorem tw_mix_app : ∀ (is js : List Nat) (es fs ws : va_W), is.length = es.length → tw_mix ws (is ++ js) (es ++ fs) = tw_mix (tw_mix ws is es) js fs
  | [], js, es, fs, ws, h => by
    have : es = [] := List.eq_nil_of_length_eq_zero h.symm
    subst this
    cases fs <;> cases js <;> rfl
  | i :: is, js, [], fs, ws, h => by cases h
  | i :: is, js, e :: es, fs, ws, h => tw_mix_app is js es fs (ws.set i e) (by simpa using h)
end
section
section TWC
variable {p : Program} {l : Launch} {e : Env} {R : Room} {s : State} {m : MethodId} {args : Array Value} {below : List Frame} {meth : Method} {c : Code} {H : Heap} {locs : List Loc} {cells slots : Nat} {Q : State → Prop}
variable {cc bytes : ByteArray} {nL maxL n index : Nat} {Ts wsY : List Cond} {own C host : String} {y : MethodName} {ret : Option FieldType} {rm : Room} {b : Addr} {As rest st : List Value} {pc : Nat} {ls : Array Slot} {G : va_G} {tys tysY : List (ClassId × FieldType)} {ws wc wc' ws' : va_W} {A0 : Nat → Prop} {H0 : Heap}
theorem tw_callVi {rv : Int32} (F : CallFix p m c cc nL s args Ts own) (hN : tw_N s) (hK : va_K G vwCl tys s) (hP : va_P G vwCl ws H) (hD : va_D A0 ws) (hS : va_S A0 H0 H locs) (hA : ∀ q : Nat, H0.size ≤ q → A0 q)
    (hM : tw_Mi l y wsY rm G tysY wc (.ref b :: As) H.size rv wc') (cw : CallW R s args own C index y bytes maxL ret wsY rm 0 0 n)
    (ks : List Nat) (hks : ks.filterMap (fun i => tys[i]?) = tysY) (is : List Nat) (hnd : va_nd is = true) (hC : is.map (fun i => ws[i]?) = wc.map some) (ha : wc'.map Prod.fst = wc.map Prod.fst) (hmix : tw_mix ws is wc' = ws')
    {r0 ci : Nat} {q : vw_C} {fs : List Value} (hcl : vwCl[ci]? = some q) (hqC : q.1 = C) (hr0 : wc[r0]? = some (b, .inr (ci, fs)))
    (hn : As.length = n) (hl : ls.size = nL) (hst : st = As.reverse ++ .ref b :: rest) (hcat : (rest.map fun v => v.category).sum ≤ 8) (hdg : decode cc pc = .ok (.invokevirtual index, 3)) (hcs : cells ≤ R.cells ∧ slots ≤ R.slots)
    (kk : ∀ (H1 : Heap) (locs1 : List Loc), va_P G vwCl ws' H1 → va_D A0 ws' → va_S A0 H0 H1 locs1 → W p l e R s m args below meth c H1 locs1 cells slots Q (F0 m (pc + 3) ls (.int rv :: rest))) :
    W p l e R s m args below meth c H locs cells slots Q (F0 m pc ls st) := by
  subst hqC
  have hPc : va_P G vwCl wc H := fun k q hq => by obtain ⟨i, -, h⟩ := tw_is_get hC hq; exact hP i q h
  have hDc := hD.sub is hnd hC
  have hKc := hK.sub ks hks
  have hFc := va_free hD hS hA is hC
  refine va_calli (va_runV (As := As) (rest := rest) F hM cw ⟨tw_Pc_blind, va_recv hKc hPc hcl hr0, fun U hU hW => ⟨rfl, by rw [hU], by rw [hU]; exact hPc, ⟨va_K.moved hW.alike hKc, tw_N.warm hW hN⟩, hDc.weaken (fun _ _ _ _ => trivial)⟩⟩ rfl hn hl hst (lv_room hcat) hdg hcs) hS (fun q _ h => hFc q h) hFc (fun r u t H1 locs1 ht hvm hw hB hz1 hk1 hS1 => ?_)
  subst hw
  have hB : va_P G vwCl wc' t.heap := hB
  rw [ht] at hB
  obtain ⟨hP1, hD1⟩ := tw_back hP hD is hC ha hk1 hB
  rw [hmix] at hP1 hD1
  exact kk H1 locs1 hP1 hD1 hS1
theorem tw_callVv (F : CallFix p m c cc nL s args Ts own) (hN : tw_N s) (hK : va_K G vwCl tys s) (hP : va_P G vwCl ws H) (hD : va_D A0 ws) (hS : va_S A0 H0 H locs) (hA : ∀ q : Nat, H0.size ≤ q → A0 q)
    (hM : tw_Mv l y wsY rm G tysY wc (.ref b :: As) H.size wc') (cw : CallW R s args own C index y bytes maxL ret wsY rm 0 0 n)
    (ks : List Nat) (hks : ks.filterMap (fun i => tys[i]?) = tysY) (is : List Nat) (hnd : va_nd is = true) (hC : is.map (fun i => ws[i]?) = wc.map some) (ha : wc'.map Prod.fst = wc.map Prod.fst) (hmix : tw_mix ws is wc' = ws')
    {r0 ci : Nat} {q : vw_C} {fs : List Value} (hcl : vwCl[ci]? = some q) (hqC : q.1 = C) (hr0 : wc[r0]? = some (b, .inr (ci, fs)))
    (hn : As.length = n) (hl : ls.size = nL) (hst : st = As.reverse ++ .ref b :: rest) (hcat : (rest.map fun v => v.category).sum ≤ 8) (hdg : decode cc pc = .ok (.invokevirtual index, 3)) (hcs : cells ≤ R.cells ∧ slots ≤ R.slots)
    (kk : ∀ (H1 : Heap) (locs1 : List Loc), va_P G vwCl ws' H1 → va_D A0 ws' → va_S A0 H0 H1 locs1 → W p l e R s m args below meth c H1 locs1 cells slots Q (F0 m (pc + 3) ls (rest))) :
    W p l e R s m args below meth c H locs cells slots Q (F0 m pc ls st) := by
  subst hqC
  have hPc : va_P G vwCl wc H := fun k q hq => by obtain ⟨i, -, h⟩ := tw_is_get hC hq; exact hP i q h
  have hDc := hD.sub is hnd hC
  have hKc := hK.sub ks hks
  have hFc := va_free hD hS hA is hC
  refine va_callv (va_runV (As := As) (rest := rest) F hM cw ⟨tw_Pc_blind, va_recv hKc hPc hcl hr0, fun U hU hW => ⟨rfl, by rw [hU], by rw [hU]; exact hPc, ⟨va_K.moved hW.alike hKc, tw_N.warm hW hN⟩, hDc.weaken (fun _ _ _ _ => trivial)⟩⟩ rfl hn hl hst (lv_room hcat) hdg hcs) hS (fun q _ h => hFc q h) hFc (fun u t H1 locs1 ht hvm hw hB hz1 hk1 hS1 => ?_)
  have hB : va_P G vwCl wc' t.heap := hB
  rw [ht] at hB
  obtain ⟨hP1, hD1⟩ := tw_back hP hD is hC ha hk1 hB
  rw [hmix] at hP1 hD1
  exact kk H1 locs1 hP1 hD1 hS1
theorem tw_callVl {rv : Int64} (F : CallFix p m c cc nL s args Ts own) (hN : tw_N s) (hK : va_K G vwCl tys s) (hP : va_P G vwCl ws H) (hD : va_D A0 ws) (hS : va_S A0 H0 H locs) (hA : ∀ q : Nat, H0.size ≤ q → A0 q)
    (hM : tw_Ml l y wsY rm G tysY wc (.ref b :: As) H.size rv wc') (cw : CallW R s args own C index y bytes maxL ret wsY rm 0 0 n)
    (ks : List Nat) (hks : ks.filterMap (fun i => tys[i]?) = tysY) (is : List Nat) (hnd : va_nd is = true) (hC : is.map (fun i => ws[i]?) = wc.map some) (ha : wc'.map Prod.fst = wc.map Prod.fst) (hmix : tw_mix ws is wc' = ws')
    {r0 ci : Nat} {q : vw_C} {fs : List Value} (hcl : vwCl[ci]? = some q) (hqC : q.1 = C) (hr0 : wc[r0]? = some (b, .inr (ci, fs)))
    (hn : As.length = n) (hl : ls.size = nL) (hst : st = As.reverse ++ .ref b :: rest) (hcat : (rest.map fun v => v.category).sum ≤ 8) (hdg : decode cc pc = .ok (.invokevirtual index, 3)) (hcs : cells ≤ R.cells ∧ slots ≤ R.slots)
    (kk : ∀ (H1 : Heap) (locs1 : List Loc), va_P G vwCl ws' H1 → va_D A0 ws' → va_S A0 H0 H1 locs1 → W p l e R s m args below meth c H1 locs1 cells slots Q (F0 m (pc + 3) ls (.long rv :: rest))) :
    W p l e R s m args below meth c H locs cells slots Q (F0 m pc ls st) := by
  subst hqC
  have hPc : va_P G vwCl wc H := fun k q hq => by obtain ⟨i, -, h⟩ := tw_is_get hC hq; exact hP i q h
  have hDc := hD.sub is hnd hC
  have hKc := hK.sub ks hks
  have hFc := va_free hD hS hA is hC
  refine va_calll (va_runV (As := As) (rest := rest) F hM cw ⟨tw_Pc_blind, va_recv hKc hPc hcl hr0, fun U hU hW => ⟨rfl, by rw [hU], by rw [hU]; exact hPc, ⟨va_K.moved hW.alike hKc, tw_N.warm hW hN⟩, hDc.weaken (fun _ _ _ _ => trivial)⟩⟩ rfl hn hl hst (lv_room hcat) hdg hcs) hS (fun q _ h => hFc q h) hFc (fun r u t H1 locs1 ht hvm hw hB hz1 hk1 hS1 => ?_)
  subst hw
  have hB : va_P G vwCl wc' t.heap := hB
  rw [ht] at hB
  obtain ⟨hP1, hD1⟩ := tw_back hP hD is hC ha hk1 hB
  rw [hmix] at hP1 hD1
  exact kk H1 locs1 hP1 hD1 hS1
theorem tw_callVd {rv : UInt64} (F : CallFix p m c cc nL s args Ts own) (hN : tw_N s) (hK : va_K G vwCl tys s) (hP : va_P G vwCl ws H) (hD : va_D A0 ws) (hS : va_S A0 H0 H locs) (hA : ∀ q : Nat, H0.size ≤ q → A0 q)
    (hM : tw_Mu l y wsY rm G tysY wc (.ref b :: As) H.size rv wc') (cw : CallW R s args own C index y bytes maxL ret wsY rm 0 0 n)
    (ks : List Nat) (hks : ks.filterMap (fun i => tys[i]?) = tysY) (is : List Nat) (hnd : va_nd is = true) (hC : is.map (fun i => ws[i]?) = wc.map some) (ha : wc'.map Prod.fst = wc.map Prod.fst) (hmix : tw_mix ws is wc' = ws')
    {r0 ci : Nat} {q : vw_C} {fs : List Value} (hcl : vwCl[ci]? = some q) (hqC : q.1 = C) (hr0 : wc[r0]? = some (b, .inr (ci, fs)))
    (hn : As.length = n) (hl : ls.size = nL) (hst : st = As.reverse ++ .ref b :: rest) (hcat : (rest.map fun v => v.category).sum ≤ 8) (hdg : decode cc pc = .ok (.invokevirtual index, 3)) (hcs : cells ≤ R.cells ∧ slots ≤ R.slots)
    (kk : ∀ (H1 : Heap) (locs1 : List Loc), va_P G vwCl ws' H1 → va_D A0 ws' → va_S A0 H0 H1 locs1 → W p l e R s m args below meth c H1 locs1 cells slots Q (F0 m (pc + 3) ls (.double rv :: rest))) :
    W p l e R s m args below meth c H locs cells slots Q (F0 m pc ls st) := by
  subst hqC
  have hPc : va_P G vwCl wc H := fun k q hq => by obtain ⟨i, -, h⟩ := tw_is_get hC hq; exact hP i q h
  have hDc := hD.sub is hnd hC
  have hKc := hK.sub ks hks
  have hFc := va_free hD hS hA is hC
  refine va_calld (va_runV (As := As) (rest := rest) F hM cw ⟨tw_Pc_blind, va_recv hKc hPc hcl hr0, fun U hU hW => ⟨rfl, by rw [hU], by rw [hU]; exact hPc, ⟨va_K.moved hW.alike hKc, tw_N.warm hW hN⟩, hDc.weaken (fun _ _ _ _ => trivial)⟩⟩ rfl hn hl hst (lv_room hcat) hdg hcs) hS (fun q _ h => hFc q h) hFc (fun r u t H1 locs1 ht hvm hw hB hz1 hk1 hS1 => ?_)
  subst hw
  have hB : va_P G vwCl wc' t.heap := hB
  rw [ht] at hB
  obtain ⟨hP1, hD1⟩ := tw_back hP hD is hC ha hk1 hB
  rw [hmix] at hP1 hD1
  exact kk H1 locs1 hP1 hD1 hS1
theorem tw_callVr {rv : Nat} (F : CallFix p m c cc nL s args Ts own) (hN : tw_N s) (hK : va_K G vwCl tys s) (hP : va_P G vwCl ws H) (hD : va_D A0 ws) (hS : va_S A0 H0 H locs) (hA : ∀ q : Nat, H0.size ≤ q → A0 q)
    (hM : tw_Mr l y wsY rm G tysY wc (.ref b :: As) H.size rv wc') (cw : CallW R s args own C index y bytes maxL ret wsY rm 0 0 n)
    (ks : List Nat) (hks : ks.filterMap (fun i => tys[i]?) = tysY) (is : List Nat) (hnd : va_nd is = true) (hC : is.map (fun i => ws[i]?) = wc.map some) (ha : wc'.map Prod.fst = wc.map Prod.fst) (hmix : tw_mix ws is wc' = ws')
    {r0 ci : Nat} {q : vw_C} {fs : List Value} (hcl : vwCl[ci]? = some q) (hqC : q.1 = C) (hr0 : wc[r0]? = some (b, .inr (ci, fs)))
    (hn : As.length = n) (hl : ls.size = nL) (hst : st = As.reverse ++ .ref b :: rest) (hcat : (rest.map fun v => v.category).sum ≤ 8) (hdg : decode cc pc = .ok (.invokevirtual index, 3)) (hcs : cells ≤ R.cells ∧ slots ≤ R.slots)
    (kk : ∀ (H1 : Heap) (locs1 : List Loc), va_P G vwCl ws' H1 → va_D A0 ws' → va_S A0 H0 H1 locs1 → W p l e R s m args below meth c H1 locs1 cells slots Q (F0 m (pc + 3) ls (.ref rv :: rest))) :
    W p l e R s m args below meth c H locs cells slots Q (F0 m pc ls st) := by
  subst hqC
  have hPc : va_P G vwCl wc H := fun k q hq => by obtain ⟨i, -, h⟩ := tw_is_get hC hq; exact hP i q h
  have hDc := hD.sub is hnd hC
  have hKc := hK.sub ks hks
  have hFc := va_free hD hS hA is hC
  refine va_callr (va_runV (As := As) (rest := rest) F hM cw ⟨tw_Pc_blind, va_recv hKc hPc hcl hr0, fun U hU hW => ⟨rfl, by rw [hU], by rw [hU]; exact hPc, ⟨va_K.moved hW.alike hKc, tw_N.warm hW hN⟩, hDc.weaken (fun _ _ _ _ => trivial)⟩⟩ rfl hn hl hst (lv_room hcat) hdg hcs) hS (fun q _ h => hFc q h) hFc (fun u ra t H1 locs1 ht hvm hw hB hz1 hk1 hS1 => ?_)
  obtain ⟨rfl, hB⟩ := hB
  have hB : va_P G vwCl wc' t.heap := hB
  rw [ht] at hB
  obtain ⟨hP1, hD1⟩ := tw_back hP hD is hC ha hk1 hB
  rw [hmix] at hP1 hD1
  exact kk H1 locs1 hP1 hD1 hS1
theorem tw_callSi {rv : Int32} (F : CallFix p m c cc nL s args Ts own) (hN : tw_N s) (hK : va_K G vwCl tys s) (hP : va_P G vwCl ws H) (hD : va_D A0 ws) (hS : va_S A0 H0 H locs) (hA : ∀ q : Nat, H0.size ≤ q → A0 q)
    (hM : tw_Mi l y wsY rm G tysY wc As H.size rv wc') (cw : CallB R s args own index y bytes maxL ret wsY rm 0 0 n ∧ (Cond.static y).before args s = true)
    (ks : List Nat) (hks : ks.filterMap (fun i => tys[i]?) = tysY) (is : List Nat) (hnd : va_nd is = true) (hC : is.map (fun i => ws[i]?) = wc.map some) (ha : wc'.map Prod.fst = wc.map Prod.fst) (hmix : tw_mix ws is wc' = ws')
    (hn : As.length = n) (hl : ls.size = nL) (hst : st = As.reverse ++ rest) (hcat : (rest.map fun v => v.category).sum ≤ 8) (hdg : decode cc pc = .ok (.invokestatic index, 3)) (hcs : cells ≤ R.cells ∧ slots ≤ R.slots)
    (kk : ∀ (H1 : Heap) (locs1 : List Loc), va_P G vwCl ws' H1 → va_D A0 ws' → va_S A0 H0 H1 locs1 → W p l e R s m args below meth c H1 locs1 cells slots Q (F0 m (pc + 3) ls (.int rv :: rest))) :
    W p l e R s m args below meth c H locs cells slots Q (F0 m pc ls st) := by
  have hPc : va_P G vwCl wc H := fun k q hq => by obtain ⟨i, -, h⟩ := tw_is_get hC hq; exact hP i q h
  have hDc := hD.sub is hnd hC
  have hKc := hK.sub ks hks
  have hFc := va_free hD hS hA is hC
  refine va_calli (va_runS (As := As) (rest := rest) F hM cw ⟨tw_Pc_blind, fun U hU hW => ⟨rfl, by rw [hU], by rw [hU]; exact hPc, ⟨va_K.moved hW.alike hKc, tw_N.warm hW hN⟩, hDc.weaken (fun _ _ _ _ => trivial)⟩⟩ rfl hn hl hst (lv_room hcat) hdg hcs) hS (fun q _ h => hFc q h) hFc (fun r u t H1 locs1 ht hvm hw hB hz1 hk1 hS1 => ?_)
  subst hw
  have hB : va_P G vwCl wc' t.heap := hB
  rw [ht] at hB
  obtain ⟨hP1, hD1⟩ := tw_back hP hD is hC ha hk1 hB
  rw [hmix] at hP1 hD1
  exact kk H1 locs1 hP1 hD1 hS1
theorem tw_callSv (F : CallFix p m c cc nL s args Ts own) (hN : tw_N s) (hK : va_K G vwCl tys s) (hP : va_P G vwCl ws H) (hD : va_D A0 ws) (hS : va_S A0 H0 H locs) (hA : ∀ q : Nat, H0.size ≤ q → A0 q)
    (hM : tw_Mv l y wsY rm G tysY wc As H.size wc') (cw : CallB R s args own index y bytes maxL ret wsY rm 0 0 n ∧ (Cond.static y).before args s = true)
    (ks : List Nat) (hks : ks.filterMap (fun i => tys[i]?) = tysY) (is : List Nat) (hnd : va_nd is = true) (hC : is.map (fun i => ws[i]?) = wc.map some) (ha : wc'.map Prod.fst = wc.map Prod.fst) (hmix : tw_mix ws is wc' = ws')
    (hn : As.length = n) (hl : ls.size = nL) (hst : st = As.reverse ++ rest) (hcat : (rest.map fun v => v.category).sum ≤ 8) (hdg : decode cc pc = .ok (.invokestatic index, 3)) (hcs : cells ≤ R.cells ∧ slots ≤ R.slots)
    (kk : ∀ (H1 : Heap) (locs1 : List Loc), va_P G vwCl ws' H1 → va_D A0 ws' → va_S A0 H0 H1 locs1 → W p l e R s m args below meth c H1 locs1 cells slots Q (F0 m (pc + 3) ls (rest))) :
    W p l e R s m args below meth c H locs cells slots Q (F0 m pc ls st) := by
  have hPc : va_P G vwCl wc H := fun k q hq => by obtain ⟨i, -, h⟩ := tw_is_get hC hq; exact hP i q h
  have hDc := hD.sub is hnd hC
  have hKc := hK.sub ks hks
  have hFc := va_free hD hS hA is hC
  refine va_callv (va_runS (As := As) (rest := rest) F hM cw ⟨tw_Pc_blind, fun U hU hW => ⟨rfl, by rw [hU], by rw [hU]; exact hPc, ⟨va_K.moved hW.alike hKc, tw_N.warm hW hN⟩, hDc.weaken (fun _ _ _ _ => trivial)⟩⟩ rfl hn hl hst (lv_room hcat) hdg hcs) hS (fun q _ h => hFc q h) hFc (fun u t H1 locs1 ht hvm hw hB hz1 hk1 hS1 => ?_)
  have hB : va_P G vwCl wc' t.heap := hB
  rw [ht] at hB
  obtain ⟨hP1, hD1⟩ := tw_back hP hD is hC ha hk1 hB
  rw [hmix] at hP1 hD1
  exact kk H1 locs1 hP1 hD1 hS1
theorem tw_callSl {rv : Int64} (F : CallFix p m c cc nL s args Ts own) (hN : tw_N s) (hK : va_K G vwCl tys s) (hP : va_P G vwCl ws H) (hD : va_D A0 ws) (hS : va_S A0 H0 H locs) (hA : ∀ q : Nat, H0.size ≤ q → A0 q)
    (hM : tw_Ml l y wsY rm G tysY wc As H.size rv wc') (cw : CallB R s args own index y bytes maxL ret wsY rm 0 0 n ∧ (Cond.static y).before args s = true)
    (ks : List Nat) (hks : ks.filterMap (fun i => tys[i]?) = tysY) (is : List Nat) (hnd : va_nd is = true) (hC : is.map (fun i => ws[i]?) = wc.map some) (ha : wc'.map Prod.fst = wc.map Prod.fst) (hmix : tw_mix ws is wc' = ws')
    (hn : As.length = n) (hl : ls.size = nL) (hst : st = As.reverse ++ rest) (hcat : (rest.map fun v => v.category).sum ≤ 8) (hdg : decode cc pc = .ok (.invokestatic index, 3)) (hcs : cells ≤ R.cells ∧ slots ≤ R.slots)
    (kk : ∀ (H1 : Heap) (locs1 : List Loc), va_P G vwCl ws' H1 → va_D A0 ws' → va_S A0 H0 H1 locs1 → W p l e R s m args below meth c H1 locs1 cells slots Q (F0 m (pc + 3) ls (.long rv :: rest))) :
    W p l e R s m args below meth c H locs cells slots Q (F0 m pc ls st) := by
  have hPc : va_P G vwCl wc H := fun k q hq => by obtain ⟨i, -, h⟩ := tw_is_get hC hq; exact hP i q h
  have hDc := hD.sub is hnd hC
  have hKc := hK.sub ks hks
  have hFc := va_free hD hS hA is hC
  refine va_calll (va_runS (As := As) (rest := rest) F hM cw ⟨tw_Pc_blind, fun U hU hW => ⟨rfl, by rw [hU], by rw [hU]; exact hPc, ⟨va_K.moved hW.alike hKc, tw_N.warm hW hN⟩, hDc.weaken (fun _ _ _ _ => trivial)⟩⟩ rfl hn hl hst (lv_room hcat) hdg hcs) hS (fun q _ h => hFc q h) hFc (fun r u t H1 locs1 ht hvm hw hB hz1 hk1 hS1 => ?_)
  subst hw
  have hB : va_P G vwCl wc' t.heap := hB
  rw [ht] at hB
  obtain ⟨hP1, hD1⟩ := tw_back hP hD is hC ha hk1 hB
  rw [hmix] at hP1 hD1
  exact kk H1 locs1 hP1 hD1 hS1
theorem tw_callSNi {rv : Int32} (F : CallFix p m c cc nL s args Ts own) (hN : tw_N s) (hK : va_K G vwCl tys s) (hP : va_P G vwCl ws H) (hD : va_D A0 ws) (hS : va_S A0 H0 H locs) (hA : ∀ q : Nat, H0.size ≤ q → A0 q)
    (hM : tw_Mi l y wsY rm G tysY wc As H.size rv wc') (cw : va_CN R s args own index y host bytes maxL ret wsY rm 0 0 n ∧ (Cond.static y).before args s = true ∧ True)
    (ks : List Nat) (hks : ks.filterMap (fun i => tys[i]?) = tysY) (is : List Nat) (hnd : va_nd is = true) (hC : is.map (fun i => ws[i]?) = wc.map some) (ha : wc'.map Prod.fst = wc.map Prod.fst) (hmix : tw_mix ws is wc' = ws')
    (hn : As.length = n) (hl : ls.size = nL) (hst : st = As.reverse ++ rest) (hcat : (rest.map fun v => v.category).sum ≤ 8) (hdg : decode cc pc = .ok (.invokestatic index, 3)) (hcs : cells ≤ R.cells ∧ slots ≤ R.slots)
    (kk : ∀ (H1 : Heap) (locs1 : List Loc), va_P G vwCl ws' H1 → va_D A0 ws' → va_S A0 H0 H1 locs1 → W p l e R s m args below meth c H1 locs1 cells slots Q (F0 m (pc + 3) ls (.int rv :: rest))) :
    W p l e R s m args below meth c H locs cells slots Q (F0 m pc ls st) := by
  have hPc : va_P G vwCl wc H := fun k q hq => by obtain ⟨i, -, h⟩ := tw_is_get hC hq; exact hP i q h
  have hDc := hD.sub is hnd hC
  have hKc := hK.sub ks hks
  have hFc := va_free hD hS hA is hC
  refine va_calli (va_runSN (As := As) (rest := rest) F hM cw ⟨tw_Pc_blind, fun U hU hW => ⟨rfl, by rw [hU], by rw [hU]; exact hPc, ⟨va_K.moved hW.alike hKc, tw_N.warm hW hN⟩, hDc.weaken (fun _ _ _ _ => trivial)⟩⟩ rfl hn hl hst (lv_room hcat) hdg hcs) hS (fun q _ h => hFc q h) hFc (fun r u t H1 locs1 ht hvm hw hB hz1 hk1 hS1 => ?_)
  subst hw
  have hB : va_P G vwCl wc' t.heap := hB
  rw [ht] at hB
  obtain ⟨hP1, hD1⟩ := tw_back hP hD is hC ha hk1 hB
  rw [hmix] at hP1 hD1
  exact kk H1 locs1 hP1 hD1 hS1
theorem tw_callViF {rv : Int32} (F : CallFix p m c cc nL s args Ts own) (hN : tw_N s) (hK : va_K G vwCl tys s) (hP : va_P G vwCl ws H) (hD : va_D A0 ws) (hS : va_S A0 H0 H locs) (hA : ∀ q : Nat, H0.size ≤ q → A0 q)
    (hM : tw_Mi l y wsY rm G tys ws (.ref b :: As) H.size rv ws') (cw : CallW R s args own C index y bytes maxL ret wsY rm 0 0 n)
    (ha : ws'.map Prod.fst = ws.map Prod.fst)
    {r0 ci : Nat} {q : vw_C} {fs : List Value} (hcl : vwCl[ci]? = some q) (hqC : q.1 = C) (hr0 : ws[r0]? = some (b, .inr (ci, fs)))
    (hn : As.length = n) (hl : ls.size = nL) (hst : st = As.reverse ++ .ref b :: rest) (hcat : (rest.map fun v => v.category).sum ≤ 8) (hdg : decode cc pc = .ok (.invokevirtual index, 3)) (hcs : cells ≤ R.cells ∧ slots ≤ R.slots)
    (kk : ∀ (H1 : Heap) (locs1 : List Loc), va_P G vwCl ws' H1 → va_D A0 ws' → va_S A0 H0 H1 locs1 → W p l e R s m args below meth c H1 locs1 cells slots Q (F0 m (pc + 3) ls (.int rv :: rest))) :
    W p l e R s m args below meth c H locs cells slots Q (F0 m pc ls st) := by
  subst hqC
  have hFc : ∀ q, va_A ws H.size q → A0 q := fun q h => h.elim (fun ⟨k, e, h⟩ => hD.2 k _ h) (fun h => hA q (Nat.le_trans hS.1 h))
  refine va_calli (va_runV (As := As) (rest := rest) F hM cw ⟨tw_Pc_blind, va_recv hK hP hcl hr0, fun U hU hW => ⟨rfl, by rw [hU], by rw [hU]; exact hP, ⟨va_K.moved hW.alike hK, tw_N.warm hW hN⟩, hD.weaken (fun _ _ _ _ => trivial)⟩⟩ rfl hn hl hst (lv_room hcat) hdg hcs) hS (fun q _ h => hFc q h) hFc (fun r u t H1 locs1 ht hvm hw hB hz1 hk1 hS1 => ?_)
  subst hw
  have hB : va_P G vwCl ws' t.heap := hB
  rw [ht] at hB
  exact kk H1 locs1 hB (tw_D_fst ha hD) hS1
theorem tw_callVvF (F : CallFix p m c cc nL s args Ts own) (hN : tw_N s) (hK : va_K G vwCl tys s) (hP : va_P G vwCl ws H) (hD : va_D A0 ws) (hS : va_S A0 H0 H locs) (hA : ∀ q : Nat, H0.size ≤ q → A0 q)
    (hM : tw_Mv l y wsY rm G tys ws (.ref b :: As) H.size ws') (cw : CallW R s args own C index y bytes maxL ret wsY rm 0 0 n)
    (ha : ws'.map Prod.fst = ws.map Prod.fst)
    {r0 ci : Nat} {q : vw_C} {fs : List Value} (hcl : vwCl[ci]? = some q) (hqC : q.1 = C) (hr0 : ws[r0]? = some (b, .inr (ci, fs)))
    (hn : As.length = n) (hl : ls.size = nL) (hst : st = As.reverse ++ .ref b :: rest) (hcat : (rest.map fun v => v.category).sum ≤ 8) (hdg : decode cc pc = .ok (.invokevirtual index, 3)) (hcs : cells ≤ R.cells ∧ slots ≤ R.slots)
    (kk : ∀ (H1 : Heap) (locs1 : List Loc), va_P G vwCl ws' H1 → va_D A0 ws' → va_S A0 H0 H1 locs1 → W p l e R s m args below meth c H1 locs1 cells slots Q (F0 m (pc + 3) ls (rest))) :
    W p l e R s m args below meth c H locs cells slots Q (F0 m pc ls st) := by
  subst hqC
  have hFc : ∀ q, va_A ws H.size q → A0 q := fun q h => h.elim (fun ⟨k, e, h⟩ => hD.2 k _ h) (fun h => hA q (Nat.le_trans hS.1 h))
  refine va_callv (va_runV (As := As) (rest := rest) F hM cw ⟨tw_Pc_blind, va_recv hK hP hcl hr0, fun U hU hW => ⟨rfl, by rw [hU], by rw [hU]; exact hP, ⟨va_K.moved hW.alike hK, tw_N.warm hW hN⟩, hD.weaken (fun _ _ _ _ => trivial)⟩⟩ rfl hn hl hst (lv_room hcat) hdg hcs) hS (fun q _ h => hFc q h) hFc (fun u t H1 locs1 ht hvm hw hB hz1 hk1 hS1 => ?_)
  have hB : va_P G vwCl ws' t.heap := hB
  rw [ht] at hB
  exact kk H1 locs1 hB (tw_D_fst ha hD) hS1
theorem tw_callVlF {rv : Int64} (F : CallFix p m c cc nL s args Ts own) (hN : tw_N s) (hK : va_K G vwCl tys s) (hP : va_P G vwCl ws H) (hD : va_D A0 ws) (hS : va_S A0 H0 H locs) (hA : ∀ q : Nat, H0.size ≤ q → A0 q)
    (hM : tw_Ml l y wsY rm G tys ws (.ref b :: As) H.size rv ws') (cw : CallW R s args own C index y bytes maxL ret wsY rm 0 0 n)
    (ha : ws'.map Prod.fst = ws.map Prod.fst)
    {r0 ci : Nat} {q : vw_C} {fs : List Value} (hcl : vwCl[ci]? = some q) (hqC : q.1 = C) (hr0 : ws[r0]? = some (b, .inr (ci, fs)))
    (hn : As.length = n) (hl : ls.size = nL) (hst : st = As.reverse ++ .ref b :: rest) (hcat : (rest.map fun v => v.category).sum ≤ 8) (hdg : decode cc pc = .ok (.invokevirtual index, 3)) (hcs : cells ≤ R.cells ∧ slots ≤ R.slots)
    (kk : ∀ (H1 : Heap) (locs1 : List Loc), va_P G vwCl ws' H1 → va_D A0 ws' → va_S A0 H0 H1 locs1 → W p l e R s m args below meth c H1 locs1 cells slots Q (F0 m (pc + 3) ls (.long rv :: rest))) :
    W p l e R s m args below meth c H locs cells slots Q (F0 m pc ls st) := by
  subst hqC
  have hFc : ∀ q, va_A ws H.size q → A0 q := fun q h => h.elim (fun ⟨k, e, h⟩ => hD.2 k _ h) (fun h => hA q (Nat.le_trans hS.1 h))
  refine va_calll (va_runV (As := As) (rest := rest) F hM cw ⟨tw_Pc_blind, va_recv hK hP hcl hr0, fun U hU hW => ⟨rfl, by rw [hU], by rw [hU]; exact hP, ⟨va_K.moved hW.alike hK, tw_N.warm hW hN⟩, hD.weaken (fun _ _ _ _ => trivial)⟩⟩ rfl hn hl hst (lv_room hcat) hdg hcs) hS (fun q _ h => hFc q h) hFc (fun r u t H1 locs1 ht hvm hw hB hz1 hk1 hS1 => ?_)
  subst hw
  have hB : va_P G vwCl ws' t.heap := hB
  rw [ht] at hB
  exact kk H1 locs1 hB (tw_D_fst ha hD) hS1
theorem tw_callVdF {rv : UInt64} (F : CallFix p m c cc nL s args Ts own) (hN : tw_N s) (hK : va_K G vwCl tys s) (hP : va_P G vwCl ws H) (hD : va_D A0 ws) (hS : va_S A0 H0 H locs) (hA : ∀ q : Nat, H0.size ≤ q → A0 q)
    (hM : tw_Mu l y wsY rm G tys ws (.ref b :: As) H.size rv ws') (cw : CallW R s args own C index y bytes maxL ret wsY rm 0 0 n)
    (ha : ws'.map Prod.fst = ws.map Prod.fst)
    {r0 ci : Nat} {q : vw_C} {fs : List Value} (hcl : vwCl[ci]? = some q) (hqC : q.1 = C) (hr0 : ws[r0]? = some (b, .inr (ci, fs)))
    (hn : As.length = n) (hl : ls.size = nL) (hst : st = As.reverse ++ .ref b :: rest) (hcat : (rest.map fun v => v.category).sum ≤ 8) (hdg : decode cc pc = .ok (.invokevirtual index, 3)) (hcs : cells ≤ R.cells ∧ slots ≤ R.slots)
    (kk : ∀ (H1 : Heap) (locs1 : List Loc), va_P G vwCl ws' H1 → va_D A0 ws' → va_S A0 H0 H1 locs1 → W p l e R s m args below meth c H1 locs1 cells slots Q (F0 m (pc + 3) ls (.double rv :: rest))) :
    W p l e R s m args below meth c H locs cells slots Q (F0 m pc ls st) := by
  subst hqC
  have hFc : ∀ q, va_A ws H.size q → A0 q := fun q h => h.elim (fun ⟨k, e, h⟩ => hD.2 k _ h) (fun h => hA q (Nat.le_trans hS.1 h))
  refine va_calld (va_runV (As := As) (rest := rest) F hM cw ⟨tw_Pc_blind, va_recv hK hP hcl hr0, fun U hU hW => ⟨rfl, by rw [hU], by rw [hU]; exact hP, ⟨va_K.moved hW.alike hK, tw_N.warm hW hN⟩, hD.weaken (fun _ _ _ _ => trivial)⟩⟩ rfl hn hl hst (lv_room hcat) hdg hcs) hS (fun q _ h => hFc q h) hFc (fun r u t H1 locs1 ht hvm hw hB hz1 hk1 hS1 => ?_)
  subst hw
  have hB : va_P G vwCl ws' t.heap := hB
  rw [ht] at hB
  exact kk H1 locs1 hB (tw_D_fst ha hD) hS1
theorem tw_callSiF {rv : Int32} (F : CallFix p m c cc nL s args Ts own) (hN : tw_N s) (hK : va_K G vwCl tys s) (hP : va_P G vwCl ws H) (hD : va_D A0 ws) (hS : va_S A0 H0 H locs) (hA : ∀ q : Nat, H0.size ≤ q → A0 q)
    (hM : tw_Mi l y wsY rm G tys ws As H.size rv ws') (cw : CallB R s args own index y bytes maxL ret wsY rm 0 0 n ∧ (Cond.static y).before args s = true)
    (ha : ws'.map Prod.fst = ws.map Prod.fst)
    (hn : As.length = n) (hl : ls.size = nL) (hst : st = As.reverse ++ rest) (hcat : (rest.map fun v => v.category).sum ≤ 8) (hdg : decode cc pc = .ok (.invokestatic index, 3)) (hcs : cells ≤ R.cells ∧ slots ≤ R.slots)
    (kk : ∀ (H1 : Heap) (locs1 : List Loc), va_P G vwCl ws' H1 → va_D A0 ws' → va_S A0 H0 H1 locs1 → W p l e R s m args below meth c H1 locs1 cells slots Q (F0 m (pc + 3) ls (.int rv :: rest))) :
    W p l e R s m args below meth c H locs cells slots Q (F0 m pc ls st) := by
  have hFc : ∀ q, va_A ws H.size q → A0 q := fun q h => h.elim (fun ⟨k, e, h⟩ => hD.2 k _ h) (fun h => hA q (Nat.le_trans hS.1 h))
  refine va_calli (va_runS (As := As) (rest := rest) F hM cw ⟨tw_Pc_blind, fun U hU hW => ⟨rfl, by rw [hU], by rw [hU]; exact hP, ⟨va_K.moved hW.alike hK, tw_N.warm hW hN⟩, hD.weaken (fun _ _ _ _ => trivial)⟩⟩ rfl hn hl hst (lv_room hcat) hdg hcs) hS (fun q _ h => hFc q h) hFc (fun r u t H1 locs1 ht hvm hw hB hz1 hk1 hS1 => ?_)
  subst hw
  have hB : va_P G vwCl ws' t.heap := hB
  rw [ht] at hB
  exact kk H1 locs1 hB (tw_D_fst ha hD) hS1
theorem tw_callSvF (F : CallFix p m c cc nL s args Ts own) (hN : tw_N s) (hK : va_K G vwCl tys s) (hP : va_P G vwCl ws H) (hD : va_D A0 ws) (hS : va_S A0 H0 H locs) (hA : ∀ q : Nat, H0.size ≤ q → A0 q)
    (hM : tw_Mv l y wsY rm G tys ws As H.size ws') (cw : CallB R s args own index y bytes maxL ret wsY rm 0 0 n ∧ (Cond.static y).before args s = true)
    (ha : ws'.map Prod.fst = ws.map Prod.fst)
    (hn : As.length = n) (hl : ls.size = nL) (hst : st = As.reverse ++ rest) (hcat : (rest.map fun v => v.category).sum ≤ 8) (hdg : decode cc pc = .ok (.invokestatic index, 3)) (hcs : cells ≤ R.cells ∧ slots ≤ R.slots)
    (kk : ∀ (H1 : Heap) (locs1 : List Loc), va_P G vwCl ws' H1 → va_D A0 ws' → va_S A0 H0 H1 locs1 → W p l e R s m args below meth c H1 locs1 cells slots Q (F0 m (pc + 3) ls (rest))) :
    W p l e R s m args below meth c H locs cells slots Q (F0 m pc ls st) := by
  have hFc : ∀ q, va_A ws H.size q → A0 q := fun q h => h.elim (fun ⟨k, e, h⟩ => hD.2 k _ h) (fun h => hA q (Nat.le_trans hS.1 h))
  refine va_callv (va_runS (As := As) (rest := rest) F hM cw ⟨tw_Pc_blind, fun U hU hW => ⟨rfl, by rw [hU], by rw [hU]; exact hP, ⟨va_K.moved hW.alike hK, tw_N.warm hW hN⟩, hD.weaken (fun _ _ _ _ => trivial)⟩⟩ rfl hn hl hst (lv_room hcat) hdg hcs) hS (fun q _ h => hFc q h) hFc (fun u t H1 locs1 ht hvm hw hB hz1 hk1 hS1 => ?_)
  have hB : va_P G vwCl ws' t.heap := hB
  rw [ht] at hB
  exact kk H1 locs1 hB (tw_D_fst ha hD) hS1
end TWC
theorem tw_ofi {l : Launch} {y : MethodName} {ws ws1 : List Cond} {rm : Room} {G : va_G} {tys : List (ClassId × FieldType)} {wc wc' : va_W} {av : List Value} {sz : Nat} {rv : Int32} {cc : ByteArray} {maxL : Nat} {ty : FieldType} {own : String} (hy : plainName y.cls = true) (how : y.cls = own) (hw : ws = Cond.code y cc maxL (some ty) :: ws1) (hmx : (lg_sl av).length ≤ maxL)
    (body : ∀ (p : Program) (e : Env) (s : State) (m : MethodId) (args : Array Value) (below : List Frame) (meth : Method) (c : Code) (Q : State → Prop) (A : Nat → Prop) (ls : Array Slot) (H : Heap) (locs : List Loc), CallFix p m c cc maxL s args ws own → tw_N s → va_K G vwCl tys s → va_P G vwCl wc H → va_D A wc → va_S A s.heap H locs → (∀ q : Nat, s.heap.size ≤ q → A q) → lv_has ls maxL (lv_args 0 av) →
      (∀ (H : Heap) (locs : List Loc) (pc : Nat) (ls : Array Slot) (x : Int32), rv = x → narrow ty (.int x) = .int x →  va_P G vwCl wc' H → va_S A s.heap H locs → decode cc pc = .ok (.ireturn, 1) → W p l e rm s m args below meth c H locs 0 0 Q (F0 m pc ls [.int x])) →
      W p l e rm s m args below meth c H locs 0 0 Q (F0 m 0 ls [])) : tw_Mi l y ws rm G tys wc av sz rv wc' := by
  subst how
  refine Met.ofW (cc := cc) (maxL := maxL) (ret := (some ty)) hy hw ?_
  intro p e s m args below meth c s₁ B hml hv
  obtain ⟨rfl, hsz, hP, ⟨hK, hN⟩, hD0⟩ := hv
  have hD := hD0.self (sz := sz)
  have hl := lv_entry av (n := maxL) hmx
  rw [lg_entry_eq]
  refine body p e s m av.toArray below meth c _ (va_A wc sz) _ _ _ ⟨B.exec, B.bytes, hml, findClass_of_methodNamed B.named, atoms_spec (ws := ws) B.pre⟩ hN hK hP hD va_S.rf (fun q h => Or.inr (hsz ▸ h)) hl (fun H locs pc ls x hx9 hn hP9 hS9 hd => ?_)
  exact W.zret B.exec B.bytes B.returns hn (fun t ht hW => ⟨⟨x, (), rfl, hx9, by dsimp only; rw [ht]; exact hP9⟩, hS9.F ht⟩) hS9.2.2 hd B.notSynchronized
theorem tw_ofl {l : Launch} {y : MethodName} {ws ws1 : List Cond} {rm : Room} {G : va_G} {tys : List (ClassId × FieldType)} {wc wc' : va_W} {av : List Value} {sz : Nat} {rv : Int64} {cc : ByteArray} {maxL : Nat} {own : String} (hy : plainName y.cls = true) (how : y.cls = own) (hw : ws = Cond.code y cc maxL (some .long) :: ws1) (hmx : (lg_sl av).length ≤ maxL)
    (body : ∀ (p : Program) (e : Env) (s : State) (m : MethodId) (args : Array Value) (below : List Frame) (meth : Method) (c : Code) (Q : State → Prop) (A : Nat → Prop) (ls : Array Slot) (H : Heap) (locs : List Loc), CallFix p m c cc maxL s args ws own → tw_N s → va_K G vwCl tys s → va_P G vwCl wc H → va_D A wc → va_S A s.heap H locs → (∀ q : Nat, s.heap.size ≤ q → A q) → lv_has ls maxL (lv_args 0 av) →
      (∀ (H : Heap) (locs : List Loc) (pc : Nat) (ls : Array Slot) (x : Int64), rv = x →  va_P G vwCl wc' H → va_S A s.heap H locs → decode cc pc = .ok (.lreturn, 1) → W p l e rm s m args below meth c H locs 0 0 Q (F0 m pc ls [.long x])) →
      W p l e rm s m args below meth c H locs 0 0 Q (F0 m 0 ls [])) : tw_Ml l y ws rm G tys wc av sz rv wc' := by
  subst how
  refine Met.ofW (cc := cc) (maxL := maxL) (ret := (some .long)) hy hw ?_
  intro p e s m args below meth c s₁ B hml hv
  obtain ⟨rfl, hsz, hP, ⟨hK, hN⟩, hD0⟩ := hv
  have hD := hD0.self (sz := sz)
  have hl := lv_entry av (n := maxL) hmx
  rw [lg_entry_eq]
  refine body p e s m av.toArray below meth c _ (va_A wc sz) _ _ _ ⟨B.exec, B.bytes, hml, findClass_of_methodNamed B.named, atoms_spec (ws := ws) B.pre⟩ hN hK hP hD va_S.rf (fun q h => Or.inr (hsz ▸ h)) hl (fun H locs pc ls x hx9 hP9 hS9 hd => ?_)
  exact W.lret B.exec B.bytes B.returns (fun t ht hW => ⟨⟨x, (), rfl, hx9, by dsimp only; rw [ht]; exact hP9⟩, hS9.F ht⟩) hS9.2.2 hd B.notSynchronized
theorem tw_ofd {l : Launch} {y : MethodName} {ws ws1 : List Cond} {rm : Room} {G : va_G} {tys : List (ClassId × FieldType)} {wc wc' : va_W} {av : List Value} {sz : Nat} {rv : UInt64} {cc : ByteArray} {maxL : Nat} {own : String} (hy : plainName y.cls = true) (how : y.cls = own) (hw : ws = Cond.code y cc maxL (some .double) :: ws1) (hmx : (lg_sl av).length ≤ maxL)
    (body : ∀ (p : Program) (e : Env) (s : State) (m : MethodId) (args : Array Value) (below : List Frame) (meth : Method) (c : Code) (Q : State → Prop) (A : Nat → Prop) (ls : Array Slot) (H : Heap) (locs : List Loc), CallFix p m c cc maxL s args ws own → tw_N s → va_K G vwCl tys s → va_P G vwCl wc H → va_D A wc → va_S A s.heap H locs → (∀ q : Nat, s.heap.size ≤ q → A q) → lv_has ls maxL (lv_args 0 av) →
      (∀ (H : Heap) (locs : List Loc) (pc : Nat) (ls : Array Slot) (x : UInt64), rv = x →  va_P G vwCl wc' H → va_S A s.heap H locs → decode cc pc = .ok (.dreturn, 1) → W p l e rm s m args below meth c H locs 0 0 Q (F0 m pc ls [.double x])) →
      W p l e rm s m args below meth c H locs 0 0 Q (F0 m 0 ls [])) : tw_Mu l y ws rm G tys wc av sz rv wc' := by
  subst how
  refine Met.ofW (cc := cc) (maxL := maxL) (ret := (some .double)) hy hw ?_
  intro p e s m args below meth c s₁ B hml hv
  obtain ⟨rfl, hsz, hP, ⟨hK, hN⟩, hD0⟩ := hv
  have hD := hD0.self (sz := sz)
  have hl := lv_entry av (n := maxL) hmx
  rw [lg_entry_eq]
  refine body p e s m av.toArray below meth c _ (va_A wc sz) _ _ _ ⟨B.exec, B.bytes, hml, findClass_of_methodNamed B.named, atoms_spec (ws := ws) B.pre⟩ hN hK hP hD va_S.rf (fun q h => Or.inr (hsz ▸ h)) hl (fun H locs pc ls x hx9 hP9 hS9 hd => ?_)
  exact W.dret B.exec B.bytes B.returns (fun t ht hW => ⟨⟨x, (), rfl, hx9, by dsimp only; rw [ht]; exact hP9⟩, hS9.F ht⟩) hS9.2.2 hd B.notSynchronized
theorem tw_ofv {l : Launch} {y : MethodName} {ws ws1 : List Cond} {rm : Room} {G : va_G} {tys : List (ClassId × FieldType)} {wc wc' : va_W} {av : List Value} {sz : Nat} {cc : ByteArray} {maxL : Nat} {own : String} (hy : plainName y.cls = true) (how : y.cls = own) (hw : ws = Cond.code y cc maxL none :: ws1) (hmx : (lg_sl av).length ≤ maxL)
    (body : ∀ (p : Program) (e : Env) (s : State) (m : MethodId) (args : Array Value) (below : List Frame) (meth : Method) (c : Code) (Q : State → Prop) (A : Nat → Prop) (ls : Array Slot) (H : Heap) (locs : List Loc), CallFix p m c cc maxL s args ws own → tw_N s → va_K G vwCl tys s → va_P G vwCl wc H → va_D A wc → va_S A s.heap H locs → (∀ q : Nat, s.heap.size ≤ q → A q) → lv_has ls maxL (lv_args 0 av) →
      (∀ (H : Heap) (locs : List Loc) (pc : Nat) (ls : Array Slot), va_P G vwCl wc' H → va_S A s.heap H locs → decode cc pc = .ok (.return_, 1) → W p l e rm s m args below meth c H locs 0 0 Q (F0 m pc ls [])) →
      W p l e rm s m args below meth c H locs 0 0 Q (F0 m 0 ls [])) : tw_Mv l y ws rm G tys wc av sz wc' := by
  subst how
  refine Met.ofW (cc := cc) (maxL := maxL) (ret := none) hy hw ?_
  intro p e s m args below meth c s₁ B hml hv
  obtain ⟨rfl, hsz, hP, ⟨hK, hN⟩, hD0⟩ := hv
  have hD := hD0.self (sz := sz)
  have hl := lv_entry av (n := maxL) hmx
  rw [lg_entry_eq]
  refine body p e s m av.toArray below meth c _ (va_A wc sz) _ _ _ ⟨B.exec, B.bytes, hml, findClass_of_methodNamed B.named, atoms_spec (ws := ws) B.pre⟩ hN hK hP hD va_S.rf (fun q h => Or.inr (hsz ▸ h)) hl (fun H locs pc ls hP9 hS9 hd => ?_)
  exact W.vret B.exec B.bytes B.returns (fun t ht hW => ⟨⟨(), rfl, trivial, by dsimp only; rw [ht]; exact hP9⟩, hS9.F ht⟩) hS9.2.2 hd B.notSynchronized
theorem tw_ofr {l : Launch} {y : MethodName} {ws ws1 : List Cond} {rm : Room} {G : va_G} {tys : List (ClassId × FieldType)} {wc wc' : va_W} {av : List Value} {sz : Nat} {rv : Nat} {cc : ByteArray} {maxL : Nat} {own : String} (hy : plainName y.cls = true) (how : y.cls = own) (hw : ws = Cond.code y cc maxL (some (.array .int)) :: ws1) (hmx : (lg_sl av).length ≤ maxL)
    (body : ∀ (p : Program) (e : Env) (s : State) (m : MethodId) (args : Array Value) (below : List Frame) (meth : Method) (c : Code) (Q : State → Prop) (A : Nat → Prop) (ls : Array Slot) (H : Heap) (locs : List Loc), CallFix p m c cc maxL s args ws own → tw_N s → va_K G vwCl tys s → va_P G vwCl wc H → va_D A wc → va_S A s.heap H locs → (∀ q : Nat, s.heap.size ≤ q → A q) → lv_has ls maxL (lv_args 0 av) →
      (∀ (H : Heap) (locs : List Loc) (pc : Nat) (ls : Array Slot) (x : Nat), x = rv →  va_P G vwCl wc' H → va_S A s.heap H locs → decode cc pc = .ok (.areturn, 1) → W p l e rm s m args below meth c H locs 0 0 Q (F0 m pc ls [.ref x])) →
      W p l e rm s m args below meth c H locs 0 0 Q (F0 m 0 ls [])) : tw_Mr l y ws rm G tys wc av sz rv wc' := by
  subst how
  refine Met.ofW (cc := cc) (maxL := maxL) (ret := (some (.array .int))) hy hw ?_
  intro p e s m args below meth c s₁ B hml hv
  obtain ⟨rfl, hsz, hP, ⟨hK, hN⟩, hD0⟩ := hv
  have hD := hD0.self (sz := sz)
  have hl := lv_entry av (n := maxL) hmx
  rw [lg_entry_eq]
  refine body p e s m av.toArray below meth c _ (va_A wc sz) _ _ _ ⟨B.exec, B.bytes, hml, findClass_of_methodNamed B.named, atoms_spec (ws := ws) B.pre⟩ hN hK hP hD va_S.rf (fun q h => Or.inr (hsz ▸ h)) hl (fun H locs pc ls x hx9 hP9 hS9 hd => ?_)
  exact W.aret B.exec B.bytes B.returns (Or.inr ⟨_, rfl⟩) (Or.inr ⟨_, rfl⟩) (fun t ht hW => ⟨⟨(), x, rfl, trivial, hx9, by rw [ht]; exact hP9⟩, hS9.F ht⟩) hS9.2.2 hd B.notSynchronized
section TWS
variable {p : Program} {l : Launch} {e : Env} {R : Room} {s : State} {m : MethodId} {args : Array Value} {below : List Frame} {meth : Method} {c : Code} {H : Heap} {locs : List Loc} {cells slots : Nat} {Q : State → Prop}
variable {cc : ByteArray} {pc : Nat} {ls : Array Slot} {rest : List Value} {D : va_G} {cl : List vw_C} {A : Nat → Prop} {a : Nat} {tys : List (ClassId × FieldType)} {ws ws' : va_W} {H0 : Heap}
theorem tw_put (hexec : p.tables.exec = Jvm.exec) (hb : c.code = cc) {own ref C : String} {T : u_T} {N ci index : Nat} {Ts : List Cond} (hts : ∀ w ∈ Ts, w.before args s = true) (hin : ∀ w ∈ u_ws C T N, w ∈ Ts) (ty0 : Nat → FieldType) (hty : ∀ k, k < N → parseFieldDescriptor (T k).2.2.1 = some (ty0 k)) (hnm : ∀ a, a < N → ∀ b, b < N → a ≠ b → (T a).2.1 ≠ (T b).2.1) (hown : s.vm.findClass own = some m.cls) (hK : va_K D cl tys s) (hP : va_P D cl ws H) (hD : va_D A ws) (hS0 : va_S A H0 H locs) (q0 : Nat) {fs : List Value} (he : ws[q0]? = some (a, .inr (ci, fs))) (hc : cl[ci]? = some (C, T, N)) (k : Nat) (hk : k < N) (hlink : (Cond.fieldLink own index ref (T k).2.1 (T k).2.2.1).before args s = true) (hsame : ∀ x, s.fieldFound? (T k).1 (T k).2.1 (T k).2.2.1 = some x → s.fieldFound? ref (T k).2.1 (T k).2.2.1 = some x) (hfin : (T k).2.2.2 = false) {ty : FieldType} {v : Value} (hd : parseFieldDescriptor (T k).2.2.1 = some ty) (hn : narrow ty v = v) (hfit : fits ty v = true) (hl : k < fs.length)
    (hdg : decode cc pc = .ok (.putfield index, 3)) (hws : ws.set q0 (a, .inr (ci, fs.set k v)) = ws')
    (kk : ∀ (H1 : Heap) (locs1 : List Loc), va_P D cl ws' H1 → va_D A ws' → va_S A H0 H1 locs1 → W p l e R s m args below meth c H1 locs1 cells slots Q (F0 m (pc + 3) ls rest)) : W p l e R s m args below meth c H locs cells slots Q (F0 m pc ls (v :: .ref a :: rest)) := by
  subst hws
  exact va_put hexec hb hts hin ty0 hty hnm hown hK hP hD hS0 q0 he hc k hk hlink hsame hfin hd hn hfit hl hdg kk
theorem tw_iast (hexec : p.tables.exec = Jvm.exec) (hb : c.code = cc) (hK : va_K D cl tys s) (hP : va_P D cl ws H) (hD : va_D A ws) (hS : va_S A H0 H locs) (q0 t0 : Nat) {cA : ClassId} {n : Nat} {f : Nat → Int32} (ha : ws[q0]? = some (a, .inl (cA, n, .inl f))) (ht : tys[t0]? = some (cA, .int)) {i : Int32} {x : Int32} (hin : vp_in i n) (hdg : decode cc pc = .ok (.iastore, 1))
    (hws : ws.set q0 (a, .inl (cA, n, .inl (upd f i.toNatClampNeg x))) = ws')
    (kk : ∀ (H1 : Heap) (locs1 : List Loc), va_P D cl ws' H1 → va_D A ws' → va_S A H0 H1 locs1 → W p l e R s m args below meth c H1 locs1 cells slots Q (F0 m (pc + 1) ls rest)) : W p l e R s m args below meth c H locs cells slots Q (F0 m pc ls (.int x :: .int i :: .ref a :: rest)) := by
  subst hws
  exact va_iast hexec hb hK hP hD hS q0 t0 ha ht hin hdg kk
theorem tw_astq (hexec : p.tables.exec = Jvm.exec) (hb : c.code = cc) (hK : va_K D cl tys s) (hP : va_P D cl ws H) (hD : va_D A ws) (hS : va_S A H0 H locs) (q0 t0 qk ci : Nat) {cA : ClassId} {r : vw_C} {n v : Nat} {vs : List Value} {f : Nat → Option Nat} (ha : ws[q0]? = some (a, .inl (cA, n, .inr (.inr (.inr (.inr f)))))) (ht : tys[t0]? = some (cA, .object r.1)) (hv : ws[qk]? = some (v, .inr (ci, vs))) (hc : cl[ci]? = some r) {i : Int32} (hin : vp_in i n) (hdg : decode cc pc = .ok (.aastore, 1))
    (hws : ws.set q0 (a, .inl (cA, n, .inr (.inr (.inr (.inr (va_up f i.toNatClampNeg (some v))))))) = ws')
    (kk : ∀ (H1 : Heap) (locs1 : List Loc), va_P D cl ws' H1 → va_D A ws' → va_S A H0 H1 locs1 → W p l e R s m args below meth c H1 locs1 cells slots Q (F0 m (pc + 1) ls rest)) : W p l e R s m args below meth c H locs cells slots Q (F0 m pc ls (.ref v :: .int i :: .ref a :: rest)) := by
  subst hws
  exact va_astq hexec hb hK hP hD hS q0 t0 qk ci ha ht hv hc hin hdg kk
/-- a switch: the key is none of lo .. lo + n - 1 -/
theorem tw_out {x : Int32} {lo : Int} {n : Nat} (h : ∀ k : Nat, k < n → ¬ x.toInt = lo + k) : x.toInt < lo ∨ lo + n - 1 < x.toInt := by
  rcases Int.lt_or_le x.toInt lo with h1 | h1
  · exact Or.inl h1
  · by_cases h2 : lo + n - 1 < x.toInt
    · exact Or.inr h2
    · exact absurd (show x.toInt = lo + ((x.toInt - lo).toNat : Nat) by omega) (h _ (by omega))
end TWS
theorem tw_vin {i : Int32} {n : Nat} (h : ¬ (i < 0 ∨ n ≤ i.toNatClampNeg)) : vp_in i n := h
theorem tw_pi (z : Nat → Nat → Nat) (f : Nat → Nat) (k j : Nat) : va_up (fun i => some (z (f i) 0)) k (some (z j 0)) = fun i => some (z (va_up f k j i) 0) := by
  funext i
  unfold va_up
  by_cases h : i = k
  · rw [if_pos h, if_pos h]
  · rw [if_neg h, if_neg h]
theorem tw_tab {p : Program} {l : Launch} {e : Env} {R : Room} {s : State} {m : MethodId} {args : Array Value} {below : List Frame} {meth : Method} {c : Code} {H : Heap} {locs : List Loc} {cells slots : Nat} {Q : State → Prop} {cc : ByteArray} {pc : Nat} {ls : Array Slot} {rest : List Value} (hexec : p.tables.exec = Jvm.exec) (hb : c.code = cc) {dflt lo hi : Int} {offs : Array Int} {len : Nat} {x v : Int32} {off : Int} {tgt : Nat} (hdg : decode cc pc = .ok (.tableswitch dflt lo hi offs, len)) (hk : x = v) (h1 : ¬ v.toInt < lo) (h2 : ¬ hi < v.toInt) (ho : offs[(v.toInt - lo).toNat]? = some off) (ht : (pc : Int) + off = (tgt : Int))
    (k : W p l e R s m args below meth c H locs cells slots Q (F0 m tgt ls rest)) : W p l e R s m args below meth c H locs cells slots Q (F0 m pc ls (.int x :: rest)) := by
  subst hk
  exact lv_tableIn hexec hb hdg h1 h2 ho ht k
theorem tw_loo {p : Program} {l : Launch} {e : Env} {R : Room} {s : State} {m : MethodId} {args : Array Value} {below : List Frame} {meth : Method} {c : Code} {H : Heap} {locs : List Loc} {cells slots : Nat} {Q : State → Prop} {cc : ByteArray} {pc : Nat} {ls : Array Slot} {rest : List Value} (hexec : p.tables.exec = Jvm.exec) (hb : c.code = cc) {dflt : Int} {ps : Array (Int × Int)} {len : Nat} {x v : Int32} {off : Int} {tgt : Nat} (hdg : decode cc pc = .ok (.lookupswitch dflt ps, len)) (hk : x = v) (hp : (ps.toList.zip (ps.toList.drop 1)).all (fun (a, next) => a.1 < next.1) = true) (ho : Op.lookupswitch.offset ps.toList dflt v.toInt = off) (ht : (pc : Int) + off = (tgt : Int))
    (k : W p l e R s m args below meth c H locs cells slots Q (F0 m tgt ls rest)) : W p l e R s m args below meth c H locs cells slots Q (F0 m pc ls (.int x :: rest)) := by
  subst hk
  exact lv_lookup hexec hb hdg hp ho ht k
theorem tw_nb {x : Int32} (h : x = 0 ∨ x = 1) : narrow .boolean (.int x) = .int x := by rcases h with rfl | rfl <;> rfl
theorem tw_fb {x : Int32} (h : x = 0 ∨ x = 1) : fits .boolean (.int x) = true := by rcases h with rfl | rfl <;> rfl
theorem tw_thr {α : Type} {k : Nat} {x : α} {rv : Nat × α} {P : Prop} (h : some (k, x) = some rv) (h0 : rv.1 = 0) (hk : ¬ k = 0) : P := absurd ((congrArg Prod.fst (Option.some.inj h)).trans h0) hk
theorem tw_rt {α : Type} {x rv : α} (M : α → Prop) (h : some x = some rv) (hx : M x) : M rv := (Option.some.inj h) ▸ hx
theorem tw_aldq {p : Program} {l : Launch} {e : Env} {R : Room} {s : State} {m : MethodId} {args : Array Value} {below : List Frame} {meth : Method} {c : Code} {H : Heap} {locs : List Loc} {cells slots : Nat} {Q : State → Prop} {cc : ByteArray} {pc : Nat} {ls : Array Slot} {rest : List Value} {D : va_G} {cl : List vw_C} {a : Nat} {tys : List (ClassId × FieldType)} {ws : va_W} (hexec : p.tables.exec = Jvm.exec) (hb : c.code = cc) (hK : va_K D cl tys s) (hP : va_P D cl ws H) (q0 t0 : Nat) {cA : ClassId} {C : String} {n v : Nat} {f : Nat → Option Nat} (ha : ws[q0]? = some (a, .inl (cA, n, .inr (.inr (.inr (.inr f)))))) (ht : tys[t0]? = some (cA, .object C)) {i : Int32} (hin : vp_in i n) (hv : f i.toNatClampNeg = some v) (hdg : decode cc pc = .ok (.aaload, 1))
    (kk : W p l e R s m args below meth c H locs cells slots Q (F0 m (pc + 1) ls (.ref v :: rest))) : W p l e R s m args below meth c H locs cells slots Q (F0 m pc ls (.int i :: .ref a :: rest)) := by
  refine va_aldq hexec hb hK hP q0 t0 ha ht hin hdg ?_
  rw [hv]
  exact kk
end
section
/-! the saved states, by their place j < 6 -/
theorem tw_6 {P : Nat → Prop} (h0 : P 0) (h1 : P 1) (h2 : P 2) (h3 : P 3) (h4 : P 4) (h5 : P 5) {j : Nat} (hj : j < 6) : P j := by
  match j, hj with
  | 0, _ => exact h0
  | 1, _ => exact h1
  | 2, _ => exact h2
  | 3, _ => exact h3
  | 4, _ => exact h4
  | 5, _ => exact h5
def tw_z1_is (j : Nat) : List Nat := [27 + 8 * j, 28 + 8 * j, 29 + 8 * j, 30 + 8 * j, 31 + 8 * j, 32 + 8 * j, 33 + 8 * j, 34 + 8 * j, 3, 4, 5, 6, 7, 8, 9, 10]
def tw_z2_is (j : Nat) : List Nat := [3, 4, 5, 6, 7, 8, 9, 10, 27 + 8 * j, 28 + 8 * j, 29 + 8 * j, 30 + 8 * j, 31 + 8 * j, 32 + 8 * j, 33 + 8 * j, 34 + 8 * j]
theorem tw_z1_nd {j : Nat} (hj : j < 6) : va_nd (tw_z1_is j) = true := tw_6 (P := fun j => va_nd (tw_z1_is j) = true) (by decide) (by decide) (by decide) (by decide) (by decide) (by decide) hj
theorem tw_z2_nd {j : Nat} (hj : j < 6) : va_nd (tw_z2_is j) = true := tw_6 (P := fun j => va_nd (tw_z2_is j) = true) (by decide) (by decide) (by decide) (by decide) (by decide) (by decide) hj
section
variable {cI cQ : ClassId} {a na pa ta qa xa : Nat → Nat} {z : Nat → Nat → Nat} {W : tw_Wl} {j : Nat}
theorem tw_zp (hj : j < 6) : (tw_wW cI cQ a na pa ta qa xa z W)[27 + 8 * j]? = some (z j 0, .inr (1, [.ref (z j 1), .ref (z j 2), .ref (z j 3), .ref (z j 4), .ref (z j 5), .ref (z j 6), .ref (z j 7), .int (W.2.2.2.2.2.2.2.1 j).2.2.2.2.2.2.2.1, .int (W.2.2.2.2.2.2.2.1 j).2.2.2.2.2.2.2.2])) := tw_6 (P := fun j => (tw_wW cI cQ a na pa ta qa xa z W)[27 + 8 * j]? = some (z j 0, .inr (1, [.ref (z j 1), .ref (z j 2), .ref (z j 3), .ref (z j 4), .ref (z j 5), .ref (z j 6), .ref (z j 7), .int (W.2.2.2.2.2.2.2.1 j).2.2.2.2.2.2.2.1, .int (W.2.2.2.2.2.2.2.1 j).2.2.2.2.2.2.2.2]))) rfl rfl rfl rfl rfl rfl hj
theorem tw_z1_C (hj : j < 6) : (tw_z1_is j).map (fun i => (tw_wW cI cQ a na pa ta qa xa z W)[i]?) = (tw_wS cI (z j) (W.2.2.2.2.2.2.2.1 j) ++ tw_wS cI na W.1).map some := tw_6 (P := fun j => (tw_z1_is j).map (fun i => (tw_wW cI cQ a na pa ta qa xa z W)[i]?) = (tw_wS cI (z j) (W.2.2.2.2.2.2.2.1 j) ++ tw_wS cI na W.1).map some) rfl rfl rfl rfl rfl rfl hj
theorem tw_z2_C (hj : j < 6) : (tw_z2_is j).map (fun i => (tw_wW cI cQ a na pa ta qa xa z W)[i]?) = (tw_wS cI na W.1 ++ tw_wS cI (z j) (W.2.2.2.2.2.2.2.1 j)).map some := tw_6 (P := fun j => (tw_z2_is j).map (fun i => (tw_wW cI cQ a na pa ta qa xa z W)[i]?) = (tw_wS cI na W.1 ++ tw_wS cI (z j) (W.2.2.2.2.2.2.2.1 j)).map some) rfl rfl rfl rfl rfl rfl hj
end
section
variable {cI cQ : ClassId} {a na pa ta qa xa : Nat → Nat} {z : Nat → Nat → Nat} {W : tw_Wl}
theorem tw_sN_M {V : tw_St} : tw_mix (tw_wW cI cQ a na pa ta qa xa z W) [3, 4, 5, 6, 7, 8, 9, 10] (tw_wS cI na V) = tw_wW cI cQ a na pa ta qa xa z (V, W.2.1, W.2.2.1, W.2.2.2.1, W.2.2.2.2.1, W.2.2.2.2.2.1, W.2.2.2.2.2.2.1, W.2.2.2.2.2.2.2.1, W.2.2.2.2.2.2.2.2) := by
  show tw_mix (tw_wW cI cQ a na pa ta qa xa z W) ((List.range 8).map (fun i => i + 3)) (tw_wS cI na V) = _
  unfold tw_wW
  rw [tw_mix_skip (n := 3) _ _ _ rfl, tw_mix_hit (n := 8) _ rfl rfl]
theorem tw_sP_M {V : tw_Pl} : tw_mix (tw_wW cI cQ a na pa ta qa xa z W) [11, 12, 13] (tw_wP cI pa V) = tw_wW cI cQ a na pa ta qa xa z (W.1, V, W.2.2.1, W.2.2.2.1, W.2.2.2.2.1, W.2.2.2.2.2.1, W.2.2.2.2.2.2.1, W.2.2.2.2.2.2.2.1, W.2.2.2.2.2.2.2.2) := by
  show tw_mix (tw_wW cI cQ a na pa ta qa xa z W) (((List.range 3).map (fun i => i + 8)).map (fun i => i + 3)) (tw_wP cI pa V) = _
  unfold tw_wW
  rw [tw_mix_skip (n := 3) _ _ _ rfl, tw_mix_skip (n := 8) _ _ _ rfl, tw_mix_hit (n := 3) _ rfl rfl]
theorem tw_sT_M {V : tw_St} : tw_mix (tw_wW cI cQ a na pa ta qa xa z W) [14, 15, 16, 17, 18, 19, 20, 21] (tw_wS cI ta V) = tw_wW cI cQ a na pa ta qa xa z (W.1, W.2.1, V, W.2.2.2.1, W.2.2.2.2.1, W.2.2.2.2.2.1, W.2.2.2.2.2.2.1, W.2.2.2.2.2.2.2.1, W.2.2.2.2.2.2.2.2) := by
  show tw_mix (tw_wW cI cQ a na pa ta qa xa z W) ((((List.range 8).map (fun i => i + 3)).map (fun i => i + 8)).map (fun i => i + 3)) (tw_wS cI ta V) = _
  unfold tw_wW
  rw [tw_mix_skip (n := 3) _ _ _ rfl, tw_mix_skip (n := 8) _ _ _ rfl, tw_mix_skip (n := 3) _ _ _ rfl, tw_mix_hit (n := 8) _ rfl rfl]
theorem tw_sQ_M {V : tw_Pl} : tw_mix (tw_wW cI cQ a na pa ta qa xa z W) [22, 23, 24] (tw_wP cI qa V) = tw_wW cI cQ a na pa ta qa xa z (W.1, W.2.1, W.2.2.1, V, W.2.2.2.2.1, W.2.2.2.2.2.1, W.2.2.2.2.2.2.1, W.2.2.2.2.2.2.2.1, W.2.2.2.2.2.2.2.2) := by
  show tw_mix (tw_wW cI cQ a na pa ta qa xa z W) (((((List.range 3).map (fun i => i + 8)).map (fun i => i + 3)).map (fun i => i + 8)).map (fun i => i + 3)) (tw_wP cI qa V) = _
  unfold tw_wW
  rw [tw_mix_skip (n := 3) _ _ _ rfl, tw_mix_skip (n := 8) _ _ _ rfl, tw_mix_skip (n := 3) _ _ _ rfl, tw_mix_skip (n := 8) _ _ _ rfl, tw_mix_hit (n := 3) _ rfl rfl]
theorem tw_sX_M {V : tw_Tx} : tw_mix (tw_wW cI cQ a na pa ta qa xa z W) [25, 26] (tw_wT cI xa V) = tw_wW cI cQ a na pa ta qa xa z (W.1, W.2.1, W.2.2.1, W.2.2.2.1, V, W.2.2.2.2.2.1, W.2.2.2.2.2.2.1, W.2.2.2.2.2.2.2.1, W.2.2.2.2.2.2.2.2) := by
  show tw_mix (tw_wW cI cQ a na pa ta qa xa z W) ((((((List.range 2).map (fun i => i + 3)).map (fun i => i + 8)).map (fun i => i + 3)).map (fun i => i + 8)).map (fun i => i + 3)) (tw_wT cI xa V) = _
  unfold tw_wW
  rw [tw_mix_skip (n := 3) _ _ _ rfl, tw_mix_skip (n := 8) _ _ _ rfl, tw_mix_skip (n := 3) _ _ _ rfl, tw_mix_skip (n := 8) _ _ _ rfl, tw_mix_skip (n := 3) _ _ _ rfl, tw_mix_hit (n := 2) _ rfl rfl]
theorem tw_sZ0_M {V : tw_St} : tw_mix (tw_wW cI cQ a na pa ta qa xa z W) [27, 28, 29, 30, 31, 32, 33, 34] (tw_wS cI (z 0) V) = tw_wW cI cQ a na pa ta qa xa z (W.1, W.2.1, W.2.2.1, W.2.2.2.1, W.2.2.2.2.1, W.2.2.2.2.2.1, W.2.2.2.2.2.2.1, va_up W.2.2.2.2.2.2.2.1 0 V, W.2.2.2.2.2.2.2.2) := by
  show tw_mix (tw_wW cI cQ a na pa ta qa xa z W) (((((((List.range 8).map (fun i => i + 2)).map (fun i => i + 3)).map (fun i => i + 8)).map (fun i => i + 3)).map (fun i => i + 8)).map (fun i => i + 3)) (tw_wS cI (z 0) V) = _
  unfold tw_wW tw_wZ
  rw [tw_mix_skip (n := 3) _ _ _ rfl, tw_mix_skip (n := 8) _ _ _ rfl, tw_mix_skip (n := 3) _ _ _ rfl, tw_mix_skip (n := 8) _ _ _ rfl, tw_mix_skip (n := 3) _ _ _ rfl, tw_mix_skip (n := 2) _ _ _ rfl]
  rw [tw_mix_hit (n := 8) _ rfl rfl]
  rfl
theorem tw_sZ1_M {V : tw_St} : tw_mix (tw_wW cI cQ a na pa ta qa xa z W) [35, 36, 37, 38, 39, 40, 41, 42] (tw_wS cI (z 1) V) = tw_wW cI cQ a na pa ta qa xa z (W.1, W.2.1, W.2.2.1, W.2.2.2.1, W.2.2.2.2.1, W.2.2.2.2.2.1, W.2.2.2.2.2.2.1, va_up W.2.2.2.2.2.2.2.1 1 V, W.2.2.2.2.2.2.2.2) := by
  show tw_mix (tw_wW cI cQ a na pa ta qa xa z W) ((((((((List.range 8).map (fun i => i + 8)).map (fun i => i + 2)).map (fun i => i + 3)).map (fun i => i + 8)).map (fun i => i + 3)).map (fun i => i + 8)).map (fun i => i + 3)) (tw_wS cI (z 1) V) = _
  unfold tw_wW tw_wZ
  rw [tw_mix_skip (n := 3) _ _ _ rfl, tw_mix_skip (n := 8) _ _ _ rfl, tw_mix_skip (n := 3) _ _ _ rfl, tw_mix_skip (n := 8) _ _ _ rfl, tw_mix_skip (n := 3) _ _ _ rfl, tw_mix_skip (n := 2) _ _ _ rfl, tw_mix_skip (n := 8) _ _ _ rfl]
  rw [tw_mix_hit (n := 8) _ rfl rfl]
  rfl
theorem tw_sZ2_M {V : tw_St} : tw_mix (tw_wW cI cQ a na pa ta qa xa z W) [43, 44, 45, 46, 47, 48, 49, 50] (tw_wS cI (z 2) V) = tw_wW cI cQ a na pa ta qa xa z (W.1, W.2.1, W.2.2.1, W.2.2.2.1, W.2.2.2.2.1, W.2.2.2.2.2.1, W.2.2.2.2.2.2.1, va_up W.2.2.2.2.2.2.2.1 2 V, W.2.2.2.2.2.2.2.2) := by
  show tw_mix (tw_wW cI cQ a na pa ta qa xa z W) (((((((((List.range 8).map (fun i => i + 8)).map (fun i => i + 8)).map (fun i => i + 2)).map (fun i => i + 3)).map (fun i => i + 8)).map (fun i => i + 3)).map (fun i => i + 8)).map (fun i => i + 3)) (tw_wS cI (z 2) V) = _
  unfold tw_wW tw_wZ
  rw [tw_mix_skip (n := 3) _ _ _ rfl, tw_mix_skip (n := 8) _ _ _ rfl, tw_mix_skip (n := 3) _ _ _ rfl, tw_mix_skip (n := 8) _ _ _ rfl, tw_mix_skip (n := 3) _ _ _ rfl, tw_mix_skip (n := 2) _ _ _ rfl, tw_mix_skip (n := 8) _ _ _ rfl, tw_mix_skip (n := 8) _ _ _ rfl]
  rw [tw_mix_hit (n := 8) _ rfl rfl]
  rfl
theorem tw_sZ3_M {V : tw_St} : tw_mix (tw_wW cI cQ a na pa ta qa xa z W) [51, 52, 53, 54, 55, 56, 57, 58] (tw_wS cI (z 3) V) = tw_wW cI cQ a na pa ta qa xa z (W.1, W.2.1, W.2.2.1, W.2.2.2.1, W.2.2.2.2.1, W.2.2.2.2.2.1, W.2.2.2.2.2.2.1, va_up W.2.2.2.2.2.2.2.1 3 V, W.2.2.2.2.2.2.2.2) := by
  show tw_mix (tw_wW cI cQ a na pa ta qa xa z W) ((((((((((List.range 8).map (fun i => i + 8)).map (fun i => i + 8)).map (fun i => i + 8)).map (fun i => i + 2)).map (fun i => i + 3)).map (fun i => i + 8)).map (fun i => i + 3)).map (fun i => i + 8)).map (fun i => i + 3)) (tw_wS cI (z 3) V) = _
  unfold tw_wW tw_wZ
  rw [tw_mix_skip (n := 3) _ _ _ rfl, tw_mix_skip (n := 8) _ _ _ rfl, tw_mix_skip (n := 3) _ _ _ rfl, tw_mix_skip (n := 8) _ _ _ rfl, tw_mix_skip (n := 3) _ _ _ rfl, tw_mix_skip (n := 2) _ _ _ rfl, tw_mix_skip (n := 8) _ _ _ rfl, tw_mix_skip (n := 8) _ _ _ rfl, tw_mix_skip (n := 8) _ _ _ rfl]
  rw [tw_mix_hit (n := 8) _ rfl rfl]
  rfl
theorem tw_sZ4_M {V : tw_St} : tw_mix (tw_wW cI cQ a na pa ta qa xa z W) [59, 60, 61, 62, 63, 64, 65, 66] (tw_wS cI (z 4) V) = tw_wW cI cQ a na pa ta qa xa z (W.1, W.2.1, W.2.2.1, W.2.2.2.1, W.2.2.2.2.1, W.2.2.2.2.2.1, W.2.2.2.2.2.2.1, va_up W.2.2.2.2.2.2.2.1 4 V, W.2.2.2.2.2.2.2.2) := by
  show tw_mix (tw_wW cI cQ a na pa ta qa xa z W) (((((((((((List.range 8).map (fun i => i + 8)).map (fun i => i + 8)).map (fun i => i + 8)).map (fun i => i + 8)).map (fun i => i + 2)).map (fun i => i + 3)).map (fun i => i + 8)).map (fun i => i + 3)).map (fun i => i + 8)).map (fun i => i + 3)) (tw_wS cI (z 4) V) = _
  unfold tw_wW tw_wZ
  rw [tw_mix_skip (n := 3) _ _ _ rfl, tw_mix_skip (n := 8) _ _ _ rfl, tw_mix_skip (n := 3) _ _ _ rfl, tw_mix_skip (n := 8) _ _ _ rfl, tw_mix_skip (n := 3) _ _ _ rfl, tw_mix_skip (n := 2) _ _ _ rfl, tw_mix_skip (n := 8) _ _ _ rfl, tw_mix_skip (n := 8) _ _ _ rfl, tw_mix_skip (n := 8) _ _ _ rfl, tw_mix_skip (n := 8) _ _ _ rfl]
  rw [tw_mix_hit (n := 8) _ rfl rfl]
  rfl
theorem tw_sZ5_M {V : tw_St} : tw_mix (tw_wW cI cQ a na pa ta qa xa z W) [67, 68, 69, 70, 71, 72, 73, 74] (tw_wS cI (z 5) V) = tw_wW cI cQ a na pa ta qa xa z (W.1, W.2.1, W.2.2.1, W.2.2.2.1, W.2.2.2.2.1, W.2.2.2.2.2.1, W.2.2.2.2.2.2.1, va_up W.2.2.2.2.2.2.2.1 5 V, W.2.2.2.2.2.2.2.2) := by
  show tw_mix (tw_wW cI cQ a na pa ta qa xa z W) ((((((((((((List.range 8).map (fun i => i + 8)).map (fun i => i + 8)).map (fun i => i + 8)).map (fun i => i + 8)).map (fun i => i + 8)).map (fun i => i + 2)).map (fun i => i + 3)).map (fun i => i + 8)).map (fun i => i + 3)).map (fun i => i + 8)).map (fun i => i + 3)) (tw_wS cI (z 5) V) = _
  unfold tw_wW tw_wZ
  rw [tw_mix_skip (n := 3) _ _ _ rfl, tw_mix_skip (n := 8) _ _ _ rfl, tw_mix_skip (n := 3) _ _ _ rfl, tw_mix_skip (n := 8) _ _ _ rfl, tw_mix_skip (n := 3) _ _ _ rfl, tw_mix_skip (n := 2) _ _ _ rfl, tw_mix_skip (n := 8) _ _ _ rfl, tw_mix_skip (n := 8) _ _ _ rfl, tw_mix_skip (n := 8) _ _ _ rfl, tw_mix_skip (n := 8) _ _ _ rfl, tw_mix_skip (n := 8) _ _ _ rfl]
  rw [show tw_mix (tw_wS cI (z 5) (W.2.2.2.2.2.2.2.1 5)) (List.range 8) (tw_wS cI (z 5) V) = tw_wS cI (z 5) V from rfl]
  rfl
theorem tw_sZ_M {j : Nat} (hj : j < 6) {V : tw_St} : tw_mix (tw_wW cI cQ a na pa ta qa xa z W) [27 + 8 * j, 28 + 8 * j, 29 + 8 * j, 30 + 8 * j, 31 + 8 * j, 32 + 8 * j, 33 + 8 * j, 34 + 8 * j] (tw_wS cI (z j) V) = tw_wW cI cQ a na pa ta qa xa z (W.1, W.2.1, W.2.2.1, W.2.2.2.1, W.2.2.2.2.1, W.2.2.2.2.2.1, W.2.2.2.2.2.2.1, va_up W.2.2.2.2.2.2.2.1 j V, W.2.2.2.2.2.2.2.2) := tw_6 (P := fun j => tw_mix (tw_wW cI cQ a na pa ta qa xa z W) [27 + 8 * j, 28 + 8 * j, 29 + 8 * j, 30 + 8 * j, 31 + 8 * j, 32 + 8 * j, 33 + 8 * j, 34 + 8 * j] (tw_wS cI (z j) V) = tw_wW cI cQ a na pa ta qa xa z (W.1, W.2.1, W.2.2.1, W.2.2.2.1, W.2.2.2.2.1, W.2.2.2.2.2.1, W.2.2.2.2.2.2.1, va_up W.2.2.2.2.2.2.2.1 j V, W.2.2.2.2.2.2.2.2)) tw_sZ0_M tw_sZ1_M tw_sZ2_M tw_sZ3_M tw_sZ4_M tw_sZ5_M hj
theorem tw_z1_M {j : Nat} (hj : j < 6) {V : tw_St} : tw_mix (tw_wW cI cQ a na pa ta qa xa z W) (tw_z1_is j) (tw_wS cI (z j) V ++ tw_wS cI na W.1) = tw_wW cI cQ a na pa ta qa xa z (W.1, W.2.1, W.2.2.1, W.2.2.2.1, W.2.2.2.2.1, W.2.2.2.2.2.1, W.2.2.2.2.2.2.1, va_up W.2.2.2.2.2.2.2.1 j V, W.2.2.2.2.2.2.2.2) := by
  show tw_mix (tw_wW cI cQ a na pa ta qa xa z W) ([27 + 8 * j, 28 + 8 * j, 29 + 8 * j, 30 + 8 * j, 31 + 8 * j, 32 + 8 * j, 33 + 8 * j, 34 + 8 * j] ++ [3, 4, 5, 6, 7, 8, 9, 10]) (tw_wS cI (z j) V ++ tw_wS cI na W.1) = _
  rw [tw_mix_app [27 + 8 * j, 28 + 8 * j, 29 + 8 * j, 30 + 8 * j, 31 + 8 * j, 32 + 8 * j, 33 + 8 * j, 34 + 8 * j] _ _ _ _ rfl, tw_sZ_M hj, tw_sN_M]
theorem tw_z2_M {j : Nat} (hj : j < 6) {V : tw_St} : tw_mix (tw_wW cI cQ a na pa ta qa xa z W) (tw_z2_is j) (tw_wS cI na V ++ tw_wS cI (z j) (W.2.2.2.2.2.2.2.1 j)) = tw_wW cI cQ a na pa ta qa xa z (V, W.2.1, W.2.2.1, W.2.2.2.1, W.2.2.2.2.1, W.2.2.2.2.2.1, W.2.2.2.2.2.2.1, W.2.2.2.2.2.2.2.1, W.2.2.2.2.2.2.2.2) := by
  have e : va_up W.2.2.2.2.2.2.2.1 j (W.2.2.2.2.2.2.2.1 j) = W.2.2.2.2.2.2.2.1 := by
    funext i
    unfold va_up
    by_cases h : i = j
    · rw [if_pos h, h]
    · rw [if_neg h]
  show tw_mix (tw_wW cI cQ a na pa ta qa xa z W) ([3, 4, 5, 6, 7, 8, 9, 10] ++ [27 + 8 * j, 28 + 8 * j, 29 + 8 * j, 30 + 8 * j, 31 + 8 * j, 32 + 8 * j, 33 + 8 * j, 34 + 8 * j]) (tw_wS cI na V ++ tw_wS cI (z j) (W.2.2.2.2.2.2.2.1 j)) = _
  rw [tw_mix_app [3, 4, 5, 6, 7, 8, 9, 10] _ _ _ _ rfl, tw_sN_M]
  have h := tw_sZ_M (cI := cI) (cQ := cQ) (a := a) (na := na) (pa := pa) (ta := ta) (qa := qa) (xa := xa) (z := z) (W := (V, W.2.1, W.2.2.1, W.2.2.2.1, W.2.2.2.2.1, W.2.2.2.2.2.1, W.2.2.2.2.2.2.1, W.2.2.2.2.2.2.2.1, W.2.2.2.2.2.2.2.2)) hj (V := W.2.2.2.2.2.2.2.1 j)
  dsimp only at h
  rw [e] at h
  exact h
theorem tw_cN_C : ([3, 4, 5, 6, 7, 8, 9, 10] : List Nat).map (fun i => (tw_wW cI cQ a na pa ta qa xa z W)[i]?) = (tw_wS cI na W.1).map some := rfl
theorem tw_cN_nd : va_nd [3, 4, 5, 6, 7, 8, 9, 10] = true := by decide
theorem tw_cN_M {VN : tw_St} : tw_mix (tw_wW cI cQ a na pa ta qa xa z W) [3, 4, 5, 6, 7, 8, 9, 10] (tw_wS cI na VN) = tw_wW cI cQ a na pa ta qa xa z (VN, W.2.1, W.2.2.1, W.2.2.2.1, W.2.2.2.2.1, W.2.2.2.2.2.1, W.2.2.2.2.2.2.1, W.2.2.2.2.2.2.2.1, W.2.2.2.2.2.2.2.2) := tw_sN_M
theorem tw_cX_C : ([25, 26] : List Nat).map (fun i => (tw_wW cI cQ a na pa ta qa xa z W)[i]?) = (tw_wT cI xa W.2.2.2.2.1).map some := rfl
theorem tw_cX_nd : va_nd [25, 26] = true := by decide
theorem tw_cX_M {VX : tw_Tx} : tw_mix (tw_wW cI cQ a na pa ta qa xa z W) [25, 26] (tw_wT cI xa VX) = tw_wW cI cQ a na pa ta qa xa z (W.1, W.2.1, W.2.2.1, W.2.2.2.1, VX, W.2.2.2.2.2.1, W.2.2.2.2.2.2.1, W.2.2.2.2.2.2.2.1, W.2.2.2.2.2.2.2.2) := tw_sX_M
theorem tw_cPN_C : ([11, 12, 13, 3, 4, 5, 6, 7, 8, 9, 10] : List Nat).map (fun i => (tw_wW cI cQ a na pa ta qa xa z W)[i]?) = (tw_wP cI pa W.2.1 ++ tw_wS cI na W.1).map some := rfl
theorem tw_cPN_nd : va_nd [11, 12, 13, 3, 4, 5, 6, 7, 8, 9, 10] = true := by decide
theorem tw_cPN_M {VP : tw_Pl} {VN : tw_St} : tw_mix (tw_wW cI cQ a na pa ta qa xa z W) [11, 12, 13, 3, 4, 5, 6, 7, 8, 9, 10] (tw_wP cI pa VP ++ tw_wS cI na VN) = tw_wW cI cQ a na pa ta qa xa z (VN, VP, W.2.2.1, W.2.2.2.1, W.2.2.2.2.1, W.2.2.2.2.2.1, W.2.2.2.2.2.2.1, W.2.2.2.2.2.2.2.1, W.2.2.2.2.2.2.2.2) := by
  show tw_mix (tw_wW cI cQ a na pa ta qa xa z W) ([11, 12, 13] ++ [3, 4, 5, 6, 7, 8, 9, 10]) (tw_wP cI pa VP ++ tw_wS cI na VN) = _
  rw [tw_mix_app [11, 12, 13] _ _ _ _ rfl, tw_sP_M, tw_sN_M]
theorem tw_cQT_C : ([22, 23, 24, 14, 15, 16, 17, 18, 19, 20, 21] : List Nat).map (fun i => (tw_wW cI cQ a na pa ta qa xa z W)[i]?) = (tw_wP cI qa W.2.2.2.1 ++ tw_wS cI ta W.2.2.1).map some := rfl
theorem tw_cQT_nd : va_nd [22, 23, 24, 14, 15, 16, 17, 18, 19, 20, 21] = true := by decide
theorem tw_cQT_M {VQ : tw_Pl} {VT : tw_St} : tw_mix (tw_wW cI cQ a na pa ta qa xa z W) [22, 23, 24, 14, 15, 16, 17, 18, 19, 20, 21] (tw_wP cI qa VQ ++ tw_wS cI ta VT) = tw_wW cI cQ a na pa ta qa xa z (W.1, W.2.1, VT, VQ, W.2.2.2.2.1, W.2.2.2.2.2.1, W.2.2.2.2.2.2.1, W.2.2.2.2.2.2.2.1, W.2.2.2.2.2.2.2.2) := by
  show tw_mix (tw_wW cI cQ a na pa ta qa xa z W) ([22, 23, 24] ++ [14, 15, 16, 17, 18, 19, 20, 21]) (tw_wP cI qa VQ ++ tw_wS cI ta VT) = _
  rw [tw_mix_app [22, 23, 24] _ _ _ _ rfl, tw_sQ_M, tw_sT_M]
theorem tw_cTN_C : ([14, 15, 16, 17, 18, 19, 20, 21, 3, 4, 5, 6, 7, 8, 9, 10] : List Nat).map (fun i => (tw_wW cI cQ a na pa ta qa xa z W)[i]?) = (tw_wS cI ta W.2.2.1 ++ tw_wS cI na W.1).map some := rfl
theorem tw_cTN_nd : va_nd [14, 15, 16, 17, 18, 19, 20, 21, 3, 4, 5, 6, 7, 8, 9, 10] = true := by decide
theorem tw_cTN_M {VT : tw_St} {VN : tw_St} : tw_mix (tw_wW cI cQ a na pa ta qa xa z W) [14, 15, 16, 17, 18, 19, 20, 21, 3, 4, 5, 6, 7, 8, 9, 10] (tw_wS cI ta VT ++ tw_wS cI na VN) = tw_wW cI cQ a na pa ta qa xa z (VN, W.2.1, VT, W.2.2.2.1, W.2.2.2.2.1, W.2.2.2.2.2.1, W.2.2.2.2.2.2.1, W.2.2.2.2.2.2.2.1, W.2.2.2.2.2.2.2.2) := by
  show tw_mix (tw_wW cI cQ a na pa ta qa xa z W) ([14, 15, 16, 17, 18, 19, 20, 21] ++ [3, 4, 5, 6, 7, 8, 9, 10]) (tw_wS cI ta VT ++ tw_wS cI na VN) = _
  rw [tw_mix_app [14, 15, 16, 17, 18, 19, 20, 21] _ _ _ _ rfl, tw_sT_M, tw_sN_M]
theorem tw_cXT_C : ([25, 26, 14, 15, 16, 17, 18, 19, 20, 21] : List Nat).map (fun i => (tw_wW cI cQ a na pa ta qa xa z W)[i]?) = (tw_wT cI xa W.2.2.2.2.1 ++ tw_wS cI ta W.2.2.1).map some := rfl
theorem tw_cXT_nd : va_nd [25, 26, 14, 15, 16, 17, 18, 19, 20, 21] = true := by decide
theorem tw_cXT_M {VX : tw_Tx} {VT : tw_St} : tw_mix (tw_wW cI cQ a na pa ta qa xa z W) [25, 26, 14, 15, 16, 17, 18, 19, 20, 21] (tw_wT cI xa VX ++ tw_wS cI ta VT) = tw_wW cI cQ a na pa ta qa xa z (W.1, W.2.1, VT, W.2.2.2.1, VX, W.2.2.2.2.2.1, W.2.2.2.2.2.2.1, W.2.2.2.2.2.2.2.1, W.2.2.2.2.2.2.2.2) := by
  show tw_mix (tw_wW cI cQ a na pa ta qa xa z W) ([25, 26] ++ [14, 15, 16, 17, 18, 19, 20, 21]) (tw_wT cI xa VX ++ tw_wS cI ta VT) = _
  rw [tw_mix_app [25, 26] _ _ _ _ rfl, tw_sX_M, tw_sT_M]
theorem tw_cNT_C : ([3, 4, 5, 6, 7, 8, 9, 10, 14, 15, 16, 17, 18, 19, 20, 21] : List Nat).map (fun i => (tw_wW cI cQ a na pa ta qa xa z W)[i]?) = (tw_wS cI na W.1 ++ tw_wS cI ta W.2.2.1).map some := rfl
theorem tw_cNT_nd : va_nd [3, 4, 5, 6, 7, 8, 9, 10, 14, 15, 16, 17, 18, 19, 20, 21] = true := by decide
theorem tw_cNT_M {VN : tw_St} {VT : tw_St} : tw_mix (tw_wW cI cQ a na pa ta qa xa z W) [3, 4, 5, 6, 7, 8, 9, 10, 14, 15, 16, 17, 18, 19, 20, 21] (tw_wS cI na VN ++ tw_wS cI ta VT) = tw_wW cI cQ a na pa ta qa xa z (VN, W.2.1, VT, W.2.2.2.1, W.2.2.2.2.1, W.2.2.2.2.2.1, W.2.2.2.2.2.2.1, W.2.2.2.2.2.2.2.1, W.2.2.2.2.2.2.2.2) := by
  show tw_mix (tw_wW cI cQ a na pa ta qa xa z W) ([3, 4, 5, 6, 7, 8, 9, 10] ++ [14, 15, 16, 17, 18, 19, 20, 21]) (tw_wS cI na VN ++ tw_wS cI ta VT) = _
  rw [tw_mix_app [3, 4, 5, 6, 7, 8, 9, 10] _ _ _ _ rfl, tw_sN_M, tw_sT_M]
end
end
