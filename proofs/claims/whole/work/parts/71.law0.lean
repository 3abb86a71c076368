/-! the law: its world, its rows -/
theorem tw_pC {w1 w2 : va_W} : (List.range w1.length).map (fun i => (w1 ++ w2)[i]?) = w1.map some := by
  apply List.ext_getElem?
  intro k
  rw [List.getElem?_map, List.getElem?_map]
  by_cases h : k < w1.length
  · rw [List.getElem?_range h]
    show some ((w1 ++ w2)[k]?) = _
    rw [List.getElem?_append_left h, List.getElem?_eq_getElem h]
    rfl
  · rw [List.getElem?_eq_none (by rw [List.length_range]; omega), List.getElem?_eq_none (by omega)]
    rfl
theorem tw_sC {w1 w2 : va_W} : ((List.range w2.length).map (fun i => i + w1.length)).map (fun i => (w1 ++ w2)[i]?) = w2.map some := by
  apply List.ext_getElem?
  intro k
  rw [List.getElem?_map, List.getElem?_map, List.getElem?_map]
  by_cases h : k < w2.length
  · rw [List.getElem?_range h]
    show some ((w1 ++ w2)[k + w1.length]?) = _
    rw [List.getElem?_append_right (by omega), show k + w1.length - w1.length = k by omega, List.getElem?_eq_getElem h]
    rfl
  · rw [List.getElem?_eq_none (by rw [List.length_range]; omega), List.getElem?_eq_none (by omega)]
    rfl
theorem tw_nd_map {k : Nat} : ∀ (l : List Nat), va_nd l = true → va_nd (l.map (fun i => i + k)) = true := by
  intro l
  induction l with
  | nil => intro _; rfl
  | cons a l ih =>
    intro h
    have h' : (decide (a ∉ l) && va_nd l) = true := h
    rw [Bool.and_eq_true, decide_eq_true_eq] at h'
    show (decide (a + k ∉ l.map (fun i => i + k)) && va_nd (l.map (fun i => i + k))) = true
    rw [Bool.and_eq_true, decide_eq_true_eq]
    refine ⟨fun hm => ?_, ih h'.2⟩
    obtain ⟨b, hb, e⟩ := List.mem_map.mp hm
    have e' : b + k = a + k := e
    have : b = a := by omega
    exact h'.1 (this ▸ hb)
theorem tw_snd {n k : Nat} : va_nd ((List.range n).map (fun i => i + k)) = true := tw_nd_map _ (tw_ndR n)
theorem tw_sM {w1 w2 es : va_W} (he : es.length = w2.length) : tw_mix (w1 ++ w2) ((List.range w2.length).map (fun i => i + w1.length)) es = w1 ++ es := by
  rw [tw_mix_skip w2 (List.range w2.length) es rfl]
  have := tw_mix_hit (l := w2) (es := es) [] rfl he
  rw [List.append_nil, List.append_nil] at this
  rw [this]
def tw_LW (cI cQ cL : ClassId) (a na pa ta qa xa : Nat → Nat) (z : Nat → Nat → Nat) (o : Nat) (ma : Nat → Nat) (Y : tw_Wl) (f : Nat → Int64) (M : tw_Md) : va_W := (tw_wW cI cQ a na pa ta qa xa z Y ++ [(o, .inl (cL, 1, .inr (.inl f)))]) ++ tw_wM cI ma M
/-- what stands fast in the law -/
def lw_L (p : Program) (s : State) (m : MethodId) (c : Code) (b L : Nat) (xs : Nat → Int32) : Prop := p.tables.exec = Jvm.exec ∧ c.code = cL_law ∧ c.maxLocals = 9 ∧ s.vm.findClass RL = some m.cls ∧ (∀ w ∈ wsL_law, w.before #[Value.ref b] s = true) ∧ va_X b L xs s s.heap ∧ b < s.heap.size ∧ tw_N s ∧ tw_NX s ∧ tw_NC s ∧ vx_Zq Bundle.tN "UNASSIGNED_STACK" Bundle.steD (fun q : Nat => s.heap.size ≤ q) s s.heap ∧ vx_Zq Bundle.tN "SUPPRESSED_SENTINEL" Bundle.listD (fun q : Nat => s.heap.size ≤ q) s s.heap
/-- from the end of a case -/
def lw_K (p : Program) (l : Launch) (e : Env) (s : State) (m : MethodId) (below : List Frame) (meth : Method) (c : Code) (b : Nat) (Q : State → Prop) (G : va_G) (cI cQ cL : ClassId) (a na pa ta qa xa : Nat → Nat) (z : Nat → Nat → Nat) (o : Nat) (ma : Nat → Nat) (x4 : Int32) (cells slots : Nat) : Prop := ∀ (Y : tw_Wl) (f : Nat → Int64) (M : tw_Md) (H : Heap) (locs : List Loc) (ls : Array Slot), sp_I Y M → va_P G vwCl (tw_LW cI cQ cL a na pa ta qa xa z o ma Y f M) H → va_D (fun q : Nat => s.heap.size ≤ q) (tw_LW cI cQ cL a na pa ta qa xa z o ma Y f M) → va_S (fun q : Nat => s.heap.size ≤ q) s.heap H locs → lv_has ls 9 [(0, .ref b), (1, .ref (a 0)), (2, .ref (ma 0)), (3, .ref o), (4, .int x4)] → W p l e room_1 s m #[Value.ref b] below meth c H locs cells slots Q (F0 m 1423 ls [])
section TWL
variable {p : Program} {l : Launch} {e : Env} {R : Room} {s : State} {m : MethodId} {args : Array Value} {below : List Frame} {meth : Method} {c : Code} {H : Heap} {locs : List Loc} {cells slots : Nat} {Q : State → Prop}
variable {cc bytes : ByteArray} {nL maxL n index : Nat} {Ts wsY : List Cond} {own C : String} {y : MethodName} {ret : Option FieldType} {rm : Room} {b : Addr} {As rest st : List Value} {pc : Nat} {ls : Array Slot} {G : va_G} {tys tysY : List (ClassId × FieldType)} {w1 w1' w2 w2' : va_W} {A0 : Nat → Prop} {H0 : Heap}
/-- a helper is called -/
theorem lw_callH {hh : List (Nat × Nat × Nat × Nat)} {rv : Int32} (F : CallFix p m c cc nL s args Ts own) (hN : tw_N s) (hK : va_K G vwCl tys s) (hP : va_P G vwCl (w1 ++ w2) H) (hD : va_D A0 (w1 ++ w2)) (hS : va_S A0 s.heap H locs) (hA : ∀ q : Nat, s.heap.size ≤ q → A0 q) (hNX : tw_NX s) (hNC : tw_NC s) (hU : vx_Zq Bundle.tN "UNASSIGNED_STACK" Bundle.steD A0 s s.heap) (hZ : vx_Zq Bundle.tN "SUPPRESSED_SENTINEL" Bundle.listD A0 s s.heap)
    (hM : tw_Mh l y wsY rm G tysY w1 As H.size rv w1') (cw : vx_CSW R s args own index y bytes maxL ret hh wsY rm 1 6 n)
    (ks : List Nat) (hks : ks.filterMap (fun i => tys[i]?) = tysY) (ha : w1'.map Prod.fst = w1.map Prod.fst)
    (hn : As.length = n) (hl : ls.size = nL) (hst : st = As.reverse ++ rest) (hcat : (rest.map fun v => v.category).sum ≤ 8) (hdg : decode cc pc = .ok (.invokestatic index, 3)) (hcs : cells + 1 ≤ R.cells ∧ slots + 6 ≤ R.slots)
    (kk : ∀ (H1 : Heap) (locs1 : List Loc), va_P G vwCl (w1' ++ w2) H1 → va_D A0 (w1' ++ w2) → va_S A0 s.heap H1 locs1 → W p l e R s m args below meth c H1 locs1 (cells + 1) (slots + 6) Q (F0 m (pc + 3) ls (.int rv :: rest))) :
    W p l e R s m args below meth c H locs cells slots Q (F0 m pc ls st) := by
  have hC : (List.range w1.length).map (fun i => (w1 ++ w2)[i]?) = w1.map some := tw_pC
  have hPc : va_P G vwCl w1 H := fun k q hq => by obtain ⟨i, -, h⟩ := tw_is_get hC hq; exact hP i q h
  have hDc := hD.sub (List.range w1.length) (tw_ndR _) hC
  have hKc := hK.sub ks hks
  have hFc := va_free hD hS hA (List.range w1.length) hC
  have hU1 : vx_Zq Bundle.tN "UNASSIGNED_STACK" Bundle.steD (va_A w1 H.size) s H := (hU.kept hS.2.1).narrow hFc
  have hZ1 : vx_Zq Bundle.tN "SUPPRESSED_SENTINEL" Bundle.listD (va_A w1 H.size) s H := (hZ.kept hS.2.1).narrow hFc
  refine vx_calli (vx_runSX (As := As) (rest := rest) F hM cw ⟨tw_Ph_blind, fun U hU hW => ⟨rfl, by rw [hU], by rw [hU]; exact hPc, ⟨va_K.moved hW.alike hKc, tw_N.warm hW hN⟩, hDc.weaken (fun _ _ _ _ => trivial), tw_NX.warm hW hNX, by rw [hU]; exact vx_Zq.moved hW.alike hU1, by rw [hU]; exact vx_Zq.moved hW.alike hZ1, tw_NC.moved hW.alike hNC⟩⟩ rfl hn hl hst (lv_room hcat) hdg hcs) hS (fun q _ h => hFc q h) hFc (fun q _ h => hFc q h) (fun E9 ce q9 u t H1 locs1 ht hvm hpx hBX hz1 hk1 hS1 hce hcv hcl9 => hpx.elim) (fun r u t H1 locs1 ht hvm hw hB hz1 hk1 hS1 => ?_)
  subst hw
  have hB : va_P G vwCl w1' t.heap := hB
  rw [ht] at hB
  obtain ⟨hP2, hD2⟩ := tw_back hP hD (List.range w1.length) hC ha hk1 hB
  have hlen : w1'.length = w1.length := by have := congrArg List.length ha; simpa using this
  rw [tw_mix_hit w2 rfl hlen] at hP2 hD2
  exact kk H1 locs1 hP2 hD2 hS1
/-- the wall's constructor is called on the last cell -/
theorem tw_callIO {wr : va_W} {mc ms : Nat} {S : Type} {B : S → State → Prop} {el : va_E} (F : CallFix p m c cc nL s args Ts own) (hN : tw_N s) (hO : va_AO RX1 s) (hK : va_K G vwCl tys s) (hP : va_P G vwCl (wr ++ [(b, el)]) H) (hD : va_D A0 (wr ++ [(b, el)])) (hS : va_S A0 H0 H locs) (hA : ∀ q : Nat, H0.size ≤ q → A0 q)
    (hM : tw_MnO (S := S) l y wsY rm G tysY [(b, el)] [.ref b] H.size mc ms B) (cw : CallB R s args own index y bytes maxL none wsY rm mc ms 0 ∧ y.name = "<init>" ∧ (Cond.instanceMethod y).before args s = true)
    (ks : List Nat) (hks : ks.filterMap (fun i => tys[i]?) = tysY) (w1 : S → va_W) (hB : ∀ u t, B u t → va_P G vwCl (w1 u) t.heap ∧ va_D (va_A [(b, el)] H.size) (w1 u))
    (hl : ls.size = nL) (hcat : (rest.map fun v => v.category).sum ≤ 8) (hdg : decode cc pc = .ok (.invokespecial index, 3)) (hcs : cells + mc ≤ R.cells ∧ slots + ms ≤ R.slots)
    (kk : ∀ (u : S) (t : State) (H1 : Heap) (locs1 : List Loc), B u t → t.heap = H1 → s.vm.Alike t.vm → va_P G vwCl (wr ++ w1 u) H1 → va_D A0 (wr ++ w1 u) → va_S A0 H0 H1 locs1 → W p l e R s m args below meth c H1 locs1 (cells + mc) (slots + ms) Q (F0 m (pc + 3) ls rest)) :
    W p l e R s m args below meth c H locs cells slots Q (F0 m pc ls (.ref b :: rest)) := by
  have hC := tw_cC (wr := wr) (e := (b, el))
  have hPc : va_P G vwCl [(b, el)] H := fun k q hq => by obtain ⟨i, -, h⟩ := tw_is_get hC hq; exact hP i q h
  have hDc := hD.sub [wr.length] rfl hC
  have hKc := hK.sub ks hks
  have hFc := va_free hD hS hA [wr.length] hC
  refine va_callv (va_runI (As := []) (rest := rest) F hM cw ⟨tw_PcO_blind, fun U hU hW => ⟨rfl, by rw [hU], by rw [hU]; exact hPc, ⟨va_K.moved hW.alike hKc, tw_N.warm hW hN⟩, hDc.weaken (fun _ _ _ _ => trivial), va_AO.moved hW.alike hO⟩⟩ rfl rfl hl rfl (lv_room hcat) hdg hcs) hS (fun q _ h => hFc q h) hFc (fun u t H1 locs1 ht hvm hw hBt hz1 hk1 hS1 => ?_)
  obtain ⟨hP1, hD1⟩ := hB u t hBt
  rw [ht] at hP1
  obtain ⟨hP2, hD2⟩ := va_join (wr := wr) hP hD [wr.length] (List.range wr.length) hC tw_cR (tw_ndR _) (fun i hi h => absurd (List.mem_range.mp hi) (by rw [List.mem_singleton.mp h]; exact Nat.lt_irrefl _)) hk1 hFc hP1 hD1
  exact kk u t H1 locs1 hBt ht hvm hP2 hD2 hS1
end TWL
theorem lw_cmp_eq (x : Int64) : lg_cmp x x = 0 := by simp [lg_cmp]
theorem lw_in {x4 : Int32} {j k L : Nat} (hx : x4 = zi ((4 * j : Nat) : Int)) (hk : k < 4) (hL : L ≤ 2048) (hj : 4 * j + 4 ≤ L) : vp_in (x4 + zi (k : Int)) L := by
  subst hx
  rw [zi_pk]
  intro h
  rcases h with h | h
  · rw [z0, zi_lt (by omega) (by omega) (by omega) (by omega)] at h
    omega
  · rw [zi_Tn (by omega)] at h
    omega
theorem lw_in0 {x4 : Int32} {j L : Nat} (hx : x4 = zi ((4 * j : Nat) : Int)) (hL : L ≤ 2048) (hj : 4 * j + 4 ≤ L) : vp_in x4 L := by
  subst hx
  intro h
  rcases h with h | h
  · rw [z0, zi_lt (by omega) (by omega) (by omega) (by omega)] at h
    omega
  · rw [zi_Tn (by omega)] at h
    omega
theorem sp_A_t {a b c : Int32} {X : Option (Nat × Int32 × tw_Wl)} {R : Option (Int32 × tw_Md)} (h : sp_A a b c X R) : ∃ kc r Y' rb M', X = some (kc, r, Y') ∧ R = some (rb, M') ∧ sp_I Y' M' ∧ (kc = 0 ∨ (kc = 1 ∧ a ≠ 0) ∨ (kc = 2 ∧ b ≠ 0) ∨ (kc = 3 ∧ c ≠ 0)) ∧ M'.2.2.2.2.2.2.1 = tw_hk a b c kc ∧ (kc = 0 → r = rb) ∧ (kc ≠ 0 → tw_hk a b c kc ≠ 0) := by
  obtain ⟨kc, r, Y', rb, M', h1, h2, h3, h4⟩ := h
  refine ⟨kc, r, Y', rb, M', h1, h2, h3, ?_⟩
  rcases h4 with ⟨rfl, h5, h6⟩ | ⟨rfl, h5, h6⟩ | ⟨rfl, h5, h6⟩ | ⟨rfl, h5, h6⟩
  · exact ⟨Or.inl rfl, h5, fun _ => h6, fun q => absurd rfl q⟩
  · exact ⟨Or.inr (Or.inl ⟨rfl, h5⟩), h6, fun q => absurd q (by decide), fun _ => h5⟩
  · exact ⟨Or.inr (Or.inr (Or.inl ⟨rfl, h5⟩)), h6, fun q => absurd q (by decide), fun _ => h5⟩
  · exact ⟨Or.inr (Or.inr (Or.inr ⟨rfl, h5⟩)), h6, fun q => absurd q (by decide), fun _ => h5⟩
