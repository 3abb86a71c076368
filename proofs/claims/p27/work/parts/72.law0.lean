/-! the law: what stands fast, the wall's making -/
/-- what stands fast in the law -/
def lw_L (p : Program) (s : State) (m : MethodId) (c : Code) (b L : Nat) (xs : Nat → Int32) : Prop := p.tables.exec = Jvm.exec ∧ c.code = cL_law ∧ c.maxLocals = 9 ∧ s.vm.findClass RL = some m.cls ∧ (∀ w ∈ wsL_law, w.before #[Value.ref b] s = true) ∧ va_X b L xs s s.heap ∧ b < s.heap.size ∧ tw_N s ∧ tw_NX s ∧ tw_NC s ∧ vx_Zq Bundle.tN "UNASSIGNED_STACK" Bundle.steD (fun q : Nat => s.heap.size ≤ q) s s.heap ∧ vx_Zq Bundle.tN "SUPPRESSED_SENTINEL" Bundle.listD (fun q : Nat => s.heap.size ≤ q) s s.heap
section TWL
variable {p : Program} {l : Launch} {e : Env} {R : Room} {s : State} {m : MethodId} {args : Array Value} {below : List Frame} {meth : Method} {c : Code} {H : Heap} {locs : List Loc} {cells slots : Nat} {Q : State → Prop}
variable {cc bytes : ByteArray} {nL maxL n index : Nat} {Ts wsY : List Cond} {own C : String} {y : MethodName} {ret : Option FieldType} {rm : Room} {b : Addr} {As rest st : List Value} {pc : Nat} {ls : Array Slot} {G : va_G} {tys tysY : List (ClassId × FieldType)} {w1 w1' w2 w2' : va_W} {A0 : Nat → Prop} {H0 : Heap}
/-- the wall's constructor is called on the last cell -/
theorem tw_callIO {wr : va_W} {mc ms : Nat} {S : Type} {B : S → State → Prop} {el : va_E} (F : CallFix p m c cc nL s args Ts own) (hN : tw_N s) (hO : va_AO RX1 s) (hK : va_K G vwCl tys s) (hP : va_P G vwCl (wr ++ [(b, el)]) H) (hD : va_D A0 (wr ++ [(b, el)])) (hS : va_S A0 H0 H locs) (hA : ∀ q : Nat, H0.size ≤ q → A0 q)
    (hM : tw_MnO (S := S) l y wsY rm G tysY [(b, el)] [.ref b] H.size mc ms B) (cw : CallB R s args own index y bytes maxL none wsY rm mc ms 0 ∧ y.name = "<init>" ∧ (Cond.instanceMethod y).before args s = true)
    (ks : List Nat) (hks : ks.filterMap (fun i => tys[i]?) = tysY) (w1 : S → va_W) (hB : ∀ u t, B u t → va_P G vwCl (w1 u) t.heap ∧ va_D (va_A [(b, el)] H.size) (w1 u))
    (hl : ls.size = nL) (hcat : (rest.map fun v => v.category).sum ≤ 8) (hdg : decode cc pc = .ok (.invokespecial index, 3)) (hcs : cells + mc ≤ R.cells ∧ slots + ms ≤ R.slots)
    (kk : ∀ (u : S) (t : State) (H1 : Heap) (locs1 : List Loc), B u t → t.heap = H1 → s.vm.Alike t.vm → va_P G vwCl (wr ++ w1 u) H1 → va_D A0 (wr ++ w1 u) → va_S A0 H0 H1 locs1 → W p l e R s m args below meth c H1 locs1 (cells + mc) (slots + ms) Q (F0 m (pc + 3) ls rest)) :
    W p l e R s m args below meth c H locs cells slots Q (F0 m pc ls (.ref b :: rest)) := by
  have hC := tw_cC (wr := wr) (e := (b, el))
  have hPc : va_P G vwCl [(b, el)] H := fun k q hq => by obtain ⟨i, -, h⟩ := tw_is_get hC hq; exact hP i q h
  have hDc := hD.sub [wr.length] rfl hC
  have hKc := hK.sub ks hks
  have hFc := va_free hD hS hA [wr.length] hC
  refine va_callv (va_runI (As := []) (rest := rest) F hM cw ⟨tw_PcO_blind, fun U hU hW => ⟨rfl, by rw [hU], by rw [hU]; exact hPc, ⟨va_K.moved hW.alike hKc, tw_N.warm hW hN⟩, hDc.weaken (fun _ _ _ _ => trivial), va_AO.moved hW.alike hO⟩⟩ rfl rfl hl rfl (lv_room hcat) hdg hcs) hS (fun q _ h => hFc q h) hFc (fun u t H1 locs1 ht hvm hw hBt hz1 hk1 hS1 => ?_)
  obtain ⟨hP1, hD1⟩ := hB u t hBt
  rw [ht] at hP1
  obtain ⟨hP2, hD2⟩ := va_join (wr := wr) hP hD [wr.length] (List.range wr.length) hC tw_cR (tw_ndR _) (fun i hi h => absurd (List.mem_range.mp hi) (by rw [List.mem_singleton.mp h]; exact Nat.lt_irrefl _)) hk1 hFc hP1 hD1
  exact kk u t H1 locs1 hBt ht hvm hP2 hD2 hS1
end TWL
