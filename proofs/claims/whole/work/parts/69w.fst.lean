/-! the addresses of a world don't depend on what it holds -/
section TWF
variable {cI cQ cL : ClassId} {a na pa ta qa xa : Nat → Nat} {z : Nat → Nat → Nat} {o : Nat} {ma : Nat → Nat} {V W : tw_Wl} {f g : Nat → Int64} {M N : tw_Md}
theorem lw_fW : (tw_wW cI cQ a na pa ta qa xa z V).map Prod.fst = (tw_wW cI cQ a na pa ta qa xa z W).map Prod.fst := rfl
theorem lw_75 : (tw_wW cI cQ a na pa ta qa xa z V).length = 75 := rfl
theorem lw_nW : (tw_wW cI cQ a na pa ta qa xa z V).length = (tw_wW cI cQ a na pa ta qa xa z W).length := lw_75.trans lw_75.symm
theorem lw_fO : (tw_wW cI cQ a na pa ta qa xa z V ++ ([(o, .inl (cL, 1, .inr (.inl f)))] : va_W)).map Prod.fst = (tw_wW cI cQ a na pa ta qa xa z W ++ ([(o, .inl (cL, 1, .inr (.inl g)))] : va_W)).map Prod.fst := by
  rw [List.map_append, List.map_append, lw_fW (V := V) (W := W)]
  try rfl
theorem lw_fM : (tw_wM cI ma M).map Prod.fst = (tw_wM cI ma N).map Prod.fst := rfl
theorem lw_8 : (tw_wM cI ma M).length = 8 := rfl
theorem lw_nM : (tw_wM cI ma M).length = (tw_wM cI ma N).length := lw_8.trans lw_8.symm
end TWF
