/-! the saved states, by their place j < 6 -/
theorem tw_6 {P : Nat → Prop} (h0 : P 0) (h1 : P 1) (h2 : P 2) (h3 : P 3) (h4 : P 4) (h5 : P 5) {j : Nat} (hj : j < 6) : P j := by
  match j, hj with
  | 0, _ => exact h0
  | 1, _ => exact h1
  | 2, _ => exact h2
  | 3, _ => exact h3
  | 4, _ => exact h4
  | 5, _ => exact h5
def tw_z1_is (j : Nat) : List Nat := [27 + 8 * j, 28 + 8 * j, 29 + 8 * j, 30 + 8 * j, 31 + 8 * j, 32 + 8 * j, 33 + 8 * j, 34 + 8 * j, 3, 4, 5, 6, 7, 8, 9, 10]
def tw_z2_is (j : Nat) : List Nat := [3, 4, 5, 6, 7, 8, 9, 10, 27 + 8 * j, 28 + 8 * j, 29 + 8 * j, 30 + 8 * j, 31 + 8 * j, 32 + 8 * j, 33 + 8 * j, 34 + 8 * j]
theorem tw_z1_nd {j : Nat} (hj : j < 6) : va_nd (tw_z1_is j) = true := tw_6 (P := fun j => va_nd (tw_z1_is j) = true) (by decide) (by decide) (by decide) (by decide) (by decide) (by decide) hj
theorem tw_z2_nd {j : Nat} (hj : j < 6) : va_nd (tw_z2_is j) = true := tw_6 (P := fun j => va_nd (tw_z2_is j) = true) (by decide) (by decide) (by decide) (by decide) (by decide) (by decide) hj
section
variable {cI cQ : ClassId} {a na pa ta qa xa : Nat → Nat} {z : Nat → Nat → Nat} {W : tw_Wl} {j : Nat}
theorem tw_zp (hj : j < 6) : (tw_wW cI cQ a na pa ta qa xa z W)[27 + 8 * j]? = some (z j 0, .inr (1, [.ref (z j 1), .ref (z j 2), .ref (z j 3), .ref (z j 4), .ref (z j 5), .ref (z j 6), .ref (z j 7), .int (W.2.2.2.2.2.2.2.1 j).2.2.2.2.2.2.2.1, .int (W.2.2.2.2.2.2.2.1 j).2.2.2.2.2.2.2.2])) := tw_6 (P := fun j => (tw_wW cI cQ a na pa ta qa xa z W)[27 + 8 * j]? = some (z j 0, .inr (1, [.ref (z j 1), .ref (z j 2), .ref (z j 3), .ref (z j 4), .ref (z j 5), .ref (z j 6), .ref (z j 7), .int (W.2.2.2.2.2.2.2.1 j).2.2.2.2.2.2.2.1, .int (W.2.2.2.2.2.2.2.1 j).2.2.2.2.2.2.2.2]))) rfl rfl rfl rfl rfl rfl hj
theorem tw_z1_C (hj : j < 6) : (tw_z1_is j).map (fun i => (tw_wW cI cQ a na pa ta qa xa z W)[i]?) = (tw_wS cI (z j) (W.2.2.2.2.2.2.2.1 j) ++ tw_wS cI na W.1).map some := tw_6 (P := fun j => (tw_z1_is j).map (fun i => (tw_wW cI cQ a na pa ta qa xa z W)[i]?) = (tw_wS cI (z j) (W.2.2.2.2.2.2.2.1 j) ++ tw_wS cI na W.1).map some) rfl rfl rfl rfl rfl rfl hj
theorem tw_z2_C (hj : j < 6) : (tw_z2_is j).map (fun i => (tw_wW cI cQ a na pa ta qa xa z W)[i]?) = (tw_wS cI na W.1 ++ tw_wS cI (z j) (W.2.2.2.2.2.2.2.1 j)).map some := tw_6 (P := fun j => (tw_z2_is j).map (fun i => (tw_wW cI cQ a na pa ta qa xa z W)[i]?) = (tw_wS cI na W.1 ++ tw_wS cI (z j) (W.2.2.2.2.2.2.2.1 j)).map some) rfl rfl rfl rfl rfl rfl hj
end
section
variable {cI cQ : ClassId} {a na pa ta qa xa : Nat → Nat} {z : Nat → Nat → Nat} {W : tw_Wl}
theorem tw_sN_M {V : tw_St} : tw_mix (tw_wW cI cQ a na pa ta qa xa z W) [3, 4, 5, 6, 7, 8, 9, 10] (tw_wS cI na V) = tw_wW cI cQ a na pa ta qa xa z (V, W.2.1, W.2.2.1, W.2.2.2.1, W.2.2.2.2.1, W.2.2.2.2.2.1, W.2.2.2.2.2.2.1, W.2.2.2.2.2.2.2.1, W.2.2.2.2.2.2.2.2) := by
  show tw_mix (tw_wW cI cQ a na pa ta qa xa z W) ((List.range 8).map (fun i => i + 3)) (tw_wS cI na V) = _
  unfold tw_wW
  rw [tw_mix_skip (n := 3) _ _ _ rfl, tw_mix_hit (n := 8) _ rfl rfl]
theorem tw_sP_M {V : tw_Pl} : tw_mix (tw_wW cI cQ a na pa ta qa xa z W) [11, 12, 13] (tw_wP cI pa V) = tw_wW cI cQ a na pa ta qa xa z (W.1, V, W.2.2.1, W.2.2.2.1, W.2.2.2.2.1, W.2.2.2.2.2.1, W.2.2.2.2.2.2.1, W.2.2.2.2.2.2.2.1, W.2.2.2.2.2.2.2.2) := by
  show tw_mix (tw_wW cI cQ a na pa ta qa xa z W) (((List.range 3).map (fun i => i + 8)).map (fun i => i + 3)) (tw_wP cI pa V) = _
  unfold tw_wW
  rw [tw_mix_skip (n := 3) _ _ _ rfl, tw_mix_skip (n := 8) _ _ _ rfl, tw_mix_hit (n := 3) _ rfl rfl]
theorem tw_sT_M {V : tw_St} : tw_mix (tw_wW cI cQ a na pa ta qa xa z W) [14, 15, 16, 17, 18, 19, 20, 21] (tw_wS cI ta V) = tw_wW cI cQ a na pa ta qa xa z (W.1, W.2.1, V, W.2.2.2.1, W.2.2.2.2.1, W.2.2.2.2.2.1, W.2.2.2.2.2.2.1, W.2.2.2.2.2.2.2.1, W.2.2.2.2.2.2.2.2) := by
  show tw_mix (tw_wW cI cQ a na pa ta qa xa z W) ((((List.range 8).map (fun i => i + 3)).map (fun i => i + 8)).map (fun i => i + 3)) (tw_wS cI ta V) = _
  unfold tw_wW
  rw [tw_mix_skip (n := 3) _ _ _ rfl, tw_mix_skip (n := 8) _ _ _ rfl, tw_mix_skip (n := 3) _ _ _ rfl, tw_mix_hit (n := 8) _ rfl rfl]
theorem tw_sQ_M {V : tw_Pl} : tw_mix (tw_wW cI cQ a na pa ta qa xa z W) [22, 23, 24] (tw_wP cI qa V) = tw_wW cI cQ a na pa ta qa xa z (W.1, W.2.1, W.2.2.1, V, W.2.2.2.2.1, W.2.2.2.2.2.1, W.2.2.2.2.2.2.1, W.2.2.2.2.2.2.2.1, W.2.2.2.2.2.2.2.2) := by
  show tw_mix (tw_wW cI cQ a na pa ta qa xa z W) (((((List.range 3).map (fun i => i + 8)).map (fun i => i + 3)).map (fun i => i + 8)).map (fun i => i + 3)) (tw_wP cI qa V) = _
  unfold tw_wW
  rw [tw_mix_skip (n := 3) _ _ _ rfl, tw_mix_skip (n := 8) _ _ _ rfl, tw_mix_skip (n := 3) _ _ _ rfl, tw_mix_skip (n := 8) _ _ _ rfl, tw_mix_hit (n := 3) _ rfl rfl]
theorem tw_sX_M {V : tw_Tx} : tw_mix (tw_wW cI cQ a na pa ta qa xa z W) [25, 26] (tw_wT cI xa V) = tw_wW cI cQ a na pa ta qa xa z (W.1, W.2.1, W.2.2.1, W.2.2.2.1, V, W.2.2.2.2.2.1, W.2.2.2.2.2.2.1, W.2.2.2.2.2.2.2.1, W.2.2.2.2.2.2.2.2) := by
  show tw_mix (tw_wW cI cQ a na pa ta qa xa z W) ((((((List.range 2).map (fun i => i + 3)).map (fun i => i + 8)).map (fun i => i + 3)).map (fun i => i + 8)).map (fun i => i + 3)) (tw_wT cI xa V) = _
  unfold tw_wW
  rw [tw_mix_skip (n := 3) _ _ _ rfl, tw_mix_skip (n := 8) _ _ _ rfl, tw_mix_skip (n := 3) _ _ _ rfl, tw_mix_skip (n := 8) _ _ _ rfl, tw_mix_skip (n := 3) _ _ _ rfl, tw_mix_hit (n := 2) _ rfl rfl]
theorem tw_sZ0_M {V : tw_St} : tw_mix (tw_wW cI cQ a na pa ta qa xa z W) [27, 28, 29, 30, 31, 32, 33, 34] (tw_wS cI (z 0) V) = tw_wW cI cQ a na pa ta qa xa z (W.1, W.2.1, W.2.2.1, W.2.2.2.1, W.2.2.2.2.1, W.2.2.2.2.2.1, W.2.2.2.2.2.2.1, va_up W.2.2.2.2.2.2.2.1 0 V, W.2.2.2.2.2.2.2.2) := by
  show tw_mix (tw_wW cI cQ a na pa ta qa xa z W) (((((((List.range 8).map (fun i => i + 2)).map (fun i => i + 3)).map (fun i => i + 8)).map (fun i => i + 3)).map (fun i => i + 8)).map (fun i => i + 3)) (tw_wS cI (z 0) V) = _
  unfold tw_wW tw_wZ
  rw [tw_mix_skip (n := 3) _ _ _ rfl, tw_mix_skip (n := 8) _ _ _ rfl, tw_mix_skip (n := 3) _ _ _ rfl, tw_mix_skip (n := 8) _ _ _ rfl, tw_mix_skip (n := 3) _ _ _ rfl, tw_mix_skip (n := 2) _ _ _ rfl]
  rw [tw_mix_hit (n := 8) _ rfl rfl]
  rfl
theorem tw_sZ1_M {V : tw_St} : tw_mix (tw_wW cI cQ a na pa ta qa xa z W) [35, 36, 37, 38, 39, 40, 41, 42] (tw_wS cI (z 1) V) = tw_wW cI cQ a na pa ta qa xa z (W.1, W.2.1, W.2.2.1, W.2.2.2.1, W.2.2.2.2.1, W.2.2.2.2.2.1, W.2.2.2.2.2.2.1, va_up W.2.2.2.2.2.2.2.1 1 V, W.2.2.2.2.2.2.2.2) := by
  show tw_mix (tw_wW cI cQ a na pa ta qa xa z W) ((((((((List.range 8).map (fun i => i + 8)).map (fun i => i + 2)).map (fun i => i + 3)).map (fun i => i + 8)).map (fun i => i + 3)).map (fun i => i + 8)).map (fun i => i + 3)) (tw_wS cI (z 1) V) = _
  unfold tw_wW tw_wZ
  rw [tw_mix_skip (n := 3) _ _ _ rfl, tw_mix_skip (n := 8) _ _ _ rfl, tw_mix_skip (n := 3) _ _ _ rfl, tw_mix_skip (n := 8) _ _ _ rfl, tw_mix_skip (n := 3) _ _ _ rfl, tw_mix_skip (n := 2) _ _ _ rfl, tw_mix_skip (n := 8) _ _ _ rfl]
  rw [tw_mix_hit (n := 8) _ rfl rfl]
  rfl
theorem tw_sZ2_M {V : tw_St} : tw_mix (tw_wW cI cQ a na pa ta qa xa z W) [43, 44, 45, 46, 47, 48, 49, 50] (tw_wS cI (z 2) V) = tw_wW cI cQ a na pa ta qa xa z (W.1, W.2.1, W.2.2.1, W.2.2.2.1, W.2.2.2.2.1, W.2.2.2.2.2.1, W.2.2.2.2.2.2.1, va_up W.2.2.2.2.2.2.2.1 2 V, W.2.2.2.2.2.2.2.2) := by
  show tw_mix (tw_wW cI cQ a na pa ta qa xa z W) (((((((((List.range 8).map (fun i => i + 8)).map (fun i => i + 8)).map (fun i => i + 2)).map (fun i => i + 3)).map (fun i => i + 8)).map (fun i => i + 3)).map (fun i => i + 8)).map (fun i => i + 3)) (tw_wS cI (z 2) V) = _
  unfold tw_wW tw_wZ
  rw [tw_mix_skip (n := 3) _ _ _ rfl, tw_mix_skip (n := 8) _ _ _ rfl, tw_mix_skip (n := 3) _ _ _ rfl, tw_mix_skip (n := 8) _ _ _ rfl, tw_mix_skip (n := 3) _ _ _ rfl, tw_mix_skip (n := 2) _ _ _ rfl, tw_mix_skip (n := 8) _ _ _ rfl, tw_mix_skip (n := 8) _ _ _ rfl]
  rw [tw_mix_hit (n := 8) _ rfl rfl]
  rfl
theorem tw_sZ3_M {V : tw_St} : tw_mix (tw_wW cI cQ a na pa ta qa xa z W) [51, 52, 53, 54, 55, 56, 57, 58] (tw_wS cI (z 3) V) = tw_wW cI cQ a na pa ta qa xa z (W.1, W.2.1, W.2.2.1, W.2.2.2.1, W.2.2.2.2.1, W.2.2.2.2.2.1, W.2.2.2.2.2.2.1, va_up W.2.2.2.2.2.2.2.1 3 V, W.2.2.2.2.2.2.2.2) := by
  show tw_mix (tw_wW cI cQ a na pa ta qa xa z W) ((((((((((List.range 8).map (fun i => i + 8)).map (fun i => i + 8)).map (fun i => i + 8)).map (fun i => i + 2)).map (fun i => i + 3)).map (fun i => i + 8)).map (fun i => i + 3)).map (fun i => i + 8)).map (fun i => i + 3)) (tw_wS cI (z 3) V) = _
  unfold tw_wW tw_wZ
  rw [tw_mix_skip (n := 3) _ _ _ rfl, tw_mix_skip (n := 8) _ _ _ rfl, tw_mix_skip (n := 3) _ _ _ rfl, tw_mix_skip (n := 8) _ _ _ rfl, tw_mix_skip (n := 3) _ _ _ rfl, tw_mix_skip (n := 2) _ _ _ rfl, tw_mix_skip (n := 8) _ _ _ rfl, tw_mix_skip (n := 8) _ _ _ rfl, tw_mix_skip (n := 8) _ _ _ rfl]
  rw [tw_mix_hit (n := 8) _ rfl rfl]
  rfl
theorem tw_sZ4_M {V : tw_St} : tw_mix (tw_wW cI cQ a na pa ta qa xa z W) [59, 60, 61, 62, 63, 64, 65, 66] (tw_wS cI (z 4) V) = tw_wW cI cQ a na pa ta qa xa z (W.1, W.2.1, W.2.2.1, W.2.2.2.1, W.2.2.2.2.1, W.2.2.2.2.2.1, W.2.2.2.2.2.2.1, va_up W.2.2.2.2.2.2.2.1 4 V, W.2.2.2.2.2.2.2.2) := by
  show tw_mix (tw_wW cI cQ a na pa ta qa xa z W) (((((((((((List.range 8).map (fun i => i + 8)).map (fun i => i + 8)).map (fun i => i + 8)).map (fun i => i + 8)).map (fun i => i + 2)).map (fun i => i + 3)).map (fun i => i + 8)).map (fun i => i + 3)).map (fun i => i + 8)).map (fun i => i + 3)) (tw_wS cI (z 4) V) = _
  unfold tw_wW tw_wZ
  rw [tw_mix_skip (n := 3) _ _ _ rfl, tw_mix_skip (n := 8) _ _ _ rfl, tw_mix_skip (n := 3) _ _ _ rfl, tw_mix_skip (n := 8) _ _ _ rfl, tw_mix_skip (n := 3) _ _ _ rfl, tw_mix_skip (n := 2) _ _ _ rfl, tw_mix_skip (n := 8) _ _ _ rfl, tw_mix_skip (n := 8) _ _ _ rfl, tw_mix_skip (n := 8) _ _ _ rfl, tw_mix_skip (n := 8) _ _ _ rfl]
  rw [tw_mix_hit (n := 8) _ rfl rfl]
  rfl
theorem tw_sZ5_M {V : tw_St} : tw_mix (tw_wW cI cQ a na pa ta qa xa z W) [67, 68, 69, 70, 71, 72, 73, 74] (tw_wS cI (z 5) V) = tw_wW cI cQ a na pa ta qa xa z (W.1, W.2.1, W.2.2.1, W.2.2.2.1, W.2.2.2.2.1, W.2.2.2.2.2.1, W.2.2.2.2.2.2.1, va_up W.2.2.2.2.2.2.2.1 5 V, W.2.2.2.2.2.2.2.2) := by
  show tw_mix (tw_wW cI cQ a na pa ta qa xa z W) ((((((((((((List.range 8).map (fun i => i + 8)).map (fun i => i + 8)).map (fun i => i + 8)).map (fun i => i + 8)).map (fun i => i + 8)).map (fun i => i + 2)).map (fun i => i + 3)).map (fun i => i + 8)).map (fun i => i + 3)).map (fun i => i + 8)).map (fun i => i + 3)) (tw_wS cI (z 5) V) = _
  unfold tw_wW tw_wZ
  rw [tw_mix_skip (n := 3) _ _ _ rfl, tw_mix_skip (n := 8) _ _ _ rfl, tw_mix_skip (n := 3) _ _ _ rfl, tw_mix_skip (n := 8) _ _ _ rfl, tw_mix_skip (n := 3) _ _ _ rfl, tw_mix_skip (n := 2) _ _ _ rfl, tw_mix_skip (n := 8) _ _ _ rfl, tw_mix_skip (n := 8) _ _ _ rfl, tw_mix_skip (n := 8) _ _ _ rfl, tw_mix_skip (n := 8) _ _ _ rfl, tw_mix_skip (n := 8) _ _ _ rfl]
  rw [show tw_mix (tw_wS cI (z 5) (W.2.2.2.2.2.2.2.1 5)) (List.range 8) (tw_wS cI (z 5) V) = tw_wS cI (z 5) V from rfl]
  rfl
theorem tw_sZ_M {j : Nat} (hj : j < 6) {V : tw_St} : tw_mix (tw_wW cI cQ a na pa ta qa xa z W) [27 + 8 * j, 28 + 8 * j, 29 + 8 * j, 30 + 8 * j, 31 + 8 * j, 32 + 8 * j, 33 + 8 * j, 34 + 8 * j] (tw_wS cI (z j) V) = tw_wW cI cQ a na pa ta qa xa z (W.1, W.2.1, W.2.2.1, W.2.2.2.1, W.2.2.2.2.1, W.2.2.2.2.2.1, W.2.2.2.2.2.2.1, va_up W.2.2.2.2.2.2.2.1 j V, W.2.2.2.2.2.2.2.2) := tw_6 (P := fun j => tw_mix (tw_wW cI cQ a na pa ta qa xa z W) [27 + 8 * j, 28 + 8 * j, 29 + 8 * j, 30 + 8 * j, 31 + 8 * j, 32 + 8 * j, 33 + 8 * j, 34 + 8 * j] (tw_wS cI (z j) V) = tw_wW cI cQ a na pa ta qa xa z (W.1, W.2.1, W.2.2.1, W.2.2.2.1, W.2.2.2.2.1, W.2.2.2.2.2.1, W.2.2.2.2.2.2.1, va_up W.2.2.2.2.2.2.2.1 j V, W.2.2.2.2.2.2.2.2)) tw_sZ0_M tw_sZ1_M tw_sZ2_M tw_sZ3_M tw_sZ4_M tw_sZ5_M hj
theorem tw_z1_M {j : Nat} (hj : j < 6) {V : tw_St} : tw_mix (tw_wW cI cQ a na pa ta qa xa z W) (tw_z1_is j) (tw_wS cI (z j) V ++ tw_wS cI na W.1) = tw_wW cI cQ a na pa ta qa xa z (W.1, W.2.1, W.2.2.1, W.2.2.2.1, W.2.2.2.2.1, W.2.2.2.2.2.1, W.2.2.2.2.2.2.1, va_up W.2.2.2.2.2.2.2.1 j V, W.2.2.2.2.2.2.2.2) := by
  show tw_mix (tw_wW cI cQ a na pa ta qa xa z W) ([27 + 8 * j, 28 + 8 * j, 29 + 8 * j, 30 + 8 * j, 31 + 8 * j, 32 + 8 * j, 33 + 8 * j, 34 + 8 * j] ++ [3, 4, 5, 6, 7, 8, 9, 10]) (tw_wS cI (z j) V ++ tw_wS cI na W.1) = _
  rw [tw_mix_app [27 + 8 * j, 28 + 8 * j, 29 + 8 * j, 30 + 8 * j, 31 + 8 * j, 32 + 8 * j, 33 + 8 * j, 34 + 8 * j] _ _ _ _ rfl, tw_sZ_M hj, tw_sN_M]
theorem tw_z2_M {j : Nat} (hj : j < 6) {V : tw_St} : tw_mix (tw_wW cI cQ a na pa ta qa xa z W) (tw_z2_is j) (tw_wS cI na V ++ tw_wS cI (z j) (W.2.2.2.2.2.2.2.1 j)) = tw_wW cI cQ a na pa ta qa xa z (V, W.2.1, W.2.2.1, W.2.2.2.1, W.2.2.2.2.1, W.2.2.2.2.2.1, W.2.2.2.2.2.2.1, W.2.2.2.2.2.2.2.1, W.2.2.2.2.2.2.2.2) := by
  have e : va_up W.2.2.2.2.2.2.2.1 j (W.2.2.2.2.2.2.2.1 j) = W.2.2.2.2.2.2.2.1 := by
    funext i
    unfold va_up
    by_cases h : i = j
    · rw [if_pos h, h]
    · rw [if_neg h]
  show tw_mix (tw_wW cI cQ a na pa ta qa xa z W) ([3, 4, 5, 6, 7, 8, 9, 10] ++ [27 + 8 * j, 28 + 8 * j, 29 + 8 * j, 30 + 8 * j, 31 + 8 * j, 32 + 8 * j, 33 + 8 * j, 34 + 8 * j]) (tw_wS cI na V ++ tw_wS cI (z j) (W.2.2.2.2.2.2.2.1 j)) = _
  rw [tw_mix_app [3, 4, 5, 6, 7, 8, 9, 10] _ _ _ _ rfl, tw_sN_M]
  have h := tw_sZ_M (cI := cI) (cQ := cQ) (a := a) (na := na) (pa := pa) (ta := ta) (qa := qa) (xa := xa) (z := z) (W := (V, W.2.1, W.2.2.1, W.2.2.2.1, W.2.2.2.2.1, W.2.2.2.2.2.1, W.2.2.2.2.2.2.1, W.2.2.2.2.2.2.2.1, W.2.2.2.2.2.2.2.2)) hj (V := W.2.2.2.2.2.2.2.1 j)
  dsimp only at h
  rw [e] at h
  exact h
theorem tw_cN_C : ([3, 4, 5, 6, 7, 8, 9, 10] : List Nat).map (fun i => (tw_wW cI cQ a na pa ta qa xa z W)[i]?) = (tw_wS cI na W.1).map some := rfl
theorem tw_cN_nd : va_nd [3, 4, 5, 6, 7, 8, 9, 10] = true := by decide
theorem tw_cN_M {VN : tw_St} : tw_mix (tw_wW cI cQ a na pa ta qa xa z W) [3, 4, 5, 6, 7, 8, 9, 10] (tw_wS cI na VN) = tw_wW cI cQ a na pa ta qa xa z (VN, W.2.1, W.2.2.1, W.2.2.2.1, W.2.2.2.2.1, W.2.2.2.2.2.1, W.2.2.2.2.2.2.1, W.2.2.2.2.2.2.2.1, W.2.2.2.2.2.2.2.2) := tw_sN_M
theorem tw_cX_C : ([25, 26] : List Nat).map (fun i => (tw_wW cI cQ a na pa ta qa xa z W)[i]?) = (tw_wT cI xa W.2.2.2.2.1).map some := rfl
theorem tw_cX_nd : va_nd [25, 26] = true := by decide
theorem tw_cX_M {VX : tw_Tx} : tw_mix (tw_wW cI cQ a na pa ta qa xa z W) [25, 26] (tw_wT cI xa VX) = tw_wW cI cQ a na pa ta qa xa z (W.1, W.2.1, W.2.2.1, W.2.2.2.1, VX, W.2.2.2.2.2.1, W.2.2.2.2.2.2.1, W.2.2.2.2.2.2.2.1, W.2.2.2.2.2.2.2.2) := tw_sX_M
theorem tw_cPN_C : ([11, 12, 13, 3, 4, 5, 6, 7, 8, 9, 10] : List Nat).map (fun i => (tw_wW cI cQ a na pa ta qa xa z W)[i]?) = (tw_wP cI pa W.2.1 ++ tw_wS cI na W.1).map some := rfl
theorem tw_cPN_nd : va_nd [11, 12, 13, 3, 4, 5, 6, 7, 8, 9, 10] = true := by decide
theorem tw_cPN_M {VP : tw_Pl} {VN : tw_St} : tw_mix (tw_wW cI cQ a na pa ta qa xa z W) [11, 12, 13, 3, 4, 5, 6, 7, 8, 9, 10] (tw_wP cI pa VP ++ tw_wS cI na VN) = tw_wW cI cQ a na pa ta qa xa z (VN, VP, W.2.2.1, W.2.2.2.1, W.2.2.2.2.1, W.2.2.2.2.2.1, W.2.2.2.2.2.2.1, W.2.2.2.2.2.2.2.1, W.2.2.2.2.2.2.2.2) := by
  show tw_mix (tw_wW cI cQ a na pa ta qa xa z W) ([11, 12, 13] ++ [3, 4, 5, 6, 7, 8, 9, 10]) (tw_wP cI pa VP ++ tw_wS cI na VN) = _
  rw [tw_mix_app [11, 12, 13] _ _ _ _ rfl, tw_sP_M, tw_sN_M]
theorem tw_cQT_C : ([22, 23, 24, 14, 15, 16, 17, 18, 19, 20, 21] : List Nat).map (fun i => (tw_wW cI cQ a na pa ta qa xa z W)[i]?) = (tw_wP cI qa W.2.2.2.1 ++ tw_wS cI ta W.2.2.1).map some := rfl
theorem tw_cQT_nd : va_nd [22, 23, 24, 14, 15, 16, 17, 18, 19, 20, 21] = true := by decide
theorem tw_cQT_M {VQ : tw_Pl} {VT : tw_St} : tw_mix (tw_wW cI cQ a na pa ta qa xa z W) [22, 23, 24, 14, 15, 16, 17, 18, 19, 20, 21] (tw_wP cI qa VQ ++ tw_wS cI ta VT) = tw_wW cI cQ a na pa ta qa xa z (W.1, W.2.1, VT, VQ, W.2.2.2.2.1, W.2.2.2.2.2.1, W.2.2.2.2.2.2.1, W.2.2.2.2.2.2.2.1, W.2.2.2.2.2.2.2.2) := by
  show tw_mix (tw_wW cI cQ a na pa ta qa xa z W) ([22, 23, 24] ++ [14, 15, 16, 17, 18, 19, 20, 21]) (tw_wP cI qa VQ ++ tw_wS cI ta VT) = _
  rw [tw_mix_app [22, 23, 24] _ _ _ _ rfl, tw_sQ_M, tw_sT_M]
theorem tw_cTN_C : ([14, 15, 16, 17, 18, 19, 20, 21, 3, 4, 5, 6, 7, 8, 9, 10] : List Nat).map (fun i => (tw_wW cI cQ a na pa ta qa xa z W)[i]?) = (tw_wS cI ta W.2.2.1 ++ tw_wS cI na W.1).map some := rfl
theorem tw_cTN_nd : va_nd [14, 15, 16, 17, 18, 19, 20, 21, 3, 4, 5, 6, 7, 8, 9, 10] = true := by decide
theorem tw_cTN_M {VT : tw_St} {VN : tw_St} : tw_mix (tw_wW cI cQ a na pa ta qa xa z W) [14, 15, 16, 17, 18, 19, 20, 21, 3, 4, 5, 6, 7, 8, 9, 10] (tw_wS cI ta VT ++ tw_wS cI na VN) = tw_wW cI cQ a na pa ta qa xa z (VN, W.2.1, VT, W.2.2.2.1, W.2.2.2.2.1, W.2.2.2.2.2.1, W.2.2.2.2.2.2.1, W.2.2.2.2.2.2.2.1, W.2.2.2.2.2.2.2.2) := by
  show tw_mix (tw_wW cI cQ a na pa ta qa xa z W) ([14, 15, 16, 17, 18, 19, 20, 21] ++ [3, 4, 5, 6, 7, 8, 9, 10]) (tw_wS cI ta VT ++ tw_wS cI na VN) = _
  rw [tw_mix_app [14, 15, 16, 17, 18, 19, 20, 21] _ _ _ _ rfl, tw_sT_M, tw_sN_M]
theorem tw_cXT_C : ([25, 26, 14, 15, 16, 17, 18, 19, 20, 21] : List Nat).map (fun i => (tw_wW cI cQ a na pa ta qa xa z W)[i]?) = (tw_wT cI xa W.2.2.2.2.1 ++ tw_wS cI ta W.2.2.1).map some := rfl
theorem tw_cXT_nd : va_nd [25, 26, 14, 15, 16, 17, 18, 19, 20, 21] = true := by decide
theorem tw_cXT_M {VX : tw_Tx} {VT : tw_St} : tw_mix (tw_wW cI cQ a na pa ta qa xa z W) [25, 26, 14, 15, 16, 17, 18, 19, 20, 21] (tw_wT cI xa VX ++ tw_wS cI ta VT) = tw_wW cI cQ a na pa ta qa xa z (W.1, W.2.1, VT, W.2.2.2.1, VX, W.2.2.2.2.2.1, W.2.2.2.2.2.2.1, W.2.2.2.2.2.2.2.1, W.2.2.2.2.2.2.2.2) := by
  show tw_mix (tw_wW cI cQ a na pa ta qa xa z W) ([25, 26] ++ [14, 15, 16, 17, 18, 19, 20, 21]) (tw_wT cI xa VX ++ tw_wS cI ta VT) = _
  rw [tw_mix_app [25, 26] _ _ _ _ rfl, tw_sX_M, tw_sT_M]
theorem tw_cNT_C : ([3, 4, 5, 6, 7, 8, 9, 10, 14, 15, 16, 17, 18, 19, 20, 21] : List Nat).map (fun i => (tw_wW cI cQ a na pa ta qa xa z W)[i]?) = (tw_wS cI na W.1 ++ tw_wS cI ta W.2.2.1).map some := rfl
theorem tw_cNT_nd : va_nd [3, 4, 5, 6, 7, 8, 9, 10, 14, 15, 16, 17, 18, 19, 20, 21] = true := by decide
theorem tw_cNT_M {VN : tw_St} {VT : tw_St} : tw_mix (tw_wW cI cQ a na pa ta qa xa z W) [3, 4, 5, 6, 7, 8, 9, 10, 14, 15, 16, 17, 18, 19, 20, 21] (tw_wS cI na VN ++ tw_wS cI ta VT) = tw_wW cI cQ a na pa ta qa xa z (VN, W.2.1, VT, W.2.2.2.1, W.2.2.2.2.1, W.2.2.2.2.2.1, W.2.2.2.2.2.2.1, W.2.2.2.2.2.2.2.1, W.2.2.2.2.2.2.2.2) := by
  show tw_mix (tw_wW cI cQ a na pa ta qa xa z W) ([3, 4, 5, 6, 7, 8, 9, 10] ++ [14, 15, 16, 17, 18, 19, 20, 21]) (tw_wS cI na VN ++ tw_wS cI ta VT) = _
  rw [tw_mix_app [3, 4, 5, 6, 7, 8, 9, 10] _ _ _ _ rfl, tw_sN_M, tw_sT_M]
end
