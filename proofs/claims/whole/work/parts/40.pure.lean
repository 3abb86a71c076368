/-! numbers of the lifted methods: zi a is the int of a -/
def zi (a : Int) : Int32 := Int32.ofInt a
theorem zi_add (a b : Int) : zi a + zi b = zi (a + b) := (Int32.ofInt_add a b).symm
theorem zi_sub (a b : Int) : zi a - zi b = zi (a - b) := (Int32.ofInt_sub a b).symm
theorem zi_mul (a b : Int) : zi a * zi b = zi (a * b) := (Int32.ofInt_mul a b).symm
theorem zi_toInt {a : Int} (h1 : -2147483648 ≤ a) (h2 : a < 2147483648) : (zi a).toInt = a := Int32.toInt_ofInt_of_le h1 h2
theorem zi_lt {a b : Int} (h1 : -2147483648 ≤ a) (h2 : a < 2147483648) (h3 : -2147483648 ≤ b) (h4 : b < 2147483648) : zi a < zi b ↔ a < b := by
  rw [Int32.lt_iff_toInt_lt, zi_toInt h1 h2, zi_toInt h3 h4]
theorem zi_le {a b : Int} (h1 : -2147483648 ≤ a) (h2 : a < 2147483648) (h3 : -2147483648 ≤ b) (h4 : b < 2147483648) : zi a ≤ zi b ↔ a ≤ b := by
  rw [Int32.le_iff_toInt_le, zi_toInt h1 h2, zi_toInt h3 h4]
theorem zi_eq {a b : Int} (h1 : -2147483648 ≤ a) (h2 : a < 2147483648) (h3 : -2147483648 ≤ b) (h4 : b < 2147483648) : zi a = zi b ↔ a = b := by
  constructor
  · intro h
    have := congrArg Int32.toInt h
    rwa [zi_toInt h1 h2, zi_toInt h3 h4] at this
  · intro h; rw [h]
theorem zif_lt {α : Type} {a b : Int} (h1 : -2147483648 ≤ a) (h2 : a < 2147483648) (h3 : -2147483648 ≤ b) (h4 : b < 2147483648) {x y : α} : (if zi a < zi b then x else y) = if a < b then x else y := by
  by_cases h : a < b
  · rw [if_pos h, if_pos ((zi_lt h1 h2 h3 h4).mpr h)]
  · rw [if_neg h, if_neg (fun q => h ((zi_lt h1 h2 h3 h4).mp q))]
theorem zif_le {α : Type} {a b : Int} (h1 : -2147483648 ≤ a) (h2 : a < 2147483648) (h3 : -2147483648 ≤ b) (h4 : b < 2147483648) {x y : α} : (if zi a ≤ zi b then x else y) = if a ≤ b then x else y := by
  by_cases h : a ≤ b
  · rw [if_pos h, if_pos ((zi_le h1 h2 h3 h4).mpr h)]
  · rw [if_neg h, if_neg (fun q => h ((zi_le h1 h2 h3 h4).mp q))]
theorem zif_eq {α : Type} {a b : Int} (h1 : -2147483648 ≤ a) (h2 : a < 2147483648) (h3 : -2147483648 ≤ b) (h4 : b < 2147483648) {x y : α} : (if zi a = zi b then x else y) = if a = b then x else y := by
  by_cases h : a = b
  · rw [if_pos h, if_pos ((zi_eq h1 h2 h3 h4).mpr h)]
  · rw [if_neg h, if_neg (fun q => h ((zi_eq h1 h2 h3 h4).mp q))]
theorem zif_ne {α : Type} {a b : Int} (h1 : -2147483648 ≤ a) (h2 : a < 2147483648) (h3 : -2147483648 ≤ b) (h4 : b < 2147483648) {x y : α} : (if ¬ zi a = zi b then x else y) = if a = b then y else x := by
  by_cases h : a = b
  · rw [if_pos h, if_neg (fun q => q ((zi_eq h1 h2 h3 h4).mpr h))]
  · rw [if_neg h, if_pos (fun q => h ((zi_eq h1 h2 h3 h4).mp q))]
theorem zi_ofInt (x : Int32) : zi x.toInt = x := Int32.ofInt_toInt x
theorem zi_lit (n : Nat) : (OfNat.ofNat n : Int32) = zi (OfNat.ofNat n) := rfl
theorem zi_neg (a : Int) : - zi a = zi (-a) := (Int32.ofInt_neg a).symm
theorem zi_T {a : Int} (h1 : 0 ≤ a) (h2 : a < 2147483648) : (zi a).toNatClampNeg = a.toNat := by
  show (zi a).toInt.toNat = _
  rw [zi_toInt (by omega) h2]
theorem zi_Tn {k : Nat} (h : k < 2147483648) : (zi (k : Int)).toNatClampNeg = k := by rw [zi_T (by omega) (by omega)]; omega
theorem zi_g {α : Type} {a : Int} {n : Nat} {x : Option α} (h1 : 0 ≤ a) (h2 : a < n) (h3 : n < 1000) : tw_g (zi a) n x = x := by
  unfold tw_g
  rw [if_neg]
  rw [zi_T h1 (by omega)]
  intro h
  rcases h with h | h
  · have h0 : (0 : Int32) = zi 0 := rfl
    rw [h0, zi_lt (by omega) (by omega) (by omega) (by omega)] at h
    omega
  · omega
theorem zi_q {α : Type} {c : Prop} [Decidable c] {x : Option α} (h : c) : tw_q c x = x := if_pos h
theorem zi_bt (b : Bool) : (if b = true then (1 : Int32) else 0) = 0 ↔ b = false := by cases b <;> decide
theorem zi_nI (n : Nat) : zi (n : Int) = nI n := Int32.ofInt_eq_ofNat
/-! ===== Int32 by its bits: bt x i ===== -/
def bt (x : Int32) (i : Nat) : Bool := x.toBitVec.getLsbD i
theorem b_ext {x y : Int32} (h : ∀ i, i < 32 → bt x i = bt y i) : x = y := Int32.toBitVec_inj.mp (BitVec.eq_of_getLsbD_eq (fun i hi => h i hi))
theorem b_or (x y : Int32) (i : Nat) : bt (x ||| y) i = (bt x i || bt y i) := by unfold bt; rw [Int32.toBitVec_or, BitVec.getLsbD_or]
theorem b_and (x y : Int32) (i : Nat) : bt (x &&& y) i = (bt x i && bt y i) := by unfold bt; rw [Int32.toBitVec_and, BitVec.getLsbD_and]
theorem b_xor (x y : Int32) (i : Nat) : bt (x ^^^ y) i = (bt x i ^^ bt y i) := by unfold bt; rw [Int32.toBitVec_xor, BitVec.getLsbD_xor]
theorem b_big {x : Int32} {i : Nat} (h : 32 ≤ i) : bt x i = false := BitVec.getLsbD_of_ge _ _ h
theorem b_255 (i : Nat) : bt 255 i = decide (i < 8) := by
  rcases Nat.lt_or_ge i 32 with h | h
  · exact (by decide +kernel : ∀ i, i < 32 → bt 255 i = decide (i < 8)) i h
  · rw [b_big h, decide_eq_false (by omega)]
theorem b_65535 (i : Nat) : bt 65535 i = decide (i < 16) := by
  rcases Nat.lt_or_ge i 32 with h | h
  · exact (by decide +kernel : ∀ i, i < 32 → bt 65535 i = decide (i < 16)) i h
  · rw [b_big h, decide_eq_false (by omega)]
theorem b_m1 : ∀ i, i < 32 → bt (-1) i = true := by decide +kernel
theorem b_0 (i : Nat) : bt 0 i = false := BitVec.getLsbD_zero
theorem s_l : ∀ n, n < 32 → ((nI n &&& 31).toBitVec.smod 32).toNat = n := by decide +kernel
theorem s_u : ∀ n, n < 32 → (((nI n).toUInt32 &&& Int32.toUInt32 31).toBitVec % 32).toNat = n := by decide +kernel
theorem b_shl (n : Nat) (hn : n < 32) (x : Int32) {i : Nat} (hi : i < 32) : bt (x <<< (nI n &&& 31)) i = (decide (n ≤ i) && bt x (i - n)) := by
  unfold bt
  rw [Int32.toBitVec_shiftLeft]
  show (x.toBitVec <<< ((nI n &&& 31).toBitVec.smod 32).toNat).getLsbD i = _
  rw [s_l n hn, BitVec.getLsbD_shiftLeft]
  rcases Nat.lt_or_ge i n with h | h
  · simp [h, Nat.not_le.mpr h]
  · simp [hi, h, Nat.not_lt.mpr h]
theorem b_ushr (n : Nat) (hn : n < 32) (x : Int32) (i : Nat) : bt ((x.toUInt32 >>> ((nI n).toUInt32 &&& Int32.toUInt32 31)).toInt32) i = bt x (n + i) := by
  show (x.toUInt32 >>> ((nI n).toUInt32 &&& Int32.toUInt32 31)).toBitVec.getLsbD i = x.toUInt32.toBitVec.getLsbD (n + i)
  rw [UInt32.toBitVec_shiftRight]
  show (x.toUInt32.toBitVec >>> (((nI n).toUInt32 &&& Int32.toUInt32 31).toBitVec % 32).toNat).getLsbD i = _
  rw [s_u n hn, BitVec.getLsbD_ushiftRight]
theorem b_sshr (n : Nat) (hn : n < 32) (x : Int32) {i : Nat} (hi : i < 32) : bt (x >>> (nI n &&& 31)) i = if n + i < 32 then bt x (n + i) else bt x 31 := by
  unfold bt
  rw [Int32.toBitVec_shiftRight]
  show (x.toBitVec.sshiftRight ((nI n &&& 31).toBitVec.smod 32).toNat).getLsbD i = _
  rw [s_l n hn, BitVec.getLsbD_sshiftRight, BitVec.msb_eq_getLsbD_last]
  simp [hi]
/-! one bit of a mask -/
theorem tb_1 : ∀ k, k < 32 → ∀ i, i < 32 → bt ((1 : Int32) <<< (nI k &&& 31)) i = decide (i = k) := by decide +kernel
theorem tb_test {m : Int32} {k : Nat} (hk : k < 32) : m &&& ((1 : Int32) <<< (zi (k : Int) &&& 31)) = 0 ↔ bt m k = false := by
  rw [zi_nI]
  constructor
  · intro h
    have h1 := congrArg (fun x => bt x k) h
    simp only [b_and, tb_1 k hk k hk, b_0, decide_true, Bool.and_true] at h1
    exact h1
  · intro h
    apply b_ext
    intro i hi
    rw [b_and, tb_1 k hk i hi, b_0]
    by_cases hik : i = k
    · subst hik; rw [h]; rfl
    · simp [hik]
theorem tb_or {m : Int32} {k : Nat} (hk : k < 32) {i : Nat} (hi : i < 32) : bt (m ||| ((1 : Int32) <<< (zi (k : Int) &&& 31))) i = (bt m i || decide (i = k)) := by
  rw [zi_nI, b_or, tb_1 k hk i hi]
theorem tb_clr {m : Int32} {k : Nat} (hk : k < 32) {i : Nat} (hi : i < 32) : bt (m &&& (((1 : Int32) <<< (zi (k : Int) &&& 31)) ^^^ (-1 : Int32))) i = (bt m i && !decide (i = k)) := by
  rw [zi_nI, b_and, b_xor, tb_1 k hk i hi, b_m1 i hi, Bool.xor_true]
theorem tb_shr {m : Int32} {k : Nat} (hk : k < 32) : (m >>> (zi (k : Int) &&& 31)) &&& (1 : Int32) = if bt m k = true then 1 else 0 := by
  have h1 : ∀ i, i < 32 → bt (1 : Int32) i = decide (i = 0) := by decide +kernel
  rw [zi_nI]
  apply b_ext
  intro i hi
  rw [b_and, b_sshr k hk m hi, h1 i hi]
  by_cases h0 : i = 0
  · subst h0
    rw [if_pos (by omega)]
    simp only [Nat.add_zero, decide_true, Bool.and_true]
    cases h : bt m k
    · rw [if_neg (by decide), b_0]
    · rw [if_pos rfl, h1 0 hi]; rfl
  · simp only [h0, decide_false, Bool.and_false]
    cases h : bt m k
    · rw [if_neg (by decide), b_0]
    · rw [if_pos rfl, h1 i hi]; simp [h0]
theorem tb_sub {m l : Int32} : m &&& (l ^^^ (-1 : Int32)) = 0 ↔ ∀ i, i < 32 → bt m i = true → bt l i = true := by
  constructor
  · intro h i hi hm
    have h1 := congrArg (fun x => bt x i) h
    simp only [b_and, b_xor, b_m1 i hi, b_0, hm, Bool.true_and, Bool.xor_true] at h1
    simpa using h1
  · intro h
    apply b_ext
    intro i hi
    rw [b_and, b_xor, b_m1 i hi, b_0]
    cases hm : bt m i
    · rfl
    · rw [h i hi hm]; rfl
/-! loops -/
theorem ldn {ρ : Type} (F : Nat → Nat → Option ρ) (R : Nat → ρ) (n : Nat) (he : ∀ fuel, F (fuel + 1) n = some (R n)) (hs : ∀ fuel k, k < n → F fuel (k + 1) = some (R (k + 1)) → F (fuel + 1) k = some (R k)) : ∀ (k fuel : Nat), k ≤ n → n - k < fuel → F fuel k = some (R k) := by
  intro k fuel hk hf
  obtain ⟨d, hd⟩ : ∃ d, d = n - k := ⟨_, rfl⟩
  induction d generalizing k fuel with
  | zero =>
    have : k = n := by omega
    subst this
    obtain ⟨f, rfl⟩ : ∃ f, fuel = f + 1 := ⟨fuel - 1, by omega⟩
    exact he f
  | succ d ih =>
    obtain ⟨f, rfl⟩ : ∃ f, fuel = f + 1 := ⟨fuel - 1, by omega⟩
    exact hs f k (by omega) (ih (k + 1) f (by omega) (by omega) (by omega))
theorem lup {ρ : Type} (F : Nat → Nat → Option ρ) (r : ρ) (n : Nat) (he : ∀ fuel, F (fuel + 1) n = some r) (hs : ∀ fuel k, k < n → F (fuel + 1) k = F fuel (k + 1)) (fuel : Nat) (hf : n < fuel) : F fuel 0 = some r :=
  ldn F (fun _ => r) n he (fun f k hk h => by rw [hs f k hk, h]) 0 fuel (Nat.zero_le n) (by omega)
def sp_sum (f : Nat → Int) : Nat → Int
  | 0 => 0
  | n + 1 => sp_sum f n + f n
def sp_all (p : Nat → Bool) : Nat → Bool
  | 0 => true
  | n + 1 => sp_all p n && p n
theorem sp_all_iff {p : Nat → Bool} : ∀ {n : Nat}, sp_all p n = true ↔ ∀ k, k < n → p k = true
  | 0 => ⟨fun _ k hk => absurd hk (Nat.not_lt_zero k), fun _ => rfl⟩
  | n + 1 => by
    rw [sp_all, Bool.and_eq_true, sp_all_iff]
    constructor
    · intro h k hk
      rcases Nat.lt_or_ge k n with h1 | h1
      · exact h.1 k h1
      · have : k = n := by omega
        rw [this]; exact h.2
    · intro h
      exact ⟨fun k hk => h k (by omega), h n (by omega)⟩
theorem sp_sum_cong {f g : Nat → Int} : ∀ {n : Nat}, (∀ k, k < n → f k = g k) → sp_sum f n = sp_sum g n
  | 0, _ => rfl
  | n + 1, h => by rw [sp_sum, sp_sum, sp_sum_cong (fun k hk => h k (by omega)), h n (by omega)]
theorem sp_sum_le {f : Nat → Int} {c : Int} : ∀ {n : Nat}, (∀ k, k < n → 0 ≤ f k ∧ f k ≤ c) → 0 ≤ sp_sum f n ∧ sp_sum f n ≤ n * c
  | 0, _ => by simp [sp_sum]
  | n + 1, h => by
    have h1 := sp_sum_le (n := n) (fun k hk => h k (by omega))
    have h2 := h n (by omega)
    rw [sp_sum]
    constructor
    · omega
    · have : ((n + 1 : Nat) : Int) * c = n * c + c := by rw [Int.natCast_add, Int.add_mul]; simp
      omega
