/-! numbers of the lifted methods: zi a is the int of a -/
def zi (a : Int) : Int32 := Int32.ofInt a
theorem zi_add (a b : Int) : zi a + zi b = zi (a + b) := (Int32.ofInt_add a b).symm
theorem zi_sub (a b : Int) : zi a - zi b = zi (a - b) := (Int32.ofInt_sub a b).symm
theorem zi_mul (a b : Int) : zi a * zi b = zi (a * b) := (Int32.ofInt_mul a b).symm
theorem zi_toInt {a : Int} (h1 : -2147483648 ≤ a) (h2 : a < 2147483648) : (zi a).toInt = a := Int32.toInt_ofInt_of_le h1 h2
theorem zi_lt {a b : Int} (h1 : -2147483648 ≤ a) (h2 : a < 2147483648) (h3 : -2147483648 ≤ b) (h4 : b < 2147483648) : zi a < zi b ↔ a < b := by
  rw [Int32.lt_iff_toInt_lt, zi_toInt h1 h2, zi_toInt h3 h4]
theorem zi_le {a b : Int} (h1 : -2147483648 ≤ a) (h2 : a < 2147483648) (h3 : -2147483648 ≤ b) (h4 : b < 2147483648) : zi a ≤ zi b ↔ a ≤ b := by
  rw [Int32.le_iff_toInt_le, zi_toInt h1 h2, zi_toInt h3 h4]
theorem zi_eq {a b : Int} (h1 : -2147483648 ≤ a) (h2 : a < 2147483648) (h3 : -2147483648 ≤ b) (h4 : b < 2147483648) : zi a = zi b ↔ a = b := by
  constructor
  · intro h
    have := congrArg Int32.toInt h
    rwa [zi_toInt h1 h2, zi_toInt h3 h4] at this
  · intro h; rw [h]
theorem zif_lt {α : Type} {a b : Int} (h1 : -2147483648 ≤ a) (h2 : a < 2147483648) (h3 : -2147483648 ≤ b) (h4 : b < 2147483648) {x y : α} : (if zi a < zi b then x else y) = if a < b then x else y := by
  by_cases h : a < b
  · rw [if_pos h, if_pos ((zi_lt h1 h2 h3 h4).mpr h)]
  · rw [if_neg h, if_neg (fun q => h ((zi_lt h1 h2 h3 h4).mp q))]
theorem zif_le {α : Type} {a b : Int} (h1 : -2147483648 ≤ a) (h2 : a < 2147483648) (h3 : -2147483648 ≤ b) (h4 : b < 2147483648) {x y : α} : (if zi a ≤ zi b then x else y) = if a ≤ b then x else y := by
  by_cases h : a ≤ b
  · rw [if_pos h, if_pos ((zi_le h1 h2 h3 h4).mpr h)]
  · rw [if_neg h, if_neg (fun q => h ((zi_le h1 h2 h3 h4).mp q))]
theorem zif_eq {α : Type} {a b : Int} (h1 : -2147483648 ≤ a) (h2 : a < 2147483648) (h3 : -2147483648 ≤ b) (h4 : b < 2147483648) {x y : α} : (if zi a = zi b then x else y) = if a = b then x else y := by
  by_cases h : a = b
  · rw [if_pos h, if_pos ((zi_eq h1 h2 h3 h4).mpr h)]
  · rw [if_neg h, if_neg (fun q => h ((zi_eq h1 h2 h3 h4).mp q))]
theorem zif_ne {α : Type} {a b : Int} (h1 : -2147483648 ≤ a) (h2 : a < 2147483648) (h3 : -2147483648 ≤ b) (h4 : b < 2147483648) {x y : α} : (if ¬ zi a = zi b then x else y) = if a = b then y else x := by
  by_cases h : a = b
  · rw [if_pos h, if_neg (fun q => q ((zi_eq h1 h2 h3 h4).mpr h))]
  · rw [if_neg h, if_pos (fun q => h ((zi_eq h1 h2 h3 h4).mp q))]
theorem zi_ofInt (x : Int32) : zi x.toInt = x := Int32.ofInt_toInt x
theorem zi_lit (n : Nat) : (OfNat.ofNat n : Int32) = zi (OfNat.ofNat n) := rfl
theorem zi_neg (a : Int) : - zi a = zi (-a) := (Int32.ofInt_neg a).symm
theorem zi_T {a : Int} (h1 : 0 ≤ a) (h2 : a < 2147483648) : (zi a).toNatClampNeg = a.toNat := by
  show (zi a).toInt.toNat = _
  rw [zi_toInt (by omega) h2]
theorem zi_Tn {k : Nat} (h : k < 2147483648) : (zi (k : Int)).toNatClampNeg = k := by rw [zi_T (by omega) (by omega)]; omega
theorem zi_g {α : Type} {a : Int} {n : Nat} {x : Option α} (h1 : 0 ≤ a) (h2 : a < n) (h3 : n < 1000) : tw_g (zi a) n x = x := by
  unfold tw_g
  rw [if_neg]
  rw [zi_T h1 (by omega)]
  intro h
  rcases h with h | h
  · have h0 : (0 : Int32) = zi 0 := rfl
    rw [h0, zi_lt (by omega) (by omega) (by omega) (by omega)] at h
    omega
  · omega
theorem zi_q {α : Type} {c : Prop} [Decidable c] {x : Option α} (h : c) : tw_q c x = x := if_pos h
theorem zi_bt (b : Bool) : (if b = true then (1 : Int32) else 0) = 0 ↔ b = false := by cases b <;> decide
theorem zi_nI (n : Nat) : zi (n : Int) = nI n := Int32.ofInt_eq_ofNat
/-! ===== Int32 by its bits: bt x i ===== -/
def bt (x : Int32) (i : Nat) : Bool := x.toBitVec.getLsbD i
theorem b_ext {x y : Int32} (h : ∀ i, i < 32 → bt x i = bt y i) : x = y := Int32.toBitVec_inj.mp (BitVec.eq_of_getLsbD_eq (fun i hi => h i hi))
theorem b_or (x y : Int32) (i : Nat) : bt (x ||| y) i = (bt x i || bt y i) := by unfold bt; rw [Int32.toBitVec_or, BitVec.getLsbD_or]
theorem b_and (x y : Int32) (i : Nat) : bt (x &&& y) i = (bt x i && bt y i) := by unfold bt; rw [Int32.toBitVec_and, BitVec.getLsbD_and]
theorem b_xor (x y : Int32) (i : Nat) : bt (x ^^^ y) i = (bt x i ^^ bt y i) := by unfold bt; rw [Int32.toBitVec_xor, BitVec.getLsbD_xor]
theorem b_big {x : Int32} {i : Nat} (h : 32 ≤ i) : bt x i = false := BitVec.getLsbD_of_ge _ _ h
theorem b_255 (i : Nat) : bt 255 i = decide (i < 8) := by
  rcases Nat.lt_or_ge i 32 with h | h
  · exact (by decide +kernel : ∀ i, i < 32 → bt 255 i = decide (i < 8)) i h
  · rw [b_big h, decide_eq_false (by omega)]
theorem b_65535 (i : Nat) : bt 65535 i = decide (i < 16) := by
  rcases Nat.lt_or_ge i 32 with h | h
  · exact (by decide +kernel : ∀ i, i < 32 → bt 65535 i = decide (i < 16)) i h
  · rw [b_big h, decide_eq_false (by omega)]
theorem b_m1 : ∀ i, i < 32 → bt (-1) i = true := by decide +kernel
theorem b_0 (i : Nat) : bt 0 i = false := BitVec.getLsbD_zero
theorem s_l : ∀ n, n < 32 → ((nI n &&& 31).toBitVec.smod 32).toNat = n := by decide +kernel
theorem s_u : ∀ n, n < 32 → (((nI n).toUInt32 &&& Int32.toUInt32 31).toBitVec % 32).toNat = n := by decide +kernel
theorem b_shl (n : Nat) (hn : n < 32) (x : Int32) {i : Nat} (hi : i < 32) : bt (x <<< (nI n &&& 31)) i = (decide (n ≤ i) && bt x (i - n)) := by
  unfold bt
  rw [Int32.toBitVec_shiftLeft]
  show (x.toBitVec <<< ((nI n &&& 31).toBitVec.smod 32).toNat).getLsbD i = _
  rw [s_l n hn, BitVec.getLsbD_shiftLeft]
  rcases Nat.lt_or_ge i n with h | h
  · simp [h, Nat.not_le.mpr h]
  · simp [hi, h, Nat.not_lt.mpr h]
theorem b_ushr (n : Nat) (hn : n < 32) (x : Int32) (i : Nat) : bt ((x.toUInt32 >>> ((nI n).toUInt32 &&& Int32.toUInt32 31)).toInt32) i = bt x (n + i) := by
  show (x.toUInt32 >>> ((nI n).toUInt32 &&& Int32.toUInt32 31)).toBitVec.getLsbD i = x.toUInt32.toBitVec.getLsbD (n + i)
  rw [UInt32.toBitVec_shiftRight]
  show (x.toUInt32.toBitVec >>> (((nI n).toUInt32 &&& Int32.toUInt32 31).toBitVec % 32).toNat).getLsbD i = _
  rw [s_u n hn, BitVec.getLsbD_ushiftRight]
theorem b_sshr (n : Nat) (hn : n < 32) (x : Int32) {i : Nat} (hi : i < 32) : bt (x >>> (nI n &&& 31)) i = if n + i < 32 then bt x (n + i) else bt x 31 := by
  unfold bt
  rw [Int32.toBitVec_shiftRight]
  show (x.toBitVec.sshiftRight ((nI n &&& 31).toBitVec.smod 32).toNat).getLsbD i = _
  rw [s_l n hn, BitVec.getLsbD_sshiftRight, BitVec.msb_eq_getLsbD_last]
  simp [hi]
/-! one bit of a mask -/
theorem tb_1 : ∀ k, k < 32 → ∀ i, i < 32 → bt ((1 : Int32) <<< (nI k &&& 31)) i = decide (i = k) := by decide +kernel
theorem tb_test {m : Int32} {k : Nat} (hk : k < 32) : m &&& ((1 : Int32) <<< (zi (k : Int) &&& 31)) = 0 ↔ bt m k = false := by
  rw [zi_nI]
  constructor
  · intro h
    have h1 := congrArg (fun x => bt x k) h
    simp only [b_and, tb_1 k hk k hk, b_0, decide_true, Bool.and_true] at h1
    exact h1
  · intro h
    apply b_ext
    intro i hi
    rw [b_and, tb_1 k hk i hi, b_0]
    by_cases hik : i = k
    · subst hik; rw [h]; rfl
    · simp [hik]
theorem tb_or {m : Int32} {k : Nat} (hk : k < 32) {i : Nat} (hi : i < 32) : bt (m ||| ((1 : Int32) <<< (zi (k : Int) &&& 31))) i = (bt m i || decide (i = k)) := by
  rw [zi_nI, b_or, tb_1 k hk i hi]
theorem tb_clr {m : Int32} {k : Nat} (hk : k < 32) {i : Nat} (hi : i < 32) : bt (m &&& (((1 : Int32) <<< (zi (k : Int) &&& 31)) ^^^ (-1 : Int32))) i = (bt m i && !decide (i = k)) := by
  rw [zi_nI, b_and, b_xor, tb_1 k hk i hi, b_m1 i hi, Bool.xor_true]
theorem tb_shr {m : Int32} {k : Nat} (hk : k < 32) : (m >>> (zi (k : Int) &&& 31)) &&& (1 : Int32) = if bt m k = true then 1 else 0 := by
  have h1 : ∀ i, i < 32 → bt (1 : Int32) i = decide (i = 0) := by decide +kernel
  rw [zi_nI]
  apply b_ext
  intro i hi
  rw [b_and, b_sshr k hk m hi, h1 i hi]
  by_cases h0 : i = 0
  · subst h0
    rw [if_pos (by omega)]
    simp only [Nat.add_zero, decide_true, Bool.and_true]
    cases h : bt m k
    · rw [if_neg (by decide), b_0]
    · rw [if_pos rfl, h1 0 hi]; rfl
  · simp only [h0, decide_false, Bool.and_false]
    cases h : bt m k
    · rw [if_neg (by decide), b_0]
    · rw [if_pos rfl, h1 i hi]; simp [h0]
theorem tb_sub {m l : Int32} : m &&& (l ^^^ (-1 : Int32)) = 0 ↔ ∀ i, i < 32 → bt m i = true → bt l i = true := by
  constructor
  · intro h i hi hm
    have h1 := congrArg (fun x => bt x i) h
    simp only [b_and, b_xor, b_m1 i hi, b_0, hm, Bool.true_and, Bool.xor_true] at h1
    simpa using h1
  · intro h
    apply b_ext
    intro i hi
    rw [b_and, b_xor, b_m1 i hi, b_0]
    cases hm : bt m i
    · rfl
    · rw [h i hi hm]; rfl
/-! loops -/
theorem ldn {ρ : Type} (F : Nat → Nat → Option ρ) (R : Nat → ρ) (n : Nat) (he : ∀ fuel, F (fuel + 1) n = some (R n)) (hs : ∀ fuel k, k < n → F fuel (k + 1) = some (R (k + 1)) → F (fuel + 1) k = some (R k)) : ∀ (k fuel : Nat), k ≤ n → n - k < fuel → F fuel k = some (R k) := by
  intro k fuel hk hf
  obtain ⟨d, hd⟩ : ∃ d, d = n - k := ⟨_, rfl⟩
  induction d generalizing k fuel with
  | zero =>
    have : k = n := by omega
    subst this
    obtain ⟨f, rfl⟩ : ∃ f, fuel = f + 1 := ⟨fuel - 1, by omega⟩
    exact he f
  | succ d ih =>
    obtain ⟨f, rfl⟩ : ∃ f, fuel = f + 1 := ⟨fuel - 1, by omega⟩
    exact hs f k (by omega) (ih (k + 1) f (by omega) (by omega) (by omega))
theorem lup {ρ : Type} (F : Nat → Nat → Option ρ) (r : ρ) (n : Nat) (he : ∀ fuel, F (fuel + 1) n = some r) (hs : ∀ fuel k, k < n → F (fuel + 1) k = F fuel (k + 1)) (fuel : Nat) (hf : n < fuel) : F fuel 0 = some r :=
  ldn F (fun _ => r) n he (fun f k hk h => by rw [hs f k hk, h]) 0 fuel (Nat.zero_le n) (by omega)
def sp_sum (f : Nat → Int) : Nat → Int
  | 0 => 0
  | n + 1 => sp_sum f n + f n
def sp_all (p : Nat → Bool) : Nat → Bool
  | 0 => true
  | n + 1 => sp_all p n && p n
theorem sp_all_iff {p : Nat → Bool} : ∀ {n : Nat}, sp_all p n = true ↔ ∀ k, k < n → p k = true
  | 0 => ⟨fun _ k hk => absurd hk (Nat.not_lt_zero k), fun _ => rfl⟩
  | n + 1 => by
    rw [sp_all, Bool.and_eq_true, sp_all_iff]
    constructor
    · intro h k hk
      rcases Nat.lt_or_ge k n with h1 | h1
      · exact h.1 k h1
      · have : k = n := by omega
        rw [this]; exact h.2
    · intro h
      exact ⟨fun k hk => h k (by omega), h n (by omega)⟩
theorem sp_sum_cong {f g : Nat → Int} : ∀ {n : Nat}, (∀ k, k < n → f k = g k) → sp_sum f n = sp_sum g n
  | 0, _ => rfl
  | n + 1, h => by rw [sp_sum, sp_sum, sp_sum_cong (fun k hk => h k (by omega)), h n (by omega)]
theorem sp_sum_le {f : Nat → Int} {c : Int} : ∀ {n : Nat}, (∀ k, k < n → 0 ≤ f k ∧ f k ≤ c) → 0 ≤ sp_sum f n ∧ sp_sum f n ≤ n * c
  | 0, _ => by simp [sp_sum]
  | n + 1, h => by
    have h1 := sp_sum_le (n := n) (fun k hk => h k (by omega))
    have h2 := h n (by omega)
    rw [sp_sum]
    constructor
    · omega
    · have : ((n + 1 : Nat) : Int) * c = n * c + c := by rw [Int.natCast_add, Int.add_mul]; simp
      omega

/-! the wall as numbers: how many tasks, the rule, (0 length, 1 person, 2 hall, 3 earliest day of a task; 4 first, 5 last day of a hall), the masks of what tasks need -/
abbrev tw_V : Type := Nat × Int × (Nat → Nat → Int) × (Nat → Int32)
def sp_n (V : tw_V) : Nat := V.1
def sp_rule (V : tw_V) : Int := V.2.1
def sp_len (V : tw_V) (t : Nat) : Int := V.2.2.1 0 t
def sp_per (V : tw_V) (t : Nat) : Int := V.2.2.1 1 t
def sp_hal (V : tw_V) (t : Nat) : Int := V.2.2.1 2 t
def sp_ear (V : tw_V) (t : Nat) : Int := V.2.2.1 3 t
def sp_fst (V : tw_V) (h : Nat) : Int := V.2.2.1 4 h
def sp_lst (V : tw_V) (h : Nat) : Int := V.2.2.1 5 h
def sp_msk (V : tw_V) (t : Nat) : Int32 := V.2.2.2 t
def sp_bit (V : tw_V) (t o : Nat) : Bool := bt (sp_msk V t) o
def sp_okT (V : tw_V) (t : Nat) : Prop := 1 ≤ sp_len V t ∧ sp_len V t ≤ 9 ∧ -1 ≤ sp_per V t ∧ sp_per V t ≤ 5 ∧ -1 ≤ sp_hal V t ∧ sp_hal V t ≤ 3 ∧ 0 ≤ sp_ear V t ∧ sp_ear V t ≤ 129 ∧ ∀ i, t ≤ i → sp_bit V t i = false
def sp_okH (V : tw_V) (h : Nat) : Prop := 0 ≤ sp_fst V h ∧ sp_fst V h ≤ 99 ∧ 0 ≤ sp_lst V h ∧ sp_lst V h ≤ 99
def sp_ok (V : tw_V) : Prop := sp_n V ≤ 12 ∧ 0 ≤ sp_rule V ∧ sp_rule V ≤ 3 ∧ (∀ t, t < sp_n V → sp_okT V t) ∧ ∀ h, h < 4 → sp_okH V h
def sp_flw (V : tw_V) (t : Nat) : Int := sp_sum (fun o => if sp_bit V o t = true then 1 else 0) (sp_n V)
def sp_key (V : tw_V) (t : Nat) : Int := if sp_rule V = 1 then sp_len V t else if sp_rule V = 2 then sp_flw V t else if sp_rule V = 3 then sp_ear V t else 0
def sp_sta (V : tw_V) (b : Nat → Int) (t : Nat) : Nat → Int
  | 0 => sp_ear V t
  | o + 1 => if sp_bit V t o = true ∧ sp_sta V b t o < b o + sp_len V o then b o + sp_len V o else sp_sta V b t o
def sp_start (V : tw_V) (b : Nat → Int) (t : Nat) : Int := sp_sta V b t t
def sp_shr (V : tw_V) (t o : Nat) : Bool := (decide (sp_per V t ≠ -1) && decide (sp_per V t = sp_per V o)) || (decide (sp_hal V t ≠ -1) && decide (sp_hal V t = sp_hal V o))
def sp_cls (V : tw_V) (b : Nat → Int) (t : Nat) (d : Int) (o : Nat) : Bool := (decide (b o ≠ -1) && (decide (b o < d + sp_len V t) && decide (d < b o + sp_len V o))) && sp_shr V t o
def sp_win (V : tw_V) (t : Nat) (d : Int) : Bool := decide (d + sp_len V t ≤ 100) && (decide (sp_hal V t = -1) || (decide (sp_fst V (sp_hal V t).toNat ≤ d) && decide (d + sp_len V t ≤ sp_lst V (sp_hal V t).toNat + 1)))
def sp_fre (V : tw_V) (b : Nat → Int) (t : Nat) (d : Int) : Bool := sp_win V t d && sp_all (fun o => !sp_cls V b t d o) (sp_n V)
def sp_seek (V : tw_V) (b : Nat → Int) (t : Nat) : Nat → Int → Int
  | 0, _ => -1
  | f + 1, d => if 100 ≤ d then -1 else if sp_fre V b t d = true then d else sp_seek V b t f (d + 1)
def sp_day (V : tw_V) (b : Nat → Int) (t : Nat) : Int := sp_seek V b t 200 (sp_start V b t)
def sp_rdy (V : tw_V) (b : Nat → Int) (t : Nat) : Bool := sp_all (fun o => !sp_bit V t o || decide (b o ≠ -1)) t
def sp_pck (V : tw_V) (tr : Nat → Bool) (b : Nat → Int) : Nat → Int
  | 0 => -1
  | k + 1 => if (tr k = false ∧ sp_rdy V b k = true) ∧ (sp_pck V tr b k = -1 ∨ sp_key V (sp_pck V tr b k).toNat < sp_key V k) then (k : Int) else sp_pck V tr b k
def sp_pick (V : tw_V) (tr : Nat → Bool) (b : Nat → Int) : Int := sp_pck V tr b (sp_n V)
def sp_step (V : tw_V) (s : (Nat → Bool) × (Nat → Int)) : (Nat → Bool) × (Nat → Int) :=
  if sp_pick V s.1 s.2 = -1 then s else (va_up s.1 (sp_pick V s.1 s.2).toNat true, va_up s.2 (sp_pick V s.1 s.2).toNat (sp_day V s.2 (sp_pick V s.1 s.2).toNat))
def sp_its (V : tw_V) : Nat → (Nat → Bool) × (Nat → Int)
  | 0 => (fun _ => false, fun _ => -1)
  | k + 1 => sp_step V (sp_its V k)
/-- the plan: the day on which each task begins, -1 for those that are not laid -/
def sp_plan (V : tw_V) : Nat → Int := (sp_its V (sp_n V)).2
def sp_laid (V : tw_V) (b : Nat → Int) : Int := sp_sum (fun t => if b t = -1 then 0 else 1) (sp_n V)
def sp_ene (V : tw_V) (b : Nat → Int) : Nat → Int
  | 0 => 0
  | t + 1 => if b t ≠ -1 ∧ sp_ene V b t < b t + sp_len V t then b t + sp_len V t else sp_ene V b t
def sp_end (V : tw_V) (b : Nat → Int) : Int := sp_ene V b (sp_n V)
/-! what the two hold of a wall -/
def sp_RS (S : tw_St) (V : tw_V) : Prop := S.2.2.2.2.2.2.2.1 = zi (sp_n V) ∧ S.2.2.2.2.2.2.2.2 = zi (sp_rule V) ∧ (∀ t, t < sp_n V → S.1 t = zi (sp_len V t) ∧ S.2.1 t = zi (sp_per V t) ∧ S.2.2.1 t = zi (sp_hal V t) ∧ S.2.2.2.1 t = zi (sp_ear V t) ∧ S.2.2.2.2.1 t = sp_msk V t) ∧ ∀ h, h < 4 → S.2.2.2.2.2.1 h = zi (sp_fst V h) ∧ S.2.2.2.2.2.2.1 h = zi (sp_lst V h)
def sp_RB (f : tw_F) (V : tw_V) (b : Nat → Int) : Prop := ∀ t, t < sp_n V → f t = zi (b t)
/-- a plan that may be half laid: days in their range -/
def sp_bok (V : tw_V) (b : Nat → Int) : Prop := ∀ t, t < sp_n V → b t = -1 ∨ (0 ≤ b t ∧ b t + sp_len V t ≤ 100)
