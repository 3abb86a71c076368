/-! the wall as numbers: how many tasks, the rule, (0 length, 1 person, 2 hall, 3 earliest day of a task; 4 first, 5 last day of a hall), the masks of what tasks need -/
abbrev tw_V : Type := Nat × Int × (Nat → Nat → Int) × (Nat → Int32)
def sp_n (V : tw_V) : Nat := V.1
def sp_rule (V : tw_V) : Int := V.2.1
def sp_len (V : tw_V) (t : Nat) : Int := V.2.2.1 0 t
def sp_per (V : tw_V) (t : Nat) : Int := V.2.2.1 1 t
def sp_hal (V : tw_V) (t : Nat) : Int := V.2.2.1 2 t
def sp_ear (V : tw_V) (t : Nat) : Int := V.2.2.1 3 t
def sp_fst (V : tw_V) (h : Nat) : Int := V.2.2.1 4 h
def sp_lst (V : tw_V) (h : Nat) : Int := V.2.2.1 5 h
def sp_msk (V : tw_V) (t : Nat) : Int32 := V.2.2.2 t
def sp_bit (V : tw_V) (t o : Nat) : Bool := bt (sp_msk V t) o
def sp_okT (V : tw_V) (t : Nat) : Prop := 1 ≤ sp_len V t ∧ sp_len V t ≤ 9 ∧ -1 ≤ sp_per V t ∧ sp_per V t ≤ 5 ∧ -1 ≤ sp_hal V t ∧ sp_hal V t ≤ 3 ∧ 0 ≤ sp_ear V t ∧ sp_ear V t ≤ 129 ∧ ∀ i, t ≤ i → sp_bit V t i = false
def sp_okH (V : tw_V) (h : Nat) : Prop := 0 ≤ sp_fst V h ∧ sp_fst V h ≤ 99 ∧ 0 ≤ sp_lst V h ∧ sp_lst V h ≤ 99
def sp_ok (V : tw_V) : Prop := sp_n V ≤ 12 ∧ 0 ≤ sp_rule V ∧ sp_rule V ≤ 3 ∧ (∀ t, t < sp_n V → sp_okT V t) ∧ ∀ h, h < 4 → sp_okH V h
def sp_flw (V : tw_V) (t : Nat) : Int := sp_sum (fun o => if sp_bit V o t = true then 1 else 0) (sp_n V)
def sp_key (V : tw_V) (t : Nat) : Int := if sp_rule V = 1 then sp_len V t else if sp_rule V = 2 then sp_flw V t else if sp_rule V = 3 then sp_ear V t else 0
def sp_sta (V : tw_V) (b : Nat → Int) (t : Nat) : Nat → Int
  | 0 => sp_ear V t
  | o + 1 => if sp_bit V t o = true ∧ sp_sta V b t o < b o + sp_len V o then b o + sp_len V o else sp_sta V b t o
def sp_start (V : tw_V) (b : Nat → Int) (t : Nat) : Int := sp_sta V b t t
def sp_shr (V : tw_V) (t o : Nat) : Bool := (decide (sp_per V t ≠ -1) && decide (sp_per V t = sp_per V o)) || (decide (sp_hal V t ≠ -1) && decide (sp_hal V t = sp_hal V o))
def sp_cls (V : tw_V) (b : Nat → Int) (t : Nat) (d : Int) (o : Nat) : Bool := (decide (b o ≠ -1) && (decide (b o < d + sp_len V t) && decide (d < b o + sp_len V o))) && sp_shr V t o
def sp_win (V : tw_V) (t : Nat) (d : Int) : Bool := decide (d + sp_len V t ≤ 100) && (decide (sp_hal V t = -1) || (decide (sp_fst V (sp_hal V t).toNat ≤ d) && decide (d + sp_len V t ≤ sp_lst V (sp_hal V t).toNat + 1)))
def sp_fre (V : tw_V) (b : Nat → Int) (t : Nat) (d : Int) : Bool := sp_win V t d && sp_all (fun o => !sp_cls V b t d o) (sp_n V)
def sp_seek (V : tw_V) (b : Nat → Int) (t : Nat) : Nat → Int → Int
  | 0, _ => -1
  | f + 1, d => if 100 ≤ d then -1 else if sp_fre V b t d = true then d else sp_seek V b t f (d + 1)
def sp_day (V : tw_V) (b : Nat → Int) (t : Nat) : Int := sp_seek V b t 200 (sp_start V b t)
def sp_rdy (V : tw_V) (b : Nat → Int) (t : Nat) : Bool := sp_all (fun o => !sp_bit V t o || decide (b o ≠ -1)) t
def sp_pck (V : tw_V) (tr : Nat → Bool) (b : Nat → Int) : Nat → Int
  | 0 => -1
  | k + 1 => if (tr k = false ∧ sp_rdy V b k = true) ∧ (sp_pck V tr b k = -1 ∨ sp_key V (sp_pck V tr b k).toNat < sp_key V k) then (k : Int) else sp_pck V tr b k
def sp_pick (V : tw_V) (tr : Nat → Bool) (b : Nat → Int) : Int := sp_pck V tr b (sp_n V)
def sp_step (V : tw_V) (s : (Nat → Bool) × (Nat → Int)) : (Nat → Bool) × (Nat → Int) :=
  if sp_pick V s.1 s.2 = -1 then s else (va_up s.1 (sp_pick V s.1 s.2).toNat true, va_up s.2 (sp_pick V s.1 s.2).toNat (sp_day V s.2 (sp_pick V s.1 s.2).toNat))
def sp_its (V : tw_V) : Nat → (Nat → Bool) × (Nat → Int)
  | 0 => (fun _ => false, fun _ => -1)
  | k + 1 => sp_step V (sp_its V k)
/-- the plan: the day on which each task begins, -1 for those that are not laid -/
def sp_plan (V : tw_V) : Nat → Int := (sp_its V (sp_n V)).2
def sp_laid (V : tw_V) (b : Nat → Int) : Int := sp_sum (fun t => if b t = -1 then 0 else 1) (sp_n V)
def sp_ene (V : tw_V) (b : Nat → Int) : Nat → Int
  | 0 => 0
  | t + 1 => if b t ≠ -1 ∧ sp_ene V b t < b t + sp_len V t then b t + sp_len V t else sp_ene V b t
def sp_end (V : tw_V) (b : Nat → Int) : Int := sp_ene V b (sp_n V)
/-! what the two hold of a wall -/
def sp_RS (S : tw_St) (V : tw_V) : Prop := S.2.2.2.2.2.2.2.1 = zi (sp_n V) ∧ S.2.2.2.2.2.2.2.2 = zi (sp_rule V) ∧ (∀ t, t < sp_n V → S.1 t = zi (sp_len V t) ∧ S.2.1 t = zi (sp_per V t) ∧ S.2.2.1 t = zi (sp_hal V t) ∧ S.2.2.2.1 t = zi (sp_ear V t) ∧ S.2.2.2.2.1 t = sp_msk V t) ∧ ∀ h, h < 4 → S.2.2.2.2.2.1 h = zi (sp_fst V h) ∧ S.2.2.2.2.2.2.1 h = zi (sp_lst V h)
def sp_RA (s : tw_F) (V : tw_V) : Prop := s 0 = zi (sp_n V) ∧ s 1 = zi (sp_rule V) ∧ (∀ t, t < sp_n V → s (10 + 5 * t) = zi (sp_len V t) ∧ s (10 + 5 * t + 1) = zi (sp_per V t) ∧ s (10 + 5 * t + 2) = zi (sp_hal V t) ∧ s (10 + 5 * t + 3) = zi (sp_ear V t) ∧ s (10 + 5 * t + 4) = sp_msk V t) ∧ ∀ h, h < 4 → s (2 + 2 * h) = zi (sp_fst V h) ∧ s (2 + 2 * h + 1) = zi (sp_lst V h)
def sp_RB (f : tw_F) (V : tw_V) (b : Nat → Int) : Prop := ∀ t, t < sp_n V → f t = zi (b t)
/-- a plan that may be half laid: days in their range -/
def sp_bok (V : tw_V) (b : Nat → Int) : Prop := ∀ t, t < sp_n V → b t = -1 ∨ (0 ≤ b t ∧ b t + sp_len V t ≤ 100)
