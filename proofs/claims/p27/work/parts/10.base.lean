/-! the shapes of the system's worlds; the rows of its calls and ends, each in one piece -/
abbrev tw_F : Type := Nat → Int32
abbrev tw_St : Type := tw_F × tw_F × tw_F × tw_F × tw_F × tw_F × tw_F × Int32 × Int32
abbrev tw_Pl : Type := tw_F × tw_F × Int32 × Int32 × Int32
abbrev tw_Tx : Type := tw_F × Int32
abbrev tw_Wl : Type := tw_St × tw_Pl × tw_St × tw_Pl × tw_Tx × tw_F × Int32 × (Nat → tw_St) × (Nat → Nat)
def tw_ai (cI : ClassId) (a n : Nat) (f : tw_F) : Nat × va_E := (a, .inl (cI, n, .inl f))
def tw_wS (cI : ClassId) (a : Nat → Nat) (S : tw_St) : va_W := [(a 0, .inr (1, [.ref (a 1), .ref (a 2), .ref (a 3), .ref (a 4), .ref (a 5), .ref (a 6), .ref (a 7), .int S.2.2.2.2.2.2.2.1, .int S.2.2.2.2.2.2.2.2])), tw_ai cI (a 1) 12 S.1, tw_ai cI (a 2) 12 S.2.1, tw_ai cI (a 3) 12 S.2.2.1, tw_ai cI (a 4) 12 S.2.2.2.1, tw_ai cI (a 5) 12 S.2.2.2.2.1, tw_ai cI (a 6) 4 S.2.2.2.2.2.1, tw_ai cI (a 7) 4 S.2.2.2.2.2.2.1]
def tw_wP (cI : ClassId) (a : Nat → Nat) (P : tw_Pl) : va_W := [(a 0, .inr (0, [.ref (a 1), .ref (a 2), .int P.2.2.1, .int P.2.2.2.1, .int P.2.2.2.2])), tw_ai cI (a 1) 12 P.1, tw_ai cI (a 2) 12 P.2.1]
def tw_wT (cI : ClassId) (a : Nat → Nat) (X : tw_Tx) : va_W := [(a 0, .inr (2, [.ref (a 1), .int X.2])), tw_ai cI (a 1) 60 X.1]
def tw_wZ (cI : ClassId) (z : Nat → Nat → Nat) (Z : Nat → tw_St) : va_W := tw_wS cI (z 0) (Z 0) ++ (tw_wS cI (z 1) (Z 1) ++ (tw_wS cI (z 2) (Z 2) ++ (tw_wS cI (z 3) (Z 3) ++ (tw_wS cI (z 4) (Z 4) ++ tw_wS cI (z 5) (Z 5)))))
def tw_w0 (cI cQ : ClassId) (a na pa ta qa xa : Nat → Nat) (z : Nat → Nat → Nat) (rs : tw_F) (sc : Int32) (pi : Nat → Nat) : va_W := [(a 0, .inr (3, [.ref (na 0), .ref (pa 0), .ref (ta 0), .ref (qa 0), .ref (a 1), .ref (xa 0), .ref (a 2), .int sc])), (a 1, .inl (cQ, 6, .inr (.inr (.inr (.inr (fun i => some (z (pi i) 0))))))), tw_ai cI (a 2) 12 rs]
/-- the wall: its object (a 0), the row of saved states (a 1), the row of sums (a 2); now (na), plan (pa), trial (ta), its plan (qa), text (xa), the saved states (z) -/
def tw_wW (cI cQ : ClassId) (a na pa ta qa xa : Nat → Nat) (z : Nat → Nat → Nat) (W : tw_Wl) : va_W := tw_w0 cI cQ a na pa ta qa xa z W.2.2.2.2.2.1 W.2.2.2.2.2.2.1 W.2.2.2.2.2.2.2.2 ++ (tw_wS cI na W.1 ++ (tw_wP cI pa W.2.1 ++ (tw_wS cI ta W.2.2.1 ++ (tw_wP cI qa W.2.2.2.1 ++ (tw_wT cI xa W.2.2.2.2.1 ++ tw_wZ cI z W.2.2.2.2.2.2.2.1)))))
/-! the lifted methods: an index that is looked at, a step of an answer -/
def tw_g {α : Type} (i : Int32) (n : Nat) (x : Option α) : Option α := if i < 0 ∨ n ≤ i.toNatClampNeg then none else x
theorem tw_gs {α : Type} {i : Int32} {n : Nat} {x : Option α} {r : α} (h : tw_g i n x = some r) : vp_in i n ∧ x = some r := by
  unfold tw_g at h
  by_cases hc : i < 0 ∨ n ≤ i.toNatClampNeg
  · rw [if_pos hc] at h; cases h
  · rw [if_neg hc] at h; exact ⟨hc, h⟩
def tw_q {α : Type} (c : Prop) [Decidable c] (x : Option α) : Option α := if c then x else none
theorem tw_qs {α : Type} {c : Prop} [Decidable c] {x : Option α} {r : α} (h : tw_q c x = some r) : c ∧ x = some r := by
  unfold tw_q at h
  by_cases hc : c
  · rw [if_pos hc] at h; exact ⟨hc, h⟩
  · rw [if_neg hc] at h; cases h
theorem tw_bs {α β : Type} {x : Option α} {f : α → Option β} {r : β} (h : x.bind f = some r) : ∃ v, x = some v ∧ f v = some r := by
  cases x with
  | none => cases h
  | some v => exact ⟨v, rfl, h⟩
theorem tw_t {α : Type} {c : Prop} [Decidable c] {a b : Option α} {r : α} (hc : c) (h : (if c then a else b) = some r) : a = some r := by rw [if_pos hc] at h; exact h
theorem tw_f {α : Type} {c : Prop} [Decidable c] {a b : Option α} {r : α} (hc : ¬ c) (h : (if c then a else b) = some r) : b = some r := by rw [if_neg hc] at h; exact h
theorem tw_fn {α : Type} {c : Prop} [Decidable c] {a b : Option α} {r : α} (hc : c) (h : (if ¬ c then a else b) = some r) : b = some r := by rw [if_neg (fun q => q hc)] at h; exact h
theorem tw_no {α : Type} {r : α} {P : Prop} (h : (none : Option α) = some r) : P := by cases h
theorem tw_i1 (x : Int32) : x + Int32.ofInt 1 = x + 1 := rfl
theorem tw_i4 (x : Int32) : x + Int32.ofInt 4 = x + 4 := rfl
theorem tw_im1 (x : Int32) : x + Int32.ofInt (-1) = x + (-1) := rfl
/-! names of nest mates -/
def tw_N (U : State) : Prop := va_Nw (.methodLinkNest RX3 18 yX0_init RX3) U ∧ va_Nw (.methodLinkNest RX3 35 yX2_init RX3) U
theorem tw_N.warm {s U : State} (hW : s.WarmedH U.vm) (h : tw_N s) : tw_N U := ⟨va_Nw.warmM hW h.1, va_Nw.warmM hW h.2⟩
theorem tw_N.same {s U : State} (hv : s.vm = U.vm) (h : tw_N s) : tw_N U := ⟨va_Nw.same rfl hv h.1, va_Nw.same rfl hv h.2⟩
/-! a contract's start -/
def tw_Pc (G : va_G) (tys : List (ClassId × FieldType)) (ws : va_W) (sz : Nat) (av : List Value) : Array Value → State → Prop := va_Pc av (fun U => U.heap.size = sz ∧ va_P G vwCl ws U.heap ∧ (va_K G vwCl tys U ∧ tw_N U) ∧ va_D (fun _ => True) ws)
theorem tw_Pc_blind {G : va_G} {tys : List (ClassId × FieldType)} {ws : va_W} {sz : Nat} {av : List Value} : FrameBlind (tw_Pc G tys ws sz av) := fun a U g mk q => by
  obtain ⟨q0, q1, qP, ⟨qK, qN⟩, qD⟩ := q
  exact ⟨q0, q1, qP, ⟨va_K.moved (u := U) (U := U.calling g mk a) (Vm.Alike.refl U.vm) qK, tw_N.same (s := U) (U := U.calling g mk a) rfl qN⟩, qD⟩
def tw_Mi (l : Launch) (y : MethodName) (wsY : List Cond) (rm : Room) (G : va_G) (tys : List (ClassId × FieldType)) (wc : va_W) (av : List Value) (sz : Nat) (rv : Int32) (wc' : va_W) : Prop := Met l y wsY rm (tw_Pc G tys wc sz av) (va_Qi (fun r (_ : Unit) => rv = r) (fun _ t => va_P G vwCl wc' t.heap) (va_A wc sz)) 0 0 (va_A wc sz)
def tw_Ml (l : Launch) (y : MethodName) (wsY : List Cond) (rm : Room) (G : va_G) (tys : List (ClassId × FieldType)) (wc : va_W) (av : List Value) (sz : Nat) (rv : Int64) (wc' : va_W) : Prop := Met l y wsY rm (tw_Pc G tys wc sz av) (va_Ql (fun r (_ : Unit) => rv = r) (fun _ t => va_P G vwCl wc' t.heap) (va_A wc sz)) 0 0 (va_A wc sz)
def tw_Mu (l : Launch) (y : MethodName) (wsY : List Cond) (rm : Room) (G : va_G) (tys : List (ClassId × FieldType)) (wc : va_W) (av : List Value) (sz : Nat) (rv : UInt64) (wc' : va_W) : Prop := Met l y wsY rm (tw_Pc G tys wc sz av) (va_Qd (fun r (_ : Unit) => rv = r) (fun _ t => va_P G vwCl wc' t.heap) (va_A wc sz)) 0 0 (va_A wc sz)
def tw_Mv (l : Launch) (y : MethodName) (wsY : List Cond) (rm : Room) (G : va_G) (tys : List (ClassId × FieldType)) (wc : va_W) (av : List Value) (sz : Nat) (wc' : va_W) : Prop := Met l y wsY rm (tw_Pc G tys wc sz av) (va_Qv (fun (_ : Unit) => True) (fun _ t => va_P G vwCl wc' t.heap) (va_A wc sz)) 0 0 (va_A wc sz)
def tw_Mr (l : Launch) (y : MethodName) (wsY : List Cond) (rm : Room) (G : va_G) (tys : List (ClassId × FieldType)) (wc : va_W) (av : List Value) (sz : Nat) (ra : Nat) (wc' : va_W) : Prop := Met l y wsY rm (tw_Pc G tys wc sz av) (va_Qr (fun (_ : Unit) => True) (fun _ a t => a = ra ∧ va_P G vwCl wc' t.heap) (va_A wc sz)) 0 0 (va_A wc sz)
/-! a world with some of its cells put anew -/
def tw_mix (ws : va_W) : List Nat → va_W → va_W
  | i :: is, e :: es => tw_mix (ws.set i e) is es
  | _, _ => ws
theorem tw_mix_get : ∀ (is : List Nat) (es ws : va_W), is.length = es.length → ∀ (k : Nat) (q : Nat × va_E), (tw_mix ws is es)[k]? = some q → (∃ j : Nat, is[j]? = some k ∧ es[j]? = some q) ∨ (k ∉ is ∧ ws[k]? = some q)
  | [], es, ws, _, k, q, h => Or.inr ⟨List.not_mem_nil, by cases es <;> exact h⟩
  | i :: is, [], ws, hl, k, q, h => by simp at hl
  | i :: is, e :: es, ws, hl, k, q, h => by
    rcases tw_mix_get is es (ws.set i e) (by simpa using hl) k q h with ⟨j, h1, h2⟩ | ⟨h1, h2⟩
    · exact Or.inl ⟨j + 1, by simpa using h1, by simpa using h2⟩
    · by_cases hk : i = k
      · subst hk
        rw [List.getElem?_set] at h2
        by_cases hlt : i < ws.length
        · rw [if_pos rfl, if_pos hlt] at h2
          exact Or.inl ⟨0, rfl, h2⟩
        · rw [if_pos rfl, if_neg hlt] at h2
          cases h2
      · rw [List.getElem?_set_ne hk] at h2
        exact Or.inr ⟨fun hm => (List.mem_cons.mp hm).elim (fun e => hk e.symm) h1, h2⟩
theorem tw_mix_fst : ∀ (is : List Nat) (es ws : va_W), (∀ (j i : Nat) (e : Nat × va_E), is[j]? = some i → es[j]? = some e → (ws.map Prod.fst)[i]? = some e.1) → (tw_mix ws is es).map Prod.fst = ws.map Prod.fst
  | [], es, ws, _ => by cases es <;> rfl
  | i :: is, [], ws, _ => rfl
  | i :: is, e :: es, ws, h => by
    have h0 : (ws.map Prod.fst)[i]? = some e.1 := h 0 i e rfl rfl
    have h1 : (ws.set i e).map Prod.fst = ws.map Prod.fst := by
      rw [List.map_set]
      apply List.ext_getElem?
      intro n
      rw [List.getElem?_set]
      by_cases hn : i = n
      · subst hn
        rw [if_pos rfl, h0, if_pos (List.getElem?_eq_some_iff.mp h0).1]
      · rw [if_neg hn]
    show (tw_mix (ws.set i e) is es).map Prod.fst = _
    rw [tw_mix_fst is es (ws.set i e) (fun j i' e' hj he => by rw [h1]; exact h (j + 1) i' e' (by simpa using hj) (by simpa using he)), h1]
theorem tw_D_fst {A : Nat → Prop} {ws ws' : va_W} (h : ws'.map Prod.fst = ws.map Prod.fst) (hD : va_D A ws) : va_D A ws' := by
  have key : ∀ (k : Nat) (q : Nat × va_E), ws'[k]? = some q → ∃ q0, ws[k]? = some q0 ∧ q0.1 = q.1 := by
    intro k q hq
    have h1 : (ws'.map Prod.fst)[k]? = some q.1 := by rw [List.getElem?_map, hq]; rfl
    rw [h, List.getElem?_map] at h1
    cases hw : ws[k]? with
    | none => rw [hw] at h1; cases h1
    | some q0 => rw [hw] at h1; exact ⟨q0, rfl, Option.some.inj h1⟩
  refine ⟨fun i j p q hi hj hpq => ?_, fun k q hk => ?_⟩
  · obtain ⟨p0, h1, h2⟩ := key i p hi
    obtain ⟨q0, h3, h4⟩ := key j q hj
    exact hD.1 i j p0 q0 h1 h3 (h2.trans (hpq.trans h4.symm))
  · obtain ⟨q0, h1, h2⟩ := key k q hk
    rw [← h2]
    exact hD.2 k q0 h1
theorem tw_is_get {ws wc : va_W} {is : List Nat} (hC : is.map (fun i => ws[i]?) = wc.map some) {k : Nat} {q : Nat × va_E} (h : wc[k]? = some q) : ∃ i, is[k]? = some i ∧ ws[i]? = some q := by
  have h1 : (is.map (fun i => ws[i]?))[k]? = some (some q) := by rw [hC, List.getElem?_map, h]; rfl
  rw [List.getElem?_map] at h1
  cases hi : is[k]? with
  | none => rw [hi] at h1; cases h1
  | some i => rw [hi] at h1; exact ⟨i, rfl, Option.some.inj h1⟩
theorem tw_back {A0 : Nat → Prop} {D : va_G} {cl : List vw_C} {ws wc wc' : va_W} {H H1 : Heap} (hP : va_P D cl ws H) (hD : va_D A0 ws) (is : List Nat) (hC : is.map (fun i => ws[i]?) = wc.map some) (ha : wc'.map Prod.fst = wc.map Prod.fst)
    (hk : ∀ q : Nat, q < H.size → ¬ va_A wc H.size q → H1[q]? = H[q]?) (hP1 : va_P D cl wc' H1) : va_P D cl (tw_mix ws is wc') H1 ∧ va_D A0 (tw_mix ws is wc') := by
  have hl1 : is.length = wc.length := by have := congrArg List.length hC; simpa using this
  have hl2 : wc'.length = wc.length := by have := congrArg List.length ha; simpa using this
  refine ⟨fun k q hq => ?_, tw_D_fst (tw_mix_fst is wc' ws (fun j i e hj he => ?_)) hD⟩
  · rcases tw_mix_get is wc' ws (hl1.trans hl2.symm) k q hq with ⟨j, -, h2⟩ | ⟨h1, h2⟩
    · exact hP1 j q h2
    · have hlt := (hP k q h2).lt
      refine (hP k q h2).kept (hk q.1 hlt (fun hA => ?_))
      rcases hA with ⟨k2, e, h3⟩ | h3
      · obtain ⟨i, h4, h5⟩ := tw_is_get hC h3
        have := hD.1 k i q (q.1, e) h2 h5 rfl
        subst this
        exact h1 (List.mem_of_getElem? h4)
      · omega
  · have h1 : (wc'.map Prod.fst)[j]? = some e.1 := by rw [List.getElem?_map, he]; rfl
    rw [ha, List.getElem?_map] at h1
    cases hw : wc[j]? with
    | none => rw [hw] at h1; cases h1
    | some q0 =>
      rw [hw] at h1
      obtain ⟨i', h4, h5⟩ := tw_is_get hC hw
      rw [hj] at h4
      cases h4
      rw [List.getElem?_map, h5]
      exact h1
theorem tw_mix_skip {n : Nat} : ∀ {l : va_W} (r : va_W) (is : List Nat) (es : va_W), l.length = n → tw_mix (l ++ r) (is.map (fun i => i + n)) es = l ++ tw_mix r is es := by
  intro l r is es hn
  induction is generalizing r es with
  | nil => cases es <;> rfl
  | cons i is ih =>
    cases es with
    | nil => rfl
    | cons e es =>
      show tw_mix ((l ++ r).set (i + n) e) (is.map (fun i => i + n)) es = l ++ tw_mix (r.set i e) is es
      rw [List.set_append_right _ _ (by omega), show i + n - l.length = i by omega, ih]
theorem tw_mix_hit {n : Nat} {l es : va_W} (r : va_W) (hl : l.length = n) (he : es.length = n) : tw_mix (l ++ r) (List.range n) es = es ++ r := by
  induction l generalizing n es with
  | nil =>
    have h0 : n = 0 := hl.symm
    subst h0
    have : es = [] := List.eq_nil_of_length_eq_zero he
    subst this
    rfl
  | cons q l ih =>
    cases es with
    | nil => rw [← he] at hl; cases hl
    | cons e es =>
      obtain ⟨n, rfl⟩ : ∃ k, n = k + 1 := ⟨l.length, by rw [← hl]; rfl⟩
      have h1 : l.length = n := by simpa using hl
      have h2 : es.length = n := by simpa using he
      rw [List.range_succ_eq_map]
      have h3 := tw_mix_skip (n := 1) (l := [e]) (l ++ r) (List.range n) es rfl
      show tw_mix ([e] ++ (l ++ r)) ((List.range n).map (fun i => i + 1)) es = _
      rw [h3, ih h1 h2]
      rfl
theorem tw_mix_app : ∀ (is js : List Nat) (es fs ws : va_W), is.length = es.length → tw_mix ws (is ++ js) (es ++ fs) = tw_mix (tw_mix ws is es) js fs
  | [], js, es, fs, ws, h => by
    have : es = [] := List.eq_nil_of_length_eq_zero h.symm
    subst this
    cases fs <;> cases js <;> rfl
  | i :: is, js, [], fs, ws, h => by cases h
  | i :: is, js, e :: es, fs, ws, h => tw_mix_app is js es fs (ws.set i e) (by simpa using h)
