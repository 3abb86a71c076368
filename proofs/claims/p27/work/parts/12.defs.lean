def fX1_withoutBit  (p0 : Int32) (p1 : Int32) : Option (Int32) :=
  some ((p0 &&& (((1 : Int32) <<< (p1 &&& 31)) - (1 : Int32))) ||| ((p0 >>> ((p1 + (1 : Int32)) &&& 31)) <<< (p1 &&& 31)))
def fX1_isNeeded (S : tw_St) (p1 : Int32) (p2 : Int32) : Option (Int32) :=
  tw_g p1 12 <|
  if ((S.2.2.2.2.1 p1.toNatClampNeg) &&& ((1 : Int32) <<< (p2 &&& 31))) = 0 then
    some (0 : Int32)
  else
    some (1 : Int32)
def fX1_followers_6 (S : tw_St) (p1 : Int32)  : Nat → Int32 → Int32 → Option (Int32)
  | 0, _, _ => none
  | n + 1, v2, v3 =>
    if S.2.2.2.2.2.2.2.1 ≤ v3 then
      some v2
    else
      (fX1_isNeeded S v3 p1).bind fun r17 =>
      if r17 = 0 then
        fX1_followers_6 S p1 n v2 (v3 + 1)
      else
        fX1_followers_6 S p1 n (v2 + 1) (v3 + 1)
def fX1_followers (S : tw_St) (p1 : Int32) : Option (Int32) :=
  fX1_followers_6 S p1 512 (0 : Int32) (p1 + (1 : Int32))
def fX1_lengthOfAll_4 (S : tw_St)  : Nat → Int32 → Int32 → Option (Int32)
  | 0, _, _ => none
  | n + 1, v1, v2 =>
    if S.2.2.2.2.2.2.2.1 ≤ v2 then
      some v1
    else
      tw_g v2 12 <|
      fX1_lengthOfAll_4 S n (v1 + (S.1 v2.toNatClampNeg)) (v2 + 1)
def fX1_lengthOfAll (S : tw_St)  : Option (Int32) :=
  fX1_lengthOfAll_4 S 512 (0 : Int32) (0 : Int32)
def fX1_keyOf (S : tw_St) (p1 : Int32) : Option (Int32) :=
  if S.2.2.2.2.2.2.2.2 = 1 then
    tw_g p1 12 <|
    some (S.1 p1.toNatClampNeg)
  else if S.2.2.2.2.2.2.2.2 = 2 then
    (fX1_followers S p1).bind fun r41 =>
    some r41
  else if S.2.2.2.2.2.2.2.2 = 3 then
    tw_g p1 12 <|
    some (S.2.2.2.1 p1.toNatClampNeg)
  else 
    some (0 : Int32)
def fX1_share_61 (S : tw_St) (p1 : Int32) (p2 : Int32)  (t0 : Int32) (v3 : Int32) : Option (Int32) :=
  if ¬ v3 = 0 then
    some (1 : Int32)
  else
    if t0 = 0 then
      some (0 : Int32)
    else
      some (1 : Int32)
def fX1_share_30 (S : tw_St) (p1 : Int32) (p2 : Int32)  (t0 : Int32) : Option (Int32) :=
  tw_g p1 12 <|
  if (S.2.2.1 p1.toNatClampNeg) = (-1 : Int32) then
    fX1_share_61 S p1 p2 (0 : Int32) t0
  else
    tw_g p1 12 <|
    tw_g p2 12 <|
    if ¬ (S.2.2.1 p1.toNatClampNeg) = (S.2.2.1 p2.toNatClampNeg) then
      fX1_share_61 S p1 p2 (0 : Int32) t0
    else
      fX1_share_61 S p1 p2 (1 : Int32) t0
def fX1_share (S : tw_St) (p1 : Int32) (p2 : Int32) : Option (Int32) :=
  tw_g p1 12 <|
  if (S.2.1 p1.toNatClampNeg) = (-1 : Int32) then
    fX1_share_30 S p1 p2 (0 : Int32)
  else
    tw_g p1 12 <|
    tw_g p2 12 <|
    if ¬ (S.2.1 p1.toNatClampNeg) = (S.2.1 p2.toNatClampNeg) then
      fX1_share_30 S p1 p2 (0 : Int32)
    else
      fX1_share_30 S p1 p2 (1 : Int32)
def fX1_appendTask (S : tw_St) (p1 : Int32) (p2 : Int32) (p3 : Int32) : Option (tw_St) :=
  tw_g S.2.2.2.2.2.2.2.1 12 <|
  tw_g S.2.2.2.2.2.2.2.1 12 <|
  tw_g S.2.2.2.2.2.2.2.1 12 <|
  tw_g S.2.2.2.2.2.2.2.1 12 <|
  tw_g S.2.2.2.2.2.2.2.1 12 <|
  some ((upd S.1 S.2.2.2.2.2.2.2.1.toNatClampNeg p1), (upd S.2.1 S.2.2.2.2.2.2.2.1.toNatClampNeg p2), (upd S.2.2.1 S.2.2.2.2.2.2.2.1.toNatClampNeg p3), (upd S.2.2.2.1 S.2.2.2.2.2.2.2.1.toNatClampNeg (0 : Int32)), (upd S.2.2.2.2.1 S.2.2.2.2.2.2.2.1.toNatClampNeg (0 : Int32)), S.2.2.2.2.2.1, S.2.2.2.2.2.2.1, (S.2.2.2.2.2.2.2.1 + (1 : Int32)), S.2.2.2.2.2.2.2.2)
def fX1_dropTask_12 (p1 : Int32)  : Nat → Int32 → tw_St → Option (tw_St)
  | 0, _, _ => none
  | n + 1, v2, S =>
    if S.2.2.2.2.2.2.2.1 ≤ v2 then
      some S
    else
      tw_g (v2 + (1 : Int32)) 12 <|
      tw_g v2 12 <|
      tw_g (v2 + (1 : Int32)) 12 <|
      tw_g v2 12 <|
      tw_g (v2 + (1 : Int32)) 12 <|
      tw_g v2 12 <|
      tw_g (v2 + (1 : Int32)) 12 <|
      tw_g v2 12 <|
      tw_g (v2 + (1 : Int32)) 12 <|
      (fX1_withoutBit (S.2.2.2.2.1 (v2 + (1 : Int32)).toNatClampNeg) p1).bind fun r90 =>
      tw_g v2 12 <|
      fX1_dropTask_12 p1 n (v2 + 1) ((upd S.1 v2.toNatClampNeg (S.1 (v2 + (1 : Int32)).toNatClampNeg)), (upd S.2.1 v2.toNatClampNeg (S.2.1 (v2 + (1 : Int32)).toNatClampNeg)), (upd S.2.2.1 v2.toNatClampNeg (S.2.2.1 (v2 + (1 : Int32)).toNatClampNeg)), (upd S.2.2.2.1 v2.toNatClampNeg (S.2.2.2.1 (v2 + (1 : Int32)).toNatClampNeg)), (upd S.2.2.2.2.1 v2.toNatClampNeg r90), S.2.2.2.2.2.1, S.2.2.2.2.2.2.1, S.2.2.2.2.2.2.2.1, S.2.2.2.2.2.2.2.2)
def fX1_dropTask (S : tw_St) (p1 : Int32) : Option (tw_St) :=
  fX1_dropTask_12 p1 512 p1 (S.1, S.2.1, S.2.2.1, S.2.2.2.1, S.2.2.2.2.1, S.2.2.2.2.2.1, S.2.2.2.2.2.2.1, (S.2.2.2.2.2.2.2.1 - (1 : Int32)), S.2.2.2.2.2.2.2.2)
def fX1_property (S : tw_St) (p1 : Int32) : Option (Nat) :=
  if p1 = 0 then
    some 1
  else if p1 = 1 then
    some 2
  else if p1 = 2 then
    some 3
  else if p1 = 3 then
    some 4
  else 
    some 5
def fX1_copyFrom_94 (O : tw_St)  : Nat → Int32 → tw_St → Option (tw_St)
  | 0, _, _ => none
  | n + 1, v2, S =>
    if (4 : Int32) ≤ v2 then
      some S
    else
      tw_g v2 4 <|
      tw_g v2 4 <|
      tw_g v2 4 <|
      tw_g v2 4 <|
      fX1_copyFrom_94 O n (v2 + 1) (S.1, S.2.1, S.2.2.1, S.2.2.2.1, S.2.2.2.2.1, (upd S.2.2.2.2.2.1 v2.toNatClampNeg (O.2.2.2.2.2.1 v2.toNatClampNeg)), (upd S.2.2.2.2.2.2.1 v2.toNatClampNeg (O.2.2.2.2.2.2.1 v2.toNatClampNeg)), S.2.2.2.2.2.2.2.1, S.2.2.2.2.2.2.2.2)
def fX1_copyFrom_18 (O : tw_St)  : Nat → Int32 → tw_St → Option (tw_St)
  | 0, _, _ => none
  | n + 1, v2, S =>
    if S.2.2.2.2.2.2.2.1 ≤ v2 then
      fX1_copyFrom_94 O 512 (0 : Int32) S
    else
      tw_g v2 12 <|
      tw_g v2 12 <|
      tw_g v2 12 <|
      tw_g v2 12 <|
      tw_g v2 12 <|
      tw_g v2 12 <|
      tw_g v2 12 <|
      tw_g v2 12 <|
      tw_g v2 12 <|
      tw_g v2 12 <|
      fX1_copyFrom_18 O n (v2 + 1) ((upd S.1 v2.toNatClampNeg (O.1 v2.toNatClampNeg)), (upd S.2.1 v2.toNatClampNeg (O.2.1 v2.toNatClampNeg)), (upd S.2.2.1 v2.toNatClampNeg (O.2.2.1 v2.toNatClampNeg)), (upd S.2.2.2.1 v2.toNatClampNeg (O.2.2.2.1 v2.toNatClampNeg)), (upd S.2.2.2.2.1 v2.toNatClampNeg (O.2.2.2.2.1 v2.toNatClampNeg)), S.2.2.2.2.2.1, S.2.2.2.2.2.2.1, S.2.2.2.2.2.2.2.1, S.2.2.2.2.2.2.2.2)
def fX1_copyFrom (S : tw_St) (O : tw_St)  : Option (tw_St) :=
  fX1_copyFrom_18 O 512 (0 : Int32) (S.1, S.2.1, S.2.2.1, S.2.2.2.1, S.2.2.2.2.1, S.2.2.2.2.2.1, S.2.2.2.2.2.2.1, O.2.2.2.2.2.2.2.1, O.2.2.2.2.2.2.2.2)
def fX0_startOf_10 (P : tw_Pl) (S : tw_St) (p2 : Int32)  : Nat → Int32 → Int32 → Option (Int32)
  | 0, _, _ => none
  | n + 1, v3, v4 =>
    if p2 ≤ v4 then
      some v3
    else
      tw_g v4 12 <|
      if (P.1 v4.toNatClampNeg) = (-1 : Int32) then
        fX0_startOf_10 P S p2 n v3 (v4 + 1)
      else
        (fX1_isNeeded S p2 v4).bind fun r31 =>
        if r31 = 0 then
          fX0_startOf_10 P S p2 n v3 (v4 + 1)
        else
          tw_g v4 12 <|
          tw_g v4 12 <|
          fX0_startOf_10 P S p2 n (if v3 < ((P.1 v4.toNatClampNeg) + (S.1 v4.toNatClampNeg)) then ((P.1 v4.toNatClampNeg) + (S.1 v4.toNatClampNeg)) else v3) (v4 + 1)
def fX0_startOf (P : tw_Pl) (S : tw_St) (p2 : Int32) : Option (Int32) :=
  tw_g p2 12 <|
  fX0_startOf_10 P S p2 512 (S.2.2.2.1 p2.toNatClampNeg) (0 : Int32)
def fX0_behindClash_13 (P : tw_Pl) (S : tw_St) (p2 : Int32) (p3 : Int32)  : Nat → Int32 → Int32 → Option (Int32)
  | 0, _, _ => none
  | n + 1, v4, v5 =>
    if S.2.2.2.2.2.2.2.1 ≤ v5 then
      some p3
    else
      tw_g v5 12 <|
      tw_g v5 12 <|
      if (P.1 v5.toNatClampNeg) = (-1 : Int32) then
        fX0_behindClash_13 P S p2 p3 n v4 (v5 + 1)
      else
        if v4 ≤ (P.1 v5.toNatClampNeg) then
          fX0_behindClash_13 P S p2 p3 n v4 (v5 + 1)
        else
          if ((P.1 v5.toNatClampNeg) + (S.1 v5.toNatClampNeg)) ≤ p3 then
            fX0_behindClash_13 P S p2 p3 n v4 (v5 + 1)
          else
            (fX1_share S p2 v5).bind fun r66 =>
            if r66 = 0 then
              fX0_behindClash_13 P S p2 p3 n v4 (v5 + 1)
            else
              some ((P.1 v5.toNatClampNeg) + (S.1 v5.toNatClampNeg))
def fX0_behindClash (P : tw_Pl) (S : tw_St) (p2 : Int32) (p3 : Int32) : Option (Int32) :=
  tw_g p2 12 <|
  fX0_behindClash_13 P S p2 p3 512 (p3 + (S.1 p2.toNatClampNeg)) (0 : Int32)
def fX0_firstDay_51 (P : tw_Pl) (S : tw_St) (p2 : Int32)  : Nat → Int32 → Int32 → Int32 → Option (Int32)
  | 0, _, _, _ => none
  | n + 1, v3, v4, v6 =>
    if (12 : Int32) ≤ v6 then
      some (-1 : Int32)
    else
      tw_g p2 12 <|
      if v4 < (v3 + (S.1 p2.toNatClampNeg)) then
        some (-1 : Int32)
      else
        (fX0_behindClash P S p2 v3).bind fun r75 =>
        if ¬ r75 = v3 then
          fX0_firstDay_51 P S p2 n r75 v4 (v6 + 1)
        else
          some v3
def fX0_firstDay (P : tw_Pl) (S : tw_St) (p2 : Int32) : Option (Int32) :=
  (fX0_startOf P S p2).bind fun r3 =>
  tw_g p2 12 <|
  if (S.2.2.1 p2.toNatClampNeg) = (-1 : Int32) then
    fX0_firstDay_51 P S p2 512 r3 (100 : Int32) (0 : Int32)
  else
    tw_g (S.2.2.1 p2.toNatClampNeg) 4 <|
    tw_g (S.2.2.1 p2.toNatClampNeg) 4 <|
    fX0_firstDay_51 P S p2 512 (if r3 < (S.2.2.2.2.2.1 (S.2.2.1 p2.toNatClampNeg).toNatClampNeg) then (S.2.2.2.2.2.1 (S.2.2.1 p2.toNatClampNeg).toNatClampNeg) else r3) ((S.2.2.2.2.2.2.1 (S.2.2.1 p2.toNatClampNeg).toNatClampNeg) + (1 : Int32)) (0 : Int32)
def fX0_firstByRule_55 (P : tw_Pl) (S : tw_St) (p2 : Int32) (k8 : Int32 → Int32 → Int32 → Option (Int32)) (t0 : Int32) (v3 : Int32) (v4 : Int32) (v5 : Int32) (v6 : Int32) : Option (Int32) :=
  if ¬ v6 = 0 then
    k8 v3 v4 (v5 + 1)
  else
    if t0 = 0 then
      k8 v3 v4 (v5 + 1)
    else
      tw_g v5 12 <|
      if (P.2.1 v5.toNatClampNeg) ≤ v4 then
        k8 v3 v4 (v5 + 1)
      else
        tw_g v5 12 <|
        k8 v5 (P.2.1 v5.toNatClampNeg) (v5 + 1)
def fX0_firstByRule_31 (P : tw_Pl) (S : tw_St) (p2 : Int32) (k8 : Int32 → Int32 → Int32 → Option (Int32)) (t0 : Int32) (v3 : Int32) (v4 : Int32) (v5 : Int32) : Option (Int32) :=
  tw_g v5 12 <|
  if ¬ ((S.2.2.2.2.1 v5.toNatClampNeg) &&& (P.2.2.1 ^^^ (-1 : Int32))) = 0 then
    fX0_firstByRule_55 P S p2 k8 (0 : Int32) v3 v4 v5 t0
  else
    fX0_firstByRule_55 P S p2 k8 (1 : Int32) v3 v4 v5 t0
def fX0_firstByRule_8 (P : tw_Pl) (S : tw_St) (p2 : Int32)  : Nat → Int32 → Int32 → Int32 → Option (Int32)
  | 0, _, _, _ => none
  | n + 1, v3, v4, v5 =>
    if S.2.2.2.2.2.2.2.1 ≤ v5 then
      some v3
    else
      if (p2 &&& ((1 : Int32) <<< (v5 &&& 31))) = 0 then
        fX0_firstByRule_31 P S p2 (fX0_firstByRule_8 P S p2 n) (0 : Int32) v3 v4 v5
      else
        fX0_firstByRule_31 P S p2 (fX0_firstByRule_8 P S p2 n) (1 : Int32) v3 v4 v5
def fX0_firstByRule (P : tw_Pl) (S : tw_St) (p2 : Int32) : Option (Int32) :=
  fX0_firstByRule_8 P S p2 512 (-1 : Int32) (-1 : Int32) (0 : Int32)
def fX0_lay_53 (S : tw_St)  : Nat → Int32 → Int32 → tw_Pl → Option (tw_Pl)
  | 0, _, _, _ => none
  | n + 1, v2, v3, P =>
    if S.2.2.2.2.2.2.2.1 ≤ v3 then
      some P
    else
      (fX0_firstByRule P S v2).bind fun r64 =>
      if ¬ r64 = (-1 : Int32) then
        (fX0_firstDay P S r64).bind fun r87 =>
        if r87 = (-1 : Int32) then
          fX0_lay_53 S n (v2 ||| ((1 : Int32) <<< (r64 &&& 31))) (v3 + 1) P
        else
          tw_g r64 12 <|
          tw_g r64 12 <|
          fX0_lay_53 S n (v2 ||| ((1 : Int32) <<< (r64 &&& 31))) (v3 + 1) ((upd P.1 r64.toNatClampNeg r87), P.2.1, (P.2.2.1 ||| ((1 : Int32) <<< (r64 &&& 31))), (P.2.2.2.1 + (1 : Int32)), (if P.2.2.2.2 < (r87 + (S.1 r64.toNatClampNeg)) then (r87 + (S.1 r64.toNatClampNeg)) else P.2.2.2.2))
      else
        some P
def fX0_lay_17 (S : tw_St)  : Nat → Int32 → tw_Pl → Option (tw_Pl)
  | 0, _, _ => none
  | n + 1, v2, P =>
    if S.2.2.2.2.2.2.2.1 ≤ v2 then
      fX0_lay_53 S 512 (0 : Int32) (0 : Int32) P
    else
      tw_g v2 12 <|
      (fX1_keyOf S v2).bind fun r39 =>
      tw_g v2 12 <|
      fX0_lay_17 S n (v2 + 1) ((upd P.1 v2.toNatClampNeg (-1 : Int32)), (upd P.2.1 v2.toNatClampNeg r39), P.2.2.1, P.2.2.2.1, P.2.2.2.2)
def fX0_lay (P : tw_Pl) (S : tw_St)  : Option (tw_Pl) :=
  fX0_lay_17 S 512 (0 : Int32) (P.1, P.2.1, (0 : Int32), (0 : Int32), (0 : Int32))
def fX0_waitOf (P : tw_Pl) (S : tw_St) (p2 : Int32) : Option (Int32) :=
  tw_g p2 12 <|
  if ¬ (P.1 p2.toNatClampNeg) = (-1 : Int32) then
    tw_g p2 12 <|
    (fX0_startOf P S p2).bind fun r23 =>
    some ((P.1 p2.toNatClampNeg) - r23)
  else
    some (0 : Int32)
def fX0_waitOfAll_4 (P : tw_Pl) (S : tw_St)  : Nat → Int32 → Int32 → Option (Int32)
  | 0, _, _ => none
  | n + 1, v2, v3 =>
    if S.2.2.2.2.2.2.2.1 ≤ v3 then
      some v2
    else
      (fX0_waitOf P S v3).bind fun r16 =>
      fX0_waitOfAll_4 P S n (v2 + r16) (v3 + 1)
def fX0_waitOfAll (P : tw_Pl) (S : tw_St)  : Option (Int32) :=
  fX0_waitOfAll_4 P S 512 (0 : Int32) (0 : Int32)
def fX0_lengthOfLaid_4 (P : tw_Pl) (S : tw_St)  : Nat → Int32 → Int32 → Option (Int32)
  | 0, _, _ => none
  | n + 1, v2, v3 =>
    if S.2.2.2.2.2.2.2.1 ≤ v3 then
      some v2
    else
      tw_g v3 12 <|
      if (P.1 v3.toNatClampNeg) = (-1 : Int32) then
        fX0_lengthOfLaid_4 P S n v2 (v3 + 1)
      else
        tw_g v3 12 <|
        fX0_lengthOfLaid_4 P S n (v2 + (S.1 v3.toNatClampNeg)) (v3 + 1)
def fX0_lengthOfLaid (P : tw_Pl) (S : tw_St)  : Option (Int32) :=
  fX0_lengthOfLaid_4 P S 512 (0 : Int32) (0 : Int32)
def fX0_daysIn_5 (P : tw_Pl) (S : tw_St) (p2 : Int32)  : Nat → Int32 → Int32 → Option (Int32)
  | 0, _, _ => none
  | n + 1, v3, v4 =>
    if S.2.2.2.2.2.2.2.1 ≤ v4 then
      some v3
    else
      tw_g v4 12 <|
      if (P.1 v4.toNatClampNeg) = (-1 : Int32) then
        fX0_daysIn_5 P S p2 n v3 (v4 + 1)
      else
        tw_g v4 12 <|
        if ¬ (S.2.2.1 v4.toNatClampNeg) = p2 then
          fX0_daysIn_5 P S p2 n v3 (v4 + 1)
        else
          tw_g v4 12 <|
          fX0_daysIn_5 P S p2 n (v3 + (S.1 v4.toNatClampNeg)) (v4 + 1)
def fX0_daysIn (P : tw_Pl) (S : tw_St) (p2 : Int32) : Option (Int32) :=
  fX0_daysIn_5 P S p2 512 (0 : Int32) (0 : Int32)
def fX0_tasksIn_5 (P : tw_Pl) (S : tw_St) (p2 : Int32)  : Nat → Int32 → Int32 → Option (Int32)
  | 0, _, _ => none
  | n + 1, v3, v4 =>
    if S.2.2.2.2.2.2.2.1 ≤ v4 then
      some v3
    else
      tw_g v4 12 <|
      if (P.1 v4.toNatClampNeg) = (-1 : Int32) then
        fX0_tasksIn_5 P S p2 n v3 (v4 + 1)
      else
        tw_g v4 12 <|
        if ¬ (S.2.2.1 v4.toNatClampNeg) = p2 then
          fX0_tasksIn_5 P S p2 n v3 (v4 + 1)
        else
          fX0_tasksIn_5 P S p2 n (v3 + 1) (v4 + 1)
def fX0_tasksIn (P : tw_Pl) (S : tw_St) (p2 : Int32) : Option (Int32) :=
  fX0_tasksIn_5 P S p2 512 (0 : Int32) (0 : Int32)
def fX0_taskOnP_3 (P : tw_Pl) (S : tw_St) (p3 : Int32) (p4 : Int32)  : Nat → Int32 → Option (Int32)
  | 0, _ => none
  | n + 1, v5 =>
    if S.2.2.2.2.2.2.2.1 ≤ v5 then
      some (-1 : Int32)
    else
      tw_g v5 12 <|
      if (P.1 v5.toNatClampNeg) = (-1 : Int32) then
        fX0_taskOnP_3 P S p3 p4 n (v5 + 1)
      else
        tw_g v5 12 <|
        if ¬ (S.2.1 v5.toNatClampNeg) = p3 then
          fX0_taskOnP_3 P S p3 p4 n (v5 + 1)
        else
          if p4 < (P.1 v5.toNatClampNeg) then
            fX0_taskOnP_3 P S p3 p4 n (v5 + 1)
          else
            tw_g v5 12 <|
            if ((P.1 v5.toNatClampNeg) + (S.1 v5.toNatClampNeg)) ≤ p4 then
              fX0_taskOnP_3 P S p3 p4 n (v5 + 1)
            else
              some v5
def fX0_taskOnP (P : tw_Pl) (S : tw_St) (p3 : Int32) (p4 : Int32) : Option (Int32) :=
  fX0_taskOnP_3 P S p3 p4 512 (0 : Int32)
def fX0_taskOnH_3 (P : tw_Pl) (S : tw_St) (p3 : Int32) (p4 : Int32)  : Nat → Int32 → Option (Int32)
  | 0, _ => none
  | n + 1, v5 =>
    if S.2.2.2.2.2.2.2.1 ≤ v5 then
      some (-1 : Int32)
    else
      tw_g v5 12 <|
      if (P.1 v5.toNatClampNeg) = (-1 : Int32) then
        fX0_taskOnH_3 P S p3 p4 n (v5 + 1)
      else
        tw_g v5 12 <|
        if ¬ (S.2.2.1 v5.toNatClampNeg) = p3 then
          fX0_taskOnH_3 P S p3 p4 n (v5 + 1)
        else
          if p4 < (P.1 v5.toNatClampNeg) then
            fX0_taskOnH_3 P S p3 p4 n (v5 + 1)
          else
            tw_g v5 12 <|
            if ((P.1 v5.toNatClampNeg) + (S.1 v5.toNatClampNeg)) ≤ p4 then
              fX0_taskOnH_3 P S p3 p4 n (v5 + 1)
            else
              some v5
def fX0_taskOnH (P : tw_Pl) (S : tw_St) (p3 : Int32) (p4 : Int32) : Option (Int32) :=
  fX0_taskOnH_3 P S p3 p4 512 (0 : Int32)
def fX3_isLength  (p0 : Int32) : Option (Int32) :=
  if p0 < (1 : Int32) then
    some (0 : Int32)
  else
    if (9 : Int32) < p0 then
      some (0 : Int32)
    else
      some (1 : Int32)
def fX3_isPerson  (p0 : Int32) : Option (Int32) :=
  if p0 < 0 then
    some (0 : Int32)
  else
    if (6 : Int32) ≤ p0 then
      some (0 : Int32)
    else
      some (1 : Int32)
def fX3_isHall  (p0 : Int32) : Option (Int32) :=
  if p0 < 0 then
    some (0 : Int32)
  else
    if (4 : Int32) ≤ p0 then
      some (0 : Int32)
    else
      some (1 : Int32)
def fX3_isDay  (p0 : Int32) : Option (Int32) :=
  if p0 < 0 then
    some (0 : Int32)
  else
    if (100 : Int32) ≤ p0 then
      some (0 : Int32)
    else
      some (1 : Int32)
def fX3_isRule  (p0 : Int32) : Option (Int32) :=
  if p0 < 0 then
    some (0 : Int32)
  else
    if (4 : Int32) ≤ p0 then
      some (0 : Int32)
    else
      some (1 : Int32)
def fX3_isSlip  (p0 : Int32) : Option (Int32) :=
  if p0 < (1 : Int32) then
    some (0 : Int32)
  else
    if (20 : Int32) < p0 then
      some (0 : Int32)
    else
      some (1 : Int32)
def fX3_isPersonOrNone  (p0 : Int32) : Option (Int32) :=
  if p0 = (-1 : Int32) then
    some (1 : Int32)
  else
    (fX3_isPerson p0).bind fun r6 =>
    if r6 = 0 then
      some (0 : Int32)
    else
      some (1 : Int32)
def fX3_isHallOrNone  (p0 : Int32) : Option (Int32) :=
  if p0 = (-1 : Int32) then
    some (1 : Int32)
  else
    (fX3_isHall p0).bind fun r6 =>
    if r6 = 0 then
      some (0 : Int32)
    else
      some (1 : Int32)
def fX3_isValue  (p0 : Int32) (p1 : Int32) : Option (Int32) :=
  if p0 = 0 then
    (fX3_isLength p1).bind fun r33 =>
    tw_q (r33 = 0 ∨ r33 = 1) <|
    some r33
  else if p0 = 1 then
    (fX3_isPersonOrNone p1).bind fun r38 =>
    tw_q (r38 = 0 ∨ r38 = 1) <|
    some r38
  else if p0 = 2 then
    (fX3_isHallOrNone p1).bind fun r43 =>
    tw_q (r43 = 0 ∨ r43 = 1) <|
    some r43
  else if p0 = 3 then
    if p1 < 0 then
      some (0 : Int32)
    else
      if (60 : Int32) < p1 then
        some (0 : Int32)
      else
        some (1 : Int32)
  else 
    some (0 : Int32)
def fX3_isTask (Y : tw_Wl) (p1 : Int32) : Option (Int32) :=
  if p1 < 0 then
    some (0 : Int32)
  else
    if Y.1.2.2.2.2.2.2.2.1 ≤ p1 then
      some (0 : Int32)
    else
      some (1 : Int32)
def fX3_couldSlip (Y : tw_Wl) (p1 : Int32) (p2 : Int32) : Option (Int32) :=
  tw_g p1 12 <|
  if (Y.2.1.1 p1.toNatClampNeg) = (-1 : Int32) then
    some (0 : Int32)
  else
    if (60 : Int32) < ((Y.2.1.1 p1.toNatClampNeg) + p2) then
      some (0 : Int32)
    else
      some (1 : Int32)
def fX3_tryRule (Y : tw_Wl) (p1 : Int32) : Option (tw_Wl) :=
  (fX1_copyFrom Y.2.2.1 Y.1).bind fun r8 =>
  (fX0_lay Y.2.2.2.1 (r8.1, r8.2.1, r8.2.2.1, r8.2.2.2.1, r8.2.2.2.2.1, r8.2.2.2.2.2.1, r8.2.2.2.2.2.2.1, r8.2.2.2.2.2.2.2.1, p1)).bind fun r27 =>
  some (Y.1, Y.2.1, (r8.1, r8.2.1, r8.2.2.1, r8.2.2.2.1, r8.2.2.2.2.1, r8.2.2.2.2.2.1, r8.2.2.2.2.2.2.1, r8.2.2.2.2.2.2.2.1, p1), r27, Y.2.2.2.2.1, Y.2.2.2.2.2.1, Y.2.2.2.2.2.2.1, Y.2.2.2.2.2.2.2.1, Y.2.2.2.2.2.2.2.2)
def fX3_slackOf_31 (p1 : Int32)  : Nat → Int32 → Int32 → tw_Wl → Option (Int32 × tw_Wl)
  | 0, _, _, _ => none
  | n + 1, v2, v3, Y =>
    if v3 ≤ 0 then
      some ((0 : Int32), Y)
    else
      tw_g p1 12 <|
      (fX0_lay Y.2.2.2.1 (Y.2.2.1.1, Y.2.2.1.2.1, Y.2.2.1.2.2.1, (upd Y.2.2.1.2.2.2.1 p1.toNatClampNeg (v2 + v3)), Y.2.2.1.2.2.2.2.1, Y.2.2.1.2.2.2.2.2.1, Y.2.2.1.2.2.2.2.2.2.1, Y.2.2.1.2.2.2.2.2.2.2.1, Y.2.2.1.2.2.2.2.2.2.2.2)).bind fun r55 =>
      if r55.2.2.2.1 < Y.2.1.2.2.2.1 then
        fX3_slackOf_31 p1 n v2 (v3 + (-1)) (Y.1, Y.2.1, (Y.2.2.1.1, Y.2.2.1.2.1, Y.2.2.1.2.2.1, (upd Y.2.2.1.2.2.2.1 p1.toNatClampNeg (v2 + v3)), Y.2.2.1.2.2.2.2.1, Y.2.2.1.2.2.2.2.2.1, Y.2.2.1.2.2.2.2.2.2.1, Y.2.2.1.2.2.2.2.2.2.2.1, Y.2.2.1.2.2.2.2.2.2.2.2), r55, Y.2.2.2.2.1, Y.2.2.2.2.2.1, Y.2.2.2.2.2.2.1, Y.2.2.2.2.2.2.2.1, Y.2.2.2.2.2.2.2.2)
      else
        if Y.2.1.2.2.2.2 < r55.2.2.2.2 then
          fX3_slackOf_31 p1 n v2 (v3 + (-1)) (Y.1, Y.2.1, (Y.2.2.1.1, Y.2.2.1.2.1, Y.2.2.1.2.2.1, (upd Y.2.2.1.2.2.2.1 p1.toNatClampNeg (v2 + v3)), Y.2.2.1.2.2.2.2.1, Y.2.2.1.2.2.2.2.2.1, Y.2.2.1.2.2.2.2.2.2.1, Y.2.2.1.2.2.2.2.2.2.2.1, Y.2.2.1.2.2.2.2.2.2.2.2), r55, Y.2.2.2.2.1, Y.2.2.2.2.2.1, Y.2.2.2.2.2.2.1, Y.2.2.2.2.2.2.2.1, Y.2.2.2.2.2.2.2.2)
        else
          some (v3, (Y.1, Y.2.1, (Y.2.2.1.1, Y.2.2.1.2.1, Y.2.2.1.2.2.1, (upd Y.2.2.1.2.2.2.1 p1.toNatClampNeg (v2 + v3)), Y.2.2.1.2.2.2.2.1, Y.2.2.1.2.2.2.2.2.1, Y.2.2.1.2.2.2.2.2.2.1, Y.2.2.1.2.2.2.2.2.2.2.1, Y.2.2.1.2.2.2.2.2.2.2.2), r55, Y.2.2.2.2.1, Y.2.2.2.2.2.1, Y.2.2.2.2.2.2.1, Y.2.2.2.2.2.2.2.1, Y.2.2.2.2.2.2.2.2))
def fX3_slackOf (Y : tw_Wl) (p1 : Int32) : Option (Int32 × tw_Wl) :=
  tw_g p1 12 <|
  if ¬ (Y.2.1.1 p1.toNatClampNeg) = (-1 : Int32) then
    (fX1_copyFrom Y.2.2.1 Y.1).bind fun r25 =>
    fX3_slackOf_31 p1 512 (Y.2.1.1 p1.toNatClampNeg) (30 : Int32) (Y.1, Y.2.1, r25, Y.2.2.2.1, Y.2.2.2.2.1, Y.2.2.2.2.2.1, Y.2.2.2.2.2.2.1, Y.2.2.2.2.2.2.2.1, Y.2.2.2.2.2.2.2.2)
  else
    some ((-1 : Int32), Y)
def fX3_criticalTasks_4   : Nat → Int32 → Int32 → tw_Wl → Option (Int32 × tw_Wl)
  | 0, _, _, _ => none
  | n + 1, v1, v2, Y =>
    if Y.1.2.2.2.2.2.2.2.1 ≤ v2 then
      some (v1, Y)
    else
      (fX3_slackOf Y v2).bind fun r17 =>
      if ¬ r17.1 = 0 then
        fX3_criticalTasks_4 n v1 (v2 + 1) r17.2
      else
        fX3_criticalTasks_4 n (v1 + 1) (v2 + 1) r17.2
def fX3_criticalTasks (Y : tw_Wl)  : Option (Int32 × tw_Wl) :=
  fX3_criticalTasks_4 512 (0 : Int32) (0 : Int32) Y
def fX3_longestRow_20  (k4 : Int32 → Int32 → tw_Wl → Option (Int32 × tw_Wl)) : Nat → Int32 → Int32 → Int32 → Int32 → tw_Wl → Option (Int32 × tw_Wl)
  | 0, _, _, _, _, _ => none
  | n + 1, v1, v2, v3, v4, Y =>
    if v2 ≤ v4 then
      tw_g v2 12 <|
      tw_g v2 12 <|
      tw_g v2 12 <|
      k4 (if v1 < ((upd Y.2.2.2.2.2.1 v2.toNatClampNeg (v3 + (Y.1.1 v2.toNatClampNeg))) v2.toNatClampNeg) then ((upd Y.2.2.2.2.2.1 v2.toNatClampNeg (v3 + (Y.1.1 v2.toNatClampNeg))) v2.toNatClampNeg) else v1) (v2 + 1) (Y.1, Y.2.1, Y.2.2.1, Y.2.2.2.1, Y.2.2.2.2.1, (upd Y.2.2.2.2.2.1 v2.toNatClampNeg (v3 + (Y.1.1 v2.toNatClampNeg))), Y.2.2.2.2.2.2.1, Y.2.2.2.2.2.2.2.1, Y.2.2.2.2.2.2.2.2)
    else
      (fX1_isNeeded Y.1 v2 v4).bind fun r33 =>
      if r33 = 0 then
        fX3_longestRow_20 k4 n v1 v2 v3 (v4 + 1) Y
      else
        tw_g v4 12 <|
        fX3_longestRow_20 k4 n v1 v2 (if v3 < (Y.2.2.2.2.2.1 v4.toNatClampNeg) then (Y.2.2.2.2.2.1 v4.toNatClampNeg) else v3) (v4 + 1) Y
def fX3_longestRow_4   : Nat → Int32 → Int32 → tw_Wl → Option (Int32 × tw_Wl)
  | 0, _, _, _ => none
  | n + 1, v1, v2, Y =>
    if Y.1.2.2.2.2.2.2.2.1 ≤ v2 then
      some (v1, Y)
    else
      fX3_longestRow_20 (fX3_longestRow_4 n) 512 v1 v2 (0 : Int32) (0 : Int32) Y
def fX3_longestRow (Y : tw_Wl)  : Option (Int32 × tw_Wl) :=
  fX3_longestRow_4 512 (0 : Int32) (0 : Int32) Y
def fX3_dropOldest (Y : tw_Wl)  : Option (tw_Wl) :=
  tw_q ((Y.2.2.2.2.2.2.2.2 (0 : Int32).toNatClampNeg) < 6) <|
  tw_q ((Y.2.2.2.2.2.2.2.2 (1 : Int32).toNatClampNeg) < 6) <|
  tw_q (((va_up Y.2.2.2.2.2.2.2.2 ((1 : Int32) - (1 : Int32)).toNatClampNeg (Y.2.2.2.2.2.2.2.2 (1 : Int32).toNatClampNeg)) ((1 : Int32) + 1).toNatClampNeg) < 6) <|
  tw_q (((va_up (va_up Y.2.2.2.2.2.2.2.2 ((1 : Int32) - (1 : Int32)).toNatClampNeg (Y.2.2.2.2.2.2.2.2 (1 : Int32).toNatClampNeg)) (((1 : Int32) + 1) - (1 : Int32)).toNatClampNeg ((va_up Y.2.2.2.2.2.2.2.2 ((1 : Int32) - (1 : Int32)).toNatClampNeg (Y.2.2.2.2.2.2.2.2 (1 : Int32).toNatClampNeg)) ((1 : Int32) + 1).toNatClampNeg)) (((1 : Int32) + 1) + 1).toNatClampNeg) < 6) <|
  tw_q (((va_up (va_up (va_up Y.2.2.2.2.2.2.2.2 ((1 : Int32) - (1 : Int32)).toNatClampNeg (Y.2.2.2.2.2.2.2.2 (1 : Int32).toNatClampNeg)) (((1 : Int32) + 1) - (1 : Int32)).toNatClampNeg ((va_up Y.2.2.2.2.2.2.2.2 ((1 : Int32) - (1 : Int32)).toNatClampNeg (Y.2.2.2.2.2.2.2.2 (1 : Int32).toNatClampNeg)) ((1 : Int32) + 1).toNatClampNeg)) ((((1 : Int32) + 1) + 1) - (1 : Int32)).toNatClampNeg ((va_up (va_up Y.2.2.2.2.2.2.2.2 ((1 : Int32) - (1 : Int32)).toNatClampNeg (Y.2.2.2.2.2.2.2.2 (1 : Int32).toNatClampNeg)) (((1 : Int32) + 1) - (1 : Int32)).toNatClampNeg ((va_up Y.2.2.2.2.2.2.2.2 ((1 : Int32) - (1 : Int32)).toNatClampNeg (Y.2.2.2.2.2.2.2.2 (1 : Int32).toNatClampNeg)) ((1 : Int32) + 1).toNatClampNeg)) (((1 : Int32) + 1) + 1).toNatClampNeg)) ((((1 : Int32) + 1) + 1) + 1).toNatClampNeg) < 6) <|
  tw_q (((va_up (va_up (va_up (va_up Y.2.2.2.2.2.2.2.2 ((1 : Int32) - (1 : Int32)).toNatClampNeg (Y.2.2.2.2.2.2.2.2 (1 : Int32).toNatClampNeg)) (((1 : Int32) + 1) - (1 : Int32)).toNatClampNeg ((va_up Y.2.2.2.2.2.2.2.2 ((1 : Int32) - (1 : Int32)).toNatClampNeg (Y.2.2.2.2.2.2.2.2 (1 : Int32).toNatClampNeg)) ((1 : Int32) + 1).toNatClampNeg)) ((((1 : Int32) + 1) + 1) - (1 : Int32)).toNatClampNeg ((va_up (va_up Y.2.2.2.2.2.2.2.2 ((1 : Int32) - (1 : Int32)).toNatClampNeg (Y.2.2.2.2.2.2.2.2 (1 : Int32).toNatClampNeg)) (((1 : Int32) + 1) - (1 : Int32)).toNatClampNeg ((va_up Y.2.2.2.2.2.2.2.2 ((1 : Int32) - (1 : Int32)).toNatClampNeg (Y.2.2.2.2.2.2.2.2 (1 : Int32).toNatClampNeg)) ((1 : Int32) + 1).toNatClampNeg)) (((1 : Int32) + 1) + 1).toNatClampNeg)) (((((1 : Int32) + 1) + 1) + 1) - (1 : Int32)).toNatClampNeg ((va_up (va_up (va_up Y.2.2.2.2.2.2.2.2 ((1 : Int32) - (1 : Int32)).toNatClampNeg (Y.2.2.2.2.2.2.2.2 (1 : Int32).toNatClampNeg)) (((1 : Int32) + 1) - (1 : Int32)).toNatClampNeg ((va_up Y.2.2.2.2.2.2.2.2 ((1 : Int32) - (1 : Int32)).toNatClampNeg (Y.2.2.2.2.2.2.2.2 (1 : Int32).toNatClampNeg)) ((1 : Int32) + 1).toNatClampNeg)) ((((1 : Int32) + 1) + 1) - (1 : Int32)).toNatClampNeg ((va_up (va_up Y.2.2.2.2.2.2.2.2 ((1 : Int32) - (1 : Int32)).toNatClampNeg (Y.2.2.2.2.2.2.2.2 (1 : Int32).toNatClampNeg)) (((1 : Int32) + 1) - (1 : Int32)).toNatClampNeg ((va_up Y.2.2.2.2.2.2.2.2 ((1 : Int32) - (1 : Int32)).toNatClampNeg (Y.2.2.2.2.2.2.2.2 (1 : Int32).toNatClampNeg)) ((1 : Int32) + 1).toNatClampNeg)) (((1 : Int32) + 1) + 1).toNatClampNeg)) ((((1 : Int32) + 1) + 1) + 1).toNatClampNeg)) (((((1 : Int32) + 1) + 1) + 1) + 1).toNatClampNeg) < 6) <|
  some (Y.1, Y.2.1, Y.2.2.1, Y.2.2.2.1, Y.2.2.2.2.1, Y.2.2.2.2.2.1, (5 : Int32), Y.2.2.2.2.2.2.2.1, (va_up (va_up (va_up (va_up (va_up (va_up Y.2.2.2.2.2.2.2.2 ((1 : Int32) - (1 : Int32)).toNatClampNeg (Y.2.2.2.2.2.2.2.2 (1 : Int32).toNatClampNeg)) (((1 : Int32) + 1) - (1 : Int32)).toNatClampNeg ((va_up Y.2.2.2.2.2.2.2.2 ((1 : Int32) - (1 : Int32)).toNatClampNeg (Y.2.2.2.2.2.2.2.2 (1 : Int32).toNatClampNeg)) ((1 : Int32) + 1).toNatClampNeg)) ((((1 : Int32) + 1) + 1) - (1 : Int32)).toNatClampNeg ((va_up (va_up Y.2.2.2.2.2.2.2.2 ((1 : Int32) - (1 : Int32)).toNatClampNeg (Y.2.2.2.2.2.2.2.2 (1 : Int32).toNatClampNeg)) (((1 : Int32) + 1) - (1 : Int32)).toNatClampNeg ((va_up Y.2.2.2.2.2.2.2.2 ((1 : Int32) - (1 : Int32)).toNatClampNeg (Y.2.2.2.2.2.2.2.2 (1 : Int32).toNatClampNeg)) ((1 : Int32) + 1).toNatClampNeg)) (((1 : Int32) + 1) + 1).toNatClampNeg)) (((((1 : Int32) + 1) + 1) + 1) - (1 : Int32)).toNatClampNeg ((va_up (va_up (va_up Y.2.2.2.2.2.2.2.2 ((1 : Int32) - (1 : Int32)).toNatClampNeg (Y.2.2.2.2.2.2.2.2 (1 : Int32).toNatClampNeg)) (((1 : Int32) + 1) - (1 : Int32)).toNatClampNeg ((va_up Y.2.2.2.2.2.2.2.2 ((1 : Int32) - (1 : Int32)).toNatClampNeg (Y.2.2.2.2.2.2.2.2 (1 : Int32).toNatClampNeg)) ((1 : Int32) + 1).toNatClampNeg)) ((((1 : Int32) + 1) + 1) - (1 : Int32)).toNatClampNeg ((va_up (va_up Y.2.2.2.2.2.2.2.2 ((1 : Int32) - (1 : Int32)).toNatClampNeg (Y.2.2.2.2.2.2.2.2 (1 : Int32).toNatClampNeg)) (((1 : Int32) + 1) - (1 : Int32)).toNatClampNeg ((va_up Y.2.2.2.2.2.2.2.2 ((1 : Int32) - (1 : Int32)).toNatClampNeg (Y.2.2.2.2.2.2.2.2 (1 : Int32).toNatClampNeg)) ((1 : Int32) + 1).toNatClampNeg)) (((1 : Int32) + 1) + 1).toNatClampNeg)) ((((1 : Int32) + 1) + 1) + 1).toNatClampNeg)) ((((((1 : Int32) + 1) + 1) + 1) + 1) - (1 : Int32)).toNatClampNeg ((va_up (va_up (va_up (va_up Y.2.2.2.2.2.2.2.2 ((1 : Int32) - (1 : Int32)).toNatClampNeg (Y.2.2.2.2.2.2.2.2 (1 : Int32).toNatClampNeg)) (((1 : Int32) + 1) - (1 : Int32)).toNatClampNeg ((va_up Y.2.2.2.2.2.2.2.2 ((1 : Int32) - (1 : Int32)).toNatClampNeg (Y.2.2.2.2.2.2.2.2 (1 : Int32).toNatClampNeg)) ((1 : Int32) + 1).toNatClampNeg)) ((((1 : Int32) + 1) + 1) - (1 : Int32)).toNatClampNeg ((va_up (va_up Y.2.2.2.2.2.2.2.2 ((1 : Int32) - (1 : Int32)).toNatClampNeg (Y.2.2.2.2.2.2.2.2 (1 : Int32).toNatClampNeg)) (((1 : Int32) + 1) - (1 : Int32)).toNatClampNeg ((va_up Y.2.2.2.2.2.2.2.2 ((1 : Int32) - (1 : Int32)).toNatClampNeg (Y.2.2.2.2.2.2.2.2 (1 : Int32).toNatClampNeg)) ((1 : Int32) + 1).toNatClampNeg)) (((1 : Int32) + 1) + 1).toNatClampNeg)) (((((1 : Int32) + 1) + 1) + 1) - (1 : Int32)).toNatClampNeg ((va_up (va_up (va_up Y.2.2.2.2.2.2.2.2 ((1 : Int32) - (1 : Int32)).toNatClampNeg (Y.2.2.2.2.2.2.2.2 (1 : Int32).toNatClampNeg)) (((1 : Int32) + 1) - (1 : Int32)).toNatClampNeg ((va_up Y.2.2.2.2.2.2.2.2 ((1 : Int32) - (1 : Int32)).toNatClampNeg (Y.2.2.2.2.2.2.2.2 (1 : Int32).toNatClampNeg)) ((1 : Int32) + 1).toNatClampNeg)) ((((1 : Int32) + 1) + 1) - (1 : Int32)).toNatClampNeg ((va_up (va_up Y.2.2.2.2.2.2.2.2 ((1 : Int32) - (1 : Int32)).toNatClampNeg (Y.2.2.2.2.2.2.2.2 (1 : Int32).toNatClampNeg)) (((1 : Int32) + 1) - (1 : Int32)).toNatClampNeg ((va_up Y.2.2.2.2.2.2.2.2 ((1 : Int32) - (1 : Int32)).toNatClampNeg (Y.2.2.2.2.2.2.2.2 (1 : Int32).toNatClampNeg)) ((1 : Int32) + 1).toNatClampNeg)) (((1 : Int32) + 1) + 1).toNatClampNeg)) ((((1 : Int32) + 1) + 1) + 1).toNatClampNeg)) (((((1 : Int32) + 1) + 1) + 1) + 1).toNatClampNeg)) (5 : Int32).toNatClampNeg (Y.2.2.2.2.2.2.2.2 (0 : Int32).toNatClampNeg)))
def fX3_saveState_13   (Y : tw_Wl) : Option (tw_Wl) :=
  tw_g Y.2.2.2.2.2.2.1 6 <|
  tw_q ((Y.2.2.2.2.2.2.2.2 Y.2.2.2.2.2.2.1.toNatClampNeg) < 6) <|
  (fX1_copyFrom (Y.2.2.2.2.2.2.2.1 (Y.2.2.2.2.2.2.2.2 Y.2.2.2.2.2.2.1.toNatClampNeg)) Y.1).bind fun r26 =>
  some (Y.1, Y.2.1, Y.2.2.1, Y.2.2.2.1, Y.2.2.2.2.1, Y.2.2.2.2.2.1, (Y.2.2.2.2.2.2.1 + (1 : Int32)), (va_up Y.2.2.2.2.2.2.2.1 (Y.2.2.2.2.2.2.2.2 Y.2.2.2.2.2.2.1.toNatClampNeg) r26), Y.2.2.2.2.2.2.2.2)
def fX3_saveState (Y : tw_Wl)  : Option (tw_Wl) :=
  if Y.2.2.2.2.2.2.1 < (6 : Int32) then
    fX3_saveState_13 Y
  else
    (fX3_dropOldest Y).bind fun r10 =>
    fX3_saveState_13 r10
def fX3_add (Y : tw_Wl) (p1 : Int32) (p2 : Int32) (p3 : Int32) : Option (Nat × Int32 × tw_Wl) :=
  (fX3_isLength p1).bind fun r1 =>
  if r1 = 0 then
    some (1, 0, Y)
  else
    (fX3_isPersonOrNone p2).bind fun r8 =>
    if r8 = 0 then
      some (1, 0, Y)
    else
      (fX3_isHallOrNone p3).bind fun r15 =>
      if ¬ r15 = 0 then
        if Y.1.2.2.2.2.2.2.2.1 < (12 : Int32) then
          (fX3_saveState Y).bind fun r50 =>
          (fX1_appendTask r50.1 p1 p2 p3).bind fun r60 =>
          (fX0_lay r50.2.1 r60).bind fun r71 =>
          some (0, (r60.2.2.2.2.2.2.2.1 - (1 : Int32)), (r60, r71, r50.2.2.1, r50.2.2.2.1, r50.2.2.2.2.1, r50.2.2.2.2.2.1, r50.2.2.2.2.2.2.1, r50.2.2.2.2.2.2.2.1, r50.2.2.2.2.2.2.2.2))
        else
          some (2, 0, Y)
      else
        some (1, 0, Y)
def fX3_remove (Y : tw_Wl) (p1 : Int32) : Option (Nat × Int32 × tw_Wl) :=
  (fX3_isTask Y p1).bind fun r2 =>
  if ¬ r2 = 0 then
    (fX1_followers Y.1 p1).bind fun r21 =>
    (fX3_saveState Y).bind fun r26 =>
    (fX1_dropTask r26.1 p1).bind fun r34 =>
    (fX0_lay r26.2.1 r34).bind fun r45 =>
    some (0, r21, (r34, r45, r26.2.2.1, r26.2.2.2.1, r26.2.2.2.2.1, r26.2.2.2.2.2.1, r26.2.2.2.2.2.2.1, r26.2.2.2.2.2.2.2.1, r26.2.2.2.2.2.2.2.2))
  else
    some (3, 0, Y)
def fX3_need_99 (p1 : Int32) (p2 : Int32) (p3 : Int32)  (v4 : Int32) (Y : tw_Wl) : Option (Nat × Int32 × tw_Wl) :=
  (fX0_lay Y.2.1 Y.1).bind fun r107 =>
  some (0, v4, (Y.1, r107, Y.2.2.1, Y.2.2.2.1, Y.2.2.2.2.1, Y.2.2.2.2.2.1, Y.2.2.2.2.2.2.1, Y.2.2.2.2.2.2.2.1, Y.2.2.2.2.2.2.2.2))
def fX3_need_54 (p1 : Int32) (p2 : Int32) (p3 : Int32)  (t0 : Int32) (Y : tw_Wl) : Option (Nat × Int32 × tw_Wl) :=
  (fX3_saveState Y).bind fun r57 =>
  if p3 = 0 then
    tw_g p1 12 <|
    tw_g p1 12 <|
    fX3_need_99 p1 p2 p3 t0 ((r57.1.1, r57.1.2.1, r57.1.2.2.1, r57.1.2.2.2.1, (upd r57.1.2.2.2.2.1 p1.toNatClampNeg ((r57.1.2.2.2.2.1 p1.toNatClampNeg) &&& (((1 : Int32) <<< (p2 &&& 31)) ^^^ (-1 : Int32)))), r57.1.2.2.2.2.2.1, r57.1.2.2.2.2.2.2.1, r57.1.2.2.2.2.2.2.2.1, r57.1.2.2.2.2.2.2.2.2), r57.2.1, r57.2.2.1, r57.2.2.2.1, r57.2.2.2.2.1, r57.2.2.2.2.2.1, r57.2.2.2.2.2.2.1, r57.2.2.2.2.2.2.2.1, r57.2.2.2.2.2.2.2.2)
  else
    tw_g p1 12 <|
    tw_g p1 12 <|
    fX3_need_99 p1 p2 p3 t0 ((r57.1.1, r57.1.2.1, r57.1.2.2.1, r57.1.2.2.2.1, (upd r57.1.2.2.2.2.1 p1.toNatClampNeg ((r57.1.2.2.2.2.1 p1.toNatClampNeg) ||| ((1 : Int32) <<< (p2 &&& 31)))), r57.1.2.2.2.2.2.1, r57.1.2.2.2.2.2.2.1, r57.1.2.2.2.2.2.2.2.1, r57.1.2.2.2.2.2.2.2.2), r57.2.1, r57.2.2.1, r57.2.2.2.1, r57.2.2.2.2.1, r57.2.2.2.2.2.1, r57.2.2.2.2.2.2.1, r57.2.2.2.2.2.2.2.1, r57.2.2.2.2.2.2.2.2)
def fX3_need (Y : tw_Wl) (p1 : Int32) (p2 : Int32) (p3 : Int32) : Option (Nat × Int32 × tw_Wl) :=
  (fX3_isTask Y p1).bind fun r2 =>
  if r2 = 0 then
    some (3, 0, Y)
  else
    (fX3_isTask Y p2).bind fun r10 =>
    if ¬ r10 = 0 then
      if p2 < p1 then
        (fX1_isNeeded Y.1 p1 p2).bind fun r43 =>
        if r43 = 0 then
          fX3_need_54 p1 p2 p3 (0 : Int32) Y
        else
          fX3_need_54 p1 p2 p3 (1 : Int32) Y
      else
        some (1, 0, Y)
    else
      some (3, 0, Y)
def fX3_change (Y : tw_Wl) (p1 : Int32) (p2 : Int32) (p3 : Int32) : Option (Nat × Int32 × tw_Wl) :=
  (fX3_isTask Y p1).bind fun r2 =>
  if ¬ r2 = 0 then
    (fX3_isValue p2 p3).bind fun r18 =>
    if ¬ r18 = 0 then
      (fX3_saveState Y).bind fun r33 =>
      (fX1_property r33.1 p2).bind fun r41 =>
      if r41 = 1 then
        tw_g p1 12 <|
        tw_g p1 12 <|
        (fX0_lay r33.2.1 ((upd r33.1.1 p1.toNatClampNeg p3), r33.1.2.1, r33.1.2.2.1, r33.1.2.2.2.1, r33.1.2.2.2.2.1, r33.1.2.2.2.2.2.1, r33.1.2.2.2.2.2.2.1, r33.1.2.2.2.2.2.2.2.1, r33.1.2.2.2.2.2.2.2.2)).bind fun r65 =>
        some (0, (r33.1.1 p1.toNatClampNeg), (((upd r33.1.1 p1.toNatClampNeg p3), r33.1.2.1, r33.1.2.2.1, r33.1.2.2.2.1, r33.1.2.2.2.2.1, r33.1.2.2.2.2.2.1, r33.1.2.2.2.2.2.2.1, r33.1.2.2.2.2.2.2.2.1, r33.1.2.2.2.2.2.2.2.2), r65, r33.2.2.1, r33.2.2.2.1, r33.2.2.2.2.1, r33.2.2.2.2.2.1, r33.2.2.2.2.2.2.1, r33.2.2.2.2.2.2.2.1, r33.2.2.2.2.2.2.2.2))
      else if r41 = 2 then
        tw_g p1 12 <|
        tw_g p1 12 <|
        (fX0_lay r33.2.1 (r33.1.1, (upd r33.1.2.1 p1.toNatClampNeg p3), r33.1.2.2.1, r33.1.2.2.2.1, r33.1.2.2.2.2.1, r33.1.2.2.2.2.2.1, r33.1.2.2.2.2.2.2.1, r33.1.2.2.2.2.2.2.2.1, r33.1.2.2.2.2.2.2.2.2)).bind fun r65 =>
        some (0, (r33.1.2.1 p1.toNatClampNeg), ((r33.1.1, (upd r33.1.2.1 p1.toNatClampNeg p3), r33.1.2.2.1, r33.1.2.2.2.1, r33.1.2.2.2.2.1, r33.1.2.2.2.2.2.1, r33.1.2.2.2.2.2.2.1, r33.1.2.2.2.2.2.2.2.1, r33.1.2.2.2.2.2.2.2.2), r65, r33.2.2.1, r33.2.2.2.1, r33.2.2.2.2.1, r33.2.2.2.2.2.1, r33.2.2.2.2.2.2.1, r33.2.2.2.2.2.2.2.1, r33.2.2.2.2.2.2.2.2))
      else if r41 = 3 then
        tw_g p1 12 <|
        tw_g p1 12 <|
        (fX0_lay r33.2.1 (r33.1.1, r33.1.2.1, (upd r33.1.2.2.1 p1.toNatClampNeg p3), r33.1.2.2.2.1, r33.1.2.2.2.2.1, r33.1.2.2.2.2.2.1, r33.1.2.2.2.2.2.2.1, r33.1.2.2.2.2.2.2.2.1, r33.1.2.2.2.2.2.2.2.2)).bind fun r65 =>
        some (0, (r33.1.2.2.1 p1.toNatClampNeg), ((r33.1.1, r33.1.2.1, (upd r33.1.2.2.1 p1.toNatClampNeg p3), r33.1.2.2.2.1, r33.1.2.2.2.2.1, r33.1.2.2.2.2.2.1, r33.1.2.2.2.2.2.2.1, r33.1.2.2.2.2.2.2.2.1, r33.1.2.2.2.2.2.2.2.2), r65, r33.2.2.1, r33.2.2.2.1, r33.2.2.2.2.1, r33.2.2.2.2.2.1, r33.2.2.2.2.2.2.1, r33.2.2.2.2.2.2.2.1, r33.2.2.2.2.2.2.2.2))
      else if r41 = 4 then
        tw_g p1 12 <|
        tw_g p1 12 <|
        (fX0_lay r33.2.1 (r33.1.1, r33.1.2.1, r33.1.2.2.1, (upd r33.1.2.2.2.1 p1.toNatClampNeg p3), r33.1.2.2.2.2.1, r33.1.2.2.2.2.2.1, r33.1.2.2.2.2.2.2.1, r33.1.2.2.2.2.2.2.2.1, r33.1.2.2.2.2.2.2.2.2)).bind fun r65 =>
        some (0, (r33.1.2.2.2.1 p1.toNatClampNeg), ((r33.1.1, r33.1.2.1, r33.1.2.2.1, (upd r33.1.2.2.2.1 p1.toNatClampNeg p3), r33.1.2.2.2.2.1, r33.1.2.2.2.2.2.1, r33.1.2.2.2.2.2.2.1, r33.1.2.2.2.2.2.2.2.1, r33.1.2.2.2.2.2.2.2.2), r65, r33.2.2.1, r33.2.2.2.1, r33.2.2.2.2.1, r33.2.2.2.2.2.1, r33.2.2.2.2.2.2.1, r33.2.2.2.2.2.2.2.1, r33.2.2.2.2.2.2.2.2))
      else if r41 = 5 then
        tw_g p1 12 <|
        tw_g p1 12 <|
        (fX0_lay r33.2.1 (r33.1.1, r33.1.2.1, r33.1.2.2.1, r33.1.2.2.2.1, (upd r33.1.2.2.2.2.1 p1.toNatClampNeg p3), r33.1.2.2.2.2.2.1, r33.1.2.2.2.2.2.2.1, r33.1.2.2.2.2.2.2.2.1, r33.1.2.2.2.2.2.2.2.2)).bind fun r65 =>
        some (0, (r33.1.2.2.2.2.1 p1.toNatClampNeg), ((r33.1.1, r33.1.2.1, r33.1.2.2.1, r33.1.2.2.2.1, (upd r33.1.2.2.2.2.1 p1.toNatClampNeg p3), r33.1.2.2.2.2.2.1, r33.1.2.2.2.2.2.2.1, r33.1.2.2.2.2.2.2.2.1, r33.1.2.2.2.2.2.2.2.2), r65, r33.2.2.1, r33.2.2.2.1, r33.2.2.2.2.1, r33.2.2.2.2.2.1, r33.2.2.2.2.2.2.1, r33.2.2.2.2.2.2.2.1, r33.2.2.2.2.2.2.2.2))
      else 
        none
    else
      some (1, 0, Y)
  else
    some (3, 0, Y)
def fX3_slip (Y : tw_Wl) (p1 : Int32) (p2 : Int32) : Option (Nat × Int32 × tw_Wl) :=
  (fX3_isTask Y p1).bind fun r2 =>
  if ¬ r2 = 0 then
    (fX3_isSlip p2).bind fun r17 =>
    if ¬ r17 = 0 then
      (fX3_couldSlip Y p1 p2).bind fun r34 =>
      if ¬ r34 = 0 then
        (fX3_saveState Y).bind fun r57 =>
        tw_g p1 12 <|
        tw_g p1 12 <|
        (fX0_lay r57.2.1 (r57.1.1, r57.1.2.1, r57.1.2.2.1, (upd r57.1.2.2.2.1 p1.toNatClampNeg ((r57.2.1.1 p1.toNatClampNeg) + p2)), r57.1.2.2.2.2.1, r57.1.2.2.2.2.2.1, r57.1.2.2.2.2.2.2.1, r57.1.2.2.2.2.2.2.2.1, r57.1.2.2.2.2.2.2.2.2)).bind fun r88 =>
        some (0, (r88.2.2.2.2 - Y.2.1.2.2.2.2), ((r57.1.1, r57.1.2.1, r57.1.2.2.1, (upd r57.1.2.2.2.1 p1.toNatClampNeg ((r57.2.1.1 p1.toNatClampNeg) + p2)), r57.1.2.2.2.2.1, r57.1.2.2.2.2.2.1, r57.1.2.2.2.2.2.2.1, r57.1.2.2.2.2.2.2.2.1, r57.1.2.2.2.2.2.2.2.2), r88, r57.2.2.1, r57.2.2.2.1, r57.2.2.2.2.1, r57.2.2.2.2.2.1, r57.2.2.2.2.2.2.1, r57.2.2.2.2.2.2.2.1, r57.2.2.2.2.2.2.2.2))
      else
        some (2, 0, Y)
    else
      some (1, 0, Y)
  else
    some (3, 0, Y)
def fX3_borrow (Y : tw_Wl) (p1 : Int32) (p2 : Int32) (p3 : Int32) : Option (Nat × Int32 × tw_Wl) :=
  (fX3_isHall p1).bind fun r1 =>
  if ¬ r1 = 0 then
    (fX3_isDay p2).bind fun r16 =>
    if r16 = 0 then
      some (1, 0, Y)
    else
      (fX3_isDay p3).bind fun r23 =>
      if r23 = 0 then
        some (1, 0, Y)
      else
        if p2 ≤ p3 then
          (fX3_saveState Y).bind fun r43 =>
          tw_g p1 4 <|
          tw_g p1 4 <|
          (fX0_lay r43.2.1 (r43.1.1, r43.1.2.1, r43.1.2.2.1, r43.1.2.2.2.1, r43.1.2.2.2.2.1, (upd r43.1.2.2.2.2.2.1 p1.toNatClampNeg p2), (upd r43.1.2.2.2.2.2.2.1 p1.toNatClampNeg p3), r43.1.2.2.2.2.2.2.2.1, r43.1.2.2.2.2.2.2.2.2)).bind fun r74 =>
          some (0, r74.2.2.2.1, ((r43.1.1, r43.1.2.1, r43.1.2.2.1, r43.1.2.2.2.1, r43.1.2.2.2.2.1, (upd r43.1.2.2.2.2.2.1 p1.toNatClampNeg p2), (upd r43.1.2.2.2.2.2.2.1 p1.toNatClampNeg p3), r43.1.2.2.2.2.2.2.2.1, r43.1.2.2.2.2.2.2.2.2), r74, r43.2.2.1, r43.2.2.2.1, r43.2.2.2.2.1, r43.2.2.2.2.2.1, r43.2.2.2.2.2.2.1, r43.2.2.2.2.2.2.2.1, r43.2.2.2.2.2.2.2.2))
        else
          some (1, 0, Y)
  else
    some (3, 0, Y)
def fX3_rule (Y : tw_Wl) (p1 : Int32) : Option (Nat × Int32 × tw_Wl) :=
  (fX3_isRule p1).bind fun r1 =>
  if ¬ r1 = 0 then
    (fX3_saveState Y).bind fun r24 =>
    (fX0_lay r24.2.1 (r24.1.1, r24.1.2.1, r24.1.2.2.1, r24.1.2.2.2.1, r24.1.2.2.2.2.1, r24.1.2.2.2.2.2.1, r24.1.2.2.2.2.2.2.1, r24.1.2.2.2.2.2.2.2.1, p1)).bind fun r43 =>
    some (0, Y.1.2.2.2.2.2.2.2.2, ((r24.1.1, r24.1.2.1, r24.1.2.2.1, r24.1.2.2.2.1, r24.1.2.2.2.2.1, r24.1.2.2.2.2.2.1, r24.1.2.2.2.2.2.2.1, r24.1.2.2.2.2.2.2.2.1, p1), r43, r24.2.2.1, r24.2.2.2.1, r24.2.2.2.2.1, r24.2.2.2.2.2.1, r24.2.2.2.2.2.2.1, r24.2.2.2.2.2.2.2.1, r24.2.2.2.2.2.2.2.2))
  else
    some (1, 0, Y)
def fX3_undo (Y : tw_Wl)  : Option (Nat × Int32 × tw_Wl) :=
  if 0 < Y.2.2.2.2.2.2.1 then
    tw_g (Y.2.2.2.2.2.2.1 - (1 : Int32)) 6 <|
    tw_q ((Y.2.2.2.2.2.2.2.2 (Y.2.2.2.2.2.2.1 - (1 : Int32)).toNatClampNeg) < 6) <|
    (fX1_copyFrom Y.1 (Y.2.2.2.2.2.2.2.1 (Y.2.2.2.2.2.2.2.2 (Y.2.2.2.2.2.2.1 - (1 : Int32)).toNatClampNeg))).bind fun r38 =>
    (fX0_lay Y.2.1 r38).bind fun r49 =>
    some (0, (Y.2.2.2.2.2.2.1 - (1 : Int32)), (r38, r49, Y.2.2.1, Y.2.2.2.1, Y.2.2.2.2.1, Y.2.2.2.2.2.1, (Y.2.2.2.2.2.2.1 - (1 : Int32)), Y.2.2.2.2.2.2.2.1, Y.2.2.2.2.2.2.2.2))
  else
    some (2, 0, Y)
def fX3_task (Y : tw_Wl) (p1 : Int32) (p2 : Int32) : Option (Nat × Int32 × tw_Wl) :=
  (fX3_isTask Y p1).bind fun r2 =>
  if ¬ r2 = 0 then
    if p2 < 0 then
      some (1, 0, Y)
    else
      if p2 < (9 : Int32) then
        if p2 = 5 then
          (fX1_followers Y.1 p1).bind fun r69 =>
          some (0, r69, Y)
        else if p2 = 6 then
          tw_g p1 12 <|
          some (0, (Y.2.1.1 p1.toNatClampNeg), Y)
        else if p2 = 7 then
          (fX3_slackOf Y p1).bind fun r85 =>
          some (0, r85.1, r85.2)
        else if p2 = 8 then
          (fX0_waitOf Y.2.1 Y.1 p1).bind fun r98 =>
          some (0, r98, Y)
        else 
          (fX1_property Y.1 p2).bind fun r107 =>
          if r107 = 1 then
            tw_g p1 12 <|
            some (0, (Y.1.1 p1.toNatClampNeg), Y)
          else if r107 = 2 then
            tw_g p1 12 <|
            some (0, (Y.1.2.1 p1.toNatClampNeg), Y)
          else if r107 = 3 then
            tw_g p1 12 <|
            some (0, (Y.1.2.2.1 p1.toNatClampNeg), Y)
          else if r107 = 4 then
            tw_g p1 12 <|
            some (0, (Y.1.2.2.2.1 p1.toNatClampNeg), Y)
          else if r107 = 5 then
            tw_g p1 12 <|
            some (0, (Y.1.2.2.2.2.1 p1.toNatClampNeg), Y)
          else 
            none
      else
        some (1, 0, Y)
  else
    some (3, 0, Y)
def fX3_personOn (Y : tw_Wl) (p1 : Int32) (p2 : Int32) : Option (Nat × Int32) :=
  (fX3_isPerson p1).bind fun r1 =>
  if r1 = 0 then
    some (3, 0)
  else
    (fX3_isDay p2).bind fun r8 =>
    if ¬ r8 = 0 then
      (fX0_taskOnP Y.2.1 Y.1 p1 p2).bind fun r39 =>
      some (0, r39)
    else
      some (3, 0)
def fX3_hallOn (Y : tw_Wl) (p1 : Int32) (p2 : Int32) : Option (Nat × Int32) :=
  (fX3_isHall p1).bind fun r1 =>
  if r1 = 0 then
    some (3, 0)
  else
    (fX3_isDay p2).bind fun r8 =>
    if ¬ r8 = 0 then
      (fX0_taskOnH Y.2.1 Y.1 p1 p2).bind fun r39 =>
      some (0, r39)
    else
      some (3, 0)
def fX3_hall (Y : tw_Wl) (p1 : Int32) (p2 : Int32) : Option (Nat × Int32) :=
  (fX3_isHall p1).bind fun r1 =>
  if ¬ r1 = 0 then
    if p2 < 0 then
      some (1, 0)
    else
      if p2 < (4 : Int32) then
        if p2 = 0 then
          tw_g p1 4 <|
          some (0, (Y.1.2.2.2.2.2.1 p1.toNatClampNeg))
        else if p2 = 1 then
          tw_g p1 4 <|
          some (0, (Y.1.2.2.2.2.2.2.1 p1.toNatClampNeg))
        else if p2 = 2 then
          (fX0_daysIn Y.2.1 Y.1 p1).bind fun r89 =>
          some (0, r89)
        else 
          (fX0_tasksIn Y.2.1 Y.1 p1).bind fun r102 =>
          some (0, r102)
      else
        some (1, 0)
  else
    some (3, 0)
def fX3_count (Y : tw_Wl) (p1 : Int32) : Option (Nat × Int32 × tw_Wl) :=
  if p1 < 0 then
    some (1, 0, Y)
  else
    if p1 < (9 : Int32) then
      if p1 = 0 then
        some (0, Y.1.2.2.2.2.2.2.2.1, Y)
      else if p1 = 1 then
        some (0, Y.2.1.2.2.2.1, Y)
      else if p1 = 2 then
        some (0, (Y.1.2.2.2.2.2.2.2.1 - Y.2.1.2.2.2.1), Y)
      else if p1 = 3 then
        some (0, Y.2.1.2.2.2.2, Y)
      else if p1 = 4 then
        (fX1_lengthOfAll Y.1).bind fun r108 =>
        some (0, r108, Y)
      else if p1 = 5 then
        (fX3_criticalTasks Y).bind fun r113 =>
        some (0, r113.1, r113.2)
      else if p1 = 6 then
        (fX0_waitOfAll Y.2.1 Y.1).bind fun r125 =>
        some (0, r125, Y)
      else if p1 = 7 then
        (fX3_longestRow Y).bind fun r130 =>
        some (0, r130.1, r130.2)
      else 
        some (0, Y.2.2.2.2.2.2.1, Y)
    else
      some (1, 0, Y)
def fX3_setting (Y : tw_Wl)  : Option (Int32) :=
  some Y.1.2.2.2.2.2.2.2.2
def fX3_ifRule (Y : tw_Wl) (p1 : Int32) (p2 : Int32) : Option (Nat × Int32 × tw_Wl) :=
  (fX3_isRule p1).bind fun r1 =>
  if r1 = 0 then
    some (1, 0, Y)
  else
    if p2 < 0 then
      some (1, 0, Y)
    else
      if p2 < (3 : Int32) then
        (fX3_tryRule Y p1).bind fun r26 =>
        if p2 = 0 then
          some (0, r26.2.2.2.1.2.2.2.2, r26)
        else if p2 = 1 then
          some (0, r26.2.2.2.1.2.2.2.1, r26)
        else 
          (fX0_waitOfAll r26.2.2.2.1 r26.2.2.1).bind fun r80 =>
          some (0, r80, r26)
      else
        some (1, 0, Y)
def fX3_worstSlip_22 (p1 : Int32)  : Nat → Int32 → Int32 → Int32 → tw_Wl → Option (Nat × Int32 × tw_Wl)
  | 0, _, _, _, _ => none
  | n + 1, v2, v3, v4, Y =>
    if Y.1.2.2.2.2.2.2.2.1 ≤ v4 then
      some (0, v2, Y)
    else
      (fX3_couldSlip Y v4 p1).bind fun r38 =>
      if r38 = 0 then
        fX3_worstSlip_22 p1 n v2 v3 (v4 + 1) Y
      else
        (fX1_copyFrom Y.2.2.1 Y.1).bind fun r52 =>
        tw_g v4 12 <|
        tw_g v4 12 <|
        (fX0_lay Y.2.2.2.1 (r52.1, r52.2.1, r52.2.2.1, (upd r52.2.2.2.1 v4.toNatClampNeg ((Y.2.1.1 v4.toNatClampNeg) + p1)), r52.2.2.2.2.1, r52.2.2.2.2.2.1, r52.2.2.2.2.2.2.1, r52.2.2.2.2.2.2.2.1, r52.2.2.2.2.2.2.2.2)).bind fun r85 =>
        if r85.2.2.2.2 ≤ v3 then
          fX3_worstSlip_22 p1 n v2 v3 (v4 + 1) (Y.1, Y.2.1, (r52.1, r52.2.1, r52.2.2.1, (upd r52.2.2.2.1 v4.toNatClampNeg ((Y.2.1.1 v4.toNatClampNeg) + p1)), r52.2.2.2.2.1, r52.2.2.2.2.2.1, r52.2.2.2.2.2.2.1, r52.2.2.2.2.2.2.2.1, r52.2.2.2.2.2.2.2.2), r85, Y.2.2.2.2.1, Y.2.2.2.2.2.1, Y.2.2.2.2.2.2.1, Y.2.2.2.2.2.2.2.1, Y.2.2.2.2.2.2.2.2)
        else
          fX3_worstSlip_22 p1 n v4 r85.2.2.2.2 (v4 + 1) (Y.1, Y.2.1, (r52.1, r52.2.1, r52.2.2.1, (upd r52.2.2.2.1 v4.toNatClampNeg ((Y.2.1.1 v4.toNatClampNeg) + p1)), r52.2.2.2.2.1, r52.2.2.2.2.2.1, r52.2.2.2.2.2.2.1, r52.2.2.2.2.2.2.2.1, r52.2.2.2.2.2.2.2.2), r85, Y.2.2.2.2.1, Y.2.2.2.2.2.1, Y.2.2.2.2.2.2.1, Y.2.2.2.2.2.2.2.1, Y.2.2.2.2.2.2.2.2)
def fX3_worstSlip (Y : tw_Wl) (p1 : Int32) : Option (Nat × Int32 × tw_Wl) :=
  (fX3_isSlip p1).bind fun r1 =>
  if ¬ r1 = 0 then
    fX3_worstSlip_22 p1 512 (-1 : Int32) (-1 : Int32) (0 : Int32) Y
  else
    some (1, 0, Y)
def fX3_busyness (Y : tw_Wl)  : Option (UInt64) :=
  if 0 < Y.2.1.2.2.2.2 then
    (fX0_lengthOfLaid Y.2.1 Y.1).bind fun r22 =>
    tw_q ((FP.ddiv (FP.i2d r22) (FP.i2d Y.2.1.2.2.2.2)) &&& 0x7fffffffffffffff ≤ 0x7ff0000000000000) <|
    some (FP.ddiv (FP.i2d r22) (FP.i2d Y.2.1.2.2.2.2))
  else
    some FP.dconst0
